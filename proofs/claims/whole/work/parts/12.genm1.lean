def mX12_in : MD := (yX12_in, cX12_in, 6, (some .boolean), 0, 0, 0, 0)
theorem ccX12_in : Cc mX12_in 3 := ⟨gd (hcw1_0 _ (List.mem_of_getElem? (i := 10) rfl)) rfl, gd (hcw6_11 _ (List.mem_of_getElem? (i := 4) rfl)) rfl, by decide +kernel, by decide +kernel, by decide +kernel⟩
theorem stX12_in : Cond.static (yN mX12_in) ∈ lw_gd := gd (hcw6_11 _ (List.mem_of_getElem? (i := 3) rfl)) rfl
def fX12_in (y0 : Int64) (y1 : Int64) (y2 : Int64) : Int32 := (if (lg_cmp y0 y1) < 0 then (0 : Int32) else (if 0 < (lg_cmp y0 y2) then (0 : Int32) else (1 : Int32)))
def gX12_in (y0 : Int64) (y1 : Int64) (y2 : Int64) : Option (Int32) := (if (lg_cmp y0 y1) < 0 then some (0 : Int32) else (if 0 < (lg_cmp y0 y2) then some (0 : Int32) else some (1 : Int32)))
theorem eX12_in (y0 : Int64) (y1 : Int64) (y2 : Int64) : gX12_in y0 y1 y2 = some (fX12_in y0 y1 y2) := by
  unfold gX12_in fX12_in
  try simp only [pu]
  (repeat' split) <;> rfl
theorem bX12_in (y0 : Int64) (y1 : Int64) (y2 : Int64) : zb (fX12_in y0 y1 y2) := by
  unfold fX12_in
  try simp only [pu]
  (repeat' split) <;> first | exact Or.inl rfl | exact Or.inr rfl
set_option maxRecDepth 20000 in
theorem kX12_in (l : Launch) (Z : Shp) (M : Mem) (y0 : Int64) (y1 : Int64) (y2 : Int64) : Ct l mX12_in [vj y0, vj y1, vj y2] Z M ((some (vi (fX12_in y0 y1 y2))), Z, M) := by
  refine Ct.of rfl (Nat.le_of_ble_eq_true rfl) (fun X hM => ?_)
  have hX := hM.1
  refine r_top (mk := fun r => ((some (vi r)), Z, M)) (eX12_in y0 y1 y2) (fun K hK => ?_)
  unfold gX12_in
  refine r_lload_n (i := 0) (x := y0) (q := 1) 0 hX dX12_in_0 rfl rfl rfl ?_
  refine r_lload_n (i := 2) (x := y1) (q := 2) 1 hX dX12_in_1 rfl rfl rfl ?_
  refine r_lcmp (q := 3) hX dX12_in_2 rfl ?_
  refine r_if_lt (tgt := 17) (q := 6) hX dX12_in_3 (by decide) rfl (fun hb1 => ?_) (fun hb1 => ?_)
  · refine r_iconst (v := (0 : Int32)) (q := 18) hX dX12_in_17 rfl rfl ?_
    refine r_lf (hK _) ?_
    exact r_zret hM rfl (Or.inl rfl) (Nat.le_of_ble_eq_true rfl) (Nat.le_of_ble_eq_true rfl) dX12_in_18
  · refine r_lload_n (i := 0) (x := y0) (q := 7) 0 hX dX12_in_6 rfl rfl rfl ?_
    refine r_lload (i := 4) (x := y2) (q := 9) 2 hX dX12_in_7 rfl rfl ?_
    refine r_lcmp (q := 10) hX dX12_in_9 rfl ?_
    refine r_if_gt (tgt := 17) (q := 13) hX dX12_in_10 (by decide) rfl (fun hb2 => ?_) (fun hb2 => ?_)
    · refine r_iconst (v := (0 : Int32)) (q := 18) hX dX12_in_17 rfl rfl ?_
      refine r_lf (hK _) ?_
      exact r_zret hM rfl (Or.inl rfl) (Nat.le_of_ble_eq_true rfl) (Nat.le_of_ble_eq_true rfl) dX12_in_18
    · refine r_iconst (v := (1 : Int32)) (q := 14) hX dX12_in_13 rfl rfl ?_
      refine r_goto (q := 18) hX dX12_in_14 (by decide) ?_
      refine r_lf (hK _) ?_
      exact r_zret hM rfl (Or.inr rfl) (Nat.le_of_ble_eq_true rfl) (Nat.le_of_ble_eq_true rfl) dX12_in_18
theorem flX12_230 : FL RX12 230 12 15 := ⟨Nat.le_of_ble_eq_true rfl, Nat.le_of_ble_eq_true rfl, gd (hcw5_10 _ (List.mem_of_getElem? (i := 10) rfl)) rfl⟩
theorem lkX12_194 : Lk RX12 194 yX12_in := gd (hcw6_11 _ (List.mem_of_getElem? (i := 2) rfl)) rfl
def mX12_isTaker : MD := (yX12_isTaker, cX12_isTaker, 2, (some .boolean), 1, 25, 0, 0)
theorem ccX12_isTaker : Cc mX12_isTaker 1 := ⟨gd (hcw1_0 _ (List.mem_of_getElem? (i := 10) rfl)) rfl, gd (hcw7_0 _ (List.mem_of_getElem? (i := 19) rfl)) rfl, by decide +kernel, by decide +kernel, by decide +kernel⟩
theorem ivX12_isTaker : Iv mX12_isTaker 12 := ⟨Nat.le_of_ble_eq_true rfl, rfl, gd (hcw7_0 _ (List.mem_of_getElem? (i := 18) rfl)) rfl, gd (hps3 _ (List.mem_of_getElem? (i := 3) rfl)) rfl⟩
def fX12_isTaker (Z : Shp) (M : Mem) (a0 : Nat) (x1 : Int32) : Option (Int32) := (if tg Z a0 = (13, 86) then some (fX12_in (x1.toInt64) (0 : Int64) (((rI M a0 15) - (1 : Int32)).toInt64)) else none)
set_option maxRecDepth 20000 in
theorem kX12_isTaker (l : Launch) (Z : Shp) (M : Mem) (a0 : Nat) (x1 : Int32) (r : Int32) (h : fX12_isTaker Z M a0 x1 = some r) : Ct l mX12_isTaker [vr a0, vi x1] Z M ((some (vi r)), Z, M) := by
  refine Ct.of rfl (Nat.le_of_ble_eq_true rfl) (fun X hM => ?_)
  have hX := hM.1
  refine r_top (mk := fun r => ((some (vi r)), Z, M)) h (fun K hK => ?_)
  unfold fX12_isTaker
  refine r_iload_n (i := 1) (x := x1) (q := 1) 1 hX dX12_isTaker_0 rfl rfl rfl ?_
  refine r_i2l (q := 2) hX dX12_isTaker_1 rfl ?_
  refine r_lconst (v := (0 : Int64)) (q := 3) hX dX12_isTaker_2 rfl rfl ?_
  refine r_aload_n (i := 0) (x := a0) (q := 4) 0 hX dX12_isTaker_3 rfl rfl rfl ?_
  refine r_ck (fun hc1 => ?_)
  refine r_getI (a := a0) (ci := 12) (kf := 15) (q := 7) hX hc1 flX12_230 rfl rfl dX12_isTaker_4 rfl ?_
  refine r_iconst (v := (1 : Int32)) (q := 8) hX dX12_isTaker_7 rfl rfl ?_
  refine r_isub (q := 9) hX dX12_isTaker_8 rfl ?_
  refine r_i2l (q := 10) hX dX12_isTaker_9 rfl ?_
  refine r_cs (As := [vj (x1.toInt64), vj (0 : Int64), vj (((rI M a0 15) - (1 : Int32)).toInt64)]) (st := []) (r := (some (vi (fX12_in (x1.toInt64) (0 : Int64) (((rI M a0 15) - (1 : Int32)).toInt64))))) (Z1 := Z) (M1 := M) (k1 := 0) (n1 := 0) (st1 := [vi (fX12_in (x1.toInt64) (0 : Int64) (((rI M a0 15) - (1 : Int32)).toInt64))]) (q := 13) hX (fun l => kX12_in l Z M (x1.toInt64) (0 : Int64) (((rI M a0 15) - (1 : Int32)).toInt64)) stX12_in ccX12_in (Or.inl lkX12_194) rfl rfl rfl ⟨Nat.le_of_ble_eq_true rfl, Nat.le_of_ble_eq_true rfl, rfl, rfl, Nat.le_of_ble_eq_true rfl, Nat.le_of_ble_eq_true rfl⟩ (Nat.le_of_ble_eq_true rfl) dX12_isTaker_10 rfl ?_
  refine r_lf (hK _) ?_
  exact r_zret hM rfl (bX12_in (x1.toInt64) (0 : Int64) (((rI M a0 15) - (1 : Int32)).toInt64)) (Nat.le_of_ble_eq_true rfl) (Nat.le_of_ble_eq_true rfl) dX12_isTaker_13
theorem flX12_47 : FL RX12 47 12 18 := ⟨Nat.le_of_ble_eq_true rfl, Nat.le_of_ble_eq_true rfl, gd (hcw5_10 _ (List.mem_of_getElem? (i := 13) rfl)) rfl⟩
theorem flX12_41 : FL RX12 41 12 16 := ⟨Nat.le_of_ble_eq_true rfl, Nat.le_of_ble_eq_true rfl, gd (hcw5_10 _ (List.mem_of_getElem? (i := 11) rfl)) rfl⟩
theorem flX12_7 : FL RX12 7 12 0 := ⟨Nat.le_of_ble_eq_true rfl, Nat.le_of_ble_eq_true rfl, gd (hcw5_9 _ (List.mem_of_getElem? (i := 15) rfl)) rfl⟩
theorem flX12_44 : FL RX12 44 12 17 := ⟨Nat.le_of_ble_eq_true rfl, Nat.le_of_ble_eq_true rfl, gd (hcw5_10 _ (List.mem_of_getElem? (i := 12) rfl)) rfl⟩
theorem flX12_13 : FL RX12 13 12 1 := ⟨Nat.le_of_ble_eq_true rfl, Nat.le_of_ble_eq_true rfl, gd (hcw5_9 _ (List.mem_of_getElem? (i := 16) rfl)) rfl⟩
def mX12_takes : MD := (yX12_takes, cX12_takes, 4, (some .int), 1, 25, 0, 0)
theorem ccX12_takes : Cc mX12_takes 2 := ⟨gd (hcw1_0 _ (List.mem_of_getElem? (i := 10) rfl)) rfl, gd (hcw7_1 _ (List.mem_of_getElem? (i := 8) rfl)) rfl, by decide +kernel, by decide +kernel, by decide +kernel⟩
theorem ivX12_takes : Iv mX12_takes 12 := ⟨Nat.le_of_ble_eq_true rfl, rfl, gd (hcw7_1 _ (List.mem_of_getElem? (i := 7) rfl)) rfl, gd (hps3 _ (List.mem_of_getElem? (i := 4) rfl)) rfl⟩
def fX12_takes (Z : Shp) (M : Mem) (a0 : Nat) (x1 : Int32) (x2 : Int32) : Option (Int32) := (if tg Z a0 = (13, 86) then (if aok Z (rR M a0 18) 100 x1 then (pu ((rI M (rR M a0 18) (ix x1))) (fun z3 => (if aok Z (rR M a0 16) 100 x1 then (if (rI M (rR M a0 16) (ix x1)) = (0 : Int32) then some z3 else (if (rI M (rR M a0 16) (ix x1)) = (1 : Int32) then (if (fX12_in ((x2 - x2 / (24 : Int32) * (24 : Int32)).toInt64) (6 : Int64) (17 : Int64)) = 0 then some (0 : Int32) else some z3) else (if (rI M (rR M a0 16) (ix x1)) = (2 : Int32) then (if aok Z (rR M a0 17) 100 x1 then (if aok Z (rR M a0 0) 100 (rI M (rR M a0 17) (ix x1)) then (if aok Z (rR M a0 1) 100 (rI M (rR M a0 17) (ix x1)) then (if ¬ (rI M (rR M a0 1) (ix (rI M (rR M a0 17) (ix x1)))) = 0 then some ((z3 * (rI M (rR M a0 0) (ix (rI M (rR M a0 17) (ix x1))))) / (rI M (rR M a0 1) (ix (rI M (rR M a0 17) (ix x1))))) else none) else none) else none) else none) else (if (rI M (rR M a0 16) (ix x1)) = (3 : Int32) then some (-z3) else some ((-2 : Int32) * z3))))) else none))) else none) else none)
set_option maxRecDepth 20000 in
theorem kX12_takes (l : Launch) (Z : Shp) (M : Mem) (a0 : Nat) (x1 : Int32) (x2 : Int32) (r : Int32) (h : fX12_takes Z M a0 x1 x2 = some r) : Ct l mX12_takes [vr a0, vi x1, vi x2] Z M ((some (vi r)), Z, M) := by
  refine Ct.of rfl (Nat.le_of_ble_eq_true rfl) (fun X hM => ?_)
  have hX := hM.1
  refine r_top (mk := fun r => ((some (vi r)), Z, M)) h (fun K hK => ?_)
  unfold fX12_takes
  refine r_aload_n (i := 0) (x := a0) (q := 1) 0 hX dX12_takes_0 rfl rfl rfl ?_
  refine r_ck (fun hc1 => ?_)
  refine r_getR (a := a0) (ci := 12) (kf := 18) (q := 4) hX hc1 flX12_47 rfl dX12_takes_1 rfl ?_
  refine r_iload_n (i := 1) (x := x1) (q := 5) 1 hX dX12_takes_4 rfl rfl rfl ?_
  refine r_ck (fun hc2 => ?_)
  refine r_iald (a := (rR M a0 18)) (i := x1) (q := 6) hX hc2 dX12_takes_5 rfl ?_
  refine r_istore_nP (x := (rI M (rR M a0 18) (ix x1))) (q := 7) 3 [1, 2, 3, 0] (fun z3 => [(0, vr a0), (1, vi x1), (2, vi x2), (3, vi z3)]) hX dX12_takes_6 rfl (Nat.le_of_ble_eq_true rfl) (fun _ => rfl) rfl (fun z3 => ?_)
  refine r_aload_n (i := 0) (x := a0) (q := 8) 0 hX dX12_takes_7 rfl rfl rfl ?_
  refine r_getR (a := a0) (ci := 12) (kf := 16) (q := 11) hX hc1 flX12_41 rfl dX12_takes_8 rfl ?_
  refine r_iload_n (i := 1) (x := x1) (q := 12) 1 hX dX12_takes_11 rfl rfl rfl ?_
  refine r_ck (fun hc4 => ?_)
  refine r_iald (a := (rR M a0 16)) (i := x1) (q := 13) hX hc4 dX12_takes_12 rfl ?_
  refine r_ite (fun hb5 => ?_) (fun hb5 => ?_)
  · refine r_tswI (off := 31) (q := 44) hX hb5 dX12_takes_13 (by decide) (by decide) ?_
    refine r_iload_n (i := 3) (x := z3) (q := 45) 3 hX dX12_takes_44 rfl rfl rfl ?_
    refine r_lf (hK _) ?_
    exact r_iret hM rfl (Nat.le_of_ble_eq_true rfl) (Nat.le_of_ble_eq_true rfl) dX12_takes_45
  · refine r_ite (fun hb6 => ?_) (fun hb6 => ?_)
    · refine r_tswI (off := 33) (q := 46) hX hb6 dX12_takes_13 (by decide) (by decide) ?_
      refine r_iload_n (i := 2) (x := x2) (q := 47) 2 hX dX12_takes_46 rfl rfl rfl ?_
      refine r_bipush (v := (24 : Int32)) (q := 49) hX dX12_takes_47 rfl rfl ?_
      refine r_irem (q := 50) hX dX12_takes_49 (by decide) rfl ?_
      refine r_i2l (q := 51) hX dX12_takes_50 rfl ?_
      refine r_ldc2 (v := (6 : Int64)) (q := 54) hX dX12_takes_51 (gd (hcw6_11 _ (List.mem_of_getElem? (i := 15) rfl)) rfl) rfl ?_
      refine r_ldc2 (v := (17 : Int64)) (q := 57) hX dX12_takes_54 (gd (hcw7_1 _ (List.mem_of_getElem? (i := 9) rfl)) rfl) rfl ?_
      refine r_cs (As := [vj ((x2 - x2 / (24 : Int32) * (24 : Int32)).toInt64), vj (6 : Int64), vj (17 : Int64)]) (st := []) (r := (some (vi (fX12_in ((x2 - x2 / (24 : Int32) * (24 : Int32)).toInt64) (6 : Int64) (17 : Int64))))) (Z1 := Z) (M1 := M) (k1 := 0) (n1 := 0) (st1 := [vi (fX12_in ((x2 - x2 / (24 : Int32) * (24 : Int32)).toInt64) (6 : Int64) (17 : Int64))]) (q := 60) hX (fun l => kX12_in l Z M ((x2 - x2 / (24 : Int32) * (24 : Int32)).toInt64) (6 : Int64) (17 : Int64)) stX12_in ccX12_in (Or.inl lkX12_194) rfl rfl rfl ⟨Nat.le_of_ble_eq_true rfl, Nat.le_of_ble_eq_true rfl, rfl, rfl, Nat.le_of_ble_eq_true rfl, Nat.le_of_ble_eq_true rfl⟩ (Nat.le_of_ble_eq_true rfl) dX12_takes_57 rfl ?_
      refine r_if_eq (tgt := 67) (q := 63) hX dX12_takes_60 (by decide) rfl (fun hb7 => ?_) (fun hb7 => ?_)
      · refine r_iconst (v := (0 : Int32)) (q := 68) hX dX12_takes_67 rfl rfl ?_
        refine r_lf (hK _) ?_
        exact r_iret hM rfl (Nat.le_of_ble_eq_true rfl) (Nat.le_of_ble_eq_true rfl) dX12_takes_68
      · refine r_iload_n (i := 3) (x := z3) (q := 64) 3 hX dX12_takes_63 rfl rfl rfl ?_
        refine r_goto (q := 68) hX dX12_takes_64 (by decide) ?_
        refine r_lf (hK _) ?_
        exact r_iret hM rfl (Nat.le_of_ble_eq_true rfl) (Nat.le_of_ble_eq_true rfl) dX12_takes_68
    · refine r_ite (fun hb8 => ?_) (fun hb8 => ?_)
      · refine r_tswI (off := 56) (q := 69) hX hb8 dX12_takes_13 (by decide) (by decide) ?_
        refine r_iload_n (i := 3) (x := z3) (q := 70) 3 hX dX12_takes_69 rfl rfl rfl ?_
        refine r_aload_n (i := 0) (x := a0) (q := 71) 0 hX dX12_takes_70 rfl rfl rfl ?_
        refine r_getR (a := a0) (ci := 12) (kf := 0) (q := 74) hX hc1 flX12_7 rfl dX12_takes_71 rfl ?_
        refine r_aload_n (i := 0) (x := a0) (q := 75) 0 hX dX12_takes_74 rfl rfl rfl ?_
        refine r_getR (a := a0) (ci := 12) (kf := 17) (q := 78) hX hc1 flX12_44 rfl dX12_takes_75 rfl ?_
        refine r_iload_n (i := 1) (x := x1) (q := 79) 1 hX dX12_takes_78 rfl rfl rfl ?_
        refine r_ck (fun hc9 => ?_)
        refine r_iald (a := (rR M a0 17)) (i := x1) (q := 80) hX hc9 dX12_takes_79 rfl ?_
        refine r_ck (fun hc10 => ?_)
        refine r_iald (a := (rR M a0 0)) (i := (rI M (rR M a0 17) (ix x1))) (q := 81) hX hc10 dX12_takes_80 rfl ?_
        refine r_imul (q := 82) hX dX12_takes_81 rfl ?_
        refine r_aload_n (i := 0) (x := a0) (q := 83) 0 hX dX12_takes_82 rfl rfl rfl ?_
        refine r_getR (a := a0) (ci := 12) (kf := 1) (q := 86) hX hc1 flX12_13 rfl dX12_takes_83 rfl ?_
        refine r_aload_n (i := 0) (x := a0) (q := 87) 0 hX dX12_takes_86 rfl rfl rfl ?_
        refine r_getR (a := a0) (ci := 12) (kf := 17) (q := 90) hX hc1 flX12_44 rfl dX12_takes_87 rfl ?_
        refine r_iload_n (i := 1) (x := x1) (q := 91) 1 hX dX12_takes_90 rfl rfl rfl ?_
        refine r_iald (a := (rR M a0 17)) (i := x1) (q := 92) hX hc9 dX12_takes_91 rfl ?_
        refine r_ck (fun hc11 => ?_)
        refine r_iald (a := (rR M a0 1)) (i := (rI M (rR M a0 17) (ix x1))) (q := 93) hX hc11 dX12_takes_92 rfl ?_
        refine r_ck (fun hd12 => ?_)
        refine r_idiv (q := 94) hX dX12_takes_93 hd12 rfl ?_
        refine r_lf (hK _) ?_
        exact r_iret hM rfl (Nat.le_of_ble_eq_true rfl) (Nat.le_of_ble_eq_true rfl) dX12_takes_94
      · refine r_ite (fun hb13 => ?_) (fun hb13 => ?_)
        · refine r_tswI (off := 82) (q := 95) hX hb13 dX12_takes_13 (by decide) (by decide) ?_
          refine r_iload_n (i := 3) (x := z3) (q := 96) 3 hX dX12_takes_95 rfl rfl rfl ?_
          refine r_ineg (q := 97) hX dX12_takes_96 rfl ?_
          refine r_lf (hK _) ?_
          exact r_iret hM rfl (Nat.le_of_ble_eq_true rfl) (Nat.le_of_ble_eq_true rfl) dX12_takes_97
        · refine r_tswO (cs := [(0 : Int32), (1 : Int32), (2 : Int32), (3 : Int32)]) (q := 98) hX ⟨hb5, ⟨hb6, ⟨hb8, ⟨hb13, trivial⟩⟩⟩⟩ dX12_takes_13 (by decide) (by decide) ?_
          refine r_bipush (v := (-2 : Int32)) (q := 100) hX dX12_takes_98 rfl rfl ?_
          refine r_iload_n (i := 3) (x := z3) (q := 101) 3 hX dX12_takes_100 rfl rfl rfl ?_
          refine r_imul (q := 102) hX dX12_takes_101 rfl ?_
          refine r_lf (hK _) ?_
          exact r_iret hM rfl (Nat.le_of_ble_eq_true rfl) (Nat.le_of_ble_eq_true rfl) dX12_takes_102
theorem lkX12_233 : Lk RX12 233 yX12_isTaker := gd (hcw7_0 _ (List.mem_of_getElem? (i := 16) rfl)) rfl
theorem lkX12_240 : Lk RX12 240 yX12_takes := gd (hcw7_1 _ (List.mem_of_getElem? (i := 5) rfl)) rfl
theorem flX12_53 : FL RX12 53 12 20 := ⟨Nat.le_of_ble_eq_true rfl, Nat.le_of_ble_eq_true rfl, gd (hcw5_10 _ (List.mem_of_getElem? (i := 15) rfl)) rfl⟩
def mX12_acts : MD := (yX12_acts, cX12_acts, 6, (some .int), 2, 48, 0, 0)
theorem ccX12_acts : Cc mX12_acts 3 := ⟨gd (hcw1_0 _ (List.mem_of_getElem? (i := 10) rfl)) rfl, gd (hcw7_1 _ (List.mem_of_getElem? (i := 3) rfl)) rfl, by decide +kernel, by decide +kernel, by decide +kernel⟩
theorem ivX12_acts : Iv mX12_acts 12 := ⟨Nat.le_of_ble_eq_true rfl, rfl, gd (hcw7_1 _ (List.mem_of_getElem? (i := 1) rfl)) rfl, gd (hcw7_1 _ (List.mem_of_getElem? (i := 2) rfl)) rfl⟩
noncomputable def fX12_acts (Z : Shp) (M : Mem) (a0 : Nat) (x1 : Int32) (x2 : Int32) (x3 : Int32) : Option (Int32) := (if tg Z a0 = (13, 86) then (Option.bind (fX12_isTaker Z M a0 x1) (fun v2 => (if v2 = 0 then some (-1001 : Int32) else (if (fX12_in (x2.toInt64) (0 : Int64) (2 : Int64)) = 0 then some (-1002 : Int32) else (if (fX12_in (x3.toInt64) (0 : Int64) (599 : Int64)) = 0 then some (-1002 : Int32) else (if aok Z (rR M a0 16) 100 x1 then (pu ((rI M (rR M a0 16) (ix x1))) (fun z8 => (Option.bind (if z8 = (1 : Int32) then some (3 : Int32) else (if z8 = (3 : Int32) then some (1 : Int32) else (if z8 = (4 : Int32) then (if aok Z (rR M a0 18) 100 x1 then some ((1 : Int32) + ((rI M (rR M a0 18) (ix x1)) / (10 : Int32))) else none) else some (0 : Int32)))) (fun v12 : Int32 => (if x2 = 0 then (Option.bind (fX12_takes Z M a0 x1 x3) (fun v17 => some v17)) else (if x2 = (1 : Int32) then some v12 else (if aok Z (rR M a0 20) 100 x1 then some (rI M (rR M a0 20) (ix x1)) else none))))))) else none)))))) else none)
set_option maxRecDepth 20000 in
theorem kX12_acts (l : Launch) (Z : Shp) (M : Mem) (a0 : Nat) (x1 : Int32) (x2 : Int32) (x3 : Int32) (r : Int32) (h : fX12_acts Z M a0 x1 x2 x3 = some r) : Ct l mX12_acts [vr a0, vi x1, vi x2, vi x3] Z M ((some (vi r)), Z, M) := by
  refine Ct.of rfl (Nat.le_of_ble_eq_true rfl) (fun X hM => ?_)
  have hX := hM.1
  refine r_top (mk := fun r => ((some (vi r)), Z, M)) h (fun K hK => ?_)
  unfold fX12_acts
  refine r_aload_n (i := 0) (x := a0) (q := 1) 0 hX dX12_acts_0 rfl rfl rfl ?_
  refine r_iload_n (i := 1) (x := x1) (q := 2) 1 hX dX12_acts_1 rfl rfl rfl ?_
  refine r_ck (fun hc1 => ?_)
  refine r_bind (fun v2 h3 => ?_)
  refine r_cv (a := a0) (As := [vi x1]) (st := []) (r := (some (vi v2))) (Z1 := Z) (M1 := M) (k1 := 0) (n1 := 0) (st1 := [vi v2]) (q := 5) hX (fun l => kX12_isTaker l Z M a0 x1 v2 h3) hc1 ivX12_isTaker ccX12_isTaker (Or.inl lkX12_233) rfl rfl rfl ⟨Nat.le_of_ble_eq_true rfl, Nat.le_of_ble_eq_true rfl, rfl, rfl, Nat.le_of_ble_eq_true rfl, Nat.le_of_ble_eq_true rfl⟩ (Nat.le_of_ble_eq_true rfl) dX12_acts_2 rfl ?_
  refine r_if_ne (tgt := 12) (q := 8) hX dX12_acts_5 (by decide) rfl (fun hb4 => ?_) (fun hb4 => ?_)
  · refine r_sipush (v := (-1001 : Int32)) (q := 11) hX dX12_acts_8 rfl rfl ?_
    refine r_lf (hK _) ?_
    exact r_iret hM rfl (Nat.le_of_ble_eq_true rfl) (Nat.le_of_ble_eq_true rfl) dX12_acts_11
  · refine r_iload_n (i := 2) (x := x2) (q := 13) 2 hX dX12_acts_12 rfl rfl rfl ?_
    refine r_i2l (q := 14) hX dX12_acts_13 rfl ?_
    refine r_lconst (v := (0 : Int64)) (q := 15) hX dX12_acts_14 rfl rfl ?_
    refine r_ldc2 (v := (2 : Int64)) (q := 18) hX dX12_acts_15 (gd (hcw6_11 _ (List.mem_of_getElem? (i := 5) rfl)) rfl) rfl ?_
    refine r_cs (As := [vj (x2.toInt64), vj (0 : Int64), vj (2 : Int64)]) (st := []) (r := (some (vi (fX12_in (x2.toInt64) (0 : Int64) (2 : Int64))))) (Z1 := Z) (M1 := M) (k1 := 0) (n1 := 0) (st1 := [vi (fX12_in (x2.toInt64) (0 : Int64) (2 : Int64))]) (q := 21) hX (fun l => kX12_in l Z M (x2.toInt64) (0 : Int64) (2 : Int64)) stX12_in ccX12_in (Or.inl lkX12_194) rfl rfl rfl ⟨Nat.le_of_ble_eq_true rfl, Nat.le_of_ble_eq_true rfl, rfl, rfl, Nat.le_of_ble_eq_true rfl, Nat.le_of_ble_eq_true rfl⟩ (Nat.le_of_ble_eq_true rfl) dX12_acts_18 rfl ?_
    refine r_if_eq (tgt := 36) (q := 24) hX dX12_acts_21 (by decide) rfl (fun hb5 => ?_) (fun hb5 => ?_)
    · refine r_sipush (v := (-1002 : Int32)) (q := 39) hX dX12_acts_36 rfl rfl ?_
      refine r_lf (hK _) ?_
      exact r_iret hM rfl (Nat.le_of_ble_eq_true rfl) (Nat.le_of_ble_eq_true rfl) dX12_acts_39
    · refine r_iload_n (i := 3) (x := x3) (q := 25) 3 hX dX12_acts_24 rfl rfl rfl ?_
      refine r_i2l (q := 26) hX dX12_acts_25 rfl ?_
      refine r_lconst (v := (0 : Int64)) (q := 27) hX dX12_acts_26 rfl rfl ?_
      refine r_ldc2 (v := (599 : Int64)) (q := 30) hX dX12_acts_27 (gd (hcw7_1 _ (List.mem_of_getElem? (i := 4) rfl)) rfl) rfl ?_
      refine r_cs (As := [vj (x3.toInt64), vj (0 : Int64), vj (599 : Int64)]) (st := []) (r := (some (vi (fX12_in (x3.toInt64) (0 : Int64) (599 : Int64))))) (Z1 := Z) (M1 := M) (k1 := 0) (n1 := 0) (st1 := [vi (fX12_in (x3.toInt64) (0 : Int64) (599 : Int64))]) (q := 33) hX (fun l => kX12_in l Z M (x3.toInt64) (0 : Int64) (599 : Int64)) stX12_in ccX12_in (Or.inl lkX12_194) rfl rfl rfl ⟨Nat.le_of_ble_eq_true rfl, Nat.le_of_ble_eq_true rfl, rfl, rfl, Nat.le_of_ble_eq_true rfl, Nat.le_of_ble_eq_true rfl⟩ (Nat.le_of_ble_eq_true rfl) dX12_acts_30 rfl ?_
      refine r_if_ne (tgt := 40) (q := 36) hX dX12_acts_33 (by decide) rfl (fun hb6 => ?_) (fun hb6 => ?_)
      · refine r_sipush (v := (-1002 : Int32)) (q := 39) hX dX12_acts_36 rfl rfl ?_
        refine r_lf (hK _) ?_
        exact r_iret hM rfl (Nat.le_of_ble_eq_true rfl) (Nat.le_of_ble_eq_true rfl) dX12_acts_39
      · refine r_aload_n (i := 0) (x := a0) (q := 41) 0 hX dX12_acts_40 rfl rfl rfl ?_
        refine r_getR (a := a0) (ci := 12) (kf := 16) (q := 44) hX hc1 flX12_41 rfl dX12_acts_41 rfl ?_
        refine r_iload_n (i := 1) (x := x1) (q := 45) 1 hX dX12_acts_44 rfl rfl rfl ?_
        refine r_ck (fun hc7 => ?_)
        refine r_iald (a := (rR M a0 16)) (i := x1) (q := 46) hX hc7 dX12_acts_45 rfl ?_
        refine r_istoreP (x := (rI M (rR M a0 16) (ix x1))) (q := 48) 4 [1, 2, 3, 4, 0] (fun z8 => [(0, vr a0), (1, vi x1), (2, vi x2), (3, vi x3), (4, vi z8)]) hX dX12_acts_46 (Nat.le_of_ble_eq_true rfl) (fun _ => rfl) rfl (fun z8 => ?_)
        refine r_iload (i := 4) (x := z8) (q := 50) 4 hX dX12_acts_48 rfl rfl ?_
        refine r_iconst (v := (1 : Int32)) (q := 51) hX dX12_acts_50 rfl rfl ?_
        refine r_jn (J := fun (v12 : Int32) (P : Option Res) => Ref mX12_acts X 0 0 Z M 89 [(0, vr a0), (1, vi x1), (2, vi x2), (3, vi x3)] [vi v12] P) (fun v12 => ?_) (fun K1 hj10 => ?_)
        · refine r_istore (x := v12) (q := 91) 5 [1, 2, 3, 4, 0] (L1 := [(0, vr a0), (1, vi x1), (2, vi x2), (3, vi x3), (5, vi v12)]) hX dX12_acts_89 (Nat.le_of_ble_eq_true rfl) rfl rfl ?_
          refine r_iload_n (i := 2) (x := x2) (q := 92) 2 hX dX12_acts_91 rfl rfl rfl ?_
          refine r_if_ne (tgt := 104) (q := 95) hX dX12_acts_92 (by decide) rfl (fun hb16 => ?_) (fun hb16 => ?_)
          · refine r_aload_n (i := 0) (x := a0) (q := 96) 0 hX dX12_acts_95 rfl rfl rfl ?_
            refine r_iload_n (i := 1) (x := x1) (q := 97) 1 hX dX12_acts_96 rfl rfl rfl ?_
            refine r_iload_n (i := 3) (x := x3) (q := 98) 3 hX dX12_acts_97 rfl rfl rfl ?_
            refine r_bind (fun v17 h18 => ?_)
            refine r_cv (a := a0) (As := [vi x1, vi x3]) (st := []) (r := (some (vi v17))) (Z1 := Z) (M1 := M) (k1 := 0) (n1 := 0) (st1 := [vi v17]) (q := 101) hX (fun l => kX12_takes l Z M a0 x1 x3 v17 h18) hc1 ivX12_takes ccX12_takes (Or.inl lkX12_240) rfl rfl rfl ⟨Nat.le_of_ble_eq_true rfl, Nat.le_of_ble_eq_true rfl, rfl, rfl, Nat.le_of_ble_eq_true rfl, Nat.le_of_ble_eq_true rfl⟩ (Nat.le_of_ble_eq_true rfl) dX12_acts_98 rfl ?_
            refine r_goto (q := 120) hX dX12_acts_101 (by decide) ?_
            refine r_lf (hK _) ?_
            exact r_iret hM rfl (Nat.le_of_ble_eq_true rfl) (Nat.le_of_ble_eq_true rfl) dX12_acts_120
          · refine r_iload_n (i := 2) (x := x2) (q := 105) 2 hX dX12_acts_104 rfl rfl rfl ?_
            refine r_iconst (v := (1 : Int32)) (q := 106) hX dX12_acts_105 rfl rfl ?_
            refine r_icmp_ne (tgt := 114) (q := 109) hX dX12_acts_106 (by decide) rfl (fun hb19 => ?_) (fun hb19 => ?_)
            · refine r_iload (i := 5) (x := v12) (q := 111) 4 hX dX12_acts_109 rfl rfl ?_
              refine r_goto (q := 120) hX dX12_acts_111 (by decide) ?_
              refine r_lf (hK _) ?_
              exact r_iret hM rfl (Nat.le_of_ble_eq_true rfl) (Nat.le_of_ble_eq_true rfl) dX12_acts_120
            · refine r_aload_n (i := 0) (x := a0) (q := 115) 0 hX dX12_acts_114 rfl rfl rfl ?_
              refine r_getR (a := a0) (ci := 12) (kf := 20) (q := 118) hX hc1 flX12_53 rfl dX12_acts_115 rfl ?_
              refine r_iload_n (i := 1) (x := x1) (q := 119) 1 hX dX12_acts_118 rfl rfl rfl ?_
              refine r_ck (fun hc20 => ?_)
              refine r_iald (a := (rR M a0 20)) (i := x1) (q := 120) hX hc20 dX12_acts_119 rfl ?_
              refine r_lf (hK _) ?_
              exact r_iret hM rfl (Nat.le_of_ble_eq_true rfl) (Nat.le_of_ble_eq_true rfl) dX12_acts_120
        · refine r_icmp_ne (tgt := 58) (q := 54) hX dX12_acts_51 (by decide) rfl (fun hb9 => ?_) (fun hb9 => ?_)
          · refine r_iconst (v := (3 : Int32)) (q := 55) hX dX12_acts_54 rfl rfl ?_
            refine r_goto (q := 89) hX dX12_acts_55 (by decide) ?_
            refine r_l0 ?_
            refine r_sub [0, 1, 2, 3] rfl ?_
            exact hj10 (3 : Int32)
          · refine r_iload (i := 4) (x := z8) (q := 60) 4 hX dX12_acts_58 rfl rfl ?_
            refine r_iconst (v := (3 : Int32)) (q := 61) hX dX12_acts_60 rfl rfl ?_
            refine r_icmp_ne (tgt := 68) (q := 64) hX dX12_acts_61 (by decide) rfl (fun hb13 => ?_) (fun hb13 => ?_)
            · refine r_iconst (v := (1 : Int32)) (q := 65) hX dX12_acts_64 rfl rfl ?_
              refine r_goto (q := 89) hX dX12_acts_65 (by decide) ?_
              refine r_l0 ?_
              refine r_sub [0, 1, 2, 3] rfl ?_
              exact hj10 (1 : Int32)
            · refine r_iload (i := 4) (x := z8) (q := 70) 4 hX dX12_acts_68 rfl rfl ?_
              refine r_iconst (v := (4 : Int32)) (q := 71) hX dX12_acts_70 rfl rfl ?_
              refine r_icmp_ne (tgt := 88) (q := 74) hX dX12_acts_71 (by decide) rfl (fun hb14 => ?_) (fun hb14 => ?_)
              · refine r_iconst (v := (1 : Int32)) (q := 75) hX dX12_acts_74 rfl rfl ?_
                refine r_aload_n (i := 0) (x := a0) (q := 76) 0 hX dX12_acts_75 rfl rfl rfl ?_
                refine r_getR (a := a0) (ci := 12) (kf := 18) (q := 79) hX hc1 flX12_47 rfl dX12_acts_76 rfl ?_
                refine r_iload_n (i := 1) (x := x1) (q := 80) 1 hX dX12_acts_79 rfl rfl rfl ?_
                refine r_ck (fun hc15 => ?_)
                refine r_iald (a := (rR M a0 18)) (i := x1) (q := 81) hX hc15 dX12_acts_80 rfl ?_
                refine r_bipush (v := (10 : Int32)) (q := 83) hX dX12_acts_81 rfl rfl ?_
                refine r_idiv (q := 84) hX dX12_acts_83 (by decide) rfl ?_
                refine r_iadd (q := 85) hX dX12_acts_84 rfl ?_
                refine r_goto (q := 89) hX dX12_acts_85 (by decide) ?_
                refine r_l0 ?_
                refine r_sub [0, 1, 2, 3] rfl ?_
                exact hj10 ((1 : Int32) + ((rI M (rR M a0 18) (ix x1)) / (10 : Int32)))
              · refine r_iconst (v := (0 : Int32)) (q := 89) hX dX12_acts_88 rfl rfl ?_
                refine r_l0 ?_
                refine r_sub [0, 1, 2, 3] rfl ?_
                exact hj10 (0 : Int32)
def mX12_as : MD := (yX12_as, cX12_as, 4, (some .int), 2, 46, 0, 0)
theorem ccX12_as : Cc mX12_as 2 := ⟨gd (hcw1_0 _ (List.mem_of_getElem? (i := 10) rfl)) rfl, gd (hcw7_0 _ (List.mem_of_getElem? (i := 15) rfl)) rfl, by decide +kernel, by decide +kernel, by decide +kernel⟩
theorem ivX12_as : Iv mX12_as 12 := ⟨Nat.le_of_ble_eq_true rfl, rfl, gd (hcw7_0 _ (List.mem_of_getElem? (i := 13) rfl)) rfl, gd (hcw7_0 _ (List.mem_of_getElem? (i := 14) rfl)) rfl⟩
noncomputable def fX12_as (Z : Shp) (M : Mem) (a0 : Nat) (x1 : Int32) (x2 : Int32) : Option (Int32) := (if tg Z a0 = (13, 86) then (Option.bind (fX12_isTaker Z M a0 x1) (fun v2 => (if v2 = 0 then some (-101 : Int32) else (if (fX12_in (x2.toInt64) (0 : Int64) (4 : Int64)) = 0 then some (-102 : Int32) else (if x2 = 0 then (if (1 : Int32) = 0 then some (-1 : Int32) else some x1) else (if aok Z (rR M a0 16) 100 x1 then (if x2 = (rI M (rR M a0 16) (ix x1)) then (if (1 : Int32) = 0 then some (-1 : Int32) else some x1) else (if x2 = (3 : Int32) then (if (rI M (rR M a0 16) (ix x1)) = (4 : Int32) then (if (1 : Int32) = 0 then some (-1 : Int32) else some x1) else (if (0 : Int32) = 0 then some (-1 : Int32) else some x1)) else (if (0 : Int32) = 0 then some (-1 : Int32) else some x1))) else none)))))) else none)
set_option maxRecDepth 20000 in
theorem kX12_as (l : Launch) (Z : Shp) (M : Mem) (a0 : Nat) (x1 : Int32) (x2 : Int32) (r : Int32) (h : fX12_as Z M a0 x1 x2 = some r) : Ct l mX12_as [vr a0, vi x1, vi x2] Z M ((some (vi r)), Z, M) := by
  refine Ct.of rfl (Nat.le_of_ble_eq_true rfl) (fun X hM => ?_)
  have hX := hM.1
  refine r_top (mk := fun r => ((some (vi r)), Z, M)) h (fun K hK => ?_)
  unfold fX12_as
  refine r_aload_n (i := 0) (x := a0) (q := 1) 0 hX dX12_as_0 rfl rfl rfl ?_
  refine r_iload_n (i := 1) (x := x1) (q := 2) 1 hX dX12_as_1 rfl rfl rfl ?_
  refine r_ck (fun hc1 => ?_)
  refine r_bind (fun v2 h3 => ?_)
  refine r_cv (a := a0) (As := [vi x1]) (st := []) (r := (some (vi v2))) (Z1 := Z) (M1 := M) (k1 := 0) (n1 := 0) (st1 := [vi v2]) (q := 5) hX (fun l => kX12_isTaker l Z M a0 x1 v2 h3) hc1 ivX12_isTaker ccX12_isTaker (Or.inl lkX12_233) rfl rfl rfl ⟨Nat.le_of_ble_eq_true rfl, Nat.le_of_ble_eq_true rfl, rfl, rfl, Nat.le_of_ble_eq_true rfl, Nat.le_of_ble_eq_true rfl⟩ (Nat.le_of_ble_eq_true rfl) dX12_as_2 rfl ?_
  refine r_if_ne (tgt := 11) (q := 8) hX dX12_as_5 (by decide) rfl (fun hb4 => ?_) (fun hb4 => ?_)
  · refine r_bipush (v := (-101 : Int32)) (q := 10) hX dX12_as_8 rfl rfl ?_
    refine r_lf (hK _) ?_
    exact r_iret hM rfl (Nat.le_of_ble_eq_true rfl) (Nat.le_of_ble_eq_true rfl) dX12_as_10
  · refine r_iload_n (i := 2) (x := x2) (q := 12) 2 hX dX12_as_11 rfl rfl rfl ?_
    refine r_i2l (q := 13) hX dX12_as_12 rfl ?_
    refine r_lconst (v := (0 : Int64)) (q := 14) hX dX12_as_13 rfl rfl ?_
    refine r_ldc2 (v := (4 : Int64)) (q := 17) hX dX12_as_14 (gd (hcw7_0 _ (List.mem_of_getElem? (i := 10) rfl)) rfl) rfl ?_
    refine r_cs (As := [vj (x2.toInt64), vj (0 : Int64), vj (4 : Int64)]) (st := []) (r := (some (vi (fX12_in (x2.toInt64) (0 : Int64) (4 : Int64))))) (Z1 := Z) (M1 := M) (k1 := 0) (n1 := 0) (st1 := [vi (fX12_in (x2.toInt64) (0 : Int64) (4 : Int64))]) (q := 20) hX (fun l => kX12_in l Z M (x2.toInt64) (0 : Int64) (4 : Int64)) stX12_in ccX12_in (Or.inl lkX12_194) rfl rfl rfl ⟨Nat.le_of_ble_eq_true rfl, Nat.le_of_ble_eq_true rfl, rfl, rfl, Nat.le_of_ble_eq_true rfl, Nat.le_of_ble_eq_true rfl⟩ (Nat.le_of_ble_eq_true rfl) dX12_as_17 rfl ?_
    refine r_if_ne (tgt := 26) (q := 23) hX dX12_as_20 (by decide) rfl (fun hb5 => ?_) (fun hb5 => ?_)
    · refine r_bipush (v := (-102 : Int32)) (q := 25) hX dX12_as_23 rfl rfl ?_
      refine r_lf (hK _) ?_
      exact r_iret hM rfl (Nat.le_of_ble_eq_true rfl) (Nat.le_of_ble_eq_true rfl) dX12_as_25
    · refine r_iload_n (i := 2) (x := x2) (q := 27) 2 hX dX12_as_26 rfl rfl rfl ?_
      refine r_if_eq (tgt := 55) (q := 30) hX dX12_as_27 (by decide) rfl (fun hb6 => ?_) (fun hb6 => ?_)
      · refine r_iconst (v := (1 : Int32)) (q := 56) hX dX12_as_55 rfl rfl ?_
        refine r_goto (q := 60) hX dX12_as_56 (by decide) ?_
        refine r_istore_n (x := (1 : Int32)) (q := 61) 3 [1, 2, 3, 0] (L1 := [(0, vr a0), (1, vi x1), (2, vi x2), (3, vi (1 : Int32))]) hX dX12_as_60 rfl (Nat.le_of_ble_eq_true rfl) rfl rfl ?_
        refine r_iload_n (i := 3) (x := (1 : Int32)) (q := 62) 3 hX dX12_as_61 rfl rfl rfl ?_
        refine r_if_eq (tgt := 69) (q := 65) hX dX12_as_62 (by decide) rfl (fun hb7 => ?_) (fun hb7 => ?_)
        · refine r_iconst (v := (-1 : Int32)) (q := 70) hX dX12_as_69 rfl rfl ?_
          refine r_lf (hK _) ?_
          exact r_iret hM rfl (Nat.le_of_ble_eq_true rfl) (Nat.le_of_ble_eq_true rfl) dX12_as_70
        · refine r_iload_n (i := 1) (x := x1) (q := 66) 1 hX dX12_as_65 rfl rfl rfl ?_
          refine r_goto (q := 70) hX dX12_as_66 (by decide) ?_
          refine r_lf (hK _) ?_
          exact r_iret hM rfl (Nat.le_of_ble_eq_true rfl) (Nat.le_of_ble_eq_true rfl) dX12_as_70
      · refine r_iload_n (i := 2) (x := x2) (q := 31) 2 hX dX12_as_30 rfl rfl rfl ?_
        refine r_aload_n (i := 0) (x := a0) (q := 32) 0 hX dX12_as_31 rfl rfl rfl ?_
        refine r_getR (a := a0) (ci := 12) (kf := 16) (q := 35) hX hc1 flX12_41 rfl dX12_as_32 rfl ?_
        refine r_iload_n (i := 1) (x := x1) (q := 36) 1 hX dX12_as_35 rfl rfl rfl ?_
        refine r_ck (fun hc8 => ?_)
        refine r_iald (a := (rR M a0 16)) (i := x1) (q := 37) hX hc8 dX12_as_36 rfl ?_
        refine r_icmp_eq (tgt := 55) (q := 40) hX dX12_as_37 (by decide) rfl (fun hb9 => ?_) (fun hb9 => ?_)
        · refine r_iconst (v := (1 : Int32)) (q := 56) hX dX12_as_55 rfl rfl ?_
          refine r_goto (q := 60) hX dX12_as_56 (by decide) ?_
          refine r_istore_n (x := (1 : Int32)) (q := 61) 3 [1, 2, 3, 0] (L1 := [(0, vr a0), (1, vi x1), (2, vi x2), (3, vi (1 : Int32))]) hX dX12_as_60 rfl (Nat.le_of_ble_eq_true rfl) rfl rfl ?_
          refine r_iload_n (i := 3) (x := (1 : Int32)) (q := 62) 3 hX dX12_as_61 rfl rfl rfl ?_
          refine r_if_eq (tgt := 69) (q := 65) hX dX12_as_62 (by decide) rfl (fun hb10 => ?_) (fun hb10 => ?_)
          · refine r_iconst (v := (-1 : Int32)) (q := 70) hX dX12_as_69 rfl rfl ?_
            refine r_lf (hK _) ?_
            exact r_iret hM rfl (Nat.le_of_ble_eq_true rfl) (Nat.le_of_ble_eq_true rfl) dX12_as_70
          · refine r_iload_n (i := 1) (x := x1) (q := 66) 1 hX dX12_as_65 rfl rfl rfl ?_
            refine r_goto (q := 70) hX dX12_as_66 (by decide) ?_
            refine r_lf (hK _) ?_
            exact r_iret hM rfl (Nat.le_of_ble_eq_true rfl) (Nat.le_of_ble_eq_true rfl) dX12_as_70
        · refine r_iload_n (i := 2) (x := x2) (q := 41) 2 hX dX12_as_40 rfl rfl rfl ?_
          refine r_iconst (v := (3 : Int32)) (q := 42) hX dX12_as_41 rfl rfl ?_
          refine r_icmp_ne (tgt := 59) (q := 45) hX dX12_as_42 (by decide) rfl (fun hb11 => ?_) (fun hb11 => ?_)
          · refine r_aload_n (i := 0) (x := a0) (q := 46) 0 hX dX12_as_45 rfl rfl rfl ?_
            refine r_getR (a := a0) (ci := 12) (kf := 16) (q := 49) hX hc1 flX12_41 rfl dX12_as_46 rfl ?_
            refine r_iload_n (i := 1) (x := x1) (q := 50) 1 hX dX12_as_49 rfl rfl rfl ?_
            refine r_iald (a := (rR M a0 16)) (i := x1) (q := 51) hX hc8 dX12_as_50 rfl ?_
            refine r_iconst (v := (4 : Int32)) (q := 52) hX dX12_as_51 rfl rfl ?_
            refine r_icmp_ne (tgt := 59) (q := 55) hX dX12_as_52 (by decide) rfl (fun hb12 => ?_) (fun hb12 => ?_)
            · refine r_iconst (v := (1 : Int32)) (q := 56) hX dX12_as_55 rfl rfl ?_
              refine r_goto (q := 60) hX dX12_as_56 (by decide) ?_
              refine r_istore_n (x := (1 : Int32)) (q := 61) 3 [1, 2, 3, 0] (L1 := [(0, vr a0), (1, vi x1), (2, vi x2), (3, vi (1 : Int32))]) hX dX12_as_60 rfl (Nat.le_of_ble_eq_true rfl) rfl rfl ?_
              refine r_iload_n (i := 3) (x := (1 : Int32)) (q := 62) 3 hX dX12_as_61 rfl rfl rfl ?_
              refine r_if_eq (tgt := 69) (q := 65) hX dX12_as_62 (by decide) rfl (fun hb13 => ?_) (fun hb13 => ?_)
              · refine r_iconst (v := (-1 : Int32)) (q := 70) hX dX12_as_69 rfl rfl ?_
                refine r_lf (hK _) ?_
                exact r_iret hM rfl (Nat.le_of_ble_eq_true rfl) (Nat.le_of_ble_eq_true rfl) dX12_as_70
              · refine r_iload_n (i := 1) (x := x1) (q := 66) 1 hX dX12_as_65 rfl rfl rfl ?_
                refine r_goto (q := 70) hX dX12_as_66 (by decide) ?_
                refine r_lf (hK _) ?_
                exact r_iret hM rfl (Nat.le_of_ble_eq_true rfl) (Nat.le_of_ble_eq_true rfl) dX12_as_70
            · refine r_iconst (v := (0 : Int32)) (q := 60) hX dX12_as_59 rfl rfl ?_
              refine r_istore_n (x := (0 : Int32)) (q := 61) 3 [1, 2, 3, 0] (L1 := [(0, vr a0), (1, vi x1), (2, vi x2), (3, vi (0 : Int32))]) hX dX12_as_60 rfl (Nat.le_of_ble_eq_true rfl) rfl rfl ?_
              refine r_iload_n (i := 3) (x := (0 : Int32)) (q := 62) 3 hX dX12_as_61 rfl rfl rfl ?_
              refine r_if_eq (tgt := 69) (q := 65) hX dX12_as_62 (by decide) rfl (fun hb14 => ?_) (fun hb14 => ?_)
              · refine r_iconst (v := (-1 : Int32)) (q := 70) hX dX12_as_69 rfl rfl ?_
                refine r_lf (hK _) ?_
                exact r_iret hM rfl (Nat.le_of_ble_eq_true rfl) (Nat.le_of_ble_eq_true rfl) dX12_as_70
              · refine r_iload_n (i := 1) (x := x1) (q := 66) 1 hX dX12_as_65 rfl rfl rfl ?_
                refine r_goto (q := 70) hX dX12_as_66 (by decide) ?_
                refine r_lf (hK _) ?_
                exact r_iret hM rfl (Nat.le_of_ble_eq_true rfl) (Nat.le_of_ble_eq_true rfl) dX12_as_70
          · refine r_iconst (v := (0 : Int32)) (q := 60) hX dX12_as_59 rfl rfl ?_
            refine r_istore_n (x := (0 : Int32)) (q := 61) 3 [1, 2, 3, 0] (L1 := [(0, vr a0), (1, vi x1), (2, vi x2), (3, vi (0 : Int32))]) hX dX12_as_60 rfl (Nat.le_of_ble_eq_true rfl) rfl rfl ?_
            refine r_iload_n (i := 3) (x := (0 : Int32)) (q := 62) 3 hX dX12_as_61 rfl rfl rfl ?_
            refine r_if_eq (tgt := 69) (q := 65) hX dX12_as_62 (by decide) rfl (fun hb15 => ?_) (fun hb15 => ?_)
            · refine r_iconst (v := (-1 : Int32)) (q := 70) hX dX12_as_69 rfl rfl ?_
              refine r_lf (hK _) ?_
              exact r_iret hM rfl (Nat.le_of_ble_eq_true rfl) (Nat.le_of_ble_eq_true rfl) dX12_as_70
            · refine r_iload_n (i := 1) (x := x1) (q := 66) 1 hX dX12_as_65 rfl rfl rfl ?_
              refine r_goto (q := 70) hX dX12_as_66 (by decide) ?_
              refine r_lf (hK _) ?_
              exact r_iret hM rfl (Nat.le_of_ble_eq_true rfl) (Nat.le_of_ble_eq_true rfl) dX12_as_70
theorem flX12_215 : FL RX12 215 12 21 := ⟨Nat.le_of_ble_eq_true rfl, Nat.le_of_ble_eq_true rfl, gd (hcw5_10 _ (List.mem_of_getElem? (i := 16) rfl)) rfl⟩
def mX12_isBoat : MD := (yX12_isBoat, cX12_isBoat, 2, (some .boolean), 1, 25, 0, 0)
theorem ccX12_isBoat : Cc mX12_isBoat 1 := ⟨gd (hcw1_0 _ (List.mem_of_getElem? (i := 10) rfl)) rfl, gd (hcw7_2 _ (List.mem_of_getElem? (i := 3) rfl)) rfl, by decide +kernel, by decide +kernel, by decide +kernel⟩
theorem ivX12_isBoat : Iv mX12_isBoat 12 := ⟨Nat.le_of_ble_eq_true rfl, rfl, gd (hcw7_2 _ (List.mem_of_getElem? (i := 2) rfl)) rfl, gd (hps3 _ (List.mem_of_getElem? (i := 5) rfl)) rfl⟩
def fX12_isBoat (Z : Shp) (M : Mem) (a0 : Nat) (x1 : Int32) : Option (Int32) := (if tg Z a0 = (13, 86) then some (fX12_in (x1.toInt64) (0 : Int64) (((rI M a0 21) - (1 : Int32)).toInt64)) else none)
set_option maxRecDepth 20000 in
theorem kX12_isBoat (l : Launch) (Z : Shp) (M : Mem) (a0 : Nat) (x1 : Int32) (r : Int32) (h : fX12_isBoat Z M a0 x1 = some r) : Ct l mX12_isBoat [vr a0, vi x1] Z M ((some (vi r)), Z, M) := by
  refine Ct.of rfl (Nat.le_of_ble_eq_true rfl) (fun X hM => ?_)
  have hX := hM.1
  refine r_top (mk := fun r => ((some (vi r)), Z, M)) h (fun K hK => ?_)
  unfold fX12_isBoat
  refine r_iload_n (i := 1) (x := x1) (q := 1) 1 hX dX12_isBoat_0 rfl rfl rfl ?_
  refine r_i2l (q := 2) hX dX12_isBoat_1 rfl ?_
  refine r_lconst (v := (0 : Int64)) (q := 3) hX dX12_isBoat_2 rfl rfl ?_
  refine r_aload_n (i := 0) (x := a0) (q := 4) 0 hX dX12_isBoat_3 rfl rfl rfl ?_
  refine r_ck (fun hc1 => ?_)
  refine r_getI (a := a0) (ci := 12) (kf := 21) (q := 7) hX hc1 flX12_215 rfl rfl dX12_isBoat_4 rfl ?_
  refine r_iconst (v := (1 : Int32)) (q := 8) hX dX12_isBoat_7 rfl rfl ?_
  refine r_isub (q := 9) hX dX12_isBoat_8 rfl ?_
  refine r_i2l (q := 10) hX dX12_isBoat_9 rfl ?_
  refine r_cs (As := [vj (x1.toInt64), vj (0 : Int64), vj (((rI M a0 21) - (1 : Int32)).toInt64)]) (st := []) (r := (some (vi (fX12_in (x1.toInt64) (0 : Int64) (((rI M a0 21) - (1 : Int32)).toInt64))))) (Z1 := Z) (M1 := M) (k1 := 0) (n1 := 0) (st1 := [vi (fX12_in (x1.toInt64) (0 : Int64) (((rI M a0 21) - (1 : Int32)).toInt64))]) (q := 13) hX (fun l => kX12_in l Z M (x1.toInt64) (0 : Int64) (((rI M a0 21) - (1 : Int32)).toInt64)) stX12_in ccX12_in (Or.inl lkX12_194) rfl rfl rfl ⟨Nat.le_of_ble_eq_true rfl, Nat.le_of_ble_eq_true rfl, rfl, rfl, Nat.le_of_ble_eq_true rfl, Nat.le_of_ble_eq_true rfl⟩ (Nat.le_of_ble_eq_true rfl) dX12_isBoat_10 rfl ?_
  refine r_lf (hK _) ?_
  exact r_zret hM rfl (bX12_in (x1.toInt64) (0 : Int64) (((rI M a0 21) - (1 : Int32)).toInt64)) (Nat.le_of_ble_eq_true rfl) (Nat.le_of_ble_eq_true rfl) dX12_isBoat_13
theorem flX12_59 : FL RX12 59 12 23 := ⟨Nat.le_of_ble_eq_true rfl, Nat.le_of_ble_eq_true rfl, gd (hcw5_10 _ (List.mem_of_getElem? (i := 18) rfl)) rfl⟩
theorem flX12_56 : FL RX12 56 12 22 := ⟨Nat.le_of_ble_eq_true rfl, Nat.le_of_ble_eq_true rfl, gd (hcw5_10 _ (List.mem_of_getElem? (i := 17) rfl)) rfl⟩
def mX12_milesOf : MD := (yX12_milesOf, cX12_milesOf, 3, (some .int), 0, 0, 0, 0)
theorem ccX12_milesOf : Cc mX12_milesOf 1 := ⟨gd (hcw1_0 _ (List.mem_of_getElem? (i := 10) rfl)) rfl, gd (hcw7_2 _ (List.mem_of_getElem? (i := 11) rfl)) rfl, by decide +kernel, by decide +kernel, by decide +kernel⟩
theorem ivX12_milesOf : Iv mX12_milesOf 12 := ⟨Nat.le_of_ble_eq_true rfl, rfl, gd (hcw7_2 _ (List.mem_of_getElem? (i := 10) rfl)) rfl, gd (hps3 _ (List.mem_of_getElem? (i := 7) rfl)) rfl⟩
def fX12_milesOf (Z : Shp) (M : Mem) (a0 : Nat) (x1 : Int32) : Option (Int32) := (if tg Z a0 = (13, 86) then (if aok Z (rR M a0 23) 100 x1 then (if aok Z (rR M a0 22) 100 x1 then (pu (((rI M (rR M a0 23) (ix x1)) - (rI M (rR M a0 22) (ix x1)))) (fun z4 => (if 0 ≤ z4 then some ((5 : Int32) * (z4 + (1 : Int32))) else some ((5 : Int32) * ((-z4) + (1 : Int32)))))) else none) else none) else none)
set_option maxRecDepth 20000 in
theorem kX12_milesOf (l : Launch) (Z : Shp) (M : Mem) (a0 : Nat) (x1 : Int32) (r : Int32) (h : fX12_milesOf Z M a0 x1 = some r) : Ct l mX12_milesOf [vr a0, vi x1] Z M ((some (vi r)), Z, M) := by
  refine Ct.of rfl (Nat.le_of_ble_eq_true rfl) (fun X hM => ?_)
  have hX := hM.1
  refine r_top (mk := fun r => ((some (vi r)), Z, M)) h (fun K hK => ?_)
  unfold fX12_milesOf
  refine r_aload_n (i := 0) (x := a0) (q := 1) 0 hX dX12_milesOf_0 rfl rfl rfl ?_
  refine r_ck (fun hc1 => ?_)
  refine r_getR (a := a0) (ci := 12) (kf := 23) (q := 4) hX hc1 flX12_59 rfl dX12_milesOf_1 rfl ?_
  refine r_iload_n (i := 1) (x := x1) (q := 5) 1 hX dX12_milesOf_4 rfl rfl rfl ?_
  refine r_ck (fun hc2 => ?_)
  refine r_iald (a := (rR M a0 23)) (i := x1) (q := 6) hX hc2 dX12_milesOf_5 rfl ?_
  refine r_aload_n (i := 0) (x := a0) (q := 7) 0 hX dX12_milesOf_6 rfl rfl rfl ?_
  refine r_getR (a := a0) (ci := 12) (kf := 22) (q := 10) hX hc1 flX12_56 rfl dX12_milesOf_7 rfl ?_
  refine r_iload_n (i := 1) (x := x1) (q := 11) 1 hX dX12_milesOf_10 rfl rfl rfl ?_
  refine r_ck (fun hc3 => ?_)
  refine r_iald (a := (rR M a0 22)) (i := x1) (q := 12) hX hc3 dX12_milesOf_11 rfl ?_
  refine r_isub (q := 13) hX dX12_milesOf_12 rfl ?_
  refine r_istore_nP (x := ((rI M (rR M a0 23) (ix x1)) - (rI M (rR M a0 22) (ix x1)))) (q := 14) 2 [1, 2, 0] (fun z4 => [(0, vr a0), (1, vi x1), (2, vi z4)]) hX dX12_milesOf_13 rfl (Nat.le_of_ble_eq_true rfl) (fun _ => rfl) rfl (fun z4 => ?_)
  refine r_iconst (v := (5 : Int32)) (q := 15) hX dX12_milesOf_14 rfl rfl ?_
  refine r_iload_n (i := 2) (x := z4) (q := 16) 2 hX dX12_milesOf_15 rfl rfl rfl ?_
  refine r_if_ge (tgt := 24) (q := 19) hX dX12_milesOf_16 (by decide) rfl (fun hb5 => ?_) (fun hb5 => ?_)
  · refine r_iload_n (i := 2) (x := z4) (q := 25) 2 hX dX12_milesOf_24 rfl rfl rfl ?_
    refine r_iconst (v := (1 : Int32)) (q := 26) hX dX12_milesOf_25 rfl rfl ?_
    refine r_iadd (q := 27) hX dX12_milesOf_26 rfl ?_
    refine r_imul (q := 28) hX dX12_milesOf_27 rfl ?_
    refine r_lf (hK _) ?_
    exact r_iret hM rfl (Nat.le_of_ble_eq_true rfl) (Nat.le_of_ble_eq_true rfl) dX12_milesOf_28
  · refine r_iload_n (i := 2) (x := z4) (q := 20) 2 hX dX12_milesOf_19 rfl rfl rfl ?_
    refine r_ineg (q := 21) hX dX12_milesOf_20 rfl ?_
    refine r_goto (q := 25) hX dX12_milesOf_21 (by decide) ?_
    refine r_iconst (v := (1 : Int32)) (q := 26) hX dX12_milesOf_25 rfl rfl ?_
    refine r_iadd (q := 27) hX dX12_milesOf_26 rfl ?_
    refine r_imul (q := 28) hX dX12_milesOf_27 rfl ?_
    refine r_lf (hK _) ?_
    exact r_iret hM rfl (Nat.le_of_ble_eq_true rfl) (Nat.le_of_ble_eq_true rfl) dX12_milesOf_28
theorem flX12_74 : FL RX12 74 12 28 := ⟨Nat.le_of_ble_eq_true rfl, Nat.le_of_ble_eq_true rfl, gd (hcw5_11 _ (List.mem_of_getElem? (i := 3) rfl)) rfl⟩
theorem flX12_77 : FL RX12 77 12 29 := ⟨Nat.le_of_ble_eq_true rfl, Nat.le_of_ble_eq_true rfl, gd (hcw5_11 _ (List.mem_of_getElem? (i := 4) rfl)) rfl⟩
theorem flX12_80 : FL RX12 80 12 30 := ⟨Nat.le_of_ble_eq_true rfl, Nat.le_of_ble_eq_true rfl, gd (hcw5_11 _ (List.mem_of_getElem? (i := 5) rfl)) rfl⟩
theorem lkX12_257 : Lk RX12 257 yX12_milesOf := gd (hcw7_2 _ (List.mem_of_getElem? (i := 8) rfl)) rfl
def mX12_atOf : MD := (yX12_atOf, cX12_atOf, 3, (some .int), 1, 22, 0, 0)
theorem ccX12_atOf : Cc mX12_atOf 2 := ⟨gd (hcw1_0 _ (List.mem_of_getElem? (i := 10) rfl)) rfl, gd (hcw7_2 _ (List.mem_of_getElem? (i := 7) rfl)) rfl, by decide +kernel, by decide +kernel, by decide +kernel⟩
theorem ivX12_atOf : Iv mX12_atOf 12 := ⟨Nat.le_of_ble_eq_true rfl, rfl, gd (hcw7_2 _ (List.mem_of_getElem? (i := 6) rfl)) rfl, gd (hps3 _ (List.mem_of_getElem? (i := 6) rfl)) rfl⟩
noncomputable def fX12_atOf (Z : Shp) (M : Mem) (a0 : Nat) (x1 : Int32) (x2 : Int32) : Option (Int32) := (if x2 = (0 : Int32) then (if tg Z a0 = (13, 86) then (if aok Z (rR M a0 28) 100 x1 then some (rI M (rR M a0 28) (ix x1)) else none) else none) else (if x2 = (1 : Int32) then (if tg Z a0 = (13, 86) then (if aok Z (rR M a0 29) 100 x1 then some (rI M (rR M a0 29) (ix x1)) else none) else none) else (if x2 = (2 : Int32) then (if tg Z a0 = (13, 86) then (if aok Z (rR M a0 29) 100 x1 then (if (rI M (rR M a0 29) (ix x1)) = (-1 : Int32) then some (1 : Int32) else some (0 : Int32)) else none) else none) else (if x2 = (3 : Int32) then (if tg Z a0 = (13, 86) then (if aok Z (rR M a0 30) 100 x1 then some (rI M (rR M a0 30) (ix x1)) else none) else none) else (if x2 = (4 : Int32) then (if tg Z a0 = (13, 86) then (Option.bind (fX12_milesOf Z M a0 x1) (fun v16 => some v16)) else none) else some (-102 : Int32))))))
set_option maxRecDepth 20000 in
theorem kX12_atOf (l : Launch) (Z : Shp) (M : Mem) (a0 : Nat) (x1 : Int32) (x2 : Int32) (r : Int32) (h : fX12_atOf Z M a0 x1 x2 = some r) : Ct l mX12_atOf [vr a0, vi x1, vi x2] Z M ((some (vi r)), Z, M) := by
  refine Ct.of rfl (Nat.le_of_ble_eq_true rfl) (fun X hM => ?_)
  have hX := hM.1
  refine r_top (mk := fun r => ((some (vi r)), Z, M)) h (fun K hK => ?_)
  unfold fX12_atOf
  refine r_iload_n (i := 2) (x := x2) (q := 1) 2 hX dX12_atOf_0 rfl rfl rfl ?_
  refine r_ite (fun hb1 => ?_) (fun hb1 => ?_)
  · refine r_tswI (off := 35) (q := 36) hX hb1 dX12_atOf_1 (by decide) (by decide) ?_
    refine r_aload_n (i := 0) (x := a0) (q := 37) 0 hX dX12_atOf_36 rfl rfl rfl ?_
    refine r_ck (fun hc2 => ?_)
    refine r_getR (a := a0) (ci := 12) (kf := 28) (q := 40) hX hc2 flX12_74 rfl dX12_atOf_37 rfl ?_
    refine r_iload_n (i := 1) (x := x1) (q := 41) 1 hX dX12_atOf_40 rfl rfl rfl ?_
    refine r_ck (fun hc3 => ?_)
    refine r_iald (a := (rR M a0 28)) (i := x1) (q := 42) hX hc3 dX12_atOf_41 rfl ?_
    refine r_lf (hK _) ?_
    exact r_iret hM rfl (Nat.le_of_ble_eq_true rfl) (Nat.le_of_ble_eq_true rfl) dX12_atOf_42
  · refine r_ite (fun hb4 => ?_) (fun hb4 => ?_)
    · refine r_tswI (off := 42) (q := 43) hX hb4 dX12_atOf_1 (by decide) (by decide) ?_
      refine r_aload_n (i := 0) (x := a0) (q := 44) 0 hX dX12_atOf_43 rfl rfl rfl ?_
      refine r_ck (fun hc5 => ?_)
      refine r_getR (a := a0) (ci := 12) (kf := 29) (q := 47) hX hc5 flX12_77 rfl dX12_atOf_44 rfl ?_
      refine r_iload_n (i := 1) (x := x1) (q := 48) 1 hX dX12_atOf_47 rfl rfl rfl ?_
      refine r_ck (fun hc6 => ?_)
      refine r_iald (a := (rR M a0 29)) (i := x1) (q := 49) hX hc6 dX12_atOf_48 rfl ?_
      refine r_lf (hK _) ?_
      exact r_iret hM rfl (Nat.le_of_ble_eq_true rfl) (Nat.le_of_ble_eq_true rfl) dX12_atOf_49
    · refine r_ite (fun hb7 => ?_) (fun hb7 => ?_)
      · refine r_tswI (off := 49) (q := 50) hX hb7 dX12_atOf_1 (by decide) (by decide) ?_
        refine r_aload_n (i := 0) (x := a0) (q := 51) 0 hX dX12_atOf_50 rfl rfl rfl ?_
        refine r_ck (fun hc8 => ?_)
        refine r_getR (a := a0) (ci := 12) (kf := 29) (q := 54) hX hc8 flX12_77 rfl dX12_atOf_51 rfl ?_
        refine r_iload_n (i := 1) (x := x1) (q := 55) 1 hX dX12_atOf_54 rfl rfl rfl ?_
        refine r_ck (fun hc9 => ?_)
        refine r_iald (a := (rR M a0 29)) (i := x1) (q := 56) hX hc9 dX12_atOf_55 rfl ?_
        refine r_iconst (v := (-1 : Int32)) (q := 57) hX dX12_atOf_56 rfl rfl ?_
        refine r_icmp_ne (tgt := 64) (q := 60) hX dX12_atOf_57 (by decide) rfl (fun hb10 => ?_) (fun hb10 => ?_)
        · refine r_iconst (v := (1 : Int32)) (q := 61) hX dX12_atOf_60 rfl rfl ?_
          refine r_goto (q := 65) hX dX12_atOf_61 (by decide) ?_
          refine r_lf (hK _) ?_
          exact r_iret hM rfl (Nat.le_of_ble_eq_true rfl) (Nat.le_of_ble_eq_true rfl) dX12_atOf_65
        · refine r_iconst (v := (0 : Int32)) (q := 65) hX dX12_atOf_64 rfl rfl ?_
          refine r_lf (hK _) ?_
          exact r_iret hM rfl (Nat.le_of_ble_eq_true rfl) (Nat.le_of_ble_eq_true rfl) dX12_atOf_65
      · refine r_ite (fun hb11 => ?_) (fun hb11 => ?_)
        · refine r_tswI (off := 65) (q := 66) hX hb11 dX12_atOf_1 (by decide) (by decide) ?_
          refine r_aload_n (i := 0) (x := a0) (q := 67) 0 hX dX12_atOf_66 rfl rfl rfl ?_
          refine r_ck (fun hc12 => ?_)
          refine r_getR (a := a0) (ci := 12) (kf := 30) (q := 70) hX hc12 flX12_80 rfl dX12_atOf_67 rfl ?_
          refine r_iload_n (i := 1) (x := x1) (q := 71) 1 hX dX12_atOf_70 rfl rfl rfl ?_
          refine r_ck (fun hc13 => ?_)
          refine r_iald (a := (rR M a0 30)) (i := x1) (q := 72) hX hc13 dX12_atOf_71 rfl ?_
          refine r_lf (hK _) ?_
          exact r_iret hM rfl (Nat.le_of_ble_eq_true rfl) (Nat.le_of_ble_eq_true rfl) dX12_atOf_72
        · refine r_ite (fun hb14 => ?_) (fun hb14 => ?_)
          · refine r_tswI (off := 72) (q := 73) hX hb14 dX12_atOf_1 (by decide) (by decide) ?_
            refine r_aload_n (i := 0) (x := a0) (q := 74) 0 hX dX12_atOf_73 rfl rfl rfl ?_
            refine r_iload_n (i := 1) (x := x1) (q := 75) 1 hX dX12_atOf_74 rfl rfl rfl ?_
            refine r_ck (fun hc15 => ?_)
            refine r_bind (fun v16 h17 => ?_)
            refine r_cv (a := a0) (As := [vi x1]) (st := []) (r := (some (vi v16))) (Z1 := Z) (M1 := M) (k1 := 0) (n1 := 0) (st1 := [vi v16]) (q := 78) hX (fun l => kX12_milesOf l Z M a0 x1 v16 h17) hc15 ivX12_milesOf ccX12_milesOf (Or.inl lkX12_257) rfl rfl rfl ⟨Nat.le_of_ble_eq_true rfl, Nat.le_of_ble_eq_true rfl, rfl, rfl, Nat.le_of_ble_eq_true rfl, Nat.le_of_ble_eq_true rfl⟩ (Nat.le_of_ble_eq_true rfl) dX12_atOf_75 rfl ?_
            refine r_lf (hK _) ?_
            exact r_iret hM rfl (Nat.le_of_ble_eq_true rfl) (Nat.le_of_ble_eq_true rfl) dX12_atOf_78
          · refine r_tswO (cs := [(0 : Int32), (1 : Int32), (2 : Int32), (3 : Int32), (4 : Int32)]) (q := 79) hX ⟨hb1, ⟨hb4, ⟨hb7, ⟨hb11, ⟨hb14, trivial⟩⟩⟩⟩⟩ dX12_atOf_1 (by decide) (by decide) ?_
            refine r_bipush (v := (-102 : Int32)) (q := 81) hX dX12_atOf_79 rfl rfl ?_
            refine r_lf (hK _) ?_
            exact r_iret hM rfl (Nat.le_of_ble_eq_true rfl) (Nat.le_of_ble_eq_true rfl) dX12_atOf_81
theorem lkX12_261 : Lk RX12 261 yX12_isBoat := gd (hcw7_2 _ (List.mem_of_getElem? (i := 0) rfl)) rfl
theorem lkX12_264 : Lk RX12 264 yX12_atOf := gd (hcw7_2 _ (List.mem_of_getElem? (i := 4) rfl)) rfl
def mX12_at : MD := (yX12_at, cX12_at, 3, (some .int), 2, 46, 0, 0)
theorem ccX12_at : Cc mX12_at 2 := ⟨gd (hcw1_0 _ (List.mem_of_getElem? (i := 10) rfl)) rfl, gd (hcw7_1 _ (List.mem_of_getElem? (i := 19) rfl)) rfl, by decide +kernel, by decide +kernel, by decide +kernel⟩
theorem ivX12_at : Iv mX12_at 12 := ⟨Nat.le_of_ble_eq_true rfl, rfl, gd (hcw7_1 _ (List.mem_of_getElem? (i := 17) rfl)) rfl, gd (hcw7_1 _ (List.mem_of_getElem? (i := 18) rfl)) rfl⟩
noncomputable def fX12_at (Z : Shp) (M : Mem) (a0 : Nat) (x1 : Int32) (x2 : Int32) : Option (Int32) := (if tg Z a0 = (13, 86) then (Option.bind (fX12_isBoat Z M a0 x1) (fun v2 => (if v2 = 0 then some (-101 : Int32) else (Option.bind (fX12_atOf Z M a0 x1 x2) (fun v5 => some v5))))) else none)
set_option maxRecDepth 20000 in
theorem kX12_at (l : Launch) (Z : Shp) (M : Mem) (a0 : Nat) (x1 : Int32) (x2 : Int32) (r : Int32) (h : fX12_at Z M a0 x1 x2 = some r) : Ct l mX12_at [vr a0, vi x1, vi x2] Z M ((some (vi r)), Z, M) := by
  refine Ct.of rfl (Nat.le_of_ble_eq_true rfl) (fun X hM => ?_)
  have hX := hM.1
  refine r_top (mk := fun r => ((some (vi r)), Z, M)) h (fun K hK => ?_)
  unfold fX12_at
  refine r_aload_n (i := 0) (x := a0) (q := 1) 0 hX dX12_at_0 rfl rfl rfl ?_
  refine r_iload_n (i := 1) (x := x1) (q := 2) 1 hX dX12_at_1 rfl rfl rfl ?_
  refine r_ck (fun hc1 => ?_)
  refine r_bind (fun v2 h3 => ?_)
  refine r_cv (a := a0) (As := [vi x1]) (st := []) (r := (some (vi v2))) (Z1 := Z) (M1 := M) (k1 := 0) (n1 := 0) (st1 := [vi v2]) (q := 5) hX (fun l => kX12_isBoat l Z M a0 x1 v2 h3) hc1 ivX12_isBoat ccX12_isBoat (Or.inl lkX12_261) rfl rfl rfl ⟨Nat.le_of_ble_eq_true rfl, Nat.le_of_ble_eq_true rfl, rfl, rfl, Nat.le_of_ble_eq_true rfl, Nat.le_of_ble_eq_true rfl⟩ (Nat.le_of_ble_eq_true rfl) dX12_at_2 rfl ?_
  refine r_if_eq (tgt := 17) (q := 8) hX dX12_at_5 (by decide) rfl (fun hb4 => ?_) (fun hb4 => ?_)
  · refine r_bipush (v := (-101 : Int32)) (q := 19) hX dX12_at_17 rfl rfl ?_
    refine r_lf (hK _) ?_
    exact r_iret hM rfl (Nat.le_of_ble_eq_true rfl) (Nat.le_of_ble_eq_true rfl) dX12_at_19
  · refine r_aload_n (i := 0) (x := a0) (q := 9) 0 hX dX12_at_8 rfl rfl rfl ?_
    refine r_iload_n (i := 1) (x := x1) (q := 10) 1 hX dX12_at_9 rfl rfl rfl ?_
    refine r_iload_n (i := 2) (x := x2) (q := 11) 2 hX dX12_at_10 rfl rfl rfl ?_
    refine r_bind (fun v5 h6 => ?_)
    refine r_cv (a := a0) (As := [vi x1, vi x2]) (st := []) (r := (some (vi v5))) (Z1 := Z) (M1 := M) (k1 := 0) (n1 := 0) (st1 := [vi v5]) (q := 14) hX (fun l => kX12_atOf l Z M a0 x1 x2 v5 h6) hc1 ivX12_atOf ccX12_atOf (Or.inl lkX12_264) rfl rfl rfl ⟨Nat.le_of_ble_eq_true rfl, Nat.le_of_ble_eq_true rfl, rfl, rfl, Nat.le_of_ble_eq_true rfl, Nat.le_of_ble_eq_true rfl⟩ (Nat.le_of_ble_eq_true rfl) dX12_at_11 rfl ?_
    refine r_goto (q := 19) hX dX12_at_14 (by decide) ?_
    refine r_lf (hK _) ?_
    exact r_iret hM rfl (Nat.le_of_ble_eq_true rfl) (Nat.le_of_ble_eq_true rfl) dX12_at_19
def mX12_isPound : MD := (yX12_isPound, cX12_isPound, 1, (some .boolean), 1, 25, 0, 0)
theorem ccX12_isPound : Cc mX12_isPound 1 := ⟨gd (hcw1_0 _ (List.mem_of_getElem? (i := 10) rfl)) rfl, gd (hcw6_11 _ (List.mem_of_getElem? (i := 0) rfl)) rfl, by decide +kernel, by decide +kernel, by decide +kernel⟩
theorem stX12_isPound : Cond.static (yN mX12_isPound) ∈ lw_gd := gd (hcw6_10 _ (List.mem_of_getElem? (i := 19) rfl)) rfl
def fX12_isPound (x0 : Int32) : Int32 := (fX12_in (x0.toInt64) (0 : Int64) (7 : Int64))
def gX12_isPound (x0 : Int32) : Option (Int32) := some (fX12_in (x0.toInt64) (0 : Int64) (7 : Int64))
theorem eX12_isPound (x0 : Int32) : gX12_isPound x0 = some (fX12_isPound x0) := rfl
theorem bX12_isPound (x0 : Int32) : zb (fX12_isPound x0) := (bX12_in (x0.toInt64) (0 : Int64) (7 : Int64))
set_option maxRecDepth 20000 in
theorem kX12_isPound (l : Launch) (Z : Shp) (M : Mem) (x0 : Int32) : Ct l mX12_isPound [vi x0] Z M ((some (vi (fX12_isPound x0))), Z, M) := by
  refine Ct.of rfl (Nat.le_of_ble_eq_true rfl) (fun X hM => ?_)
  have hX := hM.1
  refine r_top (mk := fun r => ((some (vi r)), Z, M)) (eX12_isPound x0) (fun K hK => ?_)
  unfold gX12_isPound
  refine r_iload_n (i := 0) (x := x0) (q := 1) 0 hX dX12_isPound_0 rfl rfl rfl ?_
  refine r_i2l (q := 2) hX dX12_isPound_1 rfl ?_
  refine r_lconst (v := (0 : Int64)) (q := 3) hX dX12_isPound_2 rfl rfl ?_
  refine r_ldc2 (v := (7 : Int64)) (q := 6) hX dX12_isPound_3 (gd (hcw6_11 _ (List.mem_of_getElem? (i := 1) rfl)) rfl) rfl ?_
  refine r_cs (As := [vj (x0.toInt64), vj (0 : Int64), vj (7 : Int64)]) (st := []) (r := (some (vi (fX12_in (x0.toInt64) (0 : Int64) (7 : Int64))))) (Z1 := Z) (M1 := M) (k1 := 0) (n1 := 0) (st1 := [vi (fX12_in (x0.toInt64) (0 : Int64) (7 : Int64))]) (q := 9) hX (fun l => kX12_in l Z M (x0.toInt64) (0 : Int64) (7 : Int64)) stX12_in ccX12_in (Or.inl lkX12_194) rfl rfl rfl ⟨Nat.le_of_ble_eq_true rfl, Nat.le_of_ble_eq_true rfl, rfl, rfl, Nat.le_of_ble_eq_true rfl, Nat.le_of_ble_eq_true rfl⟩ (Nat.le_of_ble_eq_true rfl) dX12_isPound_6 rfl ?_
  refine r_lf (hK _) ?_
  exact r_zret hM rfl (bX12_in (x0.toInt64) (0 : Int64) (7 : Int64)) (Nat.le_of_ble_eq_true rfl) (Nat.le_of_ble_eq_true rfl) dX12_isPound_9
theorem lkX12_198 : Lk RX12 198 yX12_isPound := gd (hcw6_10 _ (List.mem_of_getElem? (i := 18) rfl)) rfl
theorem flX12_440 : FL RX12 440 12 66 := ⟨Nat.le_of_ble_eq_true rfl, Nat.le_of_ble_eq_true rfl, gd (hcw6_1 _ (List.mem_of_getElem? (i := 1) rfl)) rfl⟩
theorem flX12_140 : FL RX12 140 12 67 := ⟨Nat.le_of_ble_eq_true rfl, Nat.le_of_ble_eq_true rfl, gd (hcw6_1 _ (List.mem_of_getElem? (i := 2) rfl)) rfl⟩
theorem flX12_143 : FL RX12 143 12 68 := ⟨Nat.le_of_ble_eq_true rfl, Nat.le_of_ble_eq_true rfl, gd (hcw6_1 _ (List.mem_of_getElem? (i := 3) rfl)) rfl⟩
def mX12_bank : MD := (yX12_bank, cX12_bank, 3, (some .int), 2, 45, 0, 0)
theorem ccX12_bank : Cc mX12_bank 2 := ⟨gd (hcw1_0 _ (List.mem_of_getElem? (i := 10) rfl)) rfl, gd (hcw8_1 _ (List.mem_of_getElem? (i := 0) rfl)) rfl, by decide +kernel, by decide +kernel, by decide +kernel⟩
theorem ivX12_bank : Iv mX12_bank 12 := ⟨Nat.le_of_ble_eq_true rfl, rfl, gd (hcw8_0 _ (List.mem_of_getElem? (i := 18) rfl)) rfl, gd (hcw8_0 _ (List.mem_of_getElem? (i := 19) rfl)) rfl⟩
def fX12_bank (Z : Shp) (M : Mem) (a0 : Nat) (x1 : Int32) (x2 : Int32) : Option (Int32 × Mem) := (if (fX12_isPound x1) = 0 then some ((-101 : Int32), M) else (if (fX12_in (x2.toInt64) (1 : Int64) (999 : Int64)) = 0 then some ((-102 : Int32), M) else (if tg Z a0 = (13, 86) then (if (rI M a0 66) = (10 : Int32) then some ((-104 : Int32), M) else (if aok Z (rR M a0 67) 100 (rI M a0 66) then (pu (wI M (rR M a0 67) (ix (rI M a0 66)) x1) (fun M6 => (if aok Z (rR M6 a0 68) 100 (rI M6 a0 66) then (pu (wI M6 (rR M6 a0 68) (ix (rI M6 a0 66)) x2) (fun M8 => (pu (wI M8 a0 66 ((rI M8 a0 66) + (1 : Int32))) (fun M9 => some (((rI M9 a0 66) - (1 : Int32)), M9))))) else none))) else none)) else none)))
set_option maxRecDepth 20000 in
theorem kX12_bank (l : Launch) (Z : Shp) (M : Mem) (a0 : Nat) (x1 : Int32) (x2 : Int32) (r : Int32 × Mem) (h : fX12_bank Z M a0 x1 x2 = some r) : Ct l mX12_bank [vr a0, vi x1, vi x2] Z M ((some (vi r.1)), Z, r.2) := by
  refine Ct.of rfl (Nat.le_of_ble_eq_true rfl) (fun X hM => ?_)
  have hX := hM.1
  refine r_top (mk := fun r => ((some (vi r.1)), Z, r.2)) h (fun K hK => ?_)
  unfold fX12_bank
  refine r_iload_n (i := 1) (x := x1) (q := 1) 1 hX dX12_bank_0 rfl rfl rfl ?_
  refine r_cs (As := [vi x1]) (st := []) (r := (some (vi (fX12_isPound x1)))) (Z1 := Z) (M1 := M) (k1 := 0) (n1 := 0) (st1 := [vi (fX12_isPound x1)]) (q := 4) hX (fun l => kX12_isPound l Z M x1) stX12_isPound ccX12_isPound (Or.inl lkX12_198) rfl rfl rfl ⟨Nat.le_of_ble_eq_true rfl, Nat.le_of_ble_eq_true rfl, rfl, rfl, Nat.le_of_ble_eq_true rfl, Nat.le_of_ble_eq_true rfl⟩ (Nat.le_of_ble_eq_true rfl) dX12_bank_1 rfl ?_
  refine r_if_ne (tgt := 10) (q := 7) hX dX12_bank_4 (by decide) rfl (fun hb1 => ?_) (fun hb1 => ?_)
  · refine r_bipush (v := (-101 : Int32)) (q := 9) hX dX12_bank_7 rfl rfl ?_
    refine r_lf (hK _) ?_
    exact r_iret hM rfl (Nat.le_of_ble_eq_true rfl) (Nat.le_of_ble_eq_true rfl) dX12_bank_9
  · refine r_iload_n (i := 2) (x := x2) (q := 11) 2 hX dX12_bank_10 rfl rfl rfl ?_
    refine r_i2l (q := 12) hX dX12_bank_11 rfl ?_
    refine r_lconst (v := (1 : Int64)) (q := 13) hX dX12_bank_12 rfl rfl ?_
    refine r_ldc2 (v := (999 : Int64)) (q := 16) hX dX12_bank_13 (gd (hcw8_1 _ (List.mem_of_getElem? (i := 1) rfl)) rfl) rfl ?_
    refine r_cs (As := [vj (x2.toInt64), vj (1 : Int64), vj (999 : Int64)]) (st := []) (r := (some (vi (fX12_in (x2.toInt64) (1 : Int64) (999 : Int64))))) (Z1 := Z) (M1 := M) (k1 := 0) (n1 := 0) (st1 := [vi (fX12_in (x2.toInt64) (1 : Int64) (999 : Int64))]) (q := 19) hX (fun l => kX12_in l Z M (x2.toInt64) (1 : Int64) (999 : Int64)) stX12_in ccX12_in (Or.inl lkX12_194) rfl rfl rfl ⟨Nat.le_of_ble_eq_true rfl, Nat.le_of_ble_eq_true rfl, rfl, rfl, Nat.le_of_ble_eq_true rfl, Nat.le_of_ble_eq_true rfl⟩ (Nat.le_of_ble_eq_true rfl) dX12_bank_16 rfl ?_
    refine r_if_ne (tgt := 25) (q := 22) hX dX12_bank_19 (by decide) rfl (fun hb2 => ?_) (fun hb2 => ?_)
    · refine r_bipush (v := (-102 : Int32)) (q := 24) hX dX12_bank_22 rfl rfl ?_
      refine r_lf (hK _) ?_
      exact r_iret hM rfl (Nat.le_of_ble_eq_true rfl) (Nat.le_of_ble_eq_true rfl) dX12_bank_24
    · refine r_aload_n (i := 0) (x := a0) (q := 26) 0 hX dX12_bank_25 rfl rfl rfl ?_
      refine r_ck (fun hc3 => ?_)
      refine r_getI (a := a0) (ci := 12) (kf := 66) (q := 29) hX hc3 flX12_440 rfl rfl dX12_bank_26 rfl ?_
      refine r_bipush (v := (10 : Int32)) (q := 31) hX dX12_bank_29 rfl rfl ?_
      refine r_icmp_ne (tgt := 37) (q := 34) hX dX12_bank_31 (by decide) rfl (fun hb4 => ?_) (fun hb4 => ?_)
      · refine r_bipush (v := (-104 : Int32)) (q := 36) hX dX12_bank_34 rfl rfl ?_
        refine r_lf (hK _) ?_
        exact r_iret hM rfl (Nat.le_of_ble_eq_true rfl) (Nat.le_of_ble_eq_true rfl) dX12_bank_36
      · refine r_aload_n (i := 0) (x := a0) (q := 38) 0 hX dX12_bank_37 rfl rfl rfl ?_
        refine r_getR (a := a0) (ci := 12) (kf := 67) (q := 41) hX hc3 flX12_140 rfl dX12_bank_38 rfl ?_
        refine r_aload_n (i := 0) (x := a0) (q := 42) 0 hX dX12_bank_41 rfl rfl rfl ?_
        refine r_getI (a := a0) (ci := 12) (kf := 66) (q := 45) hX hc3 flX12_440 rfl rfl dX12_bank_42 rfl ?_
        refine r_iload_n (i := 1) (x := x1) (q := 46) 1 hX dX12_bank_45 rfl rfl rfl ?_
        refine r_ck (fun hc5 => ?_)
        refine r_iast (a := (rR M a0 67)) (i := (rI M a0 66)) (x := x1) (q := 47) hX hc5 dX12_bank_46 rfl (fun M6 => ?_)
        refine r_aload_n (i := 0) (x := a0) (q := 48) 0 hX dX12_bank_47 rfl rfl rfl ?_
        refine r_getR (a := a0) (ci := 12) (kf := 68) (q := 51) hX hc3 flX12_143 rfl dX12_bank_48 rfl ?_
        refine r_aload_n (i := 0) (x := a0) (q := 52) 0 hX dX12_bank_51 rfl rfl rfl ?_
        refine r_getI (a := a0) (ci := 12) (kf := 66) (q := 55) hX hc3 flX12_440 rfl rfl dX12_bank_52 rfl ?_
        refine r_iload_n (i := 2) (x := x2) (q := 56) 2 hX dX12_bank_55 rfl rfl rfl ?_
        refine r_ck (fun hc7 => ?_)
        refine r_iast (a := (rR M6 a0 68)) (i := (rI M6 a0 66)) (x := x2) (q := 57) hX hc7 dX12_bank_56 rfl (fun M8 => ?_)
        refine r_aload_n (i := 0) (x := a0) (q := 58) 0 hX dX12_bank_57 rfl rfl rfl ?_
        refine r_dup (q := 59) hX dX12_bank_58 rfl rfl ?_
        refine r_getI (a := a0) (ci := 12) (kf := 66) (q := 62) hX hc3 flX12_440 rfl rfl dX12_bank_59 rfl ?_
        refine r_iconst (v := (1 : Int32)) (q := 63) hX dX12_bank_62 rfl rfl ?_
        refine r_iadd (q := 64) hX dX12_bank_63 rfl ?_
        refine r_putI (a := a0) (ci := 12) (kf := 66) (q := 67) hX hc3 flX12_440 rfl rfl (Or.inl rfl) rfl rfl dX12_bank_64 rfl (fun M9 => ?_)
        refine r_aload_n (i := 0) (x := a0) (q := 68) 0 hX dX12_bank_67 rfl rfl rfl ?_
        refine r_getI (a := a0) (ci := 12) (kf := 66) (q := 71) hX hc3 flX12_440 rfl rfl dX12_bank_68 rfl ?_
        refine r_iconst (v := (1 : Int32)) (q := 72) hX dX12_bank_71 rfl rfl ?_
        refine r_isub (q := 73) hX dX12_bank_72 rfl ?_
        refine r_lf (hK _) ?_
        exact r_iret hM rfl (Nat.le_of_ble_eq_true rfl) (Nat.le_of_ble_eq_true rfl) dX12_bank_73
theorem flX12_62 : FL RX12 62 12 24 := ⟨Nat.le_of_ble_eq_true rfl, Nat.le_of_ble_eq_true rfl, gd (hcw5_10 _ (List.mem_of_getElem? (i := 19) rfl)) rfl⟩
theorem flX12_189 : FL RX12 189 12 80 := ⟨Nat.le_of_ble_eq_true rfl, Nat.le_of_ble_eq_true rfl, gd (hcw6_1 _ (List.mem_of_getElem? (i := 15) rfl)) rfl⟩
def mX12_goesOver : MD := (yX12_goesOver, cX12_goesOver, 4, (some .boolean), 1, 22, 0, 0)
theorem ccX12_goesOver : Cc mX12_goesOver 2 := ⟨gd (hcw1_0 _ (List.mem_of_getElem? (i := 10) rfl)) rfl, gd (hcw8_5 _ (List.mem_of_getElem? (i := 1) rfl)) rfl, by decide +kernel, by decide +kernel, by decide +kernel⟩
theorem ivX12_goesOver : Iv mX12_goesOver 12 := ⟨Nat.le_of_ble_eq_true rfl, rfl, gd (hcw8_5 _ (List.mem_of_getElem? (i := 0) rfl)) rfl, gd (hps5 _ (List.mem_of_getElem? (i := 8) rfl)) rfl⟩
noncomputable def fX12_goesOver (Z : Shp) (M : Mem) (a0 : Nat) (x1 : Int32) (x2 : Int32) : Option (Int32) := (if tg Z a0 = (13, 86) then (if aok Z (rR M a0 24) 100 x1 then (Option.bind (fX12_milesOf Z M a0 x1) (fun v3 => (pu (((rI M (rR M a0 24) (ix x1)) * v3)) (fun z5 => (if (x2 * z5) ≤ (((rI M a0 80) * z5) / (10 : Int32)) then some (0 : Int32) else some (1 : Int32)))))) else none) else none)
set_option maxRecDepth 20000 in
theorem kX12_goesOver (l : Launch) (Z : Shp) (M : Mem) (a0 : Nat) (x1 : Int32) (x2 : Int32) (r : Int32) (h : fX12_goesOver Z M a0 x1 x2 = some r) : Ct l mX12_goesOver [vr a0, vi x1, vi x2] Z M ((some (vi r)), Z, M) := by
  refine Ct.of rfl (Nat.le_of_ble_eq_true rfl) (fun X hM => ?_)
  have hX := hM.1
  refine r_top (mk := fun r => ((some (vi r)), Z, M)) h (fun K hK => ?_)
  unfold fX12_goesOver
  refine r_aload_n (i := 0) (x := a0) (q := 1) 0 hX dX12_goesOver_0 rfl rfl rfl ?_
  refine r_ck (fun hc1 => ?_)
  refine r_getR (a := a0) (ci := 12) (kf := 24) (q := 4) hX hc1 flX12_62 rfl dX12_goesOver_1 rfl ?_
  refine r_iload_n (i := 1) (x := x1) (q := 5) 1 hX dX12_goesOver_4 rfl rfl rfl ?_
  refine r_ck (fun hc2 => ?_)
  refine r_iald (a := (rR M a0 24)) (i := x1) (q := 6) hX hc2 dX12_goesOver_5 rfl ?_
  refine r_aload_n (i := 0) (x := a0) (q := 7) 0 hX dX12_goesOver_6 rfl rfl rfl ?_
  refine r_iload_n (i := 1) (x := x1) (q := 8) 1 hX dX12_goesOver_7 rfl rfl rfl ?_
  refine r_bind (fun v3 h4 => ?_)
  refine r_cv (a := a0) (As := [vi x1]) (st := [vi (rI M (rR M a0 24) (ix x1))]) (r := (some (vi v3))) (Z1 := Z) (M1 := M) (k1 := 0) (n1 := 0) (st1 := [vi v3, vi (rI M (rR M a0 24) (ix x1))]) (q := 11) hX (fun l => kX12_milesOf l Z M a0 x1 v3 h4) hc1 ivX12_milesOf ccX12_milesOf (Or.inl lkX12_257) rfl rfl rfl ⟨Nat.le_of_ble_eq_true rfl, Nat.le_of_ble_eq_true rfl, rfl, rfl, Nat.le_of_ble_eq_true rfl, Nat.le_of_ble_eq_true rfl⟩ (Nat.le_of_ble_eq_true rfl) dX12_goesOver_8 rfl ?_
  refine r_imul (q := 12) hX dX12_goesOver_11 rfl ?_
  refine r_istore_nP (x := ((rI M (rR M a0 24) (ix x1)) * v3)) (q := 13) 3 [1, 2, 3, 0] (fun z5 => [(0, vr a0), (1, vi x1), (2, vi x2), (3, vi z5)]) hX dX12_goesOver_12 rfl (Nat.le_of_ble_eq_true rfl) (fun _ => rfl) rfl (fun z5 => ?_)
  refine r_aload_n (i := 0) (x := a0) (q := 14) 0 hX dX12_goesOver_13 rfl rfl rfl ?_
  refine r_getI (a := a0) (ci := 12) (kf := 80) (q := 17) hX hc1 flX12_189 rfl rfl dX12_goesOver_14 rfl ?_
  refine r_iload_n (i := 3) (x := z5) (q := 18) 3 hX dX12_goesOver_17 rfl rfl rfl ?_
  refine r_imul (q := 19) hX dX12_goesOver_18 rfl ?_
  refine r_bipush (v := (10 : Int32)) (q := 21) hX dX12_goesOver_19 rfl rfl ?_
  refine r_idiv (q := 22) hX dX12_goesOver_21 (by decide) rfl ?_
  refine r_iload_n (i := 2) (x := x2) (q := 23) 2 hX dX12_goesOver_22 rfl rfl rfl ?_
  refine r_iload_n (i := 3) (x := z5) (q := 24) 3 hX dX12_goesOver_23 rfl rfl rfl ?_
  refine r_imul (q := 25) hX dX12_goesOver_24 rfl ?_
  refine r_icmp_ge (tgt := 32) (q := 28) hX dX12_goesOver_25 (by decide) rfl (fun hb6 => ?_) (fun hb6 => ?_)
  · refine r_iconst (v := (0 : Int32)) (q := 33) hX dX12_goesOver_32 rfl rfl ?_
    refine r_lf (hK _) ?_
    exact r_zret hM rfl (Or.inl rfl) (Nat.le_of_ble_eq_true rfl) (Nat.le_of_ble_eq_true rfl) dX12_goesOver_33
  · refine r_iconst (v := (1 : Int32)) (q := 29) hX dX12_goesOver_28 rfl rfl ?_
    refine r_goto (q := 33) hX dX12_goesOver_29 (by decide) ?_
    refine r_lf (hK _) ?_
    exact r_zret hM rfl (Or.inr rfl) (Nat.le_of_ble_eq_true rfl) (Nat.le_of_ble_eq_true rfl) dX12_goesOver_33
theorem lkX12_469 : Lk RX12 469 yX12_goesOver := gd (hcw8_4 _ (List.mem_of_getElem? (i := 18) rfl)) rfl
def mX12_bestPence : MD := (yX12_bestPence, cX12_bestPence, 7, (some .int), 2, 45, 0, 0)
theorem ccX12_bestPence : Cc mX12_bestPence 1 := ⟨gd (hcw1_0 _ (List.mem_of_getElem? (i := 10) rfl)) rfl, gd (hcw8_5 _ (List.mem_of_getElem? (i := 5) rfl)) rfl, by decide +kernel, by decide +kernel, by decide +kernel⟩
theorem ivX12_bestPence : Iv mX12_bestPence 12 := ⟨Nat.le_of_ble_eq_true rfl, rfl, gd (hcw8_5 _ (List.mem_of_getElem? (i := 3) rfl)) rfl, gd (hcw8_5 _ (List.mem_of_getElem? (i := 4) rfl)) rfl⟩
noncomputable def fX12_bestPence (Z : Shp) (M : Mem) (a0 : Nat) (x1 : Int32) : Option (Int32) := (if (fX12_in (x1.toInt64) (0 : Int64) (1 : Int64)) = 0 then some (-102 : Int32) else (loop (fun s2 : Int32 × Int32 × Int32 => (if (100 : Int32) ≤ s2.2.2 then (if x1 = 0 then some (Sum.inr s2.1) else some (Sum.inr s2.2.1)) else (Option.bind (loop (fun s10 : Int32 × Int32 => (if tg Z a0 = (13, 86) then (if (rI M a0 21) ≤ s10.2 then some (Sum.inr s10.1) else (Option.bind (fX12_goesOver Z M a0 s10.2 s2.2.2) (fun v15 => (if v15 = 0 then (if aok Z (rR M a0 24) 100 s10.2 then (Option.bind (fX12_milesOf Z M a0 s10.2) (fun v19 => (pu ((s10.1 + ((s2.2.2 * (rI M (rR M a0 24) (ix s10.2))) * v19))) (fun z21 => some (Sum.inl (z21, (s10.2 + (1 : Int32)))))))) else none) else (pu ((s10.1 + (0 : Int32))) (fun z22 => some (Sum.inl (z22, (s10.2 + (1 : Int32)))))))))) else none)) ((0 : Int32), (0 : Int32))) (fun v9 : Int32 => (Option.bind (if v9 ≤ s2.2.1 then some s2.1 else some s2.2.2) (fun v26 : Int32 => (if v9 ≤ s2.2.1 then some (Sum.inl (v26, s2.2.1, (s2.2.2 + (1 : Int32)))) else some (Sum.inl (v26, v9, (s2.2.2 + (1 : Int32))))))))))) ((0 : Int32), (0 : Int32), (0 : Int32))))
set_option maxRecDepth 20000 in
theorem kX12_bestPence (l : Launch) (Z : Shp) (M : Mem) (a0 : Nat) (x1 : Int32) (r : Int32) (h : fX12_bestPence Z M a0 x1 = some r) : Ct l mX12_bestPence [vr a0, vi x1] Z M ((some (vi r)), Z, M) := by
  refine Ct.of rfl (Nat.le_of_ble_eq_true rfl) (fun X hM => ?_)
  have hX := hM.1
  refine r_top (mk := fun r => ((some (vi r)), Z, M)) h (fun K hK => ?_)
  unfold fX12_bestPence
  refine r_iload_n (i := 1) (x := x1) (q := 1) 1 hX dX12_bestPence_0 rfl rfl rfl ?_
  refine r_i2l (q := 2) hX dX12_bestPence_1 rfl ?_
  refine r_lconst (v := (0 : Int64)) (q := 3) hX dX12_bestPence_2 rfl rfl ?_
  refine r_lconst (v := (1 : Int64)) (q := 4) hX dX12_bestPence_3 rfl rfl ?_
  refine r_cs (As := [vj (x1.toInt64), vj (0 : Int64), vj (1 : Int64)]) (st := []) (r := (some (vi (fX12_in (x1.toInt64) (0 : Int64) (1 : Int64))))) (Z1 := Z) (M1 := M) (k1 := 0) (n1 := 0) (st1 := [vi (fX12_in (x1.toInt64) (0 : Int64) (1 : Int64))]) (q := 7) hX (fun l => kX12_in l Z M (x1.toInt64) (0 : Int64) (1 : Int64)) stX12_in ccX12_in (Or.inl lkX12_194) rfl rfl rfl ⟨Nat.le_of_ble_eq_true rfl, Nat.le_of_ble_eq_true rfl, rfl, rfl, Nat.le_of_ble_eq_true rfl, Nat.le_of_ble_eq_true rfl⟩ (Nat.le_of_ble_eq_true rfl) dX12_bestPence_4 rfl ?_
  refine r_if_ne (tgt := 13) (q := 10) hX dX12_bestPence_7 (by decide) rfl (fun hb1 => ?_) (fun hb1 => ?_)
  · refine r_bipush (v := (-102 : Int32)) (q := 12) hX dX12_bestPence_10 rfl rfl ?_
    refine r_lf (hK _) ?_
    exact r_iret hM rfl (Nat.le_of_ble_eq_true rfl) (Nat.le_of_ble_eq_true rfl) dX12_bestPence_12
  · refine r_iconst (v := (0 : Int32)) (q := 14) hX dX12_bestPence_13 rfl rfl ?_
    refine r_istore_n (x := (0 : Int32)) (q := 15) 2 [1, 2, 0] (L1 := [(0, vr a0), (1, vi x1), (2, vi (0 : Int32))]) hX dX12_bestPence_14 rfl (Nat.le_of_ble_eq_true rfl) rfl rfl ?_
    refine r_iconst (v := (0 : Int32)) (q := 16) hX dX12_bestPence_15 rfl rfl ?_
    refine r_istore_n (x := (0 : Int32)) (q := 17) 3 [1, 2, 3, 0] (L1 := [(0, vr a0), (1, vi x1), (2, vi (0 : Int32)), (3, vi (0 : Int32))]) hX dX12_bestPence_16 rfl (Nat.le_of_ble_eq_true rfl) rfl rfl ?_
    refine r_iconst (v := (0 : Int32)) (q := 18) hX dX12_bestPence_17 rfl rfl ?_
    refine r_istore (x := (0 : Int32)) (q := 20) 4 [1, 2, 3, 4, 0] (L1 := [(0, vr a0), (1, vi x1), (2, vi (0 : Int32)), (3, vi (0 : Int32)), (4, vi (0 : Int32))]) hX dX12_bestPence_18 (Nat.le_of_ble_eq_true rfl) rfl rfl ?_
    refine r_loop (Hd := fun (s2 : Int32 × Int32 × Int32) (P : Option Res) => Ref mX12_bestPence X 0 0 Z M 20 [(0, vr a0), (1, vi x1), (2, vi s2.1), (3, vi s2.2.1), (4, vi s2.2.2)] [] P) (fun _ => r_none) (fun s2 K1 hn3 hx4 => ?_) ((0 : Int32), (0 : Int32), (0 : Int32))
    refine r_iload (i := 4) (x := s2.2.2) (q := 22) 4 hX dX12_bestPence_20 rfl rfl ?_
    refine r_bipush (v := (100 : Int32)) (q := 24) hX dX12_bestPence_22 rfl rfl ?_
    refine r_icmp_ge (tgt := 117) (q := 27) hX dX12_bestPence_24 (by decide) rfl (fun hb5 => ?_) (fun hb5 => ?_)
    · refine r_iload_n (i := 1) (x := x1) (q := 118) 1 hX dX12_bestPence_117 rfl rfl rfl ?_
      refine r_if_ne (tgt := 125) (q := 121) hX dX12_bestPence_118 (by decide) rfl (fun hb6 => ?_) (fun hb6 => ?_)
      · refine r_iload_n (i := 2) (x := s2.1) (q := 122) 2 hX dX12_bestPence_121 rfl rfl rfl ?_
        refine r_goto (q := 126) hX dX12_bestPence_122 (by decide) ?_
        refine r_lf ((hx4 _).trans (hK _)) ?_
        exact r_iret hM rfl (Nat.le_of_ble_eq_true rfl) (Nat.le_of_ble_eq_true rfl) dX12_bestPence_126
      · refine r_iload_n (i := 3) (x := s2.2.1) (q := 126) 3 hX dX12_bestPence_125 rfl rfl rfl ?_
        refine r_lf ((hx4 _).trans (hK _)) ?_
        exact r_iret hM rfl (Nat.le_of_ble_eq_true rfl) (Nat.le_of_ble_eq_true rfl) dX12_bestPence_126
    · refine r_iconst (v := (0 : Int32)) (q := 28) hX dX12_bestPence_27 rfl rfl ?_
      refine r_istore (x := (0 : Int32)) (q := 30) 5 [1, 2, 3, 4, 5, 0] (L1 := [(0, vr a0), (1, vi x1), (2, vi s2.1), (3, vi s2.2.1), (4, vi s2.2.2), (5, vi (0 : Int32))]) hX dX12_bestPence_28 (Nat.le_of_ble_eq_true rfl) rfl rfl ?_
      refine r_iconst (v := (0 : Int32)) (q := 31) hX dX12_bestPence_30 rfl rfl ?_
      refine r_istore (x := (0 : Int32)) (q := 33) 6 [1, 2, 3, 4, 5, 6, 0] (L1 := [(0, vr a0), (1, vi x1), (2, vi s2.1), (3, vi s2.2.1), (4, vi s2.2.2), (5, vi (0 : Int32)), (6, vi (0 : Int32))]) hX dX12_bestPence_31 (Nat.le_of_ble_eq_true rfl) rfl rfl ?_
      refine r_jn (J := fun (v9 : Int32) (P : Option Res) => Ref mX12_bestPence X 0 0 Z M 85 [(0, vr a0), (1, vi x1), (2, vi s2.1), (3, vi s2.2.1), (4, vi s2.2.2), (5, vi v9)] [] P) (fun v9 => ?_) (fun K1 hj7 => ?_)
      · refine r_iload (i := 5) (x := v9) (q := 87) 5 hX dX12_bestPence_85 rfl rfl ?_
        refine r_iload_n (i := 3) (x := s2.2.1) (q := 88) 3 hX dX12_bestPence_87 rfl rfl rfl ?_
        refine r_jn (J := fun (v26 : Int32) (P : Option Res) => Ref mX12_bestPence X 0 0 Z M 97 [(0, vr a0), (1, vi x1), (3, vi s2.2.1), (4, vi s2.2.2), (5, vi v9)] [vi v26] P) (fun v26 => ?_) (fun K1 hj24 => ?_)
        · refine r_istore_n (x := v26) (q := 98) 2 [1, 2, 0, 3, 4, 5] (L1 := [(0, vr a0), (1, vi x1), (2, vi v26), (3, vi s2.2.1), (4, vi s2.2.2), (5, vi v9)]) hX dX12_bestPence_97 rfl (Nat.le_of_ble_eq_true rfl) rfl rfl ?_
          refine r_iload (i := 5) (x := v9) (q := 100) 5 hX dX12_bestPence_98 rfl rfl ?_
          refine r_iload_n (i := 3) (x := s2.2.1) (q := 101) 3 hX dX12_bestPence_100 rfl rfl rfl ?_
          refine r_icmp_le (tgt := 109) (q := 104) hX dX12_bestPence_101 (by decide) rfl (fun hb27 => ?_) (fun hb27 => ?_)
          · refine r_iload_n (i := 3) (x := s2.2.1) (q := 110) 3 hX dX12_bestPence_109 rfl rfl rfl ?_
            refine r_istore_n (x := s2.2.1) (q := 111) 3 [1, 2, 3, 0, 5, 6] (L1 := [(0, vr a0), (1, vi x1), (2, vi v26), (3, vi s2.2.1), (4, vi s2.2.2), (5, vi v9)]) hX dX12_bestPence_110 rfl (Nat.le_of_ble_eq_true rfl) rfl rfl ?_
            refine r_iinc (x := s2.2.2) (v := (s2.2.2 + (1 : Int32))) (q := 114) 4 4 [1, 2, 3, 4, 0, 6] (L1 := [(0, vr a0), (1, vi x1), (2, vi v26), (3, vi s2.2.1), (4, vi (s2.2.2 + (1 : Int32))), (5, vi v9)]) hX dX12_bestPence_111 rfl rfl (Nat.le_of_ble_eq_true rfl) rfl rfl ?_
            refine r_goto (q := 20) hX dX12_bestPence_114 (by decide) ?_
            refine r_l0 ?_
            refine r_sub [0, 1, 2, 3, 4] rfl ?_
            exact hn3 (v26, s2.2.1, (s2.2.2 + (1 : Int32)))
          · refine r_iload (i := 5) (x := v9) (q := 106) 5 hX dX12_bestPence_104 rfl rfl ?_
            refine r_goto (q := 110) hX dX12_bestPence_106 (by decide) ?_
            refine r_istore_n (x := v9) (q := 111) 3 [1, 2, 3, 0, 5, 6] (L1 := [(0, vr a0), (1, vi x1), (2, vi v26), (3, vi v9), (4, vi s2.2.2), (5, vi v9)]) hX dX12_bestPence_110 rfl (Nat.le_of_ble_eq_true rfl) rfl rfl ?_
            refine r_iinc (x := s2.2.2) (v := (s2.2.2 + (1 : Int32))) (q := 114) 4 4 [1, 2, 3, 4, 0, 6] (L1 := [(0, vr a0), (1, vi x1), (2, vi v26), (3, vi v9), (4, vi (s2.2.2 + (1 : Int32))), (5, vi v9)]) hX dX12_bestPence_111 rfl rfl (Nat.le_of_ble_eq_true rfl) rfl rfl ?_
            refine r_goto (q := 20) hX dX12_bestPence_114 (by decide) ?_
            refine r_l0 ?_
            refine r_sub [0, 1, 2, 3, 4] rfl ?_
            exact hn3 (v26, v9, (s2.2.2 + (1 : Int32)))
        · refine r_icmp_le (tgt := 96) (q := 91) hX dX12_bestPence_88 (by decide) rfl (fun hb23 => ?_) (fun hb23 => ?_)
          · refine r_iload_n (i := 2) (x := s2.1) (q := 97) 2 hX dX12_bestPence_96 rfl rfl rfl ?_
            refine r_l0 ?_
            refine r_sub [0, 1, 3, 4, 5] rfl ?_
            exact hj24 s2.1
          · refine r_iload (i := 4) (x := s2.2.2) (q := 93) 4 hX dX12_bestPence_91 rfl rfl ?_
            refine r_goto (q := 97) hX dX12_bestPence_93 (by decide) ?_
            refine r_l0 ?_
            refine r_sub [0, 1, 3, 4, 5] rfl ?_
            exact hj24 s2.2.2
      · refine r_loop (Hd := fun (s10 : Int32 × Int32) (P : Option Res) => Ref mX12_bestPence X 0 0 Z M 33 [(0, vr a0), (1, vi x1), (2, vi s2.1), (3, vi s2.2.1), (4, vi s2.2.2), (5, vi s10.1), (6, vi s10.2)] [] P) (fun _ => r_none) (fun s10 K1 hn11 hx12 => ?_) ((0 : Int32), (0 : Int32))
        refine r_iload (i := 6) (x := s10.2) (q := 35) 6 hX dX12_bestPence_33 rfl rfl ?_
        refine r_aload_n (i := 0) (x := a0) (q := 36) 0 hX dX12_bestPence_35 rfl rfl rfl ?_
        refine r_ck (fun hc13 => ?_)
        refine r_getI (a := a0) (ci := 12) (kf := 21) (q := 39) hX hc13 flX12_215 rfl rfl dX12_bestPence_36 rfl ?_
        refine r_icmp_ge (tgt := 85) (q := 42) hX dX12_bestPence_39 (by decide) rfl (fun hb14 => ?_) (fun hb14 => ?_)
        · refine r_lf (hx12 _) ?_
          refine r_sub [0, 1, 2, 3, 4, 5] rfl ?_
          exact hj7 s10.1
        · refine r_iload (i := 5) (x := s10.1) (q := 44) 5 hX dX12_bestPence_42 rfl rfl ?_
          refine r_aload_n (i := 0) (x := a0) (q := 45) 0 hX dX12_bestPence_44 rfl rfl rfl ?_
          refine r_iload (i := 6) (x := s10.2) (q := 47) 6 hX dX12_bestPence_45 rfl rfl ?_
          refine r_iload (i := 4) (x := s2.2.2) (q := 49) 4 hX dX12_bestPence_47 rfl rfl ?_
          refine r_bind (fun v15 h16 => ?_)
          refine r_cv (a := a0) (As := [vi s10.2, vi s2.2.2]) (st := [vi s10.1]) (r := (some (vi v15))) (Z1 := Z) (M1 := M) (k1 := 0) (n1 := 0) (st1 := [vi v15, vi s10.1]) (q := 52) hX (fun l => kX12_goesOver l Z M a0 s10.2 s2.2.2 v15 h16) hc13 ivX12_goesOver ccX12_goesOver (Or.inl lkX12_469) rfl rfl rfl ⟨Nat.le_of_ble_eq_true rfl, Nat.le_of_ble_eq_true rfl, rfl, rfl, Nat.le_of_ble_eq_true rfl, Nat.le_of_ble_eq_true rfl⟩ (Nat.le_of_ble_eq_true rfl) dX12_bestPence_49 rfl ?_
          refine r_if_eq (tgt := 59) (q := 55) hX dX12_bestPence_52 (by decide) rfl (fun hb17 => ?_) (fun hb17 => ?_)
          · refine r_iload (i := 4) (x := s2.2.2) (q := 61) 4 hX dX12_bestPence_59 rfl rfl ?_
            refine r_aload_n (i := 0) (x := a0) (q := 62) 0 hX dX12_bestPence_61 rfl rfl rfl ?_
            refine r_getR (a := a0) (ci := 12) (kf := 24) (q := 65) hX hc13 flX12_62 rfl dX12_bestPence_62 rfl ?_
            refine r_iload (i := 6) (x := s10.2) (q := 67) 6 hX dX12_bestPence_65 rfl rfl ?_
            refine r_ck (fun hc18 => ?_)
            refine r_iald (a := (rR M a0 24)) (i := s10.2) (q := 68) hX hc18 dX12_bestPence_67 rfl ?_
            refine r_imul (q := 69) hX dX12_bestPence_68 rfl ?_
            refine r_aload_n (i := 0) (x := a0) (q := 70) 0 hX dX12_bestPence_69 rfl rfl rfl ?_
            refine r_iload (i := 6) (x := s10.2) (q := 72) 6 hX dX12_bestPence_70 rfl rfl ?_
            refine r_bind (fun v19 h20 => ?_)
            refine r_cv (a := a0) (As := [vi s10.2]) (st := [vi (s2.2.2 * (rI M (rR M a0 24) (ix s10.2))), vi s10.1]) (r := (some (vi v19))) (Z1 := Z) (M1 := M) (k1 := 0) (n1 := 0) (st1 := [vi v19, vi (s2.2.2 * (rI M (rR M a0 24) (ix s10.2))), vi s10.1]) (q := 75) hX (fun l => kX12_milesOf l Z M a0 s10.2 v19 h20) hc13 ivX12_milesOf ccX12_milesOf (Or.inl lkX12_257) rfl rfl rfl ⟨Nat.le_of_ble_eq_true rfl, Nat.le_of_ble_eq_true rfl, rfl, rfl, Nat.le_of_ble_eq_true rfl, Nat.le_of_ble_eq_true rfl⟩ (Nat.le_of_ble_eq_true rfl) dX12_bestPence_72 rfl ?_
            refine r_imul (q := 76) hX dX12_bestPence_75 rfl ?_
            refine r_iadd (q := 77) hX dX12_bestPence_76 rfl ?_
            refine r_istoreP (x := (s10.1 + ((s2.2.2 * (rI M (rR M a0 24) (ix s10.2))) * v19))) (q := 79) 5 [1, 2, 3, 4, 5, 0, 7] (fun z21 => [(0, vr a0), (1, vi x1), (2, vi s2.1), (3, vi s2.2.1), (4, vi s2.2.2), (5, vi z21), (6, vi s10.2)]) hX dX12_bestPence_77 (Nat.le_of_ble_eq_true rfl) (fun _ => rfl) rfl (fun z21 => ?_)
            refine r_iinc (x := s10.2) (v := (s10.2 + (1 : Int32))) (q := 82) 6 6 [1, 2, 3, 4, 5, 6, 0] (L1 := [(0, vr a0), (1, vi x1), (2, vi s2.1), (3, vi s2.2.1), (4, vi s2.2.2), (5, vi z21), (6, vi (s10.2 + (1 : Int32)))]) hX dX12_bestPence_79 rfl rfl (Nat.le_of_ble_eq_true rfl) rfl rfl ?_
            refine r_goto (q := 33) hX dX12_bestPence_82 (by decide) ?_
            refine r_l0 ?_
            exact hn11 (z21, (s10.2 + (1 : Int32)))
          · refine r_iconst (v := (0 : Int32)) (q := 56) hX dX12_bestPence_55 rfl rfl ?_
            refine r_goto (q := 76) hX dX12_bestPence_56 (by decide) ?_
            refine r_iadd (q := 77) hX dX12_bestPence_76 rfl ?_
            refine r_istoreP (x := (s10.1 + (0 : Int32))) (q := 79) 5 [1, 2, 3, 4, 5, 0, 7] (fun z22 => [(0, vr a0), (1, vi x1), (2, vi s2.1), (3, vi s2.2.1), (4, vi s2.2.2), (5, vi z22), (6, vi s10.2)]) hX dX12_bestPence_77 (Nat.le_of_ble_eq_true rfl) (fun _ => rfl) rfl (fun z22 => ?_)
            refine r_iinc (x := s10.2) (v := (s10.2 + (1 : Int32))) (q := 82) 6 6 [1, 2, 3, 4, 5, 6, 0] (L1 := [(0, vr a0), (1, vi x1), (2, vi s2.1), (3, vi s2.2.1), (4, vi s2.2.2), (5, vi z22), (6, vi (s10.2 + (1 : Int32)))]) hX dX12_bestPence_79 rfl rfl (Nat.le_of_ble_eq_true rfl) rfl rfl ?_
            refine r_goto (q := 33) hX dX12_bestPence_82 (by decide) ?_
            refine r_l0 ?_
            exact hn11 (z22, (s10.2 + (1 : Int32)))
def mX12_isDay : MD := (yX12_isDay, cX12_isDay, 1, (some .boolean), 1, 25, 0, 0)
theorem ccX12_isDay : Cc mX12_isDay 1 := ⟨gd (hcw1_0 _ (List.mem_of_getElem? (i := 10) rfl)) rfl, gd (hcw7_9 _ (List.mem_of_getElem? (i := 10) rfl)) rfl, by decide +kernel, by decide +kernel, by decide +kernel⟩
theorem stX12_isDay : Cond.static (yN mX12_isDay) ∈ lw_gd := gd (hcw7_9 _ (List.mem_of_getElem? (i := 9) rfl)) rfl
def fX12_isDay (x0 : Int32) : Int32 := (fX12_in (x0.toInt64) (0 : Int64) (99 : Int64))
def gX12_isDay (x0 : Int32) : Option (Int32) := some (fX12_in (x0.toInt64) (0 : Int64) (99 : Int64))
theorem eX12_isDay (x0 : Int32) : gX12_isDay x0 = some (fX12_isDay x0) := rfl
theorem bX12_isDay (x0 : Int32) : zb (fX12_isDay x0) := (bX12_in (x0.toInt64) (0 : Int64) (99 : Int64))
set_option maxRecDepth 20000 in
theorem kX12_isDay (l : Launch) (Z : Shp) (M : Mem) (x0 : Int32) : Ct l mX12_isDay [vi x0] Z M ((some (vi (fX12_isDay x0))), Z, M) := by
  refine Ct.of rfl (Nat.le_of_ble_eq_true rfl) (fun X hM => ?_)
  have hX := hM.1
  refine r_top (mk := fun r => ((some (vi r)), Z, M)) (eX12_isDay x0) (fun K hK => ?_)
  unfold gX12_isDay
  refine r_iload_n (i := 0) (x := x0) (q := 1) 0 hX dX12_isDay_0 rfl rfl rfl ?_
  refine r_i2l (q := 2) hX dX12_isDay_1 rfl ?_
  refine r_lconst (v := (0 : Int64)) (q := 3) hX dX12_isDay_2 rfl rfl ?_
  refine r_ldc2 (v := (99 : Int64)) (q := 6) hX dX12_isDay_3 (gd (hcw7_9 _ (List.mem_of_getElem? (i := 11) rfl)) rfl) rfl ?_
  refine r_cs (As := [vj (x0.toInt64), vj (0 : Int64), vj (99 : Int64)]) (st := []) (r := (some (vi (fX12_in (x0.toInt64) (0 : Int64) (99 : Int64))))) (Z1 := Z) (M1 := M) (k1 := 0) (n1 := 0) (st1 := [vi (fX12_in (x0.toInt64) (0 : Int64) (99 : Int64))]) (q := 9) hX (fun l => kX12_in l Z M (x0.toInt64) (0 : Int64) (99 : Int64)) stX12_in ccX12_in (Or.inl lkX12_194) rfl rfl rfl ⟨Nat.le_of_ble_eq_true rfl, Nat.le_of_ble_eq_true rfl, rfl, rfl, Nat.le_of_ble_eq_true rfl, Nat.le_of_ble_eq_true rfl⟩ (Nat.le_of_ble_eq_true rfl) dX12_isDay_6 rfl ?_
  refine r_lf (hK _) ?_
  exact r_zret hM rfl (bX12_in (x0.toInt64) (0 : Int64) (99 : Int64)) (Nat.le_of_ble_eq_true rfl) (Nat.le_of_ble_eq_true rfl) dX12_isDay_9
theorem flX12_104 : FL RX12 104 12 40 := ⟨Nat.le_of_ble_eq_true rfl, Nat.le_of_ble_eq_true rfl, gd (hcw5_11 _ (List.mem_of_getElem? (i := 15) rfl)) rfl⟩
theorem flX12_107 : FL RX12 107 12 41 := ⟨Nat.le_of_ble_eq_true rfl, Nat.le_of_ble_eq_true rfl, gd (hcw5_11 _ (List.mem_of_getElem? (i := 16) rfl)) rfl⟩
theorem flX12_122 : FL RX12 122 12 56 := ⟨Nat.le_of_ble_eq_true rfl, Nat.le_of_ble_eq_true rfl, gd (hcw6_0 _ (List.mem_of_getElem? (i := 11) rfl)) rfl⟩
theorem flX12_68 : FL RX12 68 12 26 := ⟨Nat.le_of_ble_eq_true rfl, Nat.le_of_ble_eq_true rfl, gd (hcw5_11 _ (List.mem_of_getElem? (i := 1) rfl)) rfl⟩
theorem flX12_71 : FL RX12 71 12 27 := ⟨Nat.le_of_ble_eq_true rfl, Nat.le_of_ble_eq_true rfl, gd (hcw5_11 _ (List.mem_of_getElem? (i := 2) rfl)) rfl⟩
theorem flX12_110 : FL RX12 110 12 42 := ⟨Nat.le_of_ble_eq_true rfl, Nat.le_of_ble_eq_true rfl, gd (hcw5_11 _ (List.mem_of_getElem? (i := 17) rfl)) rfl⟩
def mX12_holdsFor : MD := (yX12_holdsFor, cX12_holdsFor, 10, (some .boolean), 1, 22, 0, 0)
theorem ccX12_holdsFor : Cc mX12_holdsFor 3 := ⟨gd (hcw1_0 _ (List.mem_of_getElem? (i := 10) rfl)) rfl, gd (hcw7_10 _ (List.mem_of_getElem? (i := 11) rfl)) rfl, by decide +kernel, by decide +kernel, by decide +kernel⟩
theorem ivX12_holdsFor : Iv mX12_holdsFor 12 := ⟨Nat.le_of_ble_eq_true rfl, rfl, gd (hcw7_10 _ (List.mem_of_getElem? (i := 10) rfl)) rfl, gd (hps5 _ (List.mem_of_getElem? (i := 0) rfl)) rfl⟩
set_option maxRecDepth 20000 in
noncomputable def fX12_holdsFor (Z : Shp) (M : Mem) (a0 : Nat) (x1 : Int32) (x2 : Int32) (x3 : Int32) : Option (Int32 × Mem) := (Option.bind (loop (fun s4 : Int32 × Int32 × Mem => (if tg Z a0 = (13, 86) then (if aok Z (rR s4.2.2 a0 40) 100 x1 then (if (rI s4.2.2 (rR s4.2.2 a0 40) (ix x1)) ≤ s4.2.1 then some (Sum.inr (s4.1, s4.2.2)) else (if aok Z (rR s4.2.2 a0 41) 100 (((60 : Int32) * x1) + s4.2.1) then (pu ((rI s4.2.2 (rR s4.2.2 a0 41) (ix (((60 : Int32) * x1) + s4.2.1)))) (fun z11 => (if (15 : Int32) ≤ z11 then (if z11 = (15 : Int32) then (if aok Z (rR s4.2.2 a0 56) 101 (s4.1 - (1 : Int32)) then (if (rI s4.2.2 (rR s4.2.2 a0 56) (ix (s4.1 - (1 : Int32)))) = 0 then (pu (wI s4.2.2 (rR s4.2.2 a0 56) (ix (s4.1 - (1 : Int32))) (1 : Int32)) (fun M16 => some (Sum.inl (s4.1, (s4.2.1 + (1 : Int32)), M16)))) else (pu (wI s4.2.2 (rR s4.2.2 a0 56) (ix (s4.1 - (1 : Int32))) (0 : Int32)) (fun M17 => some (Sum.inl (s4.1, (s4.2.1 + (1 : Int32)), M17))))) else none) else (if z11 = (16 : Int32) then (if aok Z (rR s4.2.2 a0 56) 101 ((s4.1 + (-1 : Int32)) - (1 : Int32)) then (if (rI s4.2.2 (rR s4.2.2 a0 56) (ix ((s4.1 + (-1 : Int32)) - (1 : Int32)))) = 0 then (pu (wI s4.2.2 (rR s4.2.2 a0 56) (ix ((s4.1 + (-1 : Int32)) - (1 : Int32))) (0 : Int32)) (fun M21 => some (Sum.inl ((s4.1 + (-1 : Int32)), (s4.2.1 + (1 : Int32)), M21)))) else (if aok Z (rR s4.2.2 a0 56) 101 (s4.1 + (-1 : Int32)) then (if (rI s4.2.2 (rR s4.2.2 a0 56) (ix (s4.1 + (-1 : Int32)))) = 0 then (pu (wI s4.2.2 (rR s4.2.2 a0 56) (ix ((s4.1 + (-1 : Int32)) - (1 : Int32))) (0 : Int32)) (fun M24 => some (Sum.inl ((s4.1 + (-1 : Int32)), (s4.2.1 + (1 : Int32)), M24)))) else (pu (wI s4.2.2 (rR s4.2.2 a0 56) (ix ((s4.1 + (-1 : Int32)) - (1 : Int32))) (1 : Int32)) (fun M25 => some (Sum.inl ((s4.1 + (-1 : Int32)), (s4.2.1 + (1 : Int32)), M25))))) else none)) else none) else (if aok Z (rR s4.2.2 a0 56) 101 ((s4.1 + (-1 : Int32)) - (1 : Int32)) then (if (rI s4.2.2 (rR s4.2.2 a0 56) (ix ((s4.1 + (-1 : Int32)) - (1 : Int32)))) = 0 then (if aok Z (rR s4.2.2 a0 56) 101 (s4.1 + (-1 : Int32)) then (if (rI s4.2.2 (rR s4.2.2 a0 56) (ix (s4.1 + (-1 : Int32)))) = 0 then (pu (wI s4.2.2 (rR s4.2.2 a0 56) (ix ((s4.1 + (-1 : Int32)) - (1 : Int32))) (0 : Int32)) (fun M30 => some (Sum.inl ((s4.1 + (-1 : Int32)), (s4.2.1 + (1 : Int32)), M30)))) else (pu (wI s4.2.2 (rR s4.2.2 a0 56) (ix ((s4.1 + (-1 : Int32)) - (1 : Int32))) (1 : Int32)) (fun M31 => some (Sum.inl ((s4.1 + (-1 : Int32)), (s4.2.1 + (1 : Int32)), M31))))) else none) else (pu (wI s4.2.2 (rR s4.2.2 a0 56) (ix ((s4.1 + (-1 : Int32)) - (1 : Int32))) (1 : Int32)) (fun M32 => some (Sum.inl ((s4.1 + (-1 : Int32)), (s4.2.1 + (1 : Int32)), M32))))) else none))) else (pu ((z11 / (3 : Int32))) (fun z33 => (Option.bind (if z33 = 0 then (if aok Z (rR s4.2.2 a0 24) 100 x2 then some (rI s4.2.2 (rR s4.2.2 a0 24) (ix x2)) else none) else (if z33 = (1 : Int32) then (Option.bind (fX12_milesOf Z s4.2.2 a0 x2) (fun v40 => some v40)) else (if z33 = (2 : Int32) then (if aok Z (rR s4.2.2 a0 26) 100 x2 then some (rI s4.2.2 (rR s4.2.2 a0 26) (ix x2)) else none) else (if z33 = (3 : Int32) then (if aok Z (rR s4.2.2 a0 27) 100 x2 then some (rI s4.2.2 (rR s4.2.2 a0 27) (ix x2)) else none) else some x3)))) (fun v37 : Int32 => (if aok Z (rR s4.2.2 a0 42) 100 (((60 : Int32) * x1) + s4.2.1) then (pu ((rI s4.2.2 (rR s4.2.2 a0 42) (ix (((60 : Int32) * x1) + s4.2.1)))) (fun z47 => (if (z11 - z11 / (3 : Int32) * (3 : Int32)) = 0 then (if z47 ≤ v37 then (if aok Z (rR s4.2.2 a0 56) 101 s4.1 then (pu (wI s4.2.2 (rR s4.2.2 a0 56) (ix s4.1) (0 : Int32)) (fun M51 => some (Sum.inl ((s4.1 + (1 : Int32)), (s4.2.1 + (1 : Int32)), M51)))) else none) else (if aok Z (rR s4.2.2 a0 56) 101 s4.1 then (pu (wI s4.2.2 (rR s4.2.2 a0 56) (ix s4.1) (1 : Int32)) (fun M53 => some (Sum.inl ((s4.1 + (1 : Int32)), (s4.2.1 + (1 : Int32)), M53)))) else none)) else (if (z11 - z11 / (3 : Int32) * (3 : Int32)) = (1 : Int32) then (if v37 = z47 then (if aok Z (rR s4.2.2 a0 56) 101 s4.1 then (pu (wI s4.2.2 (rR s4.2.2 a0 56) (ix s4.1) (1 : Int32)) (fun M57 => some (Sum.inl ((s4.1 + (1 : Int32)), (s4.2.1 + (1 : Int32)), M57)))) else none) else (if aok Z (rR s4.2.2 a0 56) 101 s4.1 then (pu (wI s4.2.2 (rR s4.2.2 a0 56) (ix s4.1) (0 : Int32)) (fun M59 => some (Sum.inl ((s4.1 + (1 : Int32)), (s4.2.1 + (1 : Int32)), M59)))) else none)) else (if v37 ≤ z47 then (if aok Z (rR s4.2.2 a0 56) 101 s4.1 then (pu (wI s4.2.2 (rR s4.2.2 a0 56) (ix s4.1) (0 : Int32)) (fun M62 => some (Sum.inl ((s4.1 + (1 : Int32)), (s4.2.1 + (1 : Int32)), M62)))) else none) else (if aok Z (rR s4.2.2 a0 56) 101 s4.1 then (pu (wI s4.2.2 (rR s4.2.2 a0 56) (ix s4.1) (1 : Int32)) (fun M64 => some (Sum.inl ((s4.1 + (1 : Int32)), (s4.2.1 + (1 : Int32)), M64)))) else none)))))) else none)))))))) else none)) else none) else none)) ((0 : Int32), (0 : Int32), M)) (fun v3 : Int32 × Mem => (if v3.1 = 0 then some ((1 : Int32), v3.2) else (if tg Z a0 = (13, 86) then (if aok Z (rR v3.2 a0 56) 101 (0 : Int32) then (if (rI v3.2 (rR v3.2 a0 56) (ix (0 : Int32))) = 0 then some ((0 : Int32), v3.2) else some ((1 : Int32), v3.2)) else none) else none))))
set_option maxRecDepth 20000 in
theorem kX12_holdsFor (l : Launch) (Z : Shp) (M : Mem) (a0 : Nat) (x1 : Int32) (x2 : Int32) (x3 : Int32) (r : Int32 × Mem) (h : fX12_holdsFor Z M a0 x1 x2 x3 = some r) : Ct l mX12_holdsFor [vr a0, vi x1, vi x2, vi x3] Z M ((some (vi r.1)), Z, r.2) := by
  refine Ct.of rfl (Nat.le_of_ble_eq_true rfl) (fun X hM => ?_)
  have hX := hM.1
  refine r_top (mk := fun r => ((some (vi r.1)), Z, r.2)) h (fun K hK => ?_)
  unfold fX12_holdsFor
  refine r_iconst (v := (0 : Int32)) (q := 1) hX dX12_holdsFor_0 rfl rfl ?_
  refine r_istore (x := (0 : Int32)) (q := 3) 4 [1, 2, 3, 4, 0] (L1 := [(0, vr a0), (1, vi x1), (2, vi x2), (3, vi x3), (4, vi (0 : Int32))]) hX dX12_holdsFor_1 (Nat.le_of_ble_eq_true rfl) rfl rfl ?_
  refine r_iconst (v := (0 : Int32)) (q := 4) hX dX12_holdsFor_3 rfl rfl ?_
  refine r_istore (x := (0 : Int32)) (q := 6) 5 [1, 2, 3, 4, 5, 0] (L1 := [(0, vr a0), (1, vi x1), (2, vi x2), (3, vi x3), (4, vi (0 : Int32)), (5, vi (0 : Int32))]) hX dX12_holdsFor_4 (Nat.le_of_ble_eq_true rfl) rfl rfl ?_
  refine r_jn (J := fun (v3 : Int32 × Mem) (P : Option Res) => Ref mX12_holdsFor X 0 0 Z v3.2 307 [(0, vr a0), (4, vi v3.1)] [] P) (fun v3 => ?_) (fun K1 hj1 => ?_)
  · refine r_iload (i := 4) (x := v3.1) (q := 309) 1 hX dX12_holdsFor_307 rfl rfl ?_
    refine r_if_eq (tgt := 321) (q := 312) hX dX12_holdsFor_309 (by decide) rfl (fun hb65 => ?_) (fun hb65 => ?_)
    · refine r_iconst (v := (1 : Int32)) (q := 322) hX dX12_holdsFor_321 rfl rfl ?_
      refine r_goto (q := 326) hX dX12_holdsFor_322 (by decide) ?_
      refine r_lf (hK _) ?_
      exact r_zret hM rfl (Or.inr rfl) (Nat.le_of_ble_eq_true rfl) (Nat.le_of_ble_eq_true rfl) dX12_holdsFor_326
    · refine r_aload_n (i := 0) (x := a0) (q := 313) 0 hX dX12_holdsFor_312 rfl rfl rfl ?_
      refine r_ck (fun hc66 => ?_)
      refine r_getR (a := a0) (ci := 12) (kf := 56) (q := 316) hX hc66 flX12_122 rfl dX12_holdsFor_313 rfl ?_
      refine r_iconst (v := (0 : Int32)) (q := 317) hX dX12_holdsFor_316 rfl rfl ?_
      refine r_ck (fun hc67 => ?_)
      refine r_zald (a := (rR v3.2 a0 56)) (i := (0 : Int32)) (q := 318) hX hc67 dX12_holdsFor_317 rfl ?_
      refine r_if_eq (tgt := 325) (q := 321) hX dX12_holdsFor_318 (by decide) rfl (fun hb68 => ?_) (fun hb68 => ?_)
      · refine r_iconst (v := (0 : Int32)) (q := 326) hX dX12_holdsFor_325 rfl rfl ?_
        refine r_lf (hK _) ?_
        exact r_zret hM rfl (Or.inl rfl) (Nat.le_of_ble_eq_true rfl) (Nat.le_of_ble_eq_true rfl) dX12_holdsFor_326
      · refine r_iconst (v := (1 : Int32)) (q := 322) hX dX12_holdsFor_321 rfl rfl ?_
        refine r_goto (q := 326) hX dX12_holdsFor_322 (by decide) ?_
        refine r_lf (hK _) ?_
        exact r_zret hM rfl (Or.inr rfl) (Nat.le_of_ble_eq_true rfl) (Nat.le_of_ble_eq_true rfl) dX12_holdsFor_326
  · refine r_loop (Hd := fun (s4 : Int32 × Int32 × Mem) (P : Option Res) => Ref mX12_holdsFor X 0 0 Z s4.2.2 6 [(0, vr a0), (1, vi x1), (2, vi x2), (3, vi x3), (4, vi s4.1), (5, vi s4.2.1)] [] P) (fun _ => r_none) (fun s4 K1 hn5 hx6 => ?_) ((0 : Int32), (0 : Int32), M)
    refine r_iload (i := 5) (x := s4.2.1) (q := 8) 5 hX dX12_holdsFor_6 rfl rfl ?_
    refine r_aload_n (i := 0) (x := a0) (q := 9) 0 hX dX12_holdsFor_8 rfl rfl rfl ?_
    refine r_ck (fun hc7 => ?_)
    refine r_getR (a := a0) (ci := 12) (kf := 40) (q := 12) hX hc7 flX12_104 rfl dX12_holdsFor_9 rfl ?_
    refine r_iload_n (i := 1) (x := x1) (q := 13) 1 hX dX12_holdsFor_12 rfl rfl rfl ?_
    refine r_ck (fun hc8 => ?_)
    refine r_iald (a := (rR s4.2.2 a0 40)) (i := x1) (q := 14) hX hc8 dX12_holdsFor_13 rfl ?_
    refine r_icmp_ge (tgt := 307) (q := 17) hX dX12_holdsFor_14 (by decide) rfl (fun hb9 => ?_) (fun hb9 => ?_)
    · refine r_lf (hx6 _) ?_
      refine r_sub [0, 4] rfl ?_
      exact hj1 (s4.1, s4.2.2)
    · refine r_aload_n (i := 0) (x := a0) (q := 18) 0 hX dX12_holdsFor_17 rfl rfl rfl ?_
      refine r_getR (a := a0) (ci := 12) (kf := 41) (q := 21) hX hc7 flX12_107 rfl dX12_holdsFor_18 rfl ?_
      refine r_bipush (v := (60 : Int32)) (q := 23) hX dX12_holdsFor_21 rfl rfl ?_
      refine r_iload_n (i := 1) (x := x1) (q := 24) 1 hX dX12_holdsFor_23 rfl rfl rfl ?_
      refine r_imul (q := 25) hX dX12_holdsFor_24 rfl ?_
      refine r_iload (i := 5) (x := s4.2.1) (q := 27) 5 hX dX12_holdsFor_25 rfl rfl ?_
      refine r_iadd (q := 28) hX dX12_holdsFor_27 rfl ?_
      refine r_ck (fun hc10 => ?_)
      refine r_iald (a := (rR s4.2.2 a0 41)) (i := (((60 : Int32) * x1) + s4.2.1)) (q := 29) hX hc10 dX12_holdsFor_28 rfl ?_
      refine r_istoreP (x := (rI s4.2.2 (rR s4.2.2 a0 41) (ix (((60 : Int32) * x1) + s4.2.1)))) (q := 31) 6 [1, 2, 3, 4, 5, 6, 0] (fun z11 => [(0, vr a0), (1, vi x1), (2, vi x2), (3, vi x3), (4, vi s4.1), (5, vi s4.2.1), (6, vi z11)]) hX dX12_holdsFor_29 (Nat.le_of_ble_eq_true rfl) (fun _ => rfl) rfl (fun z11 => ?_)
      refine r_iload (i := 6) (x := z11) (q := 33) 6 hX dX12_holdsFor_31 rfl rfl ?_
      refine r_bipush (v := (15 : Int32)) (q := 35) hX dX12_holdsFor_33 rfl rfl ?_
      refine r_icmp_ge (tgt := 189) (q := 38) hX dX12_holdsFor_35 (by decide) rfl (fun hb12 => ?_) (fun hb12 => ?_)
      · refine r_iload (i := 6) (x := z11) (q := 191) 6 hX dX12_holdsFor_189 rfl rfl ?_
        refine r_bipush (v := (15 : Int32)) (q := 193) hX dX12_holdsFor_191 rfl rfl ?_
        refine r_icmp_ne (tgt := 225) (q := 196) hX dX12_holdsFor_193 (by decide) rfl (fun hb13 => ?_) (fun hb13 => ?_)
        · refine r_aload_n (i := 0) (x := a0) (q := 197) 0 hX dX12_holdsFor_196 rfl rfl rfl ?_
          refine r_getR (a := a0) (ci := 12) (kf := 56) (q := 200) hX hc7 flX12_122 rfl dX12_holdsFor_197 rfl ?_
          refine r_iload (i := 4) (x := s4.1) (q := 202) 4 hX dX12_holdsFor_200 rfl rfl ?_
          refine r_iconst (v := (1 : Int32)) (q := 203) hX dX12_holdsFor_202 rfl rfl ?_
          refine r_isub (q := 204) hX dX12_holdsFor_203 rfl ?_
          refine r_aload_n (i := 0) (x := a0) (q := 205) 0 hX dX12_holdsFor_204 rfl rfl rfl ?_
          refine r_getR (a := a0) (ci := 12) (kf := 56) (q := 208) hX hc7 flX12_122 rfl dX12_holdsFor_205 rfl ?_
          refine r_iload (i := 4) (x := s4.1) (q := 210) 4 hX dX12_holdsFor_208 rfl rfl ?_
          refine r_iconst (v := (1 : Int32)) (q := 211) hX dX12_holdsFor_210 rfl rfl ?_
          refine r_isub (q := 212) hX dX12_holdsFor_211 rfl ?_
          refine r_ck (fun hc14 => ?_)
          refine r_zald (a := (rR s4.2.2 a0 56)) (i := (s4.1 - (1 : Int32))) (q := 213) hX hc14 dX12_holdsFor_212 rfl ?_
          refine r_if_ne (tgt := 220) (q := 216) hX dX12_holdsFor_213 (by decide) rfl (fun hb15 => ?_) (fun hb15 => ?_)
          · refine r_iconst (v := (1 : Int32)) (q := 217) hX dX12_holdsFor_216 rfl rfl ?_
            refine r_goto (q := 221) hX dX12_holdsFor_217 (by decide) ?_
            refine r_zast (a := (rR s4.2.2 a0 56)) (i := (s4.1 - (1 : Int32))) (x := (1 : Int32)) (q := 222) hX hc14 (Or.inr rfl) dX12_holdsFor_221 rfl (fun M16 => ?_)
            refine r_goto (q := 301) hX dX12_holdsFor_222 (by decide) ?_
            refine r_iinc (x := s4.2.1) (v := (s4.2.1 + (1 : Int32))) (q := 304) 5 5 [1, 2, 3, 4, 5, 0, 7] (L1 := [(0, vr a0), (1, vi x1), (2, vi x2), (3, vi x3), (4, vi s4.1), (5, vi (s4.2.1 + (1 : Int32))), (6, vi z11)]) hX dX12_holdsFor_301 rfl rfl (Nat.le_of_ble_eq_true rfl) rfl rfl ?_
            refine r_goto (q := 6) hX dX12_holdsFor_304 (by decide) ?_
            refine r_l0 ?_
            refine r_sub [0, 1, 2, 3, 4, 5] rfl ?_
            exact hn5 (s4.1, (s4.2.1 + (1 : Int32)), M16)
          · refine r_iconst (v := (0 : Int32)) (q := 221) hX dX12_holdsFor_220 rfl rfl ?_
            refine r_zast (a := (rR s4.2.2 a0 56)) (i := (s4.1 - (1 : Int32))) (x := (0 : Int32)) (q := 222) hX hc14 (Or.inl rfl) dX12_holdsFor_221 rfl (fun M17 => ?_)
            refine r_goto (q := 301) hX dX12_holdsFor_222 (by decide) ?_
            refine r_iinc (x := s4.2.1) (v := (s4.2.1 + (1 : Int32))) (q := 304) 5 5 [1, 2, 3, 4, 5, 0, 7] (L1 := [(0, vr a0), (1, vi x1), (2, vi x2), (3, vi x3), (4, vi s4.1), (5, vi (s4.2.1 + (1 : Int32))), (6, vi z11)]) hX dX12_holdsFor_301 rfl rfl (Nat.le_of_ble_eq_true rfl) rfl rfl ?_
            refine r_goto (q := 6) hX dX12_holdsFor_304 (by decide) ?_
            refine r_l0 ?_
            refine r_sub [0, 1, 2, 3, 4, 5] rfl ?_
            exact hn5 (s4.1, (s4.2.1 + (1 : Int32)), M17)
        · refine r_iinc (x := s4.1) (v := (s4.1 + (-1 : Int32))) (q := 228) 4 4 [1, 2, 3, 4, 0, 6, 7] (L1 := [(0, vr a0), (1, vi x1), (2, vi x2), (3, vi x3), (4, vi (s4.1 + (-1 : Int32))), (5, vi s4.2.1), (6, vi z11)]) hX dX12_holdsFor_225 rfl rfl (Nat.le_of_ble_eq_true rfl) rfl rfl ?_
          refine r_aload_n (i := 0) (x := a0) (q := 229) 0 hX dX12_holdsFor_228 rfl rfl rfl ?_
          refine r_getR (a := a0) (ci := 12) (kf := 56) (q := 232) hX hc7 flX12_122 rfl dX12_holdsFor_229 rfl ?_
          refine r_iload (i := 4) (x := (s4.1 + (-1 : Int32))) (q := 234) 4 hX dX12_holdsFor_232 rfl rfl ?_
          refine r_iconst (v := (1 : Int32)) (q := 235) hX dX12_holdsFor_234 rfl rfl ?_
          refine r_isub (q := 236) hX dX12_holdsFor_235 rfl ?_
          refine r_iload (i := 6) (x := z11) (q := 238) 6 hX dX12_holdsFor_236 rfl rfl ?_
          refine r_bipush (v := (16 : Int32)) (q := 240) hX dX12_holdsFor_238 rfl rfl ?_
          refine r_icmp_ne (tgt := 273) (q := 243) hX dX12_holdsFor_240 (by decide) rfl (fun hb18 => ?_) (fun hb18 => ?_)
          · refine r_aload_n (i := 0) (x := a0) (q := 244) 0 hX dX12_holdsFor_243 rfl rfl rfl ?_
            refine r_getR (a := a0) (ci := 12) (kf := 56) (q := 247) hX hc7 flX12_122 rfl dX12_holdsFor_244 rfl ?_
            refine r_iload (i := 4) (x := (s4.1 + (-1 : Int32))) (q := 249) 4 hX dX12_holdsFor_247 rfl rfl ?_
            refine r_iconst (v := (1 : Int32)) (q := 250) hX dX12_holdsFor_249 rfl rfl ?_
            refine r_isub (q := 251) hX dX12_holdsFor_250 rfl ?_
            refine r_ck (fun hc19 => ?_)
            refine r_zald (a := (rR s4.2.2 a0 56)) (i := ((s4.1 + (-1 : Int32)) - (1 : Int32))) (q := 252) hX hc19 dX12_holdsFor_251 rfl ?_
            refine r_if_eq (tgt := 269) (q := 255) hX dX12_holdsFor_252 (by decide) rfl (fun hb20 => ?_) (fun hb20 => ?_)
            · refine r_iconst (v := (0 : Int32)) (q := 270) hX dX12_holdsFor_269 rfl rfl ?_
              refine r_goto (q := 300) hX dX12_holdsFor_270 (by decide) ?_
              refine r_zast (a := (rR s4.2.2 a0 56)) (i := ((s4.1 + (-1 : Int32)) - (1 : Int32))) (x := (0 : Int32)) (q := 301) hX hc19 (Or.inl rfl) dX12_holdsFor_300 rfl (fun M21 => ?_)
              refine r_iinc (x := s4.2.1) (v := (s4.2.1 + (1 : Int32))) (q := 304) 5 5 [1, 2, 3, 4, 5, 0, 7] (L1 := [(0, vr a0), (1, vi x1), (2, vi x2), (3, vi x3), (4, vi (s4.1 + (-1 : Int32))), (5, vi (s4.2.1 + (1 : Int32))), (6, vi z11)]) hX dX12_holdsFor_301 rfl rfl (Nat.le_of_ble_eq_true rfl) rfl rfl ?_
              refine r_goto (q := 6) hX dX12_holdsFor_304 (by decide) ?_
              refine r_l0 ?_
              refine r_sub [0, 1, 2, 3, 4, 5] rfl ?_
              exact hn5 ((s4.1 + (-1 : Int32)), (s4.2.1 + (1 : Int32)), M21)
            · refine r_aload_n (i := 0) (x := a0) (q := 256) 0 hX dX12_holdsFor_255 rfl rfl rfl ?_
              refine r_getR (a := a0) (ci := 12) (kf := 56) (q := 259) hX hc7 flX12_122 rfl dX12_holdsFor_256 rfl ?_
              refine r_iload (i := 4) (x := (s4.1 + (-1 : Int32))) (q := 261) 4 hX dX12_holdsFor_259 rfl rfl ?_
              refine r_ck (fun hc22 => ?_)
              refine r_zald (a := (rR s4.2.2 a0 56)) (i := (s4.1 + (-1 : Int32))) (q := 262) hX hc22 dX12_holdsFor_261 rfl ?_
              refine r_if_eq (tgt := 269) (q := 265) hX dX12_holdsFor_262 (by decide) rfl (fun hb23 => ?_) (fun hb23 => ?_)
              · refine r_iconst (v := (0 : Int32)) (q := 270) hX dX12_holdsFor_269 rfl rfl ?_
                refine r_goto (q := 300) hX dX12_holdsFor_270 (by decide) ?_
                refine r_zast (a := (rR s4.2.2 a0 56)) (i := ((s4.1 + (-1 : Int32)) - (1 : Int32))) (x := (0 : Int32)) (q := 301) hX hc19 (Or.inl rfl) dX12_holdsFor_300 rfl (fun M24 => ?_)
                refine r_iinc (x := s4.2.1) (v := (s4.2.1 + (1 : Int32))) (q := 304) 5 5 [1, 2, 3, 4, 5, 0, 7] (L1 := [(0, vr a0), (1, vi x1), (2, vi x2), (3, vi x3), (4, vi (s4.1 + (-1 : Int32))), (5, vi (s4.2.1 + (1 : Int32))), (6, vi z11)]) hX dX12_holdsFor_301 rfl rfl (Nat.le_of_ble_eq_true rfl) rfl rfl ?_
                refine r_goto (q := 6) hX dX12_holdsFor_304 (by decide) ?_
                refine r_l0 ?_
                refine r_sub [0, 1, 2, 3, 4, 5] rfl ?_
                exact hn5 ((s4.1 + (-1 : Int32)), (s4.2.1 + (1 : Int32)), M24)
              · refine r_iconst (v := (1 : Int32)) (q := 266) hX dX12_holdsFor_265 rfl rfl ?_
                refine r_goto (q := 300) hX dX12_holdsFor_266 (by decide) ?_
                refine r_zast (a := (rR s4.2.2 a0 56)) (i := ((s4.1 + (-1 : Int32)) - (1 : Int32))) (x := (1 : Int32)) (q := 301) hX hc19 (Or.inr rfl) dX12_holdsFor_300 rfl (fun M25 => ?_)
                refine r_iinc (x := s4.2.1) (v := (s4.2.1 + (1 : Int32))) (q := 304) 5 5 [1, 2, 3, 4, 5, 0, 7] (L1 := [(0, vr a0), (1, vi x1), (2, vi x2), (3, vi x3), (4, vi (s4.1 + (-1 : Int32))), (5, vi (s4.2.1 + (1 : Int32))), (6, vi z11)]) hX dX12_holdsFor_301 rfl rfl (Nat.le_of_ble_eq_true rfl) rfl rfl ?_
                refine r_goto (q := 6) hX dX12_holdsFor_304 (by decide) ?_
                refine r_l0 ?_
                refine r_sub [0, 1, 2, 3, 4, 5] rfl ?_
                exact hn5 ((s4.1 + (-1 : Int32)), (s4.2.1 + (1 : Int32)), M25)
          · refine r_aload_n (i := 0) (x := a0) (q := 274) 0 hX dX12_holdsFor_273 rfl rfl rfl ?_
            refine r_getR (a := a0) (ci := 12) (kf := 56) (q := 277) hX hc7 flX12_122 rfl dX12_holdsFor_274 rfl ?_
            refine r_iload (i := 4) (x := (s4.1 + (-1 : Int32))) (q := 279) 4 hX dX12_holdsFor_277 rfl rfl ?_
            refine r_iconst (v := (1 : Int32)) (q := 280) hX dX12_holdsFor_279 rfl rfl ?_
            refine r_isub (q := 281) hX dX12_holdsFor_280 rfl ?_
            refine r_ck (fun hc26 => ?_)
            refine r_zald (a := (rR s4.2.2 a0 56)) (i := ((s4.1 + (-1 : Int32)) - (1 : Int32))) (q := 282) hX hc26 dX12_holdsFor_281 rfl ?_
            refine r_if_ne (tgt := 295) (q := 285) hX dX12_holdsFor_282 (by decide) rfl (fun hb27 => ?_) (fun hb27 => ?_)
            · refine r_aload_n (i := 0) (x := a0) (q := 286) 0 hX dX12_holdsFor_285 rfl rfl rfl ?_
              refine r_getR (a := a0) (ci := 12) (kf := 56) (q := 289) hX hc7 flX12_122 rfl dX12_holdsFor_286 rfl ?_
              refine r_iload (i := 4) (x := (s4.1 + (-1 : Int32))) (q := 291) 4 hX dX12_holdsFor_289 rfl rfl ?_
              refine r_ck (fun hc28 => ?_)
              refine r_zald (a := (rR s4.2.2 a0 56)) (i := (s4.1 + (-1 : Int32))) (q := 292) hX hc28 dX12_holdsFor_291 rfl ?_
              refine r_if_eq (tgt := 299) (q := 295) hX dX12_holdsFor_292 (by decide) rfl (fun hb29 => ?_) (fun hb29 => ?_)
              · refine r_iconst (v := (0 : Int32)) (q := 300) hX dX12_holdsFor_299 rfl rfl ?_
                refine r_zast (a := (rR s4.2.2 a0 56)) (i := ((s4.1 + (-1 : Int32)) - (1 : Int32))) (x := (0 : Int32)) (q := 301) hX hc26 (Or.inl rfl) dX12_holdsFor_300 rfl (fun M30 => ?_)
                refine r_iinc (x := s4.2.1) (v := (s4.2.1 + (1 : Int32))) (q := 304) 5 5 [1, 2, 3, 4, 5, 0, 7] (L1 := [(0, vr a0), (1, vi x1), (2, vi x2), (3, vi x3), (4, vi (s4.1 + (-1 : Int32))), (5, vi (s4.2.1 + (1 : Int32))), (6, vi z11)]) hX dX12_holdsFor_301 rfl rfl (Nat.le_of_ble_eq_true rfl) rfl rfl ?_
                refine r_goto (q := 6) hX dX12_holdsFor_304 (by decide) ?_
                refine r_l0 ?_
                refine r_sub [0, 1, 2, 3, 4, 5] rfl ?_
                exact hn5 ((s4.1 + (-1 : Int32)), (s4.2.1 + (1 : Int32)), M30)
              · refine r_iconst (v := (1 : Int32)) (q := 296) hX dX12_holdsFor_295 rfl rfl ?_
                refine r_goto (q := 300) hX dX12_holdsFor_296 (by decide) ?_
                refine r_zast (a := (rR s4.2.2 a0 56)) (i := ((s4.1 + (-1 : Int32)) - (1 : Int32))) (x := (1 : Int32)) (q := 301) hX hc26 (Or.inr rfl) dX12_holdsFor_300 rfl (fun M31 => ?_)
                refine r_iinc (x := s4.2.1) (v := (s4.2.1 + (1 : Int32))) (q := 304) 5 5 [1, 2, 3, 4, 5, 0, 7] (L1 := [(0, vr a0), (1, vi x1), (2, vi x2), (3, vi x3), (4, vi (s4.1 + (-1 : Int32))), (5, vi (s4.2.1 + (1 : Int32))), (6, vi z11)]) hX dX12_holdsFor_301 rfl rfl (Nat.le_of_ble_eq_true rfl) rfl rfl ?_
                refine r_goto (q := 6) hX dX12_holdsFor_304 (by decide) ?_
                refine r_l0 ?_
                refine r_sub [0, 1, 2, 3, 4, 5] rfl ?_
                exact hn5 ((s4.1 + (-1 : Int32)), (s4.2.1 + (1 : Int32)), M31)
            · refine r_iconst (v := (1 : Int32)) (q := 296) hX dX12_holdsFor_295 rfl rfl ?_
              refine r_goto (q := 300) hX dX12_holdsFor_296 (by decide) ?_
              refine r_zast (a := (rR s4.2.2 a0 56)) (i := ((s4.1 + (-1 : Int32)) - (1 : Int32))) (x := (1 : Int32)) (q := 301) hX hc26 (Or.inr rfl) dX12_holdsFor_300 rfl (fun M32 => ?_)
              refine r_iinc (x := s4.2.1) (v := (s4.2.1 + (1 : Int32))) (q := 304) 5 5 [1, 2, 3, 4, 5, 0, 7] (L1 := [(0, vr a0), (1, vi x1), (2, vi x2), (3, vi x3), (4, vi (s4.1 + (-1 : Int32))), (5, vi (s4.2.1 + (1 : Int32))), (6, vi z11)]) hX dX12_holdsFor_301 rfl rfl (Nat.le_of_ble_eq_true rfl) rfl rfl ?_
              refine r_goto (q := 6) hX dX12_holdsFor_304 (by decide) ?_
              refine r_l0 ?_
              refine r_sub [0, 1, 2, 3, 4, 5] rfl ?_
              exact hn5 ((s4.1 + (-1 : Int32)), (s4.2.1 + (1 : Int32)), M32)
      · refine r_iload (i := 6) (x := z11) (q := 40) 6 hX dX12_holdsFor_38 rfl rfl ?_
        refine r_iconst (v := (3 : Int32)) (q := 41) hX dX12_holdsFor_40 rfl rfl ?_
        refine r_idiv (q := 42) hX dX12_holdsFor_41 (by decide) rfl ?_
        refine r_istoreP (x := (z11 / (3 : Int32))) (q := 44) 7 [1, 2, 3, 4, 5, 6, 7, 0] (fun z33 => [(0, vr a0), (1, vi x1), (2, vi x2), (3, vi x3), (4, vi s4.1), (5, vi s4.2.1), (6, vi z11), (7, vi z33)]) hX dX12_holdsFor_42 (Nat.le_of_ble_eq_true rfl) (fun _ => rfl) rfl (fun z33 => ?_)
        refine r_iload (i := 7) (x := z33) (q := 46) 7 hX dX12_holdsFor_44 rfl rfl ?_
        refine r_jn (J := fun (v37 : Int32) (P : Option Res) => Ref mX12_holdsFor X 0 0 Z s4.2.2 103 [(0, vr a0), (1, vi x1), (2, vi x2), (3, vi x3), (4, vi s4.1), (5, vi s4.2.1), (6, vi z11)] [vi v37] P) (fun v37 => ?_) (fun K1 hj35 => ?_)
        · refine r_istore (x := v37) (q := 105) 8 [1, 2, 3, 4, 5, 6, 7, 0] (L1 := [(0, vr a0), (1, vi x1), (2, vi x2), (3, vi x3), (4, vi s4.1), (5, vi s4.2.1), (6, vi z11), (8, vi v37)]) hX dX12_holdsFor_103 (Nat.le_of_ble_eq_true rfl) rfl rfl ?_
          refine r_aload_n (i := 0) (x := a0) (q := 106) 0 hX dX12_holdsFor_105 rfl rfl rfl ?_
          refine r_getR (a := a0) (ci := 12) (kf := 42) (q := 109) hX hc7 flX12_110 rfl dX12_holdsFor_106 rfl ?_
          refine r_bipush (v := (60 : Int32)) (q := 111) hX dX12_holdsFor_109 rfl rfl ?_
          refine r_iload_n (i := 1) (x := x1) (q := 112) 1 hX dX12_holdsFor_111 rfl rfl rfl ?_
          refine r_imul (q := 113) hX dX12_holdsFor_112 rfl ?_
          refine r_iload (i := 5) (x := s4.2.1) (q := 115) 5 hX dX12_holdsFor_113 rfl rfl ?_
          refine r_iadd (q := 116) hX dX12_holdsFor_115 rfl ?_
          refine r_ck (fun hc46 => ?_)
          refine r_iald (a := (rR s4.2.2 a0 42)) (i := (((60 : Int32) * x1) + s4.2.1)) (q := 117) hX hc46 dX12_holdsFor_116 rfl ?_
          refine r_istoreP (x := (rI s4.2.2 (rR s4.2.2 a0 42) (ix (((60 : Int32) * x1) + s4.2.1)))) (q := 119) 9 [1, 2, 3, 4, 5, 6, 7, 8, 0] (fun z47 => [(0, vr a0), (1, vi x1), (2, vi x2), (3, vi x3), (4, vi s4.1), (5, vi s4.2.1), (6, vi z11), (8, vi v37), (9, vi z47)]) hX dX12_holdsFor_117 (Nat.le_of_ble_eq_true rfl) (fun _ => rfl) rfl (fun z47 => ?_)
          refine r_aload_n (i := 0) (x := a0) (q := 120) 0 hX dX12_holdsFor_119 rfl rfl rfl ?_
          refine r_getR (a := a0) (ci := 12) (kf := 56) (q := 123) hX hc7 flX12_122 rfl dX12_holdsFor_120 rfl ?_
          refine r_iload (i := 4) (x := s4.1) (q := 125) 4 hX dX12_holdsFor_123 rfl rfl ?_
          refine r_iload (i := 6) (x := z11) (q := 127) 6 hX dX12_holdsFor_125 rfl rfl ?_
          refine r_iconst (v := (3 : Int32)) (q := 128) hX dX12_holdsFor_127 rfl rfl ?_
          refine r_irem (q := 129) hX dX12_holdsFor_128 (by decide) rfl ?_
          refine r_if_ne (tgt := 147) (q := 132) hX dX12_holdsFor_129 (by decide) rfl (fun hb48 => ?_) (fun hb48 => ?_)
          · refine r_iload (i := 8) (x := v37) (q := 134) 7 hX dX12_holdsFor_132 rfl rfl ?_
            refine r_iload (i := 9) (x := z47) (q := 136) 8 hX dX12_holdsFor_134 rfl rfl ?_
            refine r_icmp_ge (tgt := 143) (q := 139) hX dX12_holdsFor_136 (by decide) rfl (fun hb49 => ?_) (fun hb49 => ?_)
            · refine r_iconst (v := (0 : Int32)) (q := 144) hX dX12_holdsFor_143 rfl rfl ?_
              refine r_goto (q := 182) hX dX12_holdsFor_144 (by decide) ?_
              refine r_ck (fun hc50 => ?_)
              refine r_zast (a := (rR s4.2.2 a0 56)) (i := s4.1) (x := (0 : Int32)) (q := 183) hX hc50 (Or.inl rfl) dX12_holdsFor_182 rfl (fun M51 => ?_)
              refine r_iinc (x := s4.1) (v := (s4.1 + (1 : Int32))) (q := 186) 4 4 [1, 2, 3, 4, 0, 6, 7, 8, 9] (L1 := [(0, vr a0), (1, vi x1), (2, vi x2), (3, vi x3), (4, vi (s4.1 + (1 : Int32))), (5, vi s4.2.1), (6, vi z11), (8, vi v37), (9, vi z47)]) hX dX12_holdsFor_183 rfl rfl (Nat.le_of_ble_eq_true rfl) rfl rfl ?_
              refine r_goto (q := 301) hX dX12_holdsFor_186 (by decide) ?_
              refine r_iinc (x := s4.2.1) (v := (s4.2.1 + (1 : Int32))) (q := 304) 5 5 [1, 2, 3, 4, 5, 0, 7, 8, 9] (L1 := [(0, vr a0), (1, vi x1), (2, vi x2), (3, vi x3), (4, vi (s4.1 + (1 : Int32))), (5, vi (s4.2.1 + (1 : Int32))), (6, vi z11), (8, vi v37), (9, vi z47)]) hX dX12_holdsFor_301 rfl rfl (Nat.le_of_ble_eq_true rfl) rfl rfl ?_
              refine r_goto (q := 6) hX dX12_holdsFor_304 (by decide) ?_
              refine r_l0 ?_
              refine r_sub [0, 1, 2, 3, 4, 5] rfl ?_
              exact hn5 ((s4.1 + (1 : Int32)), (s4.2.1 + (1 : Int32)), M51)
            · refine r_iconst (v := (1 : Int32)) (q := 140) hX dX12_holdsFor_139 rfl rfl ?_
              refine r_goto (q := 182) hX dX12_holdsFor_140 (by decide) ?_
              refine r_ck (fun hc52 => ?_)
              refine r_zast (a := (rR s4.2.2 a0 56)) (i := s4.1) (x := (1 : Int32)) (q := 183) hX hc52 (Or.inr rfl) dX12_holdsFor_182 rfl (fun M53 => ?_)
              refine r_iinc (x := s4.1) (v := (s4.1 + (1 : Int32))) (q := 186) 4 4 [1, 2, 3, 4, 0, 6, 7, 8, 9] (L1 := [(0, vr a0), (1, vi x1), (2, vi x2), (3, vi x3), (4, vi (s4.1 + (1 : Int32))), (5, vi s4.2.1), (6, vi z11), (8, vi v37), (9, vi z47)]) hX dX12_holdsFor_183 rfl rfl (Nat.le_of_ble_eq_true rfl) rfl rfl ?_
              refine r_goto (q := 301) hX dX12_holdsFor_186 (by decide) ?_
              refine r_iinc (x := s4.2.1) (v := (s4.2.1 + (1 : Int32))) (q := 304) 5 5 [1, 2, 3, 4, 5, 0, 7, 8, 9] (L1 := [(0, vr a0), (1, vi x1), (2, vi x2), (3, vi x3), (4, vi (s4.1 + (1 : Int32))), (5, vi (s4.2.1 + (1 : Int32))), (6, vi z11), (8, vi v37), (9, vi z47)]) hX dX12_holdsFor_301 rfl rfl (Nat.le_of_ble_eq_true rfl) rfl rfl ?_
              refine r_goto (q := 6) hX dX12_holdsFor_304 (by decide) ?_
              refine r_l0 ?_
              refine r_sub [0, 1, 2, 3, 4, 5] rfl ?_
              exact hn5 ((s4.1 + (1 : Int32)), (s4.2.1 + (1 : Int32)), M53)
          · refine r_iload (i := 6) (x := z11) (q := 149) 6 hX dX12_holdsFor_147 rfl rfl ?_
            refine r_iconst (v := (3 : Int32)) (q := 150) hX dX12_holdsFor_149 rfl rfl ?_
            refine r_irem (q := 151) hX dX12_holdsFor_150 (by decide) rfl ?_
            refine r_iconst (v := (1 : Int32)) (q := 152) hX dX12_holdsFor_151 rfl rfl ?_
            refine r_icmp_ne (tgt := 170) (q := 155) hX dX12_holdsFor_152 (by decide) rfl (fun hb54 => ?_) (fun hb54 => ?_)
            · refine r_iload (i := 8) (x := v37) (q := 157) 7 hX dX12_holdsFor_155 rfl rfl ?_
              refine r_iload (i := 9) (x := z47) (q := 159) 8 hX dX12_holdsFor_157 rfl rfl ?_
              refine r_icmp_ne (tgt := 166) (q := 162) hX dX12_holdsFor_159 (by decide) rfl (fun hb55 => ?_) (fun hb55 => ?_)
              · refine r_iconst (v := (1 : Int32)) (q := 163) hX dX12_holdsFor_162 rfl rfl ?_
                refine r_goto (q := 182) hX dX12_holdsFor_163 (by decide) ?_
                refine r_ck (fun hc56 => ?_)
                refine r_zast (a := (rR s4.2.2 a0 56)) (i := s4.1) (x := (1 : Int32)) (q := 183) hX hc56 (Or.inr rfl) dX12_holdsFor_182 rfl (fun M57 => ?_)
                refine r_iinc (x := s4.1) (v := (s4.1 + (1 : Int32))) (q := 186) 4 4 [1, 2, 3, 4, 0, 6, 7, 8, 9] (L1 := [(0, vr a0), (1, vi x1), (2, vi x2), (3, vi x3), (4, vi (s4.1 + (1 : Int32))), (5, vi s4.2.1), (6, vi z11), (8, vi v37), (9, vi z47)]) hX dX12_holdsFor_183 rfl rfl (Nat.le_of_ble_eq_true rfl) rfl rfl ?_
                refine r_goto (q := 301) hX dX12_holdsFor_186 (by decide) ?_
                refine r_iinc (x := s4.2.1) (v := (s4.2.1 + (1 : Int32))) (q := 304) 5 5 [1, 2, 3, 4, 5, 0, 7, 8, 9] (L1 := [(0, vr a0), (1, vi x1), (2, vi x2), (3, vi x3), (4, vi (s4.1 + (1 : Int32))), (5, vi (s4.2.1 + (1 : Int32))), (6, vi z11), (8, vi v37), (9, vi z47)]) hX dX12_holdsFor_301 rfl rfl (Nat.le_of_ble_eq_true rfl) rfl rfl ?_
                refine r_goto (q := 6) hX dX12_holdsFor_304 (by decide) ?_
                refine r_l0 ?_
                refine r_sub [0, 1, 2, 3, 4, 5] rfl ?_
                exact hn5 ((s4.1 + (1 : Int32)), (s4.2.1 + (1 : Int32)), M57)
              · refine r_iconst (v := (0 : Int32)) (q := 167) hX dX12_holdsFor_166 rfl rfl ?_
                refine r_goto (q := 182) hX dX12_holdsFor_167 (by decide) ?_
                refine r_ck (fun hc58 => ?_)
                refine r_zast (a := (rR s4.2.2 a0 56)) (i := s4.1) (x := (0 : Int32)) (q := 183) hX hc58 (Or.inl rfl) dX12_holdsFor_182 rfl (fun M59 => ?_)
                refine r_iinc (x := s4.1) (v := (s4.1 + (1 : Int32))) (q := 186) 4 4 [1, 2, 3, 4, 0, 6, 7, 8, 9] (L1 := [(0, vr a0), (1, vi x1), (2, vi x2), (3, vi x3), (4, vi (s4.1 + (1 : Int32))), (5, vi s4.2.1), (6, vi z11), (8, vi v37), (9, vi z47)]) hX dX12_holdsFor_183 rfl rfl (Nat.le_of_ble_eq_true rfl) rfl rfl ?_
                refine r_goto (q := 301) hX dX12_holdsFor_186 (by decide) ?_
                refine r_iinc (x := s4.2.1) (v := (s4.2.1 + (1 : Int32))) (q := 304) 5 5 [1, 2, 3, 4, 5, 0, 7, 8, 9] (L1 := [(0, vr a0), (1, vi x1), (2, vi x2), (3, vi x3), (4, vi (s4.1 + (1 : Int32))), (5, vi (s4.2.1 + (1 : Int32))), (6, vi z11), (8, vi v37), (9, vi z47)]) hX dX12_holdsFor_301 rfl rfl (Nat.le_of_ble_eq_true rfl) rfl rfl ?_
                refine r_goto (q := 6) hX dX12_holdsFor_304 (by decide) ?_
                refine r_l0 ?_
                refine r_sub [0, 1, 2, 3, 4, 5] rfl ?_
                exact hn5 ((s4.1 + (1 : Int32)), (s4.2.1 + (1 : Int32)), M59)
            · refine r_iload (i := 8) (x := v37) (q := 172) 7 hX dX12_holdsFor_170 rfl rfl ?_
              refine r_iload (i := 9) (x := z47) (q := 174) 8 hX dX12_holdsFor_172 rfl rfl ?_
              refine r_icmp_le (tgt := 181) (q := 177) hX dX12_holdsFor_174 (by decide) rfl (fun hb60 => ?_) (fun hb60 => ?_)
              · refine r_iconst (v := (0 : Int32)) (q := 182) hX dX12_holdsFor_181 rfl rfl ?_
                refine r_ck (fun hc61 => ?_)
                refine r_zast (a := (rR s4.2.2 a0 56)) (i := s4.1) (x := (0 : Int32)) (q := 183) hX hc61 (Or.inl rfl) dX12_holdsFor_182 rfl (fun M62 => ?_)
                refine r_iinc (x := s4.1) (v := (s4.1 + (1 : Int32))) (q := 186) 4 4 [1, 2, 3, 4, 0, 6, 7, 8, 9] (L1 := [(0, vr a0), (1, vi x1), (2, vi x2), (3, vi x3), (4, vi (s4.1 + (1 : Int32))), (5, vi s4.2.1), (6, vi z11), (8, vi v37), (9, vi z47)]) hX dX12_holdsFor_183 rfl rfl (Nat.le_of_ble_eq_true rfl) rfl rfl ?_
                refine r_goto (q := 301) hX dX12_holdsFor_186 (by decide) ?_
                refine r_iinc (x := s4.2.1) (v := (s4.2.1 + (1 : Int32))) (q := 304) 5 5 [1, 2, 3, 4, 5, 0, 7, 8, 9] (L1 := [(0, vr a0), (1, vi x1), (2, vi x2), (3, vi x3), (4, vi (s4.1 + (1 : Int32))), (5, vi (s4.2.1 + (1 : Int32))), (6, vi z11), (8, vi v37), (9, vi z47)]) hX dX12_holdsFor_301 rfl rfl (Nat.le_of_ble_eq_true rfl) rfl rfl ?_
                refine r_goto (q := 6) hX dX12_holdsFor_304 (by decide) ?_
                refine r_l0 ?_
                refine r_sub [0, 1, 2, 3, 4, 5] rfl ?_
                exact hn5 ((s4.1 + (1 : Int32)), (s4.2.1 + (1 : Int32)), M62)
              · refine r_iconst (v := (1 : Int32)) (q := 178) hX dX12_holdsFor_177 rfl rfl ?_
                refine r_goto (q := 182) hX dX12_holdsFor_178 (by decide) ?_
                refine r_ck (fun hc63 => ?_)
                refine r_zast (a := (rR s4.2.2 a0 56)) (i := s4.1) (x := (1 : Int32)) (q := 183) hX hc63 (Or.inr rfl) dX12_holdsFor_182 rfl (fun M64 => ?_)
                refine r_iinc (x := s4.1) (v := (s4.1 + (1 : Int32))) (q := 186) 4 4 [1, 2, 3, 4, 0, 6, 7, 8, 9] (L1 := [(0, vr a0), (1, vi x1), (2, vi x2), (3, vi x3), (4, vi (s4.1 + (1 : Int32))), (5, vi s4.2.1), (6, vi z11), (8, vi v37), (9, vi z47)]) hX dX12_holdsFor_183 rfl rfl (Nat.le_of_ble_eq_true rfl) rfl rfl ?_
                refine r_goto (q := 301) hX dX12_holdsFor_186 (by decide) ?_
                refine r_iinc (x := s4.2.1) (v := (s4.2.1 + (1 : Int32))) (q := 304) 5 5 [1, 2, 3, 4, 5, 0, 7, 8, 9] (L1 := [(0, vr a0), (1, vi x1), (2, vi x2), (3, vi x3), (4, vi (s4.1 + (1 : Int32))), (5, vi (s4.2.1 + (1 : Int32))), (6, vi z11), (8, vi v37), (9, vi z47)]) hX dX12_holdsFor_301 rfl rfl (Nat.le_of_ble_eq_true rfl) rfl rfl ?_
                refine r_goto (q := 6) hX dX12_holdsFor_304 (by decide) ?_
                refine r_l0 ?_
                refine r_sub [0, 1, 2, 3, 4, 5] rfl ?_
                exact hn5 ((s4.1 + (1 : Int32)), (s4.2.1 + (1 : Int32)), M64)
        · refine r_if_ne (tgt := 58) (q := 49) hX dX12_holdsFor_46 (by decide) rfl (fun hb34 => ?_) (fun hb34 => ?_)
          · refine r_aload_n (i := 0) (x := a0) (q := 50) 0 hX dX12_holdsFor_49 rfl rfl rfl ?_
            refine r_getR (a := a0) (ci := 12) (kf := 24) (q := 53) hX hc7 flX12_62 rfl dX12_holdsFor_50 rfl ?_
            refine r_iload_n (i := 2) (x := x2) (q := 54) 2 hX dX12_holdsFor_53 rfl rfl rfl ?_
            refine r_ck (fun hc38 => ?_)
            refine r_iald (a := (rR s4.2.2 a0 24)) (i := x2) (q := 55) hX hc38 dX12_holdsFor_54 rfl ?_
            refine r_goto (q := 103) hX dX12_holdsFor_55 (by decide) ?_
            refine r_l0 ?_
            refine r_sub [0, 1, 2, 3, 4, 5, 6] rfl ?_
            exact hj35 (rI s4.2.2 (rR s4.2.2 a0 24) (ix x2))
          · refine r_iload (i := 7) (x := z33) (q := 60) 7 hX dX12_holdsFor_58 rfl rfl ?_
            refine r_iconst (v := (1 : Int32)) (q := 61) hX dX12_holdsFor_60 rfl rfl ?_
            refine r_icmp_ne (tgt := 72) (q := 64) hX dX12_holdsFor_61 (by decide) rfl (fun hb39 => ?_) (fun hb39 => ?_)
            · refine r_aload_n (i := 0) (x := a0) (q := 65) 0 hX dX12_holdsFor_64 rfl rfl rfl ?_
              refine r_iload_n (i := 2) (x := x2) (q := 66) 2 hX dX12_holdsFor_65 rfl rfl rfl ?_
              refine r_bind (fun v40 h41 => ?_)
              refine r_cv (a := a0) (As := [vi x2]) (st := []) (r := (some (vi v40))) (Z1 := Z) (M1 := s4.2.2) (k1 := 0) (n1 := 0) (st1 := [vi v40]) (q := 69) hX (fun l => kX12_milesOf l Z s4.2.2 a0 x2 v40 h41) hc7 ivX12_milesOf ccX12_milesOf (Or.inl lkX12_257) rfl rfl rfl ⟨Nat.le_of_ble_eq_true rfl, Nat.le_of_ble_eq_true rfl, rfl, rfl, Nat.le_of_ble_eq_true rfl, Nat.le_of_ble_eq_true rfl⟩ (Nat.le_of_ble_eq_true rfl) dX12_holdsFor_66 rfl ?_
              refine r_goto (q := 103) hX dX12_holdsFor_69 (by decide) ?_
              refine r_l0 ?_
              refine r_sub [0, 1, 2, 3, 4, 5, 6] rfl ?_
              exact hj35 v40
            · refine r_iload (i := 7) (x := z33) (q := 74) 7 hX dX12_holdsFor_72 rfl rfl ?_
              refine r_iconst (v := (2 : Int32)) (q := 75) hX dX12_holdsFor_74 rfl rfl ?_
              refine r_icmp_ne (tgt := 87) (q := 78) hX dX12_holdsFor_75 (by decide) rfl (fun hb42 => ?_) (fun hb42 => ?_)
              · refine r_aload_n (i := 0) (x := a0) (q := 79) 0 hX dX12_holdsFor_78 rfl rfl rfl ?_
                refine r_getR (a := a0) (ci := 12) (kf := 26) (q := 82) hX hc7 flX12_68 rfl dX12_holdsFor_79 rfl ?_
                refine r_iload_n (i := 2) (x := x2) (q := 83) 2 hX dX12_holdsFor_82 rfl rfl rfl ?_
                refine r_ck (fun hc43 => ?_)
                refine r_iald (a := (rR s4.2.2 a0 26)) (i := x2) (q := 84) hX hc43 dX12_holdsFor_83 rfl ?_
                refine r_goto (q := 103) hX dX12_holdsFor_84 (by decide) ?_
                refine r_l0 ?_
                refine r_sub [0, 1, 2, 3, 4, 5, 6] rfl ?_
                exact hj35 (rI s4.2.2 (rR s4.2.2 a0 26) (ix x2))
              · refine r_iload (i := 7) (x := z33) (q := 89) 7 hX dX12_holdsFor_87 rfl rfl ?_
                refine r_iconst (v := (3 : Int32)) (q := 90) hX dX12_holdsFor_89 rfl rfl ?_
                refine r_icmp_ne (tgt := 102) (q := 93) hX dX12_holdsFor_90 (by decide) rfl (fun hb44 => ?_) (fun hb44 => ?_)
                · refine r_aload_n (i := 0) (x := a0) (q := 94) 0 hX dX12_holdsFor_93 rfl rfl rfl ?_
                  refine r_getR (a := a0) (ci := 12) (kf := 27) (q := 97) hX hc7 flX12_71 rfl dX12_holdsFor_94 rfl ?_
                  refine r_iload_n (i := 2) (x := x2) (q := 98) 2 hX dX12_holdsFor_97 rfl rfl rfl ?_
                  refine r_ck (fun hc45 => ?_)
                  refine r_iald (a := (rR s4.2.2 a0 27)) (i := x2) (q := 99) hX hc45 dX12_holdsFor_98 rfl ?_
                  refine r_goto (q := 103) hX dX12_holdsFor_99 (by decide) ?_
                  refine r_l0 ?_
                  refine r_sub [0, 1, 2, 3, 4, 5, 6] rfl ?_
                  exact hj35 (rI s4.2.2 (rR s4.2.2 a0 27) (ix x2))
                · refine r_iload_n (i := 3) (x := x3) (q := 103) 3 hX dX12_holdsFor_102 rfl rfl rfl ?_
                  refine r_l0 ?_
                  refine r_sub [0, 1, 2, 3, 4, 5, 6] rfl ?_
                  exact hj35 x3
theorem flX12_92 : FL RX12 92 12 36 := ⟨Nat.le_of_ble_eq_true rfl, Nat.le_of_ble_eq_true rfl, gd (hcw5_11 _ (List.mem_of_getElem? (i := 11) rfl)) rfl⟩
theorem flX12_98 : FL RX12 98 12 38 := ⟨Nat.le_of_ble_eq_true rfl, Nat.le_of_ble_eq_true rfl, gd (hcw5_11 _ (List.mem_of_getElem? (i := 13) rfl)) rfl⟩
theorem flX12_101 : FL RX12 101 12 39 := ⟨Nat.le_of_ble_eq_true rfl, Nat.le_of_ble_eq_true rfl, gd (hcw5_11 _ (List.mem_of_getElem? (i := 14) rfl)) rfl⟩
theorem lkX12_396 : Lk RX12 396 yX12_holdsFor := gd (hcw7_10 _ (List.mem_of_getElem? (i := 8) rfl)) rfl
def mX12_binds : MD := (yX12_binds, cX12_binds, 5, (some .boolean), 2, 51, 0, 0)
theorem ccX12_binds : Cc mX12_binds 4 := ⟨gd (hcw1_0 _ (List.mem_of_getElem? (i := 10) rfl)) rfl, gd (hcw7_10 _ (List.mem_of_getElem? (i := 7) rfl)) rfl, by decide +kernel, by decide +kernel, by decide +kernel⟩
theorem ivX12_binds : Iv mX12_binds 12 := ⟨Nat.le_of_ble_eq_true rfl, rfl, gd (hcw7_10 _ (List.mem_of_getElem? (i := 6) rfl)) rfl, gd (hps4 _ (List.mem_of_getElem? (i := 15) rfl)) rfl⟩
noncomputable def fX12_binds (Z : Shp) (M : Mem) (a0 : Nat) (x1 : Int32) (x2 : Int32) (x3 : Int32) (x4 : Int32) : Option (Int32 × Mem) := (if tg Z a0 = (13, 86) then (if aok Z (rR M a0 36) 100 x1 then (if (rI M (rR M a0 36) (ix x1)) = x2 then (if aok Z (rR M a0 38) 100 x1 then (if aok Z (rR M a0 39) 100 x1 then (if (fX12_in (x4.toInt64) ((rI M (rR M a0 38) (ix x1)).toInt64) ((rI M (rR M a0 39) (ix x1)).toInt64)) = 0 then some ((0 : Int32), M) else (Option.bind (fX12_holdsFor Z M a0 x1 x3 x4) (fun v7 => (if v7.1 = 0 then some ((0 : Int32), v7.2) else some ((1 : Int32), v7.2))))) else none) else none) else some ((0 : Int32), M)) else none) else none)
set_option maxRecDepth 20000 in
theorem kX12_binds (l : Launch) (Z : Shp) (M : Mem) (a0 : Nat) (x1 : Int32) (x2 : Int32) (x3 : Int32) (x4 : Int32) (r : Int32 × Mem) (h : fX12_binds Z M a0 x1 x2 x3 x4 = some r) : Ct l mX12_binds [vr a0, vi x1, vi x2, vi x3, vi x4] Z M ((some (vi r.1)), Z, r.2) := by
  refine Ct.of rfl (Nat.le_of_ble_eq_true rfl) (fun X hM => ?_)
  have hX := hM.1
  refine r_top (mk := fun r => ((some (vi r.1)), Z, r.2)) h (fun K hK => ?_)
  unfold fX12_binds
  refine r_aload_n (i := 0) (x := a0) (q := 1) 0 hX dX12_binds_0 rfl rfl rfl ?_
  refine r_ck (fun hc1 => ?_)
  refine r_getR (a := a0) (ci := 12) (kf := 36) (q := 4) hX hc1 flX12_92 rfl dX12_binds_1 rfl ?_
  refine r_iload_n (i := 1) (x := x1) (q := 5) 1 hX dX12_binds_4 rfl rfl rfl ?_
  refine r_ck (fun hc2 => ?_)
  refine r_iald (a := (rR M a0 36)) (i := x1) (q := 6) hX hc2 dX12_binds_5 rfl ?_
  refine r_iload_n (i := 2) (x := x2) (q := 7) 2 hX dX12_binds_6 rfl rfl rfl ?_
  refine r_icmp_ne (tgt := 48) (q := 10) hX dX12_binds_7 (by decide) rfl (fun hb3 => ?_) (fun hb3 => ?_)
  · refine r_iload (i := 4) (x := x4) (q := 12) 4 hX dX12_binds_10 rfl rfl ?_
    refine r_i2l (q := 13) hX dX12_binds_12 rfl ?_
    refine r_aload_n (i := 0) (x := a0) (q := 14) 0 hX dX12_binds_13 rfl rfl rfl ?_
    refine r_getR (a := a0) (ci := 12) (kf := 38) (q := 17) hX hc1 flX12_98 rfl dX12_binds_14 rfl ?_
    refine r_iload_n (i := 1) (x := x1) (q := 18) 1 hX dX12_binds_17 rfl rfl rfl ?_
    refine r_ck (fun hc4 => ?_)
    refine r_iald (a := (rR M a0 38)) (i := x1) (q := 19) hX hc4 dX12_binds_18 rfl ?_
    refine r_i2l (q := 20) hX dX12_binds_19 rfl ?_
    refine r_aload_n (i := 0) (x := a0) (q := 21) 0 hX dX12_binds_20 rfl rfl rfl ?_
    refine r_getR (a := a0) (ci := 12) (kf := 39) (q := 24) hX hc1 flX12_101 rfl dX12_binds_21 rfl ?_
    refine r_iload_n (i := 1) (x := x1) (q := 25) 1 hX dX12_binds_24 rfl rfl rfl ?_
    refine r_ck (fun hc5 => ?_)
    refine r_iald (a := (rR M a0 39)) (i := x1) (q := 26) hX hc5 dX12_binds_25 rfl ?_
    refine r_i2l (q := 27) hX dX12_binds_26 rfl ?_
    refine r_cs (As := [vj (x4.toInt64), vj ((rI M (rR M a0 38) (ix x1)).toInt64), vj ((rI M (rR M a0 39) (ix x1)).toInt64)]) (st := []) (r := (some (vi (fX12_in (x4.toInt64) ((rI M (rR M a0 38) (ix x1)).toInt64) ((rI M (rR M a0 39) (ix x1)).toInt64))))) (Z1 := Z) (M1 := M) (k1 := 0) (n1 := 0) (st1 := [vi (fX12_in (x4.toInt64) ((rI M (rR M a0 38) (ix x1)).toInt64) ((rI M (rR M a0 39) (ix x1)).toInt64))]) (q := 30) hX (fun l => kX12_in l Z M (x4.toInt64) ((rI M (rR M a0 38) (ix x1)).toInt64) ((rI M (rR M a0 39) (ix x1)).toInt64)) stX12_in ccX12_in (Or.inl lkX12_194) rfl rfl rfl ⟨Nat.le_of_ble_eq_true rfl, Nat.le_of_ble_eq_true rfl, rfl, rfl, Nat.le_of_ble_eq_true rfl, Nat.le_of_ble_eq_true rfl⟩ (Nat.le_of_ble_eq_true rfl) dX12_binds_27 rfl ?_
    refine r_if_eq (tgt := 48) (q := 33) hX dX12_binds_30 (by decide) rfl (fun hb6 => ?_) (fun hb6 => ?_)
    · refine r_iconst (v := (0 : Int32)) (q := 49) hX dX12_binds_48 rfl rfl ?_
      refine r_lf (hK _) ?_
      exact r_zret hM rfl (Or.inl rfl) (Nat.le_of_ble_eq_true rfl) (Nat.le_of_ble_eq_true rfl) dX12_binds_49
    · refine r_aload_n (i := 0) (x := a0) (q := 34) 0 hX dX12_binds_33 rfl rfl rfl ?_
      refine r_iload_n (i := 1) (x := x1) (q := 35) 1 hX dX12_binds_34 rfl rfl rfl ?_
      refine r_iload_n (i := 3) (x := x3) (q := 36) 3 hX dX12_binds_35 rfl rfl rfl ?_
      refine r_iload (i := 4) (x := x4) (q := 38) 4 hX dX12_binds_36 rfl rfl ?_
      refine r_bind (fun v7 h8 => ?_)
      refine r_cv (a := a0) (As := [vi x1, vi x3, vi x4]) (st := []) (r := (some (vi v7.1))) (Z1 := Z) (M1 := v7.2) (k1 := 0) (n1 := 0) (st1 := [vi v7.1]) (q := 41) hX (fun l => kX12_holdsFor l Z M a0 x1 x3 x4 v7 h8) hc1 ivX12_holdsFor ccX12_holdsFor (Or.inl lkX12_396) rfl rfl rfl ⟨Nat.le_of_ble_eq_true rfl, Nat.le_of_ble_eq_true rfl, rfl, rfl, Nat.le_of_ble_eq_true rfl, Nat.le_of_ble_eq_true rfl⟩ (Nat.le_of_ble_eq_true rfl) dX12_binds_38 rfl ?_
      refine r_if_eq (tgt := 48) (q := 44) hX dX12_binds_41 (by decide) rfl (fun hb9 => ?_) (fun hb9 => ?_)
      · refine r_iconst (v := (0 : Int32)) (q := 49) hX dX12_binds_48 rfl rfl ?_
        refine r_lf (hK _) ?_
        exact r_zret hM rfl (Or.inl rfl) (Nat.le_of_ble_eq_true rfl) (Nat.le_of_ble_eq_true rfl) dX12_binds_49
      · refine r_iconst (v := (1 : Int32)) (q := 45) hX dX12_binds_44 rfl rfl ?_
        refine r_goto (q := 49) hX dX12_binds_45 (by decide) ?_
        refine r_lf (hK _) ?_
        exact r_zret hM rfl (Or.inr rfl) (Nat.le_of_ble_eq_true rfl) (Nat.le_of_ble_eq_true rfl) dX12_binds_49
  · refine r_iconst (v := (0 : Int32)) (q := 49) hX dX12_binds_48 rfl rfl ?_
    refine r_lf (hK _) ?_
    exact r_zret hM rfl (Or.inl rfl) (Nat.le_of_ble_eq_true rfl) (Nat.le_of_ble_eq_true rfl) dX12_binds_49
theorem flX12_388 : FL RX12 388 12 35 := ⟨Nat.le_of_ble_eq_true rfl, Nat.le_of_ble_eq_true rfl, gd (hcw5_11 _ (List.mem_of_getElem? (i := 10) rfl)) rfl⟩
theorem lkX12_400 : Lk RX12 400 yX12_binds := gd (hcw7_10 _ (List.mem_of_getElem? (i := 4) rfl)) rfl
def mX12_speaker : MD := (yX12_speaker, cX12_speaker, 6, (some .int), 3, 75, 0, 0)
theorem ccX12_speaker : Cc mX12_speaker 3 := ⟨gd (hcw1_0 _ (List.mem_of_getElem? (i := 10) rfl)) rfl, gd (hcw7_10 _ (List.mem_of_getElem? (i := 3) rfl)) rfl, by decide +kernel, by decide +kernel, by decide +kernel⟩
theorem ivX12_speaker : Iv mX12_speaker 12 := ⟨Nat.le_of_ble_eq_true rfl, rfl, gd (hcw7_10 _ (List.mem_of_getElem? (i := 2) rfl)) rfl, gd (hps4 _ (List.mem_of_getElem? (i := 14) rfl)) rfl⟩
noncomputable def fX12_speaker (Z : Shp) (M : Mem) (a0 : Nat) (x1 : Int32) (x2 : Int32) (x3 : Int32) : Option (Int32 × Mem) := (loop (fun s1 : Int32 × Int32 × Mem => (if tg Z a0 = (13, 86) then (if (rI s1.2.2 a0 35) ≤ s1.2.1 then some (Sum.inr (s1.1, s1.2.2)) else (Option.bind (fX12_binds Z s1.2.2 a0 s1.2.1 x1 x2 x3) (fun v6 => (if v6.1 = 0 then some (Sum.inl (s1.1, (s1.2.1 + (1 : Int32)), v6.2)) else some (Sum.inl (s1.2.1, (s1.2.1 + (1 : Int32)), v6.2)))))) else none)) ((-1 : Int32), (0 : Int32), M))
set_option maxRecDepth 20000 in
theorem kX12_speaker (l : Launch) (Z : Shp) (M : Mem) (a0 : Nat) (x1 : Int32) (x2 : Int32) (x3 : Int32) (r : Int32 × Mem) (h : fX12_speaker Z M a0 x1 x2 x3 = some r) : Ct l mX12_speaker [vr a0, vi x1, vi x2, vi x3] Z M ((some (vi r.1)), Z, r.2) := by
  refine Ct.of rfl (Nat.le_of_ble_eq_true rfl) (fun X hM => ?_)
  have hX := hM.1
  refine r_top (mk := fun r => ((some (vi r.1)), Z, r.2)) h (fun K hK => ?_)
  unfold fX12_speaker
  refine r_iconst (v := (-1 : Int32)) (q := 1) hX dX12_speaker_0 rfl rfl ?_
  refine r_istore (x := (-1 : Int32)) (q := 3) 4 [1, 2, 3, 4, 0] (L1 := [(0, vr a0), (1, vi x1), (2, vi x2), (3, vi x3), (4, vi (-1 : Int32))]) hX dX12_speaker_1 (Nat.le_of_ble_eq_true rfl) rfl rfl ?_
  refine r_iconst (v := (0 : Int32)) (q := 4) hX dX12_speaker_3 rfl rfl ?_
  refine r_istore (x := (0 : Int32)) (q := 6) 5 [1, 2, 3, 4, 5, 0] (L1 := [(0, vr a0), (1, vi x1), (2, vi x2), (3, vi x3), (4, vi (-1 : Int32)), (5, vi (0 : Int32))]) hX dX12_speaker_4 (Nat.le_of_ble_eq_true rfl) rfl rfl ?_
  refine r_loop (Hd := fun (s1 : Int32 × Int32 × Mem) (P : Option Res) => Ref mX12_speaker X 0 0 Z s1.2.2 6 [(0, vr a0), (1, vi x1), (2, vi x2), (3, vi x3), (4, vi s1.1), (5, vi s1.2.1)] [] P) (fun _ => r_none) (fun s1 K1 hn2 hx3 => ?_) ((-1 : Int32), (0 : Int32), M)
  refine r_iload (i := 5) (x := s1.2.1) (q := 8) 5 hX dX12_speaker_6 rfl rfl ?_
  refine r_aload_n (i := 0) (x := a0) (q := 9) 0 hX dX12_speaker_8 rfl rfl rfl ?_
  refine r_ck (fun hc4 => ?_)
  refine r_getI (a := a0) (ci := 12) (kf := 35) (q := 12) hX hc4 flX12_388 rfl rfl dX12_speaker_9 rfl ?_
  refine r_icmp_ge (tgt := 42) (q := 15) hX dX12_speaker_12 (by decide) rfl (fun hb5 => ?_) (fun hb5 => ?_)
  · refine r_iload (i := 4) (x := s1.1) (q := 44) 4 hX dX12_speaker_42 rfl rfl ?_
    refine r_lf ((hx3 _).trans (hK _)) ?_
    exact r_iret hM rfl (Nat.le_of_ble_eq_true rfl) (Nat.le_of_ble_eq_true rfl) dX12_speaker_44
  · refine r_aload_n (i := 0) (x := a0) (q := 16) 0 hX dX12_speaker_15 rfl rfl rfl ?_
    refine r_iload (i := 5) (x := s1.2.1) (q := 18) 5 hX dX12_speaker_16 rfl rfl ?_
    refine r_iload_n (i := 1) (x := x1) (q := 19) 1 hX dX12_speaker_18 rfl rfl rfl ?_
    refine r_iload_n (i := 2) (x := x2) (q := 20) 2 hX dX12_speaker_19 rfl rfl rfl ?_
    refine r_iload_n (i := 3) (x := x3) (q := 21) 3 hX dX12_speaker_20 rfl rfl rfl ?_
    refine r_bind (fun v6 h7 => ?_)
    refine r_cv (a := a0) (As := [vi s1.2.1, vi x1, vi x2, vi x3]) (st := []) (r := (some (vi v6.1))) (Z1 := Z) (M1 := v6.2) (k1 := 0) (n1 := 0) (st1 := [vi v6.1]) (q := 24) hX (fun l => kX12_binds l Z s1.2.2 a0 s1.2.1 x1 x2 x3 v6 h7) hc4 ivX12_binds ccX12_binds (Or.inl lkX12_400) rfl rfl rfl ⟨Nat.le_of_ble_eq_true rfl, Nat.le_of_ble_eq_true rfl, rfl, rfl, Nat.le_of_ble_eq_true rfl, Nat.le_of_ble_eq_true rfl⟩ (Nat.le_of_ble_eq_true rfl) dX12_speaker_21 rfl ?_
    refine r_if_eq (tgt := 32) (q := 27) hX dX12_speaker_24 (by decide) rfl (fun hb8 => ?_) (fun hb8 => ?_)
    · refine r_iload (i := 4) (x := s1.1) (q := 34) 4 hX dX12_speaker_32 rfl rfl ?_
      refine r_istore (x := s1.1) (q := 36) 4 [1, 2, 3, 4, 0, 6] (L1 := [(0, vr a0), (1, vi x1), (2, vi x2), (3, vi x3), (4, vi s1.1), (5, vi s1.2.1)]) hX dX12_speaker_34 (Nat.le_of_ble_eq_true rfl) rfl rfl ?_
      refine r_iinc (x := s1.2.1) (v := (s1.2.1 + (1 : Int32))) (q := 39) 5 5 [1, 2, 3, 4, 5, 0] (L1 := [(0, vr a0), (1, vi x1), (2, vi x2), (3, vi x3), (4, vi s1.1), (5, vi (s1.2.1 + (1 : Int32)))]) hX dX12_speaker_36 rfl rfl (Nat.le_of_ble_eq_true rfl) rfl rfl ?_
      refine r_goto (q := 6) hX dX12_speaker_39 (by decide) ?_
      refine r_l0 ?_
      exact hn2 (s1.1, (s1.2.1 + (1 : Int32)), v6.2)
    · refine r_iload (i := 5) (x := s1.2.1) (q := 29) 5 hX dX12_speaker_27 rfl rfl ?_
      refine r_goto (q := 34) hX dX12_speaker_29 (by decide) ?_
      refine r_istore (x := s1.2.1) (q := 36) 4 [1, 2, 3, 4, 0, 6] (L1 := [(0, vr a0), (1, vi x1), (2, vi x2), (3, vi x3), (4, vi s1.2.1), (5, vi s1.2.1)]) hX dX12_speaker_34 (Nat.le_of_ble_eq_true rfl) rfl rfl ?_
      refine r_iinc (x := s1.2.1) (v := (s1.2.1 + (1 : Int32))) (q := 39) 5 5 [1, 2, 3, 4, 5, 0] (L1 := [(0, vr a0), (1, vi x1), (2, vi x2), (3, vi x3), (4, vi s1.2.1), (5, vi (s1.2.1 + (1 : Int32)))]) hX dX12_speaker_36 rfl rfl (Nat.le_of_ble_eq_true rfl) rfl rfl ?_
      refine r_goto (q := 6) hX dX12_speaker_39 (by decide) ?_
      refine r_l0 ?_
      exact hn2 (s1.2.1, (s1.2.1 + (1 : Int32)), v6.2)
theorem lkX12_408 : Lk RX12 408 yX12_speaker := gd (hcw7_10 _ (List.mem_of_getElem? (i := 0) rfl)) rfl
theorem flX12_95 : FL RX12 95 12 37 := ⟨Nat.le_of_ble_eq_true rfl, Nat.le_of_ble_eq_true rfl, gd (hcw5_11 _ (List.mem_of_getElem? (i := 12) rfl)) rfl⟩
def mX12_says : MD := (yX12_says, cX12_says, 5, (some .int), 4, 100, 0, 0)
theorem ccX12_says : Cc mX12_says 3 := ⟨gd (hcw1_0 _ (List.mem_of_getElem? (i := 10) rfl)) rfl, gd (hcw7_11 _ (List.mem_of_getElem? (i := 7) rfl)) rfl, by decide +kernel, by decide +kernel, by decide +kernel⟩
theorem ivX12_says : Iv mX12_says 12 := ⟨Nat.le_of_ble_eq_true rfl, rfl, gd (hcw7_11 _ (List.mem_of_getElem? (i := 6) rfl)) rfl, gd (hps5 _ (List.mem_of_getElem? (i := 2) rfl)) rfl⟩
noncomputable def fX12_says (Z : Shp) (M : Mem) (a0 : Nat) (x1 : Int32) (x2 : Int32) (x3 : Int32) : Option (Int32 × Mem) := (if tg Z a0 = (13, 86) then (Option.bind (fX12_speaker Z M a0 x1 x2 x3) (fun v2 => (if v2.1 = (-1 : Int32) then some ((0 : Int32), v2.2) else (if aok Z (rR v2.2 a0 37) 100 v2.1 then some ((rI v2.2 (rR v2.2 a0 37) (ix v2.1)), v2.2) else none)))) else none)
set_option maxRecDepth 20000 in
theorem kX12_says (l : Launch) (Z : Shp) (M : Mem) (a0 : Nat) (x1 : Int32) (x2 : Int32) (x3 : Int32) (r : Int32 × Mem) (h : fX12_says Z M a0 x1 x2 x3 = some r) : Ct l mX12_says [vr a0, vi x1, vi x2, vi x3] Z M ((some (vi r.1)), Z, r.2) := by
  refine Ct.of rfl (Nat.le_of_ble_eq_true rfl) (fun X hM => ?_)
  have hX := hM.1
  refine r_top (mk := fun r => ((some (vi r.1)), Z, r.2)) h (fun K hK => ?_)
  unfold fX12_says
  refine r_aload_n (i := 0) (x := a0) (q := 1) 0 hX dX12_says_0 rfl rfl rfl ?_
  refine r_iload_n (i := 1) (x := x1) (q := 2) 1 hX dX12_says_1 rfl rfl rfl ?_
  refine r_iload_n (i := 2) (x := x2) (q := 3) 2 hX dX12_says_2 rfl rfl rfl ?_
  refine r_iload_n (i := 3) (x := x3) (q := 4) 3 hX dX12_says_3 rfl rfl rfl ?_
  refine r_ck (fun hc1 => ?_)
  refine r_bind (fun v2 h3 => ?_)
  refine r_cv (a := a0) (As := [vi x1, vi x2, vi x3]) (st := []) (r := (some (vi v2.1))) (Z1 := Z) (M1 := v2.2) (k1 := 0) (n1 := 0) (st1 := [vi v2.1]) (q := 7) hX (fun l => kX12_speaker l Z M a0 x1 x2 x3 v2 h3) hc1 ivX12_speaker ccX12_speaker (Or.inl lkX12_408) rfl rfl rfl ⟨Nat.le_of_ble_eq_true rfl, Nat.le_of_ble_eq_true rfl, rfl, rfl, Nat.le_of_ble_eq_true rfl, Nat.le_of_ble_eq_true rfl⟩ (Nat.le_of_ble_eq_true rfl) dX12_says_4 rfl ?_
  refine r_istore (x := v2.1) (q := 9) 4 [1, 2, 3, 4, 0] (L1 := [(0, vr a0), (1, vi x1), (2, vi x2), (3, vi x3), (4, vi v2.1)]) hX dX12_says_7 (Nat.le_of_ble_eq_true rfl) rfl rfl ?_
  refine r_iload (i := 4) (x := v2.1) (q := 11) 4 hX dX12_says_9 rfl rfl ?_
  refine r_iconst (v := (-1 : Int32)) (q := 12) hX dX12_says_11 rfl rfl ?_
  refine r_icmp_ne (tgt := 19) (q := 15) hX dX12_says_12 (by decide) rfl (fun hb4 => ?_) (fun hb4 => ?_)
  · refine r_iconst (v := (0 : Int32)) (q := 16) hX dX12_says_15 rfl rfl ?_
    refine r_goto (q := 26) hX dX12_says_16 (by decide) ?_
    refine r_lf (hK _) ?_
    exact r_iret hM rfl (Nat.le_of_ble_eq_true rfl) (Nat.le_of_ble_eq_true rfl) dX12_says_26
  · refine r_aload_n (i := 0) (x := a0) (q := 20) 0 hX dX12_says_19 rfl rfl rfl ?_
    refine r_getR (a := a0) (ci := 12) (kf := 37) (q := 23) hX hc1 flX12_95 rfl dX12_says_20 rfl ?_
    refine r_iload (i := 4) (x := v2.1) (q := 25) 4 hX dX12_says_23 rfl rfl ?_
    refine r_ck (fun hc5 => ?_)
    refine r_iald (a := (rR v2.2 a0 37)) (i := v2.1) (q := 26) hX hc5 dX12_says_25 rfl ?_
    refine r_lf (hK _) ?_
    exact r_iret hM rfl (Nat.le_of_ble_eq_true rfl) (Nat.le_of_ble_eq_true rfl) dX12_says_26
theorem lkX12_411 : Lk RX12 411 yX12_says := gd (hcw7_11 _ (List.mem_of_getElem? (i := 4) rfl)) rfl
def mX12_tollOf : MD := (yX12_tollOf, cX12_tollOf, 3, (some .int), 5, 124, 0, 0)
theorem ccX12_tollOf : Cc mX12_tollOf 2 := ⟨gd (hcw1_0 _ (List.mem_of_getElem? (i := 10) rfl)) rfl, gd (hcw7_11 _ (List.mem_of_getElem? (i := 3) rfl)) rfl, by decide +kernel, by decide +kernel, by decide +kernel⟩
theorem ivX12_tollOf : Iv mX12_tollOf 12 := ⟨Nat.le_of_ble_eq_true rfl, rfl, gd (hcw7_11 _ (List.mem_of_getElem? (i := 2) rfl)) rfl, gd (hps5 _ (List.mem_of_getElem? (i := 1) rfl)) rfl⟩
noncomputable def fX12_tollOf (Z : Shp) (M : Mem) (a0 : Nat) (x1 : Int32) (x2 : Int32) : Option (Int32 × Mem) := (if tg Z a0 = (13, 86) then (Option.bind (fX12_says Z M a0 (0 : Int32) x1 x2) (fun v2 => (if aok Z (rR v2.2 a0 24) 100 x1 then (Option.bind (fX12_milesOf Z v2.2 a0 x1) (fun v5 => some (((v2.1 * (rI v2.2 (rR v2.2 a0 24) (ix x1))) * v5), v2.2))) else none))) else none)
set_option maxRecDepth 20000 in
theorem kX12_tollOf (l : Launch) (Z : Shp) (M : Mem) (a0 : Nat) (x1 : Int32) (x2 : Int32) (r : Int32 × Mem) (h : fX12_tollOf Z M a0 x1 x2 = some r) : Ct l mX12_tollOf [vr a0, vi x1, vi x2] Z M ((some (vi r.1)), Z, r.2) := by
  refine Ct.of rfl (Nat.le_of_ble_eq_true rfl) (fun X hM => ?_)
  have hX := hM.1
  refine r_top (mk := fun r => ((some (vi r.1)), Z, r.2)) h (fun K hK => ?_)
  unfold fX12_tollOf
  refine r_aload_n (i := 0) (x := a0) (q := 1) 0 hX dX12_tollOf_0 rfl rfl rfl ?_
  refine r_iconst (v := (0 : Int32)) (q := 2) hX dX12_tollOf_1 rfl rfl ?_
  refine r_iload_n (i := 1) (x := x1) (q := 3) 1 hX dX12_tollOf_2 rfl rfl rfl ?_
  refine r_iload_n (i := 2) (x := x2) (q := 4) 2 hX dX12_tollOf_3 rfl rfl rfl ?_
  refine r_ck (fun hc1 => ?_)
  refine r_bind (fun v2 h3 => ?_)
  refine r_cv (a := a0) (As := [vi (0 : Int32), vi x1, vi x2]) (st := []) (r := (some (vi v2.1))) (Z1 := Z) (M1 := v2.2) (k1 := 0) (n1 := 0) (st1 := [vi v2.1]) (q := 7) hX (fun l => kX12_says l Z M a0 (0 : Int32) x1 x2 v2 h3) hc1 ivX12_says ccX12_says (Or.inl lkX12_411) rfl rfl rfl ⟨Nat.le_of_ble_eq_true rfl, Nat.le_of_ble_eq_true rfl, rfl, rfl, Nat.le_of_ble_eq_true rfl, Nat.le_of_ble_eq_true rfl⟩ (Nat.le_of_ble_eq_true rfl) dX12_tollOf_4 rfl ?_
  refine r_aload_n (i := 0) (x := a0) (q := 8) 0 hX dX12_tollOf_7 rfl rfl rfl ?_
  refine r_getR (a := a0) (ci := 12) (kf := 24) (q := 11) hX hc1 flX12_62 rfl dX12_tollOf_8 rfl ?_
  refine r_iload_n (i := 1) (x := x1) (q := 12) 1 hX dX12_tollOf_11 rfl rfl rfl ?_
  refine r_ck (fun hc4 => ?_)
  refine r_iald (a := (rR v2.2 a0 24)) (i := x1) (q := 13) hX hc4 dX12_tollOf_12 rfl ?_
  refine r_imul (q := 14) hX dX12_tollOf_13 rfl ?_
  refine r_aload_n (i := 0) (x := a0) (q := 15) 0 hX dX12_tollOf_14 rfl rfl rfl ?_
  refine r_iload_n (i := 1) (x := x1) (q := 16) 1 hX dX12_tollOf_15 rfl rfl rfl ?_
  refine r_bind (fun v5 h6 => ?_)
  refine r_cv (a := a0) (As := [vi x1]) (st := [vi (v2.1 * (rI v2.2 (rR v2.2 a0 24) (ix x1)))]) (r := (some (vi v5))) (Z1 := Z) (M1 := v2.2) (k1 := 0) (n1 := 0) (st1 := [vi v5, vi (v2.1 * (rI v2.2 (rR v2.2 a0 24) (ix x1)))]) (q := 19) hX (fun l => kX12_milesOf l Z v2.2 a0 x1 v5 h6) hc1 ivX12_milesOf ccX12_milesOf (Or.inl lkX12_257) rfl rfl rfl ⟨Nat.le_of_ble_eq_true rfl, Nat.le_of_ble_eq_true rfl, rfl, rfl, Nat.le_of_ble_eq_true rfl, Nat.le_of_ble_eq_true rfl⟩ (Nat.le_of_ble_eq_true rfl) dX12_tollOf_16 rfl ?_
  refine r_imul (q := 20) hX dX12_tollOf_19 rfl ?_
  refine r_lf (hK _) ?_
  exact r_iret hM rfl (Nat.le_of_ble_eq_true rfl) (Nat.le_of_ble_eq_true rfl) dX12_tollOf_20
theorem lkX12_393 : Lk RX12 393 yX12_isDay := gd (hcw7_9 _ (List.mem_of_getElem? (i := 8) rfl)) rfl
theorem flX12_155 : FL RX12 155 12 72 := ⟨Nat.le_of_ble_eq_true rfl, Nat.le_of_ble_eq_true rfl, gd (hcw6_1 _ (List.mem_of_getElem? (i := 7) rfl)) rfl⟩
theorem flX12_152 : FL RX12 152 12 71 := ⟨Nat.le_of_ble_eq_true rfl, Nat.le_of_ble_eq_true rfl, gd (hcw6_1 _ (List.mem_of_getElem? (i := 6) rfl)) rfl⟩
theorem lkX12_414 : Lk RX12 414 yX12_tollOf := gd (hcw7_11 _ (List.mem_of_getElem? (i := 0) rfl)) rfl
def mX12_bill : MD := (yX12_bill, cX12_bill, 4, (some .int), 6, 146, 0, 0)
theorem ccX12_bill : Cc mX12_bill 2 := ⟨gd (hcw1_0 _ (List.mem_of_getElem? (i := 10) rfl)) rfl, gd (hcw8_2 _ (List.mem_of_getElem? (i := 8) rfl)) rfl, by decide +kernel, by decide +kernel, by decide +kernel⟩
theorem ivX12_bill : Iv mX12_bill 12 := ⟨Nat.le_of_ble_eq_true rfl, rfl, gd (hcw8_2 _ (List.mem_of_getElem? (i := 6) rfl)) rfl, gd (hcw8_2 _ (List.mem_of_getElem? (i := 7) rfl)) rfl⟩
noncomputable def fX12_bill (Z : Shp) (M : Mem) (a0 : Nat) (x1 : Int32) (x2 : Int32) : Option (Int32 × Mem) := (if tg Z a0 = (13, 86) then (Option.bind (fX12_isBoat Z M a0 x1) (fun v2 => (if v2 = 0 then some ((-101 : Int32), M) else (if (fX12_isDay x2) = 0 then some ((-102 : Int32), M) else (if aok Z (rR M a0 72) 101 x1 then (if (rI M (rR M a0 72) (ix x1)) = 0 then (if aok Z (rR M a0 27) 100 x1 then (if aok Z (rR M a0 71) 100 (rI M (rR M a0 27) (ix x1)) then (Option.bind (fX12_tollOf Z M a0 x1 x2) (fun v10 => (pu (((rI M (rR M a0 71) (ix (rI M (rR M a0 27) (ix x1)))) + v10.1)) (fun z12 => (Option.bind (fX12_says Z v10.2 a0 (1 : Int32) x1 x2) (fun v13 => (if z12 ≤ v13.1 then (if aok Z (rR v13.2 a0 72) 101 x1 then (pu (wI v13.2 (rR v13.2 a0 72) (ix x1) (1 : Int32)) (fun M17 => (if aok Z (rR M17 a0 27) 100 x1 then (if aok Z (rR M17 a0 71) 100 (rI M17 (rR M17 a0 27) (ix x1)) then (pu (wI M17 (rR M17 a0 71) (ix (rI M17 (rR M17 a0 27) (ix x1))) z12) (fun M20 => some (z12, M20))) else none) else none))) else none) else some ((-1 : Int32), v13.2)))))))) else none) else none) else some ((-103 : Int32), M)) else none))))) else none)
set_option maxRecDepth 20000 in
theorem kX12_bill (l : Launch) (Z : Shp) (M : Mem) (a0 : Nat) (x1 : Int32) (x2 : Int32) (r : Int32 × Mem) (h : fX12_bill Z M a0 x1 x2 = some r) : Ct l mX12_bill [vr a0, vi x1, vi x2] Z M ((some (vi r.1)), Z, r.2) := by
  refine Ct.of rfl (Nat.le_of_ble_eq_true rfl) (fun X hM => ?_)
  have hX := hM.1
  refine r_top (mk := fun r => ((some (vi r.1)), Z, r.2)) h (fun K hK => ?_)
  unfold fX12_bill
  refine r_aload_n (i := 0) (x := a0) (q := 1) 0 hX dX12_bill_0 rfl rfl rfl ?_
  refine r_iload_n (i := 1) (x := x1) (q := 2) 1 hX dX12_bill_1 rfl rfl rfl ?_
  refine r_ck (fun hc1 => ?_)
  refine r_bind (fun v2 h3 => ?_)
  refine r_cv (a := a0) (As := [vi x1]) (st := []) (r := (some (vi v2))) (Z1 := Z) (M1 := M) (k1 := 0) (n1 := 0) (st1 := [vi v2]) (q := 5) hX (fun l => kX12_isBoat l Z M a0 x1 v2 h3) hc1 ivX12_isBoat ccX12_isBoat (Or.inl lkX12_261) rfl rfl rfl ⟨Nat.le_of_ble_eq_true rfl, Nat.le_of_ble_eq_true rfl, rfl, rfl, Nat.le_of_ble_eq_true rfl, Nat.le_of_ble_eq_true rfl⟩ (Nat.le_of_ble_eq_true rfl) dX12_bill_2 rfl ?_
  refine r_if_ne (tgt := 11) (q := 8) hX dX12_bill_5 (by decide) rfl (fun hb4 => ?_) (fun hb4 => ?_)
  · refine r_bipush (v := (-101 : Int32)) (q := 10) hX dX12_bill_8 rfl rfl ?_
    refine r_lf (hK _) ?_
    exact r_iret hM rfl (Nat.le_of_ble_eq_true rfl) (Nat.le_of_ble_eq_true rfl) dX12_bill_10
  · refine r_iload_n (i := 2) (x := x2) (q := 12) 2 hX dX12_bill_11 rfl rfl rfl ?_
    refine r_cs (As := [vi x2]) (st := []) (r := (some (vi (fX12_isDay x2)))) (Z1 := Z) (M1 := M) (k1 := 0) (n1 := 0) (st1 := [vi (fX12_isDay x2)]) (q := 15) hX (fun l => kX12_isDay l Z M x2) stX12_isDay ccX12_isDay (Or.inl lkX12_393) rfl rfl rfl ⟨Nat.le_of_ble_eq_true rfl, Nat.le_of_ble_eq_true rfl, rfl, rfl, Nat.le_of_ble_eq_true rfl, Nat.le_of_ble_eq_true rfl⟩ (Nat.le_of_ble_eq_true rfl) dX12_bill_12 rfl ?_
    refine r_if_ne (tgt := 21) (q := 18) hX dX12_bill_15 (by decide) rfl (fun hb5 => ?_) (fun hb5 => ?_)
    · refine r_bipush (v := (-102 : Int32)) (q := 20) hX dX12_bill_18 rfl rfl ?_
      refine r_lf (hK _) ?_
      exact r_iret hM rfl (Nat.le_of_ble_eq_true rfl) (Nat.le_of_ble_eq_true rfl) dX12_bill_20
    · refine r_aload_n (i := 0) (x := a0) (q := 22) 0 hX dX12_bill_21 rfl rfl rfl ?_
      refine r_getR (a := a0) (ci := 12) (kf := 72) (q := 25) hX hc1 flX12_155 rfl dX12_bill_22 rfl ?_
      refine r_iload_n (i := 1) (x := x1) (q := 26) 1 hX dX12_bill_25 rfl rfl rfl ?_
      refine r_ck (fun hc6 => ?_)
      refine r_zald (a := (rR M a0 72)) (i := x1) (q := 27) hX hc6 dX12_bill_26 rfl ?_
      refine r_if_eq (tgt := 33) (q := 30) hX dX12_bill_27 (by decide) rfl (fun hb7 => ?_) (fun hb7 => ?_)
      · refine r_aload_n (i := 0) (x := a0) (q := 34) 0 hX dX12_bill_33 rfl rfl rfl ?_
        refine r_getR (a := a0) (ci := 12) (kf := 71) (q := 37) hX hc1 flX12_152 rfl dX12_bill_34 rfl ?_
        refine r_aload_n (i := 0) (x := a0) (q := 38) 0 hX dX12_bill_37 rfl rfl rfl ?_
        refine r_getR (a := a0) (ci := 12) (kf := 27) (q := 41) hX hc1 flX12_71 rfl dX12_bill_38 rfl ?_
        refine r_iload_n (i := 1) (x := x1) (q := 42) 1 hX dX12_bill_41 rfl rfl rfl ?_
        refine r_ck (fun hc8 => ?_)
        refine r_iald (a := (rR M a0 27)) (i := x1) (q := 43) hX hc8 dX12_bill_42 rfl ?_
        refine r_ck (fun hc9 => ?_)
        refine r_iald (a := (rR M a0 71)) (i := (rI M (rR M a0 27) (ix x1))) (q := 44) hX hc9 dX12_bill_43 rfl ?_
        refine r_aload_n (i := 0) (x := a0) (q := 45) 0 hX dX12_bill_44 rfl rfl rfl ?_
        refine r_iload_n (i := 1) (x := x1) (q := 46) 1 hX dX12_bill_45 rfl rfl rfl ?_
        refine r_iload_n (i := 2) (x := x2) (q := 47) 2 hX dX12_bill_46 rfl rfl rfl ?_
        refine r_bind (fun v10 h11 => ?_)
        refine r_cv (a := a0) (As := [vi x1, vi x2]) (st := [vi (rI M (rR M a0 71) (ix (rI M (rR M a0 27) (ix x1))))]) (r := (some (vi v10.1))) (Z1 := Z) (M1 := v10.2) (k1 := 0) (n1 := 0) (st1 := [vi v10.1, vi (rI M (rR M a0 71) (ix (rI M (rR M a0 27) (ix x1))))]) (q := 50) hX (fun l => kX12_tollOf l Z M a0 x1 x2 v10 h11) hc1 ivX12_tollOf ccX12_tollOf (Or.inl lkX12_414) rfl rfl rfl ⟨Nat.le_of_ble_eq_true rfl, Nat.le_of_ble_eq_true rfl, rfl, rfl, Nat.le_of_ble_eq_true rfl, Nat.le_of_ble_eq_true rfl⟩ (Nat.le_of_ble_eq_true rfl) dX12_bill_47 rfl ?_
        refine r_iadd (q := 51) hX dX12_bill_50 rfl ?_
        refine r_istore_nP (x := ((rI M (rR M a0 71) (ix (rI M (rR M a0 27) (ix x1)))) + v10.1)) (q := 52) 3 [1, 2, 3, 0] (fun z12 => [(0, vr a0), (1, vi x1), (2, vi x2), (3, vi z12)]) hX dX12_bill_51 rfl (Nat.le_of_ble_eq_true rfl) (fun _ => rfl) rfl (fun z12 => ?_)
        refine r_iload_n (i := 3) (x := z12) (q := 53) 3 hX dX12_bill_52 rfl rfl rfl ?_
        refine r_aload_n (i := 0) (x := a0) (q := 54) 0 hX dX12_bill_53 rfl rfl rfl ?_
        refine r_iconst (v := (1 : Int32)) (q := 55) hX dX12_bill_54 rfl rfl ?_
        refine r_iload_n (i := 1) (x := x1) (q := 56) 1 hX dX12_bill_55 rfl rfl rfl ?_
        refine r_iload_n (i := 2) (x := x2) (q := 57) 2 hX dX12_bill_56 rfl rfl rfl ?_
        refine r_bind (fun v13 h14 => ?_)
        refine r_cv (a := a0) (As := [vi (1 : Int32), vi x1, vi x2]) (st := [vi z12]) (r := (some (vi v13.1))) (Z1 := Z) (M1 := v13.2) (k1 := 0) (n1 := 0) (st1 := [vi v13.1, vi z12]) (q := 60) hX (fun l => kX12_says l Z v10.2 a0 (1 : Int32) x1 x2 v13 h14) hc1 ivX12_says ccX12_says (Or.inl lkX12_411) rfl rfl rfl ⟨Nat.le_of_ble_eq_true rfl, Nat.le_of_ble_eq_true rfl, rfl, rfl, Nat.le_of_ble_eq_true rfl, Nat.le_of_ble_eq_true rfl⟩ (Nat.le_of_ble_eq_true rfl) dX12_bill_57 rfl ?_
        refine r_icmp_le (tgt := 65) (q := 63) hX dX12_bill_60 (by decide) rfl (fun hb15 => ?_) (fun hb15 => ?_)
        · refine r_aload_n (i := 0) (x := a0) (q := 66) 0 hX dX12_bill_65 rfl rfl rfl ?_
          refine r_getR (a := a0) (ci := 12) (kf := 72) (q := 69) hX hc1 flX12_155 rfl dX12_bill_66 rfl ?_
          refine r_iload_n (i := 1) (x := x1) (q := 70) 1 hX dX12_bill_69 rfl rfl rfl ?_
          refine r_iconst (v := (1 : Int32)) (q := 71) hX dX12_bill_70 rfl rfl ?_
          refine r_ck (fun hc16 => ?_)
          refine r_zast (a := (rR v13.2 a0 72)) (i := x1) (x := (1 : Int32)) (q := 72) hX hc16 (Or.inr rfl) dX12_bill_71 rfl (fun M17 => ?_)
          refine r_aload_n (i := 0) (x := a0) (q := 73) 0 hX dX12_bill_72 rfl rfl rfl ?_
          refine r_getR (a := a0) (ci := 12) (kf := 71) (q := 76) hX hc1 flX12_152 rfl dX12_bill_73 rfl ?_
          refine r_aload_n (i := 0) (x := a0) (q := 77) 0 hX dX12_bill_76 rfl rfl rfl ?_
          refine r_getR (a := a0) (ci := 12) (kf := 27) (q := 80) hX hc1 flX12_71 rfl dX12_bill_77 rfl ?_
          refine r_iload_n (i := 1) (x := x1) (q := 81) 1 hX dX12_bill_80 rfl rfl rfl ?_
          refine r_ck (fun hc18 => ?_)
          refine r_iald (a := (rR M17 a0 27)) (i := x1) (q := 82) hX hc18 dX12_bill_81 rfl ?_
          refine r_iload_n (i := 3) (x := z12) (q := 83) 3 hX dX12_bill_82 rfl rfl rfl ?_
          refine r_ck (fun hc19 => ?_)
          refine r_iast (a := (rR M17 a0 71)) (i := (rI M17 (rR M17 a0 27) (ix x1))) (x := z12) (q := 84) hX hc19 dX12_bill_83 rfl (fun M20 => ?_)
          refine r_iload_n (i := 3) (x := z12) (q := 85) 3 hX dX12_bill_84 rfl rfl rfl ?_
          refine r_lf (hK _) ?_
          exact r_iret hM rfl (Nat.le_of_ble_eq_true rfl) (Nat.le_of_ble_eq_true rfl) dX12_bill_85
        · refine r_iconst (v := (-1 : Int32)) (q := 64) hX dX12_bill_63 rfl rfl ?_
          refine r_lf (hK _) ?_
          exact r_iret hM rfl (Nat.le_of_ble_eq_true rfl) (Nat.le_of_ble_eq_true rfl) dX12_bill_64
      · refine r_bipush (v := (-103 : Int32)) (q := 32) hX dX12_bill_30 rfl rfl ?_
        refine r_lf (hK _) ?_
        exact r_iret hM rfl (Nat.le_of_ble_eq_true rfl) (Nat.le_of_ble_eq_true rfl) dX12_bill_32
def mX12_bitsOf : MD := (yX12_bitsOf, cX12_bitsOf, 3, (some .int), 0, 0, 0, 0)
theorem ccX12_bitsOf : Cc mX12_bitsOf 1 := ⟨gd (hcw1_0 _ (List.mem_of_getElem? (i := 10) rfl)) rfl, gd (hcw8_2 _ (List.mem_of_getElem? (i := 4) rfl)) rfl, by decide +kernel, by decide +kernel, by decide +kernel⟩
theorem stX12_bitsOf : Cond.static (yN mX12_bitsOf) ∈ lw_gd := gd (hcw8_2 _ (List.mem_of_getElem? (i := 3) rfl)) rfl
noncomputable def fX12_bitsOf (x0 : Int32) : Option (Int32) := (loop (fun s1 : Int32 × Int32 => (if (12 : Int32) ≤ s1.2 then some (Sum.inr s1.1) else (pu ((s1.1 + ((x0 >>> (s1.2 &&& 31)) &&& (1 : Int32)))) (fun z5 => some (Sum.inl (z5, (s1.2 + (1 : Int32)))))))) ((0 : Int32), (0 : Int32)))
set_option maxRecDepth 20000 in
theorem kX12_bitsOf (l : Launch) (Z : Shp) (M : Mem) (x0 : Int32) (r : Int32) (h : fX12_bitsOf x0 = some r) : Ct l mX12_bitsOf [vi x0] Z M ((some (vi r)), Z, M) := by
  refine Ct.of rfl (Nat.le_of_ble_eq_true rfl) (fun X hM => ?_)
  have hX := hM.1
  refine r_top (mk := fun r => ((some (vi r)), Z, M)) h (fun K hK => ?_)
  unfold fX12_bitsOf
  refine r_iconst (v := (0 : Int32)) (q := 1) hX dX12_bitsOf_0 rfl rfl ?_
  refine r_istore_n (x := (0 : Int32)) (q := 2) 1 [1, 0] (L1 := [(0, vi x0), (1, vi (0 : Int32))]) hX dX12_bitsOf_1 rfl (Nat.le_of_ble_eq_true rfl) rfl rfl ?_
  refine r_iconst (v := (0 : Int32)) (q := 3) hX dX12_bitsOf_2 rfl rfl ?_
  refine r_istore_n (x := (0 : Int32)) (q := 4) 2 [1, 2, 0] (L1 := [(0, vi x0), (1, vi (0 : Int32)), (2, vi (0 : Int32))]) hX dX12_bitsOf_3 rfl (Nat.le_of_ble_eq_true rfl) rfl rfl ?_
  refine r_loop (Hd := fun (s1 : Int32 × Int32) (P : Option Res) => Ref mX12_bitsOf X 0 0 Z M 4 [(0, vi x0), (1, vi s1.1), (2, vi s1.2)] [] P) (fun _ => r_none) (fun s1 K1 hn2 hx3 => ?_) ((0 : Int32), (0 : Int32))
  refine r_iload_n (i := 2) (x := s1.2) (q := 5) 2 hX dX12_bitsOf_4 rfl rfl rfl ?_
  refine r_bipush (v := (12 : Int32)) (q := 7) hX dX12_bitsOf_5 rfl rfl ?_
  refine r_icmp_ge (tgt := 24) (q := 10) hX dX12_bitsOf_7 (by decide) rfl (fun hb4 => ?_) (fun hb4 => ?_)
  · refine r_iload_n (i := 1) (x := s1.1) (q := 25) 1 hX dX12_bitsOf_24 rfl rfl rfl ?_
    refine r_lf ((hx3 _).trans (hK _)) ?_
    exact r_iret hM rfl (Nat.le_of_ble_eq_true rfl) (Nat.le_of_ble_eq_true rfl) dX12_bitsOf_25
  · refine r_iload_n (i := 1) (x := s1.1) (q := 11) 1 hX dX12_bitsOf_10 rfl rfl rfl ?_
    refine r_iload_n (i := 0) (x := x0) (q := 12) 0 hX dX12_bitsOf_11 rfl rfl rfl ?_
    refine r_iload_n (i := 2) (x := s1.2) (q := 13) 2 hX dX12_bitsOf_12 rfl rfl rfl ?_
    refine r_ishr (q := 14) hX dX12_bitsOf_13 rfl ?_
    refine r_iconst (v := (1 : Int32)) (q := 15) hX dX12_bitsOf_14 rfl rfl ?_
    refine r_iand (q := 16) hX dX12_bitsOf_15 rfl ?_
    refine r_iadd (q := 17) hX dX12_bitsOf_16 rfl ?_
    refine r_istore_nP (x := (s1.1 + ((x0 >>> (s1.2 &&& 31)) &&& (1 : Int32)))) (q := 18) 1 [1, 0, 3] (fun z5 => [(0, vi x0), (1, vi z5), (2, vi s1.2)]) hX dX12_bitsOf_17 rfl (Nat.le_of_ble_eq_true rfl) (fun _ => rfl) rfl (fun z5 => ?_)
    refine r_iinc (x := s1.2) (v := (s1.2 + (1 : Int32))) (q := 21) 2 2 [1, 2, 0] (L1 := [(0, vi x0), (1, vi z5), (2, vi (s1.2 + (1 : Int32)))]) hX dX12_bitsOf_18 rfl rfl (Nat.le_of_ble_eq_true rfl) rfl rfl ?_
    refine r_goto (q := 4) hX dX12_bitsOf_21 (by decide) ?_
    refine r_l0 ?_
    exact hn2 (z5, (s1.2 + (1 : Int32)))
theorem flX12_323 : FL RX12 323 12 34 := ⟨Nat.le_of_ble_eq_true rfl, Nat.le_of_ble_eq_true rfl, gd (hcw5_11 _ (List.mem_of_getElem? (i := 9) rfl)) rfl⟩
def mX12_blank : MD := (yX12_blank, cX12_blank, 2, (some .int), 0, 0, 0, 0)
theorem ccX12_blank : Cc mX12_blank 0 := ⟨gd (hcw1_0 _ (List.mem_of_getElem? (i := 10) rfl)) rfl, gd (hcw7_6 _ (List.mem_of_getElem? (i := 19) rfl)) rfl, by decide +kernel, by decide +kernel, by decide +kernel⟩
theorem ivX12_blank : Iv mX12_blank 12 := ⟨Nat.le_of_ble_eq_true rfl, rfl, gd (hcw7_6 _ (List.mem_of_getElem? (i := 17) rfl)) rfl, gd (hcw7_6 _ (List.mem_of_getElem? (i := 18) rfl)) rfl⟩
def fX12_blank (Z : Shp) (M : Mem) (a0 : Nat) : Option (Int32 × Mem) := (if tg Z a0 = (13, 86) then (pu ((rI M a0 34)) (fun z2 => (pu (wI M a0 34 (0 : Int32)) (fun M3 => some (z2, M3))))) else none)
set_option maxRecDepth 20000 in
theorem kX12_blank (l : Launch) (Z : Shp) (M : Mem) (a0 : Nat) (r : Int32 × Mem) (h : fX12_blank Z M a0 = some r) : Ct l mX12_blank [vr a0] Z M ((some (vi r.1)), Z, r.2) := by
  refine Ct.of rfl (Nat.le_of_ble_eq_true rfl) (fun X hM => ?_)
  have hX := hM.1
  refine r_top (mk := fun r => ((some (vi r.1)), Z, r.2)) h (fun K hK => ?_)
  unfold fX12_blank
  refine r_aload_n (i := 0) (x := a0) (q := 1) 0 hX dX12_blank_0 rfl rfl rfl ?_
  refine r_ck (fun hc1 => ?_)
  refine r_getI (a := a0) (ci := 12) (kf := 34) (q := 4) hX hc1 flX12_323 rfl rfl dX12_blank_1 rfl ?_
  refine r_istore_nP (x := (rI M a0 34)) (q := 5) 1 [1, 0] (fun z2 => [(0, vr a0), (1, vi z2)]) hX dX12_blank_4 rfl (Nat.le_of_ble_eq_true rfl) (fun _ => rfl) rfl (fun z2 => ?_)
  refine r_aload_n (i := 0) (x := a0) (q := 6) 0 hX dX12_blank_5 rfl rfl rfl ?_
  refine r_iconst (v := (0 : Int32)) (q := 7) hX dX12_blank_6 rfl rfl ?_
  refine r_putI (a := a0) (ci := 12) (kf := 34) (q := 10) hX hc1 flX12_323 rfl rfl (Or.inl rfl) rfl rfl dX12_blank_7 rfl (fun M3 => ?_)
  refine r_iload_n (i := 1) (x := z2) (q := 11) 1 hX dX12_blank_10 rfl rfl rfl ?_
  refine r_lf (hK _) ?_
  exact r_iret hM rfl (Nat.le_of_ble_eq_true rfl) (Nat.le_of_ble_eq_true rfl) dX12_blank_11
theorem flX12_65 : FL RX12 65 12 25 := ⟨Nat.le_of_ble_eq_true rfl, Nat.le_of_ble_eq_true rfl, gd (hcw5_11 _ (List.mem_of_getElem? (i := 0) rfl)) rfl⟩
theorem flX12_212 : FL RX12 212 12 11 := ⟨Nat.le_of_ble_eq_true rfl, Nat.le_of_ble_eq_true rfl, gd (hcw5_10 _ (List.mem_of_getElem? (i := 6) rfl)) rfl⟩
def mX12_boat : MD := (yX12_boat, cX12_boat, 7, (some .int), 2, 45, 0, 0)
theorem ccX12_boat : Cc mX12_boat 6 := ⟨gd (hcw1_0 _ (List.mem_of_getElem? (i := 10) rfl)) rfl, gd (hcw7_1 _ (List.mem_of_getElem? (i := 13) rfl)) rfl, by decide +kernel, by decide +kernel, by decide +kernel⟩
theorem ivX12_boat : Iv mX12_boat 12 := ⟨Nat.le_of_ble_eq_true rfl, rfl, gd (hcw7_1 _ (List.mem_of_getElem? (i := 11) rfl)) rfl, gd (hcw7_1 _ (List.mem_of_getElem? (i := 12) rfl)) rfl⟩
def fX12_boat (Z : Shp) (M : Mem) (a0 : Nat) (x1 : Int32) (x2 : Int32) (x3 : Int32) (x4 : Int32) (x5 : Int32) (x6 : Int32) : Option (Int32 × Mem) := (if (fX12_isPound x1) = 0 then some ((-101 : Int32), M) else (if (fX12_isPound x2) = 0 then some ((-101 : Int32), M) else (if x1 = x2 then some ((-101 : Int32), M) else (if (fX12_in (x3.toInt64) (0 : Int64) (40 : Int64)) = 0 then some ((-102 : Int32), M) else (if (fX12_in (x4.toInt64) (1 : Int64) (9 : Int64)) = 0 then some ((-102 : Int32), M) else (if (fX12_in (x5.toInt64) (0 : Int64) (3 : Int64)) = 0 then some ((-102 : Int32), M) else (if (fX12_in (x6.toInt64) (0 : Int64) (3 : Int64)) = 0 then some ((-102 : Int32), M) else (if tg Z a0 = (13, 86) then (if (rI M a0 21) = (12 : Int32) then some ((-104 : Int32), M) else (if aok Z (rR M a0 22) 100 (rI M a0 21) then (pu (wI M (rR M a0 22) (ix (rI M a0 21)) x1) (fun M11 => (if aok Z (rR M11 a0 23) 100 (rI M11 a0 21) then (pu (wI M11 (rR M11 a0 23) (ix (rI M11 a0 21)) x2) (fun M13 => (if aok Z (rR M13 a0 24) 100 (rI M13 a0 21) then (pu (wI M13 (rR M13 a0 24) (ix (rI M13 a0 21)) x3) (fun M15 => (if aok Z (rR M15 a0 25) 100 (rI M15 a0 21) then (pu (wI M15 (rR M15 a0 25) (ix (rI M15 a0 21)) x4) (fun M17 => (if aok Z (rR M17 a0 26) 100 (rI M17 a0 21) then (pu (wI M17 (rR M17 a0 26) (ix (rI M17 a0 21)) x5) (fun M19 => (if aok Z (rR M19 a0 27) 100 (rI M19 a0 21) then (pu (wI M19 (rR M19 a0 27) (ix (rI M19 a0 21)) x6) (fun M21 => (if aok Z (rR M21 a0 28) 100 (rI M21 a0 21) then (pu (wI M21 (rR M21 a0 28) (ix (rI M21 a0 21)) x1) (fun M23 => (if aok Z (rR M23 a0 29) 100 (rI M23 a0 21) then (pu (wI M23 (rR M23 a0 29) (ix (rI M23 a0 21)) ((rI M23 a0 11) + x4)) (fun M25 => (pu (wI M25 a0 21 ((rI M25 a0 21) + (1 : Int32))) (fun M26 => some (((rI M26 a0 21) - (1 : Int32)), M26))))) else none))) else none))) else none))) else none))) else none))) else none))) else none))) else none)) else none))))))))
set_option maxRecDepth 20000 in
theorem kX12_boat (l : Launch) (Z : Shp) (M : Mem) (a0 : Nat) (x1 : Int32) (x2 : Int32) (x3 : Int32) (x4 : Int32) (x5 : Int32) (x6 : Int32) (r : Int32 × Mem) (h : fX12_boat Z M a0 x1 x2 x3 x4 x5 x6 = some r) : Ct l mX12_boat [vr a0, vi x1, vi x2, vi x3, vi x4, vi x5, vi x6] Z M ((some (vi r.1)), Z, r.2) := by
  refine Ct.of rfl (Nat.le_of_ble_eq_true rfl) (fun X hM => ?_)
  have hX := hM.1
  refine r_top (mk := fun r => ((some (vi r.1)), Z, r.2)) h (fun K hK => ?_)
  unfold fX12_boat
  refine r_iload_n (i := 1) (x := x1) (q := 1) 1 hX dX12_boat_0 rfl rfl rfl ?_
  refine r_cs (As := [vi x1]) (st := []) (r := (some (vi (fX12_isPound x1)))) (Z1 := Z) (M1 := M) (k1 := 0) (n1 := 0) (st1 := [vi (fX12_isPound x1)]) (q := 4) hX (fun l => kX12_isPound l Z M x1) stX12_isPound ccX12_isPound (Or.inl lkX12_198) rfl rfl rfl ⟨Nat.le_of_ble_eq_true rfl, Nat.le_of_ble_eq_true rfl, rfl, rfl, Nat.le_of_ble_eq_true rfl, Nat.le_of_ble_eq_true rfl⟩ (Nat.le_of_ble_eq_true rfl) dX12_boat_1 rfl ?_
  refine r_if_eq (tgt := 19) (q := 7) hX dX12_boat_4 (by decide) rfl (fun hb1 => ?_) (fun hb1 => ?_)
  · refine r_bipush (v := (-101 : Int32)) (q := 21) hX dX12_boat_19 rfl rfl ?_
    refine r_lf (hK _) ?_
    exact r_iret hM rfl (Nat.le_of_ble_eq_true rfl) (Nat.le_of_ble_eq_true rfl) dX12_boat_21
  · refine r_iload_n (i := 2) (x := x2) (q := 8) 2 hX dX12_boat_7 rfl rfl rfl ?_
    refine r_cs (As := [vi x2]) (st := []) (r := (some (vi (fX12_isPound x2)))) (Z1 := Z) (M1 := M) (k1 := 0) (n1 := 0) (st1 := [vi (fX12_isPound x2)]) (q := 11) hX (fun l => kX12_isPound l Z M x2) stX12_isPound ccX12_isPound (Or.inl lkX12_198) rfl rfl rfl ⟨Nat.le_of_ble_eq_true rfl, Nat.le_of_ble_eq_true rfl, rfl, rfl, Nat.le_of_ble_eq_true rfl, Nat.le_of_ble_eq_true rfl⟩ (Nat.le_of_ble_eq_true rfl) dX12_boat_8 rfl ?_
    refine r_if_eq (tgt := 19) (q := 14) hX dX12_boat_11 (by decide) rfl (fun hb2 => ?_) (fun hb2 => ?_)
    · refine r_bipush (v := (-101 : Int32)) (q := 21) hX dX12_boat_19 rfl rfl ?_
      refine r_lf (hK _) ?_
      exact r_iret hM rfl (Nat.le_of_ble_eq_true rfl) (Nat.le_of_ble_eq_true rfl) dX12_boat_21
    · refine r_iload_n (i := 1) (x := x1) (q := 15) 1 hX dX12_boat_14 rfl rfl rfl ?_
      refine r_iload_n (i := 2) (x := x2) (q := 16) 2 hX dX12_boat_15 rfl rfl rfl ?_
      refine r_icmp_ne (tgt := 22) (q := 19) hX dX12_boat_16 (by decide) rfl (fun hb3 => ?_) (fun hb3 => ?_)
      · refine r_bipush (v := (-101 : Int32)) (q := 21) hX dX12_boat_19 rfl rfl ?_
        refine r_lf (hK _) ?_
        exact r_iret hM rfl (Nat.le_of_ble_eq_true rfl) (Nat.le_of_ble_eq_true rfl) dX12_boat_21
      · refine r_iload_n (i := 3) (x := x3) (q := 23) 3 hX dX12_boat_22 rfl rfl rfl ?_
        refine r_i2l (q := 24) hX dX12_boat_23 rfl ?_
        refine r_lconst (v := (0 : Int64)) (q := 25) hX dX12_boat_24 rfl rfl ?_
        refine r_ldc2 (v := (40 : Int64)) (q := 28) hX dX12_boat_25 (gd (hcw7_1 _ (List.mem_of_getElem? (i := 14) rfl)) rfl) rfl ?_
        refine r_cs (As := [vj (x3.toInt64), vj (0 : Int64), vj (40 : Int64)]) (st := []) (r := (some (vi (fX12_in (x3.toInt64) (0 : Int64) (40 : Int64))))) (Z1 := Z) (M1 := M) (k1 := 0) (n1 := 0) (st1 := [vi (fX12_in (x3.toInt64) (0 : Int64) (40 : Int64))]) (q := 31) hX (fun l => kX12_in l Z M (x3.toInt64) (0 : Int64) (40 : Int64)) stX12_in ccX12_in (Or.inl lkX12_194) rfl rfl rfl ⟨Nat.le_of_ble_eq_true rfl, Nat.le_of_ble_eq_true rfl, rfl, rfl, Nat.le_of_ble_eq_true rfl, Nat.le_of_ble_eq_true rfl⟩ (Nat.le_of_ble_eq_true rfl) dX12_boat_28 rfl ?_
        refine r_if_eq (tgt := 73) (q := 34) hX dX12_boat_31 (by decide) rfl (fun hb4 => ?_) (fun hb4 => ?_)
        · refine r_bipush (v := (-102 : Int32)) (q := 75) hX dX12_boat_73 rfl rfl ?_
          refine r_lf (hK _) ?_
          exact r_iret hM rfl (Nat.le_of_ble_eq_true rfl) (Nat.le_of_ble_eq_true rfl) dX12_boat_75
        · refine r_iload (i := 4) (x := x4) (q := 36) 4 hX dX12_boat_34 rfl rfl ?_
          refine r_i2l (q := 37) hX dX12_boat_36 rfl ?_
          refine r_lconst (v := (1 : Int64)) (q := 38) hX dX12_boat_37 rfl rfl ?_
          refine r_ldc2 (v := (9 : Int64)) (q := 41) hX dX12_boat_38 (gd (hcw7_0 _ (List.mem_of_getElem? (i := 11) rfl)) rfl) rfl ?_
          refine r_cs (As := [vj (x4.toInt64), vj (1 : Int64), vj (9 : Int64)]) (st := []) (r := (some (vi (fX12_in (x4.toInt64) (1 : Int64) (9 : Int64))))) (Z1 := Z) (M1 := M) (k1 := 0) (n1 := 0) (st1 := [vi (fX12_in (x4.toInt64) (1 : Int64) (9 : Int64))]) (q := 44) hX (fun l => kX12_in l Z M (x4.toInt64) (1 : Int64) (9 : Int64)) stX12_in ccX12_in (Or.inl lkX12_194) rfl rfl rfl ⟨Nat.le_of_ble_eq_true rfl, Nat.le_of_ble_eq_true rfl, rfl, rfl, Nat.le_of_ble_eq_true rfl, Nat.le_of_ble_eq_true rfl⟩ (Nat.le_of_ble_eq_true rfl) dX12_boat_41 rfl ?_
          refine r_if_eq (tgt := 73) (q := 47) hX dX12_boat_44 (by decide) rfl (fun hb5 => ?_) (fun hb5 => ?_)
          · refine r_bipush (v := (-102 : Int32)) (q := 75) hX dX12_boat_73 rfl rfl ?_
            refine r_lf (hK _) ?_
            exact r_iret hM rfl (Nat.le_of_ble_eq_true rfl) (Nat.le_of_ble_eq_true rfl) dX12_boat_75
          · refine r_iload (i := 5) (x := x5) (q := 49) 5 hX dX12_boat_47 rfl rfl ?_
            refine r_i2l (q := 50) hX dX12_boat_49 rfl ?_
            refine r_lconst (v := (0 : Int64)) (q := 51) hX dX12_boat_50 rfl rfl ?_
            refine r_ldc2 (v := (3 : Int64)) (q := 54) hX dX12_boat_51 (gd (hcw7_1 _ (List.mem_of_getElem? (i := 15) rfl)) rfl) rfl ?_
            refine r_cs (As := [vj (x5.toInt64), vj (0 : Int64), vj (3 : Int64)]) (st := []) (r := (some (vi (fX12_in (x5.toInt64) (0 : Int64) (3 : Int64))))) (Z1 := Z) (M1 := M) (k1 := 0) (n1 := 0) (st1 := [vi (fX12_in (x5.toInt64) (0 : Int64) (3 : Int64))]) (q := 57) hX (fun l => kX12_in l Z M (x5.toInt64) (0 : Int64) (3 : Int64)) stX12_in ccX12_in (Or.inl lkX12_194) rfl rfl rfl ⟨Nat.le_of_ble_eq_true rfl, Nat.le_of_ble_eq_true rfl, rfl, rfl, Nat.le_of_ble_eq_true rfl, Nat.le_of_ble_eq_true rfl⟩ (Nat.le_of_ble_eq_true rfl) dX12_boat_54 rfl ?_
            refine r_if_eq (tgt := 73) (q := 60) hX dX12_boat_57 (by decide) rfl (fun hb6 => ?_) (fun hb6 => ?_)
            · refine r_bipush (v := (-102 : Int32)) (q := 75) hX dX12_boat_73 rfl rfl ?_
              refine r_lf (hK _) ?_
              exact r_iret hM rfl (Nat.le_of_ble_eq_true rfl) (Nat.le_of_ble_eq_true rfl) dX12_boat_75
            · refine r_iload (i := 6) (x := x6) (q := 62) 6 hX dX12_boat_60 rfl rfl ?_
              refine r_i2l (q := 63) hX dX12_boat_62 rfl ?_
              refine r_lconst (v := (0 : Int64)) (q := 64) hX dX12_boat_63 rfl rfl ?_
              refine r_ldc2 (v := (3 : Int64)) (q := 67) hX dX12_boat_64 (gd (hcw7_1 _ (List.mem_of_getElem? (i := 15) rfl)) rfl) rfl ?_
              refine r_cs (As := [vj (x6.toInt64), vj (0 : Int64), vj (3 : Int64)]) (st := []) (r := (some (vi (fX12_in (x6.toInt64) (0 : Int64) (3 : Int64))))) (Z1 := Z) (M1 := M) (k1 := 0) (n1 := 0) (st1 := [vi (fX12_in (x6.toInt64) (0 : Int64) (3 : Int64))]) (q := 70) hX (fun l => kX12_in l Z M (x6.toInt64) (0 : Int64) (3 : Int64)) stX12_in ccX12_in (Or.inl lkX12_194) rfl rfl rfl ⟨Nat.le_of_ble_eq_true rfl, Nat.le_of_ble_eq_true rfl, rfl, rfl, Nat.le_of_ble_eq_true rfl, Nat.le_of_ble_eq_true rfl⟩ (Nat.le_of_ble_eq_true rfl) dX12_boat_67 rfl ?_
              refine r_if_ne (tgt := 76) (q := 73) hX dX12_boat_70 (by decide) rfl (fun hb7 => ?_) (fun hb7 => ?_)
              · refine r_bipush (v := (-102 : Int32)) (q := 75) hX dX12_boat_73 rfl rfl ?_
                refine r_lf (hK _) ?_
                exact r_iret hM rfl (Nat.le_of_ble_eq_true rfl) (Nat.le_of_ble_eq_true rfl) dX12_boat_75
              · refine r_aload_n (i := 0) (x := a0) (q := 77) 0 hX dX12_boat_76 rfl rfl rfl ?_
                refine r_ck (fun hc8 => ?_)
                refine r_getI (a := a0) (ci := 12) (kf := 21) (q := 80) hX hc8 flX12_215 rfl rfl dX12_boat_77 rfl ?_
                refine r_bipush (v := (12 : Int32)) (q := 82) hX dX12_boat_80 rfl rfl ?_
                refine r_icmp_ne (tgt := 88) (q := 85) hX dX12_boat_82 (by decide) rfl (fun hb9 => ?_) (fun hb9 => ?_)
                · refine r_bipush (v := (-104 : Int32)) (q := 87) hX dX12_boat_85 rfl rfl ?_
                  refine r_lf (hK _) ?_
                  exact r_iret hM rfl (Nat.le_of_ble_eq_true rfl) (Nat.le_of_ble_eq_true rfl) dX12_boat_87
                · refine r_aload_n (i := 0) (x := a0) (q := 89) 0 hX dX12_boat_88 rfl rfl rfl ?_
                  refine r_getR (a := a0) (ci := 12) (kf := 22) (q := 92) hX hc8 flX12_56 rfl dX12_boat_89 rfl ?_
                  refine r_aload_n (i := 0) (x := a0) (q := 93) 0 hX dX12_boat_92 rfl rfl rfl ?_
                  refine r_getI (a := a0) (ci := 12) (kf := 21) (q := 96) hX hc8 flX12_215 rfl rfl dX12_boat_93 rfl ?_
                  refine r_iload_n (i := 1) (x := x1) (q := 97) 1 hX dX12_boat_96 rfl rfl rfl ?_
                  refine r_ck (fun hc10 => ?_)
                  refine r_iast (a := (rR M a0 22)) (i := (rI M a0 21)) (x := x1) (q := 98) hX hc10 dX12_boat_97 rfl (fun M11 => ?_)
                  refine r_aload_n (i := 0) (x := a0) (q := 99) 0 hX dX12_boat_98 rfl rfl rfl ?_
                  refine r_getR (a := a0) (ci := 12) (kf := 23) (q := 102) hX hc8 flX12_59 rfl dX12_boat_99 rfl ?_
                  refine r_aload_n (i := 0) (x := a0) (q := 103) 0 hX dX12_boat_102 rfl rfl rfl ?_
                  refine r_getI (a := a0) (ci := 12) (kf := 21) (q := 106) hX hc8 flX12_215 rfl rfl dX12_boat_103 rfl ?_
                  refine r_iload_n (i := 2) (x := x2) (q := 107) 2 hX dX12_boat_106 rfl rfl rfl ?_
                  refine r_ck (fun hc12 => ?_)
                  refine r_iast (a := (rR M11 a0 23)) (i := (rI M11 a0 21)) (x := x2) (q := 108) hX hc12 dX12_boat_107 rfl (fun M13 => ?_)
                  refine r_aload_n (i := 0) (x := a0) (q := 109) 0 hX dX12_boat_108 rfl rfl rfl ?_
                  refine r_getR (a := a0) (ci := 12) (kf := 24) (q := 112) hX hc8 flX12_62 rfl dX12_boat_109 rfl ?_
                  refine r_aload_n (i := 0) (x := a0) (q := 113) 0 hX dX12_boat_112 rfl rfl rfl ?_
                  refine r_getI (a := a0) (ci := 12) (kf := 21) (q := 116) hX hc8 flX12_215 rfl rfl dX12_boat_113 rfl ?_
                  refine r_iload_n (i := 3) (x := x3) (q := 117) 3 hX dX12_boat_116 rfl rfl rfl ?_
                  refine r_ck (fun hc14 => ?_)
                  refine r_iast (a := (rR M13 a0 24)) (i := (rI M13 a0 21)) (x := x3) (q := 118) hX hc14 dX12_boat_117 rfl (fun M15 => ?_)
                  refine r_aload_n (i := 0) (x := a0) (q := 119) 0 hX dX12_boat_118 rfl rfl rfl ?_
                  refine r_getR (a := a0) (ci := 12) (kf := 25) (q := 122) hX hc8 flX12_65 rfl dX12_boat_119 rfl ?_
                  refine r_aload_n (i := 0) (x := a0) (q := 123) 0 hX dX12_boat_122 rfl rfl rfl ?_
                  refine r_getI (a := a0) (ci := 12) (kf := 21) (q := 126) hX hc8 flX12_215 rfl rfl dX12_boat_123 rfl ?_
                  refine r_iload (i := 4) (x := x4) (q := 128) 4 hX dX12_boat_126 rfl rfl ?_
                  refine r_ck (fun hc16 => ?_)
                  refine r_iast (a := (rR M15 a0 25)) (i := (rI M15 a0 21)) (x := x4) (q := 129) hX hc16 dX12_boat_128 rfl (fun M17 => ?_)
                  refine r_aload_n (i := 0) (x := a0) (q := 130) 0 hX dX12_boat_129 rfl rfl rfl ?_
                  refine r_getR (a := a0) (ci := 12) (kf := 26) (q := 133) hX hc8 flX12_68 rfl dX12_boat_130 rfl ?_
                  refine r_aload_n (i := 0) (x := a0) (q := 134) 0 hX dX12_boat_133 rfl rfl rfl ?_
                  refine r_getI (a := a0) (ci := 12) (kf := 21) (q := 137) hX hc8 flX12_215 rfl rfl dX12_boat_134 rfl ?_
                  refine r_iload (i := 5) (x := x5) (q := 139) 5 hX dX12_boat_137 rfl rfl ?_
                  refine r_ck (fun hc18 => ?_)
                  refine r_iast (a := (rR M17 a0 26)) (i := (rI M17 a0 21)) (x := x5) (q := 140) hX hc18 dX12_boat_139 rfl (fun M19 => ?_)
                  refine r_aload_n (i := 0) (x := a0) (q := 141) 0 hX dX12_boat_140 rfl rfl rfl ?_
                  refine r_getR (a := a0) (ci := 12) (kf := 27) (q := 144) hX hc8 flX12_71 rfl dX12_boat_141 rfl ?_
                  refine r_aload_n (i := 0) (x := a0) (q := 145) 0 hX dX12_boat_144 rfl rfl rfl ?_
                  refine r_getI (a := a0) (ci := 12) (kf := 21) (q := 148) hX hc8 flX12_215 rfl rfl dX12_boat_145 rfl ?_
                  refine r_iload (i := 6) (x := x6) (q := 150) 6 hX dX12_boat_148 rfl rfl ?_
                  refine r_ck (fun hc20 => ?_)
                  refine r_iast (a := (rR M19 a0 27)) (i := (rI M19 a0 21)) (x := x6) (q := 151) hX hc20 dX12_boat_150 rfl (fun M21 => ?_)
                  refine r_aload_n (i := 0) (x := a0) (q := 152) 0 hX dX12_boat_151 rfl rfl rfl ?_
                  refine r_getR (a := a0) (ci := 12) (kf := 28) (q := 155) hX hc8 flX12_74 rfl dX12_boat_152 rfl ?_
                  refine r_aload_n (i := 0) (x := a0) (q := 156) 0 hX dX12_boat_155 rfl rfl rfl ?_
                  refine r_getI (a := a0) (ci := 12) (kf := 21) (q := 159) hX hc8 flX12_215 rfl rfl dX12_boat_156 rfl ?_
                  refine r_iload_n (i := 1) (x := x1) (q := 160) 1 hX dX12_boat_159 rfl rfl rfl ?_
                  refine r_ck (fun hc22 => ?_)
                  refine r_iast (a := (rR M21 a0 28)) (i := (rI M21 a0 21)) (x := x1) (q := 161) hX hc22 dX12_boat_160 rfl (fun M23 => ?_)
                  refine r_aload_n (i := 0) (x := a0) (q := 162) 0 hX dX12_boat_161 rfl rfl rfl ?_
                  refine r_getR (a := a0) (ci := 12) (kf := 29) (q := 165) hX hc8 flX12_77 rfl dX12_boat_162 rfl ?_
                  refine r_aload_n (i := 0) (x := a0) (q := 166) 0 hX dX12_boat_165 rfl rfl rfl ?_
                  refine r_getI (a := a0) (ci := 12) (kf := 21) (q := 169) hX hc8 flX12_215 rfl rfl dX12_boat_166 rfl ?_
                  refine r_aload_n (i := 0) (x := a0) (q := 170) 0 hX dX12_boat_169 rfl rfl rfl ?_
                  refine r_getI (a := a0) (ci := 12) (kf := 11) (q := 173) hX hc8 flX12_212 rfl rfl dX12_boat_170 rfl ?_
                  refine r_iload (i := 4) (x := x4) (q := 175) 4 hX dX12_boat_173 rfl rfl ?_
                  refine r_iadd (q := 176) hX dX12_boat_175 rfl ?_
                  refine r_ck (fun hc24 => ?_)
                  refine r_iast (a := (rR M23 a0 29)) (i := (rI M23 a0 21)) (x := ((rI M23 a0 11) + x4)) (q := 177) hX hc24 dX12_boat_176 rfl (fun M25 => ?_)
                  refine r_aload_n (i := 0) (x := a0) (q := 178) 0 hX dX12_boat_177 rfl rfl rfl ?_
                  refine r_dup (q := 179) hX dX12_boat_178 rfl rfl ?_
                  refine r_getI (a := a0) (ci := 12) (kf := 21) (q := 182) hX hc8 flX12_215 rfl rfl dX12_boat_179 rfl ?_
                  refine r_iconst (v := (1 : Int32)) (q := 183) hX dX12_boat_182 rfl rfl ?_
                  refine r_iadd (q := 184) hX dX12_boat_183 rfl ?_
                  refine r_putI (a := a0) (ci := 12) (kf := 21) (q := 187) hX hc8 flX12_215 rfl rfl (Or.inl rfl) rfl rfl dX12_boat_184 rfl (fun M26 => ?_)
                  refine r_aload_n (i := 0) (x := a0) (q := 188) 0 hX dX12_boat_187 rfl rfl rfl ?_
                  refine r_getI (a := a0) (ci := 12) (kf := 21) (q := 191) hX hc8 flX12_215 rfl rfl dX12_boat_188 rfl ?_
                  refine r_iconst (v := (1 : Int32)) (q := 192) hX dX12_boat_191 rfl rfl ?_
                  refine r_isub (q := 193) hX dX12_boat_192 rfl ?_
                  refine r_lf (hK _) ?_
                  exact r_iret hM rfl (Nat.le_of_ble_eq_true rfl) (Nat.le_of_ble_eq_true rfl) dX12_boat_193
def mX12_isReady : MD := (yX12_isReady, cX12_isReady, 2, (some .boolean), 0, 0, 0, 0)
theorem ccX12_isReady : Cc mX12_isReady 1 := ⟨gd (hcw1_0 _ (List.mem_of_getElem? (i := 10) rfl)) rfl, gd (hcw7_3 _ (List.mem_of_getElem? (i := 15) rfl)) rfl, by decide +kernel, by decide +kernel, by decide +kernel⟩
theorem ivX12_isReady : Iv mX12_isReady 12 := ⟨Nat.le_of_ble_eq_true rfl, rfl, gd (hcw7_3 _ (List.mem_of_getElem? (i := 14) rfl)) rfl, gd (hps3 _ (List.mem_of_getElem? (i := 11) rfl)) rfl⟩
def fX12_isReady (Z : Shp) (M : Mem) (a0 : Nat) (x1 : Int32) : Option (Int32) := (if tg Z a0 = (13, 86) then (if aok Z (rR M a0 29) 100 x1 then (if (rI M (rR M a0 29) (ix x1)) = (-1 : Int32) then some (0 : Int32) else (if (rI M a0 11) < (rI M (rR M a0 29) (ix x1)) then some (0 : Int32) else some (1 : Int32))) else none) else none)
set_option maxRecDepth 20000 in
theorem kX12_isReady (l : Launch) (Z : Shp) (M : Mem) (a0 : Nat) (x1 : Int32) (r : Int32) (h : fX12_isReady Z M a0 x1 = some r) : Ct l mX12_isReady [vr a0, vi x1] Z M ((some (vi r)), Z, M) := by
  refine Ct.of rfl (Nat.le_of_ble_eq_true rfl) (fun X hM => ?_)
  have hX := hM.1
  refine r_top (mk := fun r => ((some (vi r)), Z, M)) h (fun K hK => ?_)
  unfold fX12_isReady
  refine r_aload_n (i := 0) (x := a0) (q := 1) 0 hX dX12_isReady_0 rfl rfl rfl ?_
  refine r_ck (fun hc1 => ?_)
  refine r_getR (a := a0) (ci := 12) (kf := 29) (q := 4) hX hc1 flX12_77 rfl dX12_isReady_1 rfl ?_
  refine r_iload_n (i := 1) (x := x1) (q := 5) 1 hX dX12_isReady_4 rfl rfl rfl ?_
  refine r_ck (fun hc2 => ?_)
  refine r_iald (a := (rR M a0 29)) (i := x1) (q := 6) hX hc2 dX12_isReady_5 rfl ?_
  refine r_iconst (v := (-1 : Int32)) (q := 7) hX dX12_isReady_6 rfl rfl ?_
  refine r_icmp_eq (tgt := 27) (q := 10) hX dX12_isReady_7 (by decide) rfl (fun hb3 => ?_) (fun hb3 => ?_)
  · refine r_iconst (v := (0 : Int32)) (q := 28) hX dX12_isReady_27 rfl rfl ?_
    refine r_lf (hK _) ?_
    exact r_zret hM rfl (Or.inl rfl) (Nat.le_of_ble_eq_true rfl) (Nat.le_of_ble_eq_true rfl) dX12_isReady_28
  · refine r_aload_n (i := 0) (x := a0) (q := 11) 0 hX dX12_isReady_10 rfl rfl rfl ?_
    refine r_getR (a := a0) (ci := 12) (kf := 29) (q := 14) hX hc1 flX12_77 rfl dX12_isReady_11 rfl ?_
    refine r_iload_n (i := 1) (x := x1) (q := 15) 1 hX dX12_isReady_14 rfl rfl rfl ?_
    refine r_iald (a := (rR M a0 29)) (i := x1) (q := 16) hX hc2 dX12_isReady_15 rfl ?_
    refine r_aload_n (i := 0) (x := a0) (q := 17) 0 hX dX12_isReady_16 rfl rfl rfl ?_
    refine r_getI (a := a0) (ci := 12) (kf := 11) (q := 20) hX hc1 flX12_212 rfl rfl dX12_isReady_17 rfl ?_
    refine r_icmp_gt (tgt := 27) (q := 23) hX dX12_isReady_20 (by decide) rfl (fun hb4 => ?_) (fun hb4 => ?_)
    · refine r_iconst (v := (0 : Int32)) (q := 28) hX dX12_isReady_27 rfl rfl ?_
      refine r_lf (hK _) ?_
      exact r_zret hM rfl (Or.inl rfl) (Nat.le_of_ble_eq_true rfl) (Nat.le_of_ble_eq_true rfl) dX12_isReady_28
    · refine r_iconst (v := (1 : Int32)) (q := 24) hX dX12_isReady_23 rfl rfl ?_
      refine r_goto (q := 28) hX dX12_isReady_24 (by decide) ?_
      refine r_lf (hK _) ?_
      exact r_zret hM rfl (Or.inr rfl) (Nat.le_of_ble_eq_true rfl) (Nat.le_of_ble_eq_true rfl) dX12_isReady_28
theorem lkX12_267 : Lk RX12 267 yX12_isReady := gd (hcw7_3 _ (List.mem_of_getElem? (i := 12) rfl)) rfl
def mX12_waitsAt : MD := (yX12_waitsAt, cX12_waitsAt, 4, (some .boolean), 1, 21, 0, 0)
theorem ccX12_waitsAt : Cc mX12_waitsAt 2 := ⟨gd (hcw1_0 _ (List.mem_of_getElem? (i := 10) rfl)) rfl, gd (hcw7_4 _ (List.mem_of_getElem? (i := 7) rfl)) rfl, by decide +kernel, by decide +kernel, by decide +kernel⟩
theorem ivX12_waitsAt : Iv mX12_waitsAt 12 := ⟨Nat.le_of_ble_eq_true rfl, rfl, gd (hcw7_4 _ (List.mem_of_getElem? (i := 6) rfl)) rfl, gd (hps3 _ (List.mem_of_getElem? (i := 14) rfl)) rfl⟩
noncomputable def fX12_waitsAt (Z : Shp) (M : Mem) (a0 : Nat) (x1 : Int32) (x2 : Int32) : Option (Int32) := (if tg Z a0 = (13, 86) then (if aok Z (rR M a0 28) 100 x1 then (Option.bind (js (if (rI M (rR M a0 28) (ix x1)) = x2 then (if aok Z (rR M a0 23) 100 x1 then (if x2 < (rI M (rR M a0 23) (ix x1)) then some (Sum.inr (1 : Int32)) else some (Sum.inl ())) else none) else some (Sum.inl ())) (fun v9 : Unit => (if (rI M (rR M a0 28) (ix x1)) = (x2 + (1 : Int32)) then (if aok Z (rR M a0 23) 100 x1 then (if x2 < (rI M (rR M a0 23) (ix x1)) then some (0 : Int32) else some (1 : Int32)) else none) else some (0 : Int32)))) (fun v6 : Int32 => (if v6 = 0 then some (0 : Int32) else (Option.bind (fX12_isReady Z M a0 x1) (fun v16 => (if v16 = 0 then some (0 : Int32) else some (1 : Int32))))))) else none) else none)
set_option maxRecDepth 20000 in
theorem kX12_waitsAt (l : Launch) (Z : Shp) (M : Mem) (a0 : Nat) (x1 : Int32) (x2 : Int32) (r : Int32) (h : fX12_waitsAt Z M a0 x1 x2 = some r) : Ct l mX12_waitsAt [vr a0, vi x1, vi x2] Z M ((some (vi r)), Z, M) := by
  refine Ct.of rfl (Nat.le_of_ble_eq_true rfl) (fun X hM => ?_)
  have hX := hM.1
  refine r_top (mk := fun r => ((some (vi r)), Z, M)) h (fun K hK => ?_)
  unfold fX12_waitsAt
  refine r_aload_n (i := 0) (x := a0) (q := 1) 0 hX dX12_waitsAt_0 rfl rfl rfl ?_
  refine r_ck (fun hc1 => ?_)
  refine r_getR (a := a0) (ci := 12) (kf := 28) (q := 4) hX hc1 flX12_74 rfl dX12_waitsAt_1 rfl ?_
  refine r_iload_n (i := 1) (x := x1) (q := 5) 1 hX dX12_waitsAt_4 rfl rfl rfl ?_
  refine r_ck (fun hc2 => ?_)
  refine r_iald (a := (rR M a0 28)) (i := x1) (q := 6) hX hc2 dX12_waitsAt_5 rfl ?_
  refine r_iload_n (i := 2) (x := x2) (q := 7) 2 hX dX12_waitsAt_6 rfl rfl rfl ?_
  refine r_jn (J := fun (v6 : Int32) (P : Option Res) => Ref mX12_waitsAt X 0 0 Z M 47 [(0, vr a0), (1, vi x1)] [vi v6] P) (fun v6 => ?_) (fun K1 hj4 => ?_)
  · refine r_istore_n (x := v6) (q := 48) 3 [1, 2, 0] (L1 := [(0, vr a0), (1, vi x1), (3, vi v6)]) hX dX12_waitsAt_47 rfl (Nat.le_of_ble_eq_true rfl) rfl rfl ?_
    refine r_iload_n (i := 3) (x := v6) (q := 49) 2 hX dX12_waitsAt_48 rfl rfl rfl ?_
    refine r_if_eq (tgt := 64) (q := 52) hX dX12_waitsAt_49 (by decide) rfl (fun hb15 => ?_) (fun hb15 => ?_)
    · refine r_iconst (v := (0 : Int32)) (q := 65) hX dX12_waitsAt_64 rfl rfl ?_
      refine r_lf (hK _) ?_
      exact r_zret hM rfl (Or.inl rfl) (Nat.le_of_ble_eq_true rfl) (Nat.le_of_ble_eq_true rfl) dX12_waitsAt_65
    · refine r_aload_n (i := 0) (x := a0) (q := 53) 0 hX dX12_waitsAt_52 rfl rfl rfl ?_
      refine r_iload_n (i := 1) (x := x1) (q := 54) 1 hX dX12_waitsAt_53 rfl rfl rfl ?_
      refine r_bind (fun v16 h17 => ?_)
      refine r_cv (a := a0) (As := [vi x1]) (st := []) (r := (some (vi v16))) (Z1 := Z) (M1 := M) (k1 := 0) (n1 := 0) (st1 := [vi v16]) (q := 57) hX (fun l => kX12_isReady l Z M a0 x1 v16 h17) hc1 ivX12_isReady ccX12_isReady (Or.inl lkX12_267) rfl rfl rfl ⟨Nat.le_of_ble_eq_true rfl, Nat.le_of_ble_eq_true rfl, rfl, rfl, Nat.le_of_ble_eq_true rfl, Nat.le_of_ble_eq_true rfl⟩ (Nat.le_of_ble_eq_true rfl) dX12_waitsAt_54 rfl ?_
      refine r_if_eq (tgt := 64) (q := 60) hX dX12_waitsAt_57 (by decide) rfl (fun hb18 => ?_) (fun hb18 => ?_)
      · refine r_iconst (v := (0 : Int32)) (q := 65) hX dX12_waitsAt_64 rfl rfl ?_
        refine r_lf (hK _) ?_
        exact r_zret hM rfl (Or.inl rfl) (Nat.le_of_ble_eq_true rfl) (Nat.le_of_ble_eq_true rfl) dX12_waitsAt_65
      · refine r_iconst (v := (1 : Int32)) (q := 61) hX dX12_waitsAt_60 rfl rfl ?_
        refine r_goto (q := 65) hX dX12_waitsAt_61 (by decide) ?_
        refine r_lf (hK _) ?_
        exact r_zret hM rfl (Or.inr rfl) (Nat.le_of_ble_eq_true rfl) (Nat.le_of_ble_eq_true rfl) dX12_waitsAt_65
  · refine r_js (J := fun (v9 : Unit) (P : Option Res) => Ref mX12_waitsAt X 0 0 Z M 20 [(0, vr a0), (1, vi x1), (2, vi x2)] [] P) (fun v9 => ?_) (fun K1 hj7 ho8 => ?_)
    · refine r_aload_n (i := 0) (x := a0) (q := 21) 0 hX dX12_waitsAt_20 rfl rfl rfl ?_
      refine r_getR (a := a0) (ci := 12) (kf := 28) (q := 24) hX hc1 flX12_74 rfl dX12_waitsAt_21 rfl ?_
      refine r_iload_n (i := 1) (x := x1) (q := 25) 1 hX dX12_waitsAt_24 rfl rfl rfl ?_
      refine r_iald (a := (rR M a0 28)) (i := x1) (q := 26) hX hc2 dX12_waitsAt_25 rfl ?_
      refine r_iload_n (i := 2) (x := x2) (q := 27) 2 hX dX12_waitsAt_26 rfl rfl rfl ?_
      refine r_iconst (v := (1 : Int32)) (q := 28) hX dX12_waitsAt_27 rfl rfl ?_
      refine r_iadd (q := 29) hX dX12_waitsAt_28 rfl ?_
      refine r_icmp_ne (tgt := 46) (q := 32) hX dX12_waitsAt_29 (by decide) rfl (fun hb12 => ?_) (fun hb12 => ?_)
      · refine r_aload_n (i := 0) (x := a0) (q := 33) 0 hX dX12_waitsAt_32 rfl rfl rfl ?_
        refine r_getR (a := a0) (ci := 12) (kf := 23) (q := 36) hX hc1 flX12_59 rfl dX12_waitsAt_33 rfl ?_
        refine r_iload_n (i := 1) (x := x1) (q := 37) 1 hX dX12_waitsAt_36 rfl rfl rfl ?_
        refine r_ck (fun hc13 => ?_)
        refine r_iald (a := (rR M a0 23)) (i := x1) (q := 38) hX hc13 dX12_waitsAt_37 rfl ?_
        refine r_iload_n (i := 2) (x := x2) (q := 39) 2 hX dX12_waitsAt_38 rfl rfl rfl ?_
        refine r_icmp_gt (tgt := 46) (q := 42) hX dX12_waitsAt_39 (by decide) rfl (fun hb14 => ?_) (fun hb14 => ?_)
        · refine r_iconst (v := (0 : Int32)) (q := 47) hX dX12_waitsAt_46 rfl rfl ?_
          refine r_l0 ?_
          refine r_sub [0, 1] rfl ?_
          exact hj4 (0 : Int32)
        · refine r_iconst (v := (1 : Int32)) (q := 43) hX dX12_waitsAt_42 rfl rfl ?_
          refine r_goto (q := 47) hX dX12_waitsAt_43 (by decide) ?_
          refine r_l0 ?_
          refine r_sub [0, 1] rfl ?_
          exact hj4 (1 : Int32)
      · refine r_iconst (v := (0 : Int32)) (q := 47) hX dX12_waitsAt_46 rfl rfl ?_
        refine r_l0 ?_
        refine r_sub [0, 1] rfl ?_
        exact hj4 (0 : Int32)
    · refine r_icmp_ne (tgt := 20) (q := 10) hX dX12_waitsAt_7 (by decide) rfl (fun hb3 => ?_) (fun hb3 => ?_)
      · refine r_aload_n (i := 0) (x := a0) (q := 11) 0 hX dX12_waitsAt_10 rfl rfl rfl ?_
        refine r_getR (a := a0) (ci := 12) (kf := 23) (q := 14) hX hc1 flX12_59 rfl dX12_waitsAt_11 rfl ?_
        refine r_iload_n (i := 1) (x := x1) (q := 15) 1 hX dX12_waitsAt_14 rfl rfl rfl ?_
        refine r_ck (fun hc10 => ?_)
        refine r_iald (a := (rR M a0 23)) (i := x1) (q := 16) hX hc10 dX12_waitsAt_15 rfl ?_
        refine r_iload_n (i := 2) (x := x2) (q := 17) 2 hX dX12_waitsAt_16 rfl rfl rfl ?_
        refine r_icmp_gt (tgt := 42) (q := 20) hX dX12_waitsAt_17 (by decide) rfl (fun hb11 => ?_) (fun hb11 => ?_)
        · refine r_iconst (v := (1 : Int32)) (q := 43) hX dX12_waitsAt_42 rfl rfl ?_
          refine r_goto (q := 47) hX dX12_waitsAt_43 (by decide) ?_
          refine r_lf (ho8 _) ?_
          refine r_sub [0, 1] rfl ?_
          exact hj4 (1 : Int32)
        · refine r_l0 ?_
          exact hj7 ()
      · refine r_l0 ?_
        exact hj7 ()
theorem flX12_185 : FL RX12 185 12 3 := ⟨Nat.le_of_ble_eq_true rfl, Nat.le_of_ble_eq_true rfl, gd (hcw5_9 _ (List.mem_of_getElem? (i := 18) rfl)) rfl⟩
def mX12_upper : MD := (yX12_upper, cX12_upper, 2, (some .int), 0, 0, 0, 0)
theorem ccX12_upper : Cc mX12_upper 1 := ⟨gd (hcw1_0 _ (List.mem_of_getElem? (i := 10) rfl)) rfl, gd (hcw7_4 _ (List.mem_of_getElem? (i := 15) rfl)) rfl, by decide +kernel, by decide +kernel, by decide +kernel⟩
theorem ivX12_upper : Iv mX12_upper 12 := ⟨Nat.le_of_ble_eq_true rfl, rfl, gd (hcw7_4 _ (List.mem_of_getElem? (i := 14) rfl)) rfl, gd (hps4 _ (List.mem_of_getElem? (i := 0) rfl)) rfl⟩
def fX12_upper (Z : Shp) (M : Mem) (a0 : Nat) (x1 : Int32) : Option (Int32) := (if tg Z a0 = (13, 86) then (if (rI M a0 3) ≤ x1 then some x1 else some (x1 + (1 : Int32))) else none)
set_option maxRecDepth 20000 in
theorem kX12_upper (l : Launch) (Z : Shp) (M : Mem) (a0 : Nat) (x1 : Int32) (r : Int32) (h : fX12_upper Z M a0 x1 = some r) : Ct l mX12_upper [vr a0, vi x1] Z M ((some (vi r)), Z, M) := by
  refine Ct.of rfl (Nat.le_of_ble_eq_true rfl) (fun X hM => ?_)
  have hX := hM.1
  refine r_top (mk := fun r => ((some (vi r)), Z, M)) h (fun K hK => ?_)
  unfold fX12_upper
  refine r_iload_n (i := 1) (x := x1) (q := 1) 1 hX dX12_upper_0 rfl rfl rfl ?_
  refine r_aload_n (i := 0) (x := a0) (q := 2) 0 hX dX12_upper_1 rfl rfl rfl ?_
  refine r_ck (fun hc1 => ?_)
  refine r_getI (a := a0) (ci := 12) (kf := 3) (q := 5) hX hc1 flX12_185 rfl rfl dX12_upper_2 rfl ?_
  refine r_icmp_ge (tgt := 14) (q := 8) hX dX12_upper_5 (by decide) rfl (fun hb2 => ?_) (fun hb2 => ?_)
  · refine r_iload_n (i := 1) (x := x1) (q := 15) 1 hX dX12_upper_14 rfl rfl rfl ?_
    refine r_lf (hK _) ?_
    exact r_iret hM rfl (Nat.le_of_ble_eq_true rfl) (Nat.le_of_ble_eq_true rfl) dX12_upper_15
  · refine r_iload_n (i := 1) (x := x1) (q := 9) 1 hX dX12_upper_8 rfl rfl rfl ?_
    refine r_iconst (v := (1 : Int32)) (q := 10) hX dX12_upper_9 rfl rfl ?_
    refine r_iadd (q := 11) hX dX12_upper_10 rfl ?_
    refine r_goto (q := 15) hX dX12_upper_11 (by decide) ?_
    refine r_lf (hK _) ?_
    exact r_iret hM rfl (Nat.le_of_ble_eq_true rfl) (Nat.le_of_ble_eq_true rfl) dX12_upper_15
theorem lkX12_270 : Lk RX12 270 yX12_upper := gd (hcw7_4 _ (List.mem_of_getElem? (i := 12) rfl)) rfl
def mX12_goesUp : MD := (yX12_goesUp, cX12_goesUp, 3, (some .boolean), 1, 21, 0, 0)
theorem ccX12_goesUp : Cc mX12_goesUp 2 := ⟨gd (hcw1_0 _ (List.mem_of_getElem? (i := 10) rfl)) rfl, gd (hcw7_4 _ (List.mem_of_getElem? (i := 11) rfl)) rfl, by decide +kernel, by decide +kernel, by decide +kernel⟩
theorem ivX12_goesUp : Iv mX12_goesUp 12 := ⟨Nat.le_of_ble_eq_true rfl, rfl, gd (hcw7_4 _ (List.mem_of_getElem? (i := 10) rfl)) rfl, gd (hps3 _ (List.mem_of_getElem? (i := 15) rfl)) rfl⟩
noncomputable def fX12_goesUp (Z : Shp) (M : Mem) (a0 : Nat) (x1 : Int32) (x2 : Int32) : Option (Int32) := (if tg Z a0 = (13, 86) then (if aok Z (rR M a0 28) 100 x1 then (Option.bind (fX12_upper Z M a0 x2) (fun v3 => (if (rI M (rR M a0 28) (ix x1)) = v3 then some (0 : Int32) else some (1 : Int32)))) else none) else none)
set_option maxRecDepth 20000 in
theorem kX12_goesUp (l : Launch) (Z : Shp) (M : Mem) (a0 : Nat) (x1 : Int32) (x2 : Int32) (r : Int32) (h : fX12_goesUp Z M a0 x1 x2 = some r) : Ct l mX12_goesUp [vr a0, vi x1, vi x2] Z M ((some (vi r)), Z, M) := by
  refine Ct.of rfl (Nat.le_of_ble_eq_true rfl) (fun X hM => ?_)
  have hX := hM.1
  refine r_top (mk := fun r => ((some (vi r)), Z, M)) h (fun K hK => ?_)
  unfold fX12_goesUp
  refine r_aload_n (i := 0) (x := a0) (q := 1) 0 hX dX12_goesUp_0 rfl rfl rfl ?_
  refine r_ck (fun hc1 => ?_)
  refine r_getR (a := a0) (ci := 12) (kf := 28) (q := 4) hX hc1 flX12_74 rfl dX12_goesUp_1 rfl ?_
  refine r_iload_n (i := 1) (x := x1) (q := 5) 1 hX dX12_goesUp_4 rfl rfl rfl ?_
  refine r_ck (fun hc2 => ?_)
  refine r_iald (a := (rR M a0 28)) (i := x1) (q := 6) hX hc2 dX12_goesUp_5 rfl ?_
  refine r_aload_n (i := 0) (x := a0) (q := 7) 0 hX dX12_goesUp_6 rfl rfl rfl ?_
  refine r_iload_n (i := 2) (x := x2) (q := 8) 2 hX dX12_goesUp_7 rfl rfl rfl ?_
  refine r_bind (fun v3 h4 => ?_)
  refine r_cv (a := a0) (As := [vi x2]) (st := [vi (rI M (rR M a0 28) (ix x1))]) (r := (some (vi v3))) (Z1 := Z) (M1 := M) (k1 := 0) (n1 := 0) (st1 := [vi v3, vi (rI M (rR M a0 28) (ix x1))]) (q := 11) hX (fun l => kX12_upper l Z M a0 x2 v3 h4) hc1 ivX12_upper ccX12_upper (Or.inl lkX12_270) rfl rfl rfl ⟨Nat.le_of_ble_eq_true rfl, Nat.le_of_ble_eq_true rfl, rfl, rfl, Nat.le_of_ble_eq_true rfl, Nat.le_of_ble_eq_true rfl⟩ (Nat.le_of_ble_eq_true rfl) dX12_goesUp_8 rfl ?_
  refine r_icmp_eq (tgt := 18) (q := 14) hX dX12_goesUp_11 (by decide) rfl (fun hb5 => ?_) (fun hb5 => ?_)
  · refine r_iconst (v := (0 : Int32)) (q := 19) hX dX12_goesUp_18 rfl rfl ?_
    refine r_lf (hK _) ?_
    exact r_zret hM rfl (Or.inl rfl) (Nat.le_of_ble_eq_true rfl) (Nat.le_of_ble_eq_true rfl) dX12_goesUp_19
  · refine r_iconst (v := (1 : Int32)) (q := 15) hX dX12_goesUp_14 rfl rfl ?_
    refine r_goto (q := 19) hX dX12_goesUp_15 (by decide) ?_
    refine r_lf (hK _) ?_
    exact r_zret hM rfl (Or.inr rfl) (Nat.le_of_ble_eq_true rfl) (Nat.le_of_ble_eq_true rfl) dX12_goesUp_19
theorem lkX12_273 : Lk RX12 273 yX12_waitsAt := gd (hcw7_4 _ (List.mem_of_getElem? (i := 4) rfl)) rfl
theorem flX12_26 : FL RX12 26 12 6 := ⟨Nat.le_of_ble_eq_true rfl, Nat.le_of_ble_eq_true rfl, gd (hcw5_10 _ (List.mem_of_getElem? (i := 1) rfl)) rfl⟩
theorem lkX12_277 : Lk RX12 277 yX12_goesUp := gd (hcw7_4 _ (List.mem_of_getElem? (i := 8) rfl)) rfl
theorem flX12_29 : FL RX12 29 12 7 := ⟨Nat.le_of_ble_eq_true rfl, Nat.le_of_ble_eq_true rfl, gd (hcw5_10 _ (List.mem_of_getElem? (i := 2) rfl)) rfl⟩
def mX12_chosenAt : MD := (yX12_chosenAt, cX12_chosenAt, 5, (some .int), 2, 44, 0, 0)
theorem ccX12_chosenAt : Cc mX12_chosenAt 1 := ⟨gd (hcw1_0 _ (List.mem_of_getElem? (i := 10) rfl)) rfl, gd (hcw7_4 _ (List.mem_of_getElem? (i := 3) rfl)) rfl, by decide +kernel, by decide +kernel, by decide +kernel⟩
theorem ivX12_chosenAt : Iv mX12_chosenAt 12 := ⟨Nat.le_of_ble_eq_true rfl, rfl, gd (hcw7_4 _ (List.mem_of_getElem? (i := 2) rfl)) rfl, gd (hps3 _ (List.mem_of_getElem? (i := 13) rfl)) rfl⟩
noncomputable def fX12_chosenAt (Z : Shp) (M : Mem) (a0 : Nat) (x1 : Int32) : Option (Int32) := (loop (fun s1 : Int32 × Int32 => (if tg Z a0 = (13, 86) then (if (rI M a0 21) ≤ s1.2 then some (Sum.inr s1.1) else (Option.bind (fX12_waitsAt Z M a0 s1.2 x1) (fun v6 => (if v6 = 0 then some (Sum.inl (s1.1, (s1.2 + (1 : Int32)))) else (Option.bind (if s1.1 = (-1 : Int32) then some (1 : Int32) else some (0 : Int32)) (fun v12 : Int32 => (Option.bind (if v12 = 0 then (if aok Z (rR M a0 6) 100 x1 then (if (rI M (rR M a0 6) (ix x1)) = (1 : Int32) then (if aok Z (rR M a0 24) 100 s1.2 then (if aok Z (rR M a0 24) 100 s1.1 then (if (rI M (rR M a0 24) (ix s1.2)) ≤ (rI M (rR M a0 24) (ix s1.1)) then some (0 : Int32) else some (1 : Int32)) else none) else none) else some v12) else none) else some v12) (fun v16 : Int32 => (if v16 = 0 then (if aok Z (rR M a0 6) 100 x1 then (if (rI M (rR M a0 6) (ix x1)) = (2 : Int32) then (Option.bind (fX12_goesUp Z M a0 s1.2 x1) (fun v25 => (if aok Z (rR M a0 7) 101 x1 then (if v25 = (rI M (rR M a0 7) (ix x1)) then (if (0 : Int32) = 0 then some (Sum.inl (s1.1, (s1.2 + (1 : Int32)))) else some (Sum.inl (s1.2, (s1.2 + (1 : Int32))))) else (Option.bind (fX12_goesUp Z M a0 s1.1 x1) (fun v30 => (if v30 = (rI M (rR M a0 7) (ix x1)) then (if (1 : Int32) = 0 then some (Sum.inl (s1.1, (s1.2 + (1 : Int32)))) else some (Sum.inl (s1.2, (s1.2 + (1 : Int32))))) else (if (0 : Int32) = 0 then some (Sum.inl (s1.1, (s1.2 + (1 : Int32)))) else some (Sum.inl (s1.2, (s1.2 + (1 : Int32))))))))) else none))) else (if v16 = 0 then some (Sum.inl (s1.1, (s1.2 + (1 : Int32)))) else some (Sum.inl (s1.2, (s1.2 + (1 : Int32)))))) else none) else (if v16 = 0 then some (Sum.inl (s1.1, (s1.2 + (1 : Int32)))) else some (Sum.inl (s1.2, (s1.2 + (1 : Int32)))))))))))))) else none)) ((-1 : Int32), (0 : Int32)))
set_option maxRecDepth 20000 in
theorem kX12_chosenAt (l : Launch) (Z : Shp) (M : Mem) (a0 : Nat) (x1 : Int32) (r : Int32) (h : fX12_chosenAt Z M a0 x1 = some r) : Ct l mX12_chosenAt [vr a0, vi x1] Z M ((some (vi r)), Z, M) := by
  refine Ct.of rfl (Nat.le_of_ble_eq_true rfl) (fun X hM => ?_)
  have hX := hM.1
  refine r_top (mk := fun r => ((some (vi r)), Z, M)) h (fun K hK => ?_)
  unfold fX12_chosenAt
  refine r_iconst (v := (-1 : Int32)) (q := 1) hX dX12_chosenAt_0 rfl rfl ?_
  refine r_istore_n (x := (-1 : Int32)) (q := 2) 2 [1, 2, 0] (L1 := [(0, vr a0), (1, vi x1), (2, vi (-1 : Int32))]) hX dX12_chosenAt_1 rfl (Nat.le_of_ble_eq_true rfl) rfl rfl ?_
  refine r_iconst (v := (0 : Int32)) (q := 3) hX dX12_chosenAt_2 rfl rfl ?_
  refine r_istore_n (x := (0 : Int32)) (q := 4) 3 [1, 2, 3, 0] (L1 := [(0, vr a0), (1, vi x1), (2, vi (-1 : Int32)), (3, vi (0 : Int32))]) hX dX12_chosenAt_3 rfl (Nat.le_of_ble_eq_true rfl) rfl rfl ?_
  refine r_loop (Hd := fun (s1 : Int32 × Int32) (P : Option Res) => Ref mX12_chosenAt X 0 0 Z M 4 [(0, vr a0), (1, vi x1), (2, vi s1.1), (3, vi s1.2)] [] P) (fun _ => r_none) (fun s1 K1 hn2 hx3 => ?_) ((-1 : Int32), (0 : Int32))
  refine r_iload_n (i := 3) (x := s1.2) (q := 5) 3 hX dX12_chosenAt_4 rfl rfl rfl ?_
  refine r_aload_n (i := 0) (x := a0) (q := 6) 0 hX dX12_chosenAt_5 rfl rfl rfl ?_
  refine r_ck (fun hc4 => ?_)
  refine r_getI (a := a0) (ci := 12) (kf := 21) (q := 9) hX hc4 flX12_215 rfl rfl dX12_chosenAt_6 rfl ?_
  refine r_icmp_ge (tgt := 139) (q := 12) hX dX12_chosenAt_9 (by decide) rfl (fun hb5 => ?_) (fun hb5 => ?_)
  · refine r_iload_n (i := 2) (x := s1.1) (q := 140) 2 hX dX12_chosenAt_139 rfl rfl rfl ?_
    refine r_lf ((hx3 _).trans (hK _)) ?_
    exact r_iret hM rfl (Nat.le_of_ble_eq_true rfl) (Nat.le_of_ble_eq_true rfl) dX12_chosenAt_140
  · refine r_aload_n (i := 0) (x := a0) (q := 13) 0 hX dX12_chosenAt_12 rfl rfl rfl ?_
    refine r_iload_n (i := 3) (x := s1.2) (q := 14) 3 hX dX12_chosenAt_13 rfl rfl rfl ?_
    refine r_iload_n (i := 1) (x := x1) (q := 15) 1 hX dX12_chosenAt_14 rfl rfl rfl ?_
    refine r_bind (fun v6 h7 => ?_)
    refine r_cv (a := a0) (As := [vi s1.2, vi x1]) (st := []) (r := (some (vi v6))) (Z1 := Z) (M1 := M) (k1 := 0) (n1 := 0) (st1 := [vi v6]) (q := 18) hX (fun l => kX12_waitsAt l Z M a0 s1.2 x1 v6 h7) hc4 ivX12_waitsAt ccX12_waitsAt (Or.inl lkX12_273) rfl rfl rfl ⟨Nat.le_of_ble_eq_true rfl, Nat.le_of_ble_eq_true rfl, rfl, rfl, Nat.le_of_ble_eq_true rfl, Nat.le_of_ble_eq_true rfl⟩ (Nat.le_of_ble_eq_true rfl) dX12_chosenAt_15 rfl ?_
    refine r_if_eq (tgt := 133) (q := 21) hX dX12_chosenAt_18 (by decide) rfl (fun hb8 => ?_) (fun hb8 => ?_)
    · refine r_iinc (x := s1.2) (v := (s1.2 + (1 : Int32))) (q := 136) 3 3 [1, 2, 3, 0] (L1 := [(0, vr a0), (1, vi x1), (2, vi s1.1), (3, vi (s1.2 + (1 : Int32)))]) hX dX12_chosenAt_133 rfl rfl (Nat.le_of_ble_eq_true rfl) rfl rfl ?_
      refine r_goto (q := 4) hX dX12_chosenAt_136 (by decide) ?_
      refine r_l0 ?_
      exact hn2 (s1.1, (s1.2 + (1 : Int32)))
    · refine r_iload_n (i := 2) (x := s1.1) (q := 22) 2 hX dX12_chosenAt_21 rfl rfl rfl ?_
      refine r_iconst (v := (-1 : Int32)) (q := 23) hX dX12_chosenAt_22 rfl rfl ?_
      refine r_jn (J := fun (v12 : Int32) (P : Option Res) => Ref mX12_chosenAt X 0 0 Z M 31 [(0, vr a0), (1, vi x1), (2, vi s1.1), (3, vi s1.2)] [vi v12] P) (fun v12 => ?_) (fun K1 hj10 => ?_)
      · refine r_istore (x := v12) (q := 33) 4 [1, 2, 3, 4, 0] (L1 := [(0, vr a0), (1, vi x1), (2, vi s1.1), (3, vi s1.2), (4, vi v12)]) hX dX12_chosenAt_31 (Nat.le_of_ble_eq_true rfl) rfl rfl ?_
        refine r_iload (i := 4) (x := v12) (q := 35) 4 hX dX12_chosenAt_33 rfl rfl ?_
        refine r_jn (J := fun (v16 : Int32) (P : Option Res) => Ref mX12_chosenAt X 0 0 Z M 70 [(0, vr a0), (1, vi x1), (2, vi s1.1), (3, vi s1.2), (4, vi v16)] [] P) (fun v16 => ?_) (fun K1 hj14 => ?_)
        · refine r_iload (i := 4) (x := v16) (q := 72) 4 hX dX12_chosenAt_70 rfl rfl ?_
          refine r_if_ne (tgt := 122) (q := 75) hX dX12_chosenAt_72 (by decide) rfl (fun hb22 => ?_) (fun hb22 => ?_)
          · refine r_aload_n (i := 0) (x := a0) (q := 76) 0 hX dX12_chosenAt_75 rfl rfl rfl ?_
            refine r_getR (a := a0) (ci := 12) (kf := 6) (q := 79) hX hc4 flX12_26 rfl dX12_chosenAt_76 rfl ?_
            refine r_iload_n (i := 1) (x := x1) (q := 80) 1 hX dX12_chosenAt_79 rfl rfl rfl ?_
            refine r_ck (fun hc23 => ?_)
            refine r_iald (a := (rR M a0 6)) (i := x1) (q := 81) hX hc23 dX12_chosenAt_80 rfl ?_
            refine r_iconst (v := (2 : Int32)) (q := 82) hX dX12_chosenAt_81 rfl rfl ?_
            refine r_icmp_ne (tgt := 122) (q := 85) hX dX12_chosenAt_82 (by decide) rfl (fun hb24 => ?_) (fun hb24 => ?_)
            · refine r_aload_n (i := 0) (x := a0) (q := 86) 0 hX dX12_chosenAt_85 rfl rfl rfl ?_
              refine r_iload_n (i := 3) (x := s1.2) (q := 87) 3 hX dX12_chosenAt_86 rfl rfl rfl ?_
              refine r_iload_n (i := 1) (x := x1) (q := 88) 1 hX dX12_chosenAt_87 rfl rfl rfl ?_
              refine r_bind (fun v25 h26 => ?_)
              refine r_cv (a := a0) (As := [vi s1.2, vi x1]) (st := []) (r := (some (vi v25))) (Z1 := Z) (M1 := M) (k1 := 0) (n1 := 0) (st1 := [vi v25]) (q := 91) hX (fun l => kX12_goesUp l Z M a0 s1.2 x1 v25 h26) hc4 ivX12_goesUp ccX12_goesUp (Or.inl lkX12_277) rfl rfl rfl ⟨Nat.le_of_ble_eq_true rfl, Nat.le_of_ble_eq_true rfl, rfl, rfl, Nat.le_of_ble_eq_true rfl, Nat.le_of_ble_eq_true rfl⟩ (Nat.le_of_ble_eq_true rfl) dX12_chosenAt_88 rfl ?_
              refine r_aload_n (i := 0) (x := a0) (q := 92) 0 hX dX12_chosenAt_91 rfl rfl rfl ?_
              refine r_getR (a := a0) (ci := 12) (kf := 7) (q := 95) hX hc4 flX12_29 rfl dX12_chosenAt_92 rfl ?_
              refine r_iload_n (i := 1) (x := x1) (q := 96) 1 hX dX12_chosenAt_95 rfl rfl rfl ?_
              refine r_ck (fun hc27 => ?_)
              refine r_zald (a := (rR M a0 7)) (i := x1) (q := 97) hX hc27 dX12_chosenAt_96 rfl ?_
              refine r_icmp_eq (tgt := 119) (q := 100) hX dX12_chosenAt_97 (by decide) rfl (fun hb28 => ?_) (fun hb28 => ?_)
              · refine r_iconst (v := (0 : Int32)) (q := 120) hX dX12_chosenAt_119 rfl rfl ?_
                refine r_istore (x := (0 : Int32)) (q := 122) 4 [1, 2, 3, 4, 0] (L1 := [(0, vr a0), (1, vi x1), (2, vi s1.1), (3, vi s1.2), (4, vi (0 : Int32))]) hX dX12_chosenAt_120 (Nat.le_of_ble_eq_true rfl) rfl rfl ?_
                refine r_iload (i := 4) (x := (0 : Int32)) (q := 124) 4 hX dX12_chosenAt_122 rfl rfl ?_
                refine r_if_eq (tgt := 131) (q := 127) hX dX12_chosenAt_124 (by decide) rfl (fun hb29 => ?_) (fun hb29 => ?_)
                · refine r_iload_n (i := 2) (x := s1.1) (q := 132) 2 hX dX12_chosenAt_131 rfl rfl rfl ?_
                  refine r_istore_n (x := s1.1) (q := 133) 2 [1, 2, 0, 4, 5] (L1 := [(0, vr a0), (1, vi x1), (2, vi s1.1), (3, vi s1.2), (4, vi (0 : Int32))]) hX dX12_chosenAt_132 rfl (Nat.le_of_ble_eq_true rfl) rfl rfl ?_
                  refine r_iinc (x := s1.2) (v := (s1.2 + (1 : Int32))) (q := 136) 3 3 [1, 2, 3, 0, 5] (L1 := [(0, vr a0), (1, vi x1), (2, vi s1.1), (3, vi (s1.2 + (1 : Int32))), (4, vi (0 : Int32))]) hX dX12_chosenAt_133 rfl rfl (Nat.le_of_ble_eq_true rfl) rfl rfl ?_
                  refine r_goto (q := 4) hX dX12_chosenAt_136 (by decide) ?_
                  refine r_l0 ?_
                  refine r_sub [0, 1, 2, 3] rfl ?_
                  exact hn2 (s1.1, (s1.2 + (1 : Int32)))
                · refine r_iload_n (i := 3) (x := s1.2) (q := 128) 3 hX dX12_chosenAt_127 rfl rfl rfl ?_
                  refine r_goto (q := 132) hX dX12_chosenAt_128 (by decide) ?_
                  refine r_istore_n (x := s1.2) (q := 133) 2 [1, 2, 0, 4, 5] (L1 := [(0, vr a0), (1, vi x1), (2, vi s1.2), (3, vi s1.2), (4, vi (0 : Int32))]) hX dX12_chosenAt_132 rfl (Nat.le_of_ble_eq_true rfl) rfl rfl ?_
                  refine r_iinc (x := s1.2) (v := (s1.2 + (1 : Int32))) (q := 136) 3 3 [1, 2, 3, 0, 5] (L1 := [(0, vr a0), (1, vi x1), (2, vi s1.2), (3, vi (s1.2 + (1 : Int32))), (4, vi (0 : Int32))]) hX dX12_chosenAt_133 rfl rfl (Nat.le_of_ble_eq_true rfl) rfl rfl ?_
                  refine r_goto (q := 4) hX dX12_chosenAt_136 (by decide) ?_
                  refine r_l0 ?_
                  refine r_sub [0, 1, 2, 3] rfl ?_
                  exact hn2 (s1.2, (s1.2 + (1 : Int32)))
              · refine r_aload_n (i := 0) (x := a0) (q := 101) 0 hX dX12_chosenAt_100 rfl rfl rfl ?_
                refine r_iload_n (i := 2) (x := s1.1) (q := 102) 2 hX dX12_chosenAt_101 rfl rfl rfl ?_
                refine r_iload_n (i := 1) (x := x1) (q := 103) 1 hX dX12_chosenAt_102 rfl rfl rfl ?_
                refine r_bind (fun v30 h31 => ?_)
                refine r_cv (a := a0) (As := [vi s1.1, vi x1]) (st := []) (r := (some (vi v30))) (Z1 := Z) (M1 := M) (k1 := 0) (n1 := 0) (st1 := [vi v30]) (q := 106) hX (fun l => kX12_goesUp l Z M a0 s1.1 x1 v30 h31) hc4 ivX12_goesUp ccX12_goesUp (Or.inl lkX12_277) rfl rfl rfl ⟨Nat.le_of_ble_eq_true rfl, Nat.le_of_ble_eq_true rfl, rfl, rfl, Nat.le_of_ble_eq_true rfl, Nat.le_of_ble_eq_true rfl⟩ (Nat.le_of_ble_eq_true rfl) dX12_chosenAt_103 rfl ?_
                refine r_aload_n (i := 0) (x := a0) (q := 107) 0 hX dX12_chosenAt_106 rfl rfl rfl ?_
                refine r_getR (a := a0) (ci := 12) (kf := 7) (q := 110) hX hc4 flX12_29 rfl dX12_chosenAt_107 rfl ?_
                refine r_iload_n (i := 1) (x := x1) (q := 111) 1 hX dX12_chosenAt_110 rfl rfl rfl ?_
                refine r_zald (a := (rR M a0 7)) (i := x1) (q := 112) hX hc27 dX12_chosenAt_111 rfl ?_
                refine r_icmp_ne (tgt := 119) (q := 115) hX dX12_chosenAt_112 (by decide) rfl (fun hb32 => ?_) (fun hb32 => ?_)
                · refine r_iconst (v := (1 : Int32)) (q := 116) hX dX12_chosenAt_115 rfl rfl ?_
                  refine r_goto (q := 120) hX dX12_chosenAt_116 (by decide) ?_
                  refine r_istore (x := (1 : Int32)) (q := 122) 4 [1, 2, 3, 4, 0] (L1 := [(0, vr a0), (1, vi x1), (2, vi s1.1), (3, vi s1.2), (4, vi (1 : Int32))]) hX dX12_chosenAt_120 (Nat.le_of_ble_eq_true rfl) rfl rfl ?_
                  refine r_iload (i := 4) (x := (1 : Int32)) (q := 124) 4 hX dX12_chosenAt_122 rfl rfl ?_
                  refine r_if_eq (tgt := 131) (q := 127) hX dX12_chosenAt_124 (by decide) rfl (fun hb33 => ?_) (fun hb33 => ?_)
                  · refine r_iload_n (i := 2) (x := s1.1) (q := 132) 2 hX dX12_chosenAt_131 rfl rfl rfl ?_
                    refine r_istore_n (x := s1.1) (q := 133) 2 [1, 2, 0, 4, 5] (L1 := [(0, vr a0), (1, vi x1), (2, vi s1.1), (3, vi s1.2), (4, vi (1 : Int32))]) hX dX12_chosenAt_132 rfl (Nat.le_of_ble_eq_true rfl) rfl rfl ?_
                    refine r_iinc (x := s1.2) (v := (s1.2 + (1 : Int32))) (q := 136) 3 3 [1, 2, 3, 0, 5] (L1 := [(0, vr a0), (1, vi x1), (2, vi s1.1), (3, vi (s1.2 + (1 : Int32))), (4, vi (1 : Int32))]) hX dX12_chosenAt_133 rfl rfl (Nat.le_of_ble_eq_true rfl) rfl rfl ?_
                    refine r_goto (q := 4) hX dX12_chosenAt_136 (by decide) ?_
                    refine r_l0 ?_
                    refine r_sub [0, 1, 2, 3] rfl ?_
                    exact hn2 (s1.1, (s1.2 + (1 : Int32)))
                  · refine r_iload_n (i := 3) (x := s1.2) (q := 128) 3 hX dX12_chosenAt_127 rfl rfl rfl ?_
                    refine r_goto (q := 132) hX dX12_chosenAt_128 (by decide) ?_
                    refine r_istore_n (x := s1.2) (q := 133) 2 [1, 2, 0, 4, 5] (L1 := [(0, vr a0), (1, vi x1), (2, vi s1.2), (3, vi s1.2), (4, vi (1 : Int32))]) hX dX12_chosenAt_132 rfl (Nat.le_of_ble_eq_true rfl) rfl rfl ?_
                    refine r_iinc (x := s1.2) (v := (s1.2 + (1 : Int32))) (q := 136) 3 3 [1, 2, 3, 0, 5] (L1 := [(0, vr a0), (1, vi x1), (2, vi s1.2), (3, vi (s1.2 + (1 : Int32))), (4, vi (1 : Int32))]) hX dX12_chosenAt_133 rfl rfl (Nat.le_of_ble_eq_true rfl) rfl rfl ?_
                    refine r_goto (q := 4) hX dX12_chosenAt_136 (by decide) ?_
                    refine r_l0 ?_
                    refine r_sub [0, 1, 2, 3] rfl ?_
                    exact hn2 (s1.2, (s1.2 + (1 : Int32)))
                · refine r_iconst (v := (0 : Int32)) (q := 120) hX dX12_chosenAt_119 rfl rfl ?_
                  refine r_istore (x := (0 : Int32)) (q := 122) 4 [1, 2, 3, 4, 0] (L1 := [(0, vr a0), (1, vi x1), (2, vi s1.1), (3, vi s1.2), (4, vi (0 : Int32))]) hX dX12_chosenAt_120 (Nat.le_of_ble_eq_true rfl) rfl rfl ?_
                  refine r_iload (i := 4) (x := (0 : Int32)) (q := 124) 4 hX dX12_chosenAt_122 rfl rfl ?_
                  refine r_if_eq (tgt := 131) (q := 127) hX dX12_chosenAt_124 (by decide) rfl (fun hb34 => ?_) (fun hb34 => ?_)
                  · refine r_iload_n (i := 2) (x := s1.1) (q := 132) 2 hX dX12_chosenAt_131 rfl rfl rfl ?_
                    refine r_istore_n (x := s1.1) (q := 133) 2 [1, 2, 0, 4, 5] (L1 := [(0, vr a0), (1, vi x1), (2, vi s1.1), (3, vi s1.2), (4, vi (0 : Int32))]) hX dX12_chosenAt_132 rfl (Nat.le_of_ble_eq_true rfl) rfl rfl ?_
                    refine r_iinc (x := s1.2) (v := (s1.2 + (1 : Int32))) (q := 136) 3 3 [1, 2, 3, 0, 5] (L1 := [(0, vr a0), (1, vi x1), (2, vi s1.1), (3, vi (s1.2 + (1 : Int32))), (4, vi (0 : Int32))]) hX dX12_chosenAt_133 rfl rfl (Nat.le_of_ble_eq_true rfl) rfl rfl ?_
                    refine r_goto (q := 4) hX dX12_chosenAt_136 (by decide) ?_
                    refine r_l0 ?_
                    refine r_sub [0, 1, 2, 3] rfl ?_
                    exact hn2 (s1.1, (s1.2 + (1 : Int32)))
                  · refine r_iload_n (i := 3) (x := s1.2) (q := 128) 3 hX dX12_chosenAt_127 rfl rfl rfl ?_
                    refine r_goto (q := 132) hX dX12_chosenAt_128 (by decide) ?_
                    refine r_istore_n (x := s1.2) (q := 133) 2 [1, 2, 0, 4, 5] (L1 := [(0, vr a0), (1, vi x1), (2, vi s1.2), (3, vi s1.2), (4, vi (0 : Int32))]) hX dX12_chosenAt_132 rfl (Nat.le_of_ble_eq_true rfl) rfl rfl ?_
                    refine r_iinc (x := s1.2) (v := (s1.2 + (1 : Int32))) (q := 136) 3 3 [1, 2, 3, 0, 5] (L1 := [(0, vr a0), (1, vi x1), (2, vi s1.2), (3, vi (s1.2 + (1 : Int32))), (4, vi (0 : Int32))]) hX dX12_chosenAt_133 rfl rfl (Nat.le_of_ble_eq_true rfl) rfl rfl ?_
                    refine r_goto (q := 4) hX dX12_chosenAt_136 (by decide) ?_
                    refine r_l0 ?_
                    refine r_sub [0, 1, 2, 3] rfl ?_
                    exact hn2 (s1.2, (s1.2 + (1 : Int32)))
            · refine r_iload (i := 4) (x := v16) (q := 124) 4 hX dX12_chosenAt_122 rfl rfl ?_
              refine r_if_eq (tgt := 131) (q := 127) hX dX12_chosenAt_124 (by decide) rfl (fun hb35 => ?_) (fun hb35 => ?_)
              · refine r_iload_n (i := 2) (x := s1.1) (q := 132) 2 hX dX12_chosenAt_131 rfl rfl rfl ?_
                refine r_istore_n (x := s1.1) (q := 133) 2 [1, 2, 0, 4, 5] (L1 := [(0, vr a0), (1, vi x1), (2, vi s1.1), (3, vi s1.2), (4, vi v16)]) hX dX12_chosenAt_132 rfl (Nat.le_of_ble_eq_true rfl) rfl rfl ?_
                refine r_iinc (x := s1.2) (v := (s1.2 + (1 : Int32))) (q := 136) 3 3 [1, 2, 3, 0, 5] (L1 := [(0, vr a0), (1, vi x1), (2, vi s1.1), (3, vi (s1.2 + (1 : Int32))), (4, vi v16)]) hX dX12_chosenAt_133 rfl rfl (Nat.le_of_ble_eq_true rfl) rfl rfl ?_
                refine r_goto (q := 4) hX dX12_chosenAt_136 (by decide) ?_
                refine r_l0 ?_
                refine r_sub [0, 1, 2, 3] rfl ?_
                exact hn2 (s1.1, (s1.2 + (1 : Int32)))
              · refine r_iload_n (i := 3) (x := s1.2) (q := 128) 3 hX dX12_chosenAt_127 rfl rfl rfl ?_
                refine r_goto (q := 132) hX dX12_chosenAt_128 (by decide) ?_
                refine r_istore_n (x := s1.2) (q := 133) 2 [1, 2, 0, 4, 5] (L1 := [(0, vr a0), (1, vi x1), (2, vi s1.2), (3, vi s1.2), (4, vi v16)]) hX dX12_chosenAt_132 rfl (Nat.le_of_ble_eq_true rfl) rfl rfl ?_
                refine r_iinc (x := s1.2) (v := (s1.2 + (1 : Int32))) (q := 136) 3 3 [1, 2, 3, 0, 5] (L1 := [(0, vr a0), (1, vi x1), (2, vi s1.2), (3, vi (s1.2 + (1 : Int32))), (4, vi v16)]) hX dX12_chosenAt_133 rfl rfl (Nat.le_of_ble_eq_true rfl) rfl rfl ?_
                refine r_goto (q := 4) hX dX12_chosenAt_136 (by decide) ?_
                refine r_l0 ?_
                refine r_sub [0, 1, 2, 3] rfl ?_
                exact hn2 (s1.2, (s1.2 + (1 : Int32)))
          · refine r_iload (i := 4) (x := v16) (q := 124) 4 hX dX12_chosenAt_122 rfl rfl ?_
            refine r_if_eq (tgt := 131) (q := 127) hX dX12_chosenAt_124 (by decide) rfl (fun hb36 => ?_) (fun hb36 => ?_)
            · refine r_iload_n (i := 2) (x := s1.1) (q := 132) 2 hX dX12_chosenAt_131 rfl rfl rfl ?_
              refine r_istore_n (x := s1.1) (q := 133) 2 [1, 2, 0, 4, 5] (L1 := [(0, vr a0), (1, vi x1), (2, vi s1.1), (3, vi s1.2), (4, vi v16)]) hX dX12_chosenAt_132 rfl (Nat.le_of_ble_eq_true rfl) rfl rfl ?_
              refine r_iinc (x := s1.2) (v := (s1.2 + (1 : Int32))) (q := 136) 3 3 [1, 2, 3, 0, 5] (L1 := [(0, vr a0), (1, vi x1), (2, vi s1.1), (3, vi (s1.2 + (1 : Int32))), (4, vi v16)]) hX dX12_chosenAt_133 rfl rfl (Nat.le_of_ble_eq_true rfl) rfl rfl ?_
              refine r_goto (q := 4) hX dX12_chosenAt_136 (by decide) ?_
              refine r_l0 ?_
              refine r_sub [0, 1, 2, 3] rfl ?_
              exact hn2 (s1.1, (s1.2 + (1 : Int32)))
            · refine r_iload_n (i := 3) (x := s1.2) (q := 128) 3 hX dX12_chosenAt_127 rfl rfl rfl ?_
              refine r_goto (q := 132) hX dX12_chosenAt_128 (by decide) ?_
              refine r_istore_n (x := s1.2) (q := 133) 2 [1, 2, 0, 4, 5] (L1 := [(0, vr a0), (1, vi x1), (2, vi s1.2), (3, vi s1.2), (4, vi v16)]) hX dX12_chosenAt_132 rfl (Nat.le_of_ble_eq_true rfl) rfl rfl ?_
              refine r_iinc (x := s1.2) (v := (s1.2 + (1 : Int32))) (q := 136) 3 3 [1, 2, 3, 0, 5] (L1 := [(0, vr a0), (1, vi x1), (2, vi s1.2), (3, vi (s1.2 + (1 : Int32))), (4, vi v16)]) hX dX12_chosenAt_133 rfl rfl (Nat.le_of_ble_eq_true rfl) rfl rfl ?_
              refine r_goto (q := 4) hX dX12_chosenAt_136 (by decide) ?_
              refine r_l0 ?_
              refine r_sub [0, 1, 2, 3] rfl ?_
              exact hn2 (s1.2, (s1.2 + (1 : Int32)))
        · refine r_if_ne (tgt := 70) (q := 38) hX dX12_chosenAt_35 (by decide) rfl (fun hb13 => ?_) (fun hb13 => ?_)
          · refine r_aload_n (i := 0) (x := a0) (q := 39) 0 hX dX12_chosenAt_38 rfl rfl rfl ?_
            refine r_getR (a := a0) (ci := 12) (kf := 6) (q := 42) hX hc4 flX12_26 rfl dX12_chosenAt_39 rfl ?_
            refine r_iload_n (i := 1) (x := x1) (q := 43) 1 hX dX12_chosenAt_42 rfl rfl rfl ?_
            refine r_ck (fun hc17 => ?_)
            refine r_iald (a := (rR M a0 6)) (i := x1) (q := 44) hX hc17 dX12_chosenAt_43 rfl ?_
            refine r_iconst (v := (1 : Int32)) (q := 45) hX dX12_chosenAt_44 rfl rfl ?_
            refine r_icmp_ne (tgt := 70) (q := 48) hX dX12_chosenAt_45 (by decide) rfl (fun hb18 => ?_) (fun hb18 => ?_)
            · refine r_aload_n (i := 0) (x := a0) (q := 49) 0 hX dX12_chosenAt_48 rfl rfl rfl ?_
              refine r_getR (a := a0) (ci := 12) (kf := 24) (q := 52) hX hc4 flX12_62 rfl dX12_chosenAt_49 rfl ?_
              refine r_iload_n (i := 3) (x := s1.2) (q := 53) 3 hX dX12_chosenAt_52 rfl rfl rfl ?_
              refine r_ck (fun hc19 => ?_)
              refine r_iald (a := (rR M a0 24)) (i := s1.2) (q := 54) hX hc19 dX12_chosenAt_53 rfl ?_
              refine r_aload_n (i := 0) (x := a0) (q := 55) 0 hX dX12_chosenAt_54 rfl rfl rfl ?_
              refine r_getR (a := a0) (ci := 12) (kf := 24) (q := 58) hX hc4 flX12_62 rfl dX12_chosenAt_55 rfl ?_
              refine r_iload_n (i := 2) (x := s1.1) (q := 59) 2 hX dX12_chosenAt_58 rfl rfl rfl ?_
              refine r_ck (fun hc20 => ?_)
              refine r_iald (a := (rR M a0 24)) (i := s1.1) (q := 60) hX hc20 dX12_chosenAt_59 rfl ?_
              refine r_icmp_le (tgt := 67) (q := 63) hX dX12_chosenAt_60 (by decide) rfl (fun hb21 => ?_) (fun hb21 => ?_)
              · refine r_iconst (v := (0 : Int32)) (q := 68) hX dX12_chosenAt_67 rfl rfl ?_
                refine r_istore (x := (0 : Int32)) (q := 70) 4 [1, 2, 3, 4, 0] (L1 := [(0, vr a0), (1, vi x1), (2, vi s1.1), (3, vi s1.2), (4, vi (0 : Int32))]) hX dX12_chosenAt_68 (Nat.le_of_ble_eq_true rfl) rfl rfl ?_
                refine r_l0 ?_
                exact hj14 (0 : Int32)
              · refine r_iconst (v := (1 : Int32)) (q := 64) hX dX12_chosenAt_63 rfl rfl ?_
                refine r_goto (q := 68) hX dX12_chosenAt_64 (by decide) ?_
                refine r_istore (x := (1 : Int32)) (q := 70) 4 [1, 2, 3, 4, 0] (L1 := [(0, vr a0), (1, vi x1), (2, vi s1.1), (3, vi s1.2), (4, vi (1 : Int32))]) hX dX12_chosenAt_68 (Nat.le_of_ble_eq_true rfl) rfl rfl ?_
                refine r_l0 ?_
                exact hj14 (1 : Int32)
            · refine r_l0 ?_
              exact hj14 v12
          · refine r_l0 ?_
            exact hj14 v12
      · refine r_icmp_ne (tgt := 30) (q := 26) hX dX12_chosenAt_23 (by decide) rfl (fun hb9 => ?_) (fun hb9 => ?_)
        · refine r_iconst (v := (1 : Int32)) (q := 27) hX dX12_chosenAt_26 rfl rfl ?_
          refine r_goto (q := 31) hX dX12_chosenAt_27 (by decide) ?_
          refine r_l0 ?_
          exact hj10 (1 : Int32)
        · refine r_iconst (v := (0 : Int32)) (q := 31) hX dX12_chosenAt_30 rfl rfl ?_
          refine r_l0 ?_
          exact hj10 (0 : Int32)
theorem flX12_419 : FL RX12 419 12 57 := ⟨Nat.le_of_ble_eq_true rfl, Nat.le_of_ble_eq_true rfl, gd (hcw6_0 _ (List.mem_of_getElem? (i := 12) rfl)) rfl⟩
def mX12_clear : MD := (yX12_clear, cX12_clear, 2, (some .int), 0, 0, 0, 0)
theorem ccX12_clear : Cc mX12_clear 0 := ⟨gd (hcw1_0 _ (List.mem_of_getElem? (i := 10) rfl)) rfl, gd (hcw7_11 _ (List.mem_of_getElem? (i := 16) rfl)) rfl, by decide +kernel, by decide +kernel, by decide +kernel⟩
theorem ivX12_clear : Iv mX12_clear 12 := ⟨Nat.le_of_ble_eq_true rfl, rfl, gd (hcw7_11 _ (List.mem_of_getElem? (i := 14) rfl)) rfl, gd (hcw7_11 _ (List.mem_of_getElem? (i := 15) rfl)) rfl⟩
def fX12_clear (Z : Shp) (M : Mem) (a0 : Nat) : Option (Int32 × Mem) := (if tg Z a0 = (13, 86) then (pu ((rI M a0 57)) (fun z2 => (pu (wI M a0 57 (0 : Int32)) (fun M3 => some (z2, M3))))) else none)
set_option maxRecDepth 20000 in
theorem kX12_clear (l : Launch) (Z : Shp) (M : Mem) (a0 : Nat) (r : Int32 × Mem) (h : fX12_clear Z M a0 = some r) : Ct l mX12_clear [vr a0] Z M ((some (vi r.1)), Z, r.2) := by
  refine Ct.of rfl (Nat.le_of_ble_eq_true rfl) (fun X hM => ?_)
  have hX := hM.1
  refine r_top (mk := fun r => ((some (vi r.1)), Z, r.2)) h (fun K hK => ?_)
  unfold fX12_clear
  refine r_aload_n (i := 0) (x := a0) (q := 1) 0 hX dX12_clear_0 rfl rfl rfl ?_
  refine r_ck (fun hc1 => ?_)
  refine r_getI (a := a0) (ci := 12) (kf := 57) (q := 4) hX hc1 flX12_419 rfl rfl dX12_clear_1 rfl ?_
  refine r_istore_nP (x := (rI M a0 57)) (q := 5) 1 [1, 0] (fun z2 => [(0, vr a0), (1, vi z2)]) hX dX12_clear_4 rfl (Nat.le_of_ble_eq_true rfl) (fun _ => rfl) rfl (fun z2 => ?_)
  refine r_aload_n (i := 0) (x := a0) (q := 6) 0 hX dX12_clear_5 rfl rfl rfl ?_
  refine r_iconst (v := (0 : Int32)) (q := 7) hX dX12_clear_6 rfl rfl ?_
  refine r_putI (a := a0) (ci := 12) (kf := 57) (q := 10) hX hc1 flX12_419 rfl rfl (Or.inl rfl) rfl rfl dX12_clear_7 rfl (fun M3 => ?_)
  refine r_iload_n (i := 1) (x := z2) (q := 11) 1 hX dX12_clear_10 rfl rfl rfl ?_
  refine r_lf (hK _) ?_
  exact r_iret hM rfl (Nat.le_of_ble_eq_true rfl) (Nat.le_of_ble_eq_true rfl) dX12_clear_11
theorem flX12_125 : FL RX12 125 12 58 := ⟨Nat.le_of_ble_eq_true rfl, Nat.le_of_ble_eq_true rfl, gd (hcw6_0 _ (List.mem_of_getElem? (i := 13) rfl)) rfl⟩
theorem flX12_128 : FL RX12 128 12 59 := ⟨Nat.le_of_ble_eq_true rfl, Nat.le_of_ble_eq_true rfl, gd (hcw6_0 _ (List.mem_of_getElem? (i := 14) rfl)) rfl⟩
theorem flX12_131 : FL RX12 131 12 60 := ⟨Nat.le_of_ble_eq_true rfl, Nat.le_of_ble_eq_true rfl, gd (hcw6_0 _ (List.mem_of_getElem? (i := 15) rfl)) rfl⟩
def mX12_comer : MD := (yX12_comer, cX12_comer, 4, (some .int), 2, 45, 0, 0)
theorem ccX12_comer : Cc mX12_comer 3 := ⟨gd (hcw1_0 _ (List.mem_of_getElem? (i := 10) rfl)) rfl, gd (hcw7_11 _ (List.mem_of_getElem? (i := 11) rfl)) rfl, by decide +kernel, by decide +kernel, by decide +kernel⟩
theorem ivX12_comer : Iv mX12_comer 12 := ⟨Nat.le_of_ble_eq_true rfl, rfl, gd (hcw7_11 _ (List.mem_of_getElem? (i := 9) rfl)) rfl, gd (hcw7_11 _ (List.mem_of_getElem? (i := 10) rfl)) rfl⟩
def fX12_comer (Z : Shp) (M : Mem) (a0 : Nat) (x1 : Int32) (x2 : Int32) (x3 : Int32) : Option (Int32 × Mem) := (if (fX12_in (x2.toInt64) (0 : Int64) (23 : Int64)) = 0 then some ((-102 : Int32), M) else (if (fX12_isDay x3) = 0 then some ((-102 : Int32), M) else (if tg Z a0 = (13, 86) then (if (rI M a0 57) = (8 : Int32) then some ((-104 : Int32), M) else (if aok Z (rR M a0 58) 101 (rI M a0 57) then (if zb x1 then (pu (wI M (rR M a0 58) (ix (rI M a0 57)) x1) (fun M6 => (if aok Z (rR M6 a0 59) 100 (rI M6 a0 57) then (pu (wI M6 (rR M6 a0 59) (ix (rI M6 a0 57)) x2) (fun M9 => (if aok Z (rR M9 a0 60) 100 (rI M9 a0 57) then (pu (wI M9 (rR M9 a0 60) (ix (rI M9 a0 57)) x3) (fun M11 => (pu (wI M11 a0 57 ((rI M11 a0 57) + (1 : Int32))) (fun M12 => some (((rI M12 a0 57) - (1 : Int32)), M12))))) else none))) else none))) else none) else none)) else none)))
set_option maxRecDepth 20000 in
theorem kX12_comer (l : Launch) (Z : Shp) (M : Mem) (a0 : Nat) (x1 : Int32) (x2 : Int32) (x3 : Int32) (r : Int32 × Mem) (h : fX12_comer Z M a0 x1 x2 x3 = some r) : Ct l mX12_comer [vr a0, vi x1, vi x2, vi x3] Z M ((some (vi r.1)), Z, r.2) := by
  refine Ct.of rfl (Nat.le_of_ble_eq_true rfl) (fun X hM => ?_)
  have hX := hM.1
  refine r_top (mk := fun r => ((some (vi r.1)), Z, r.2)) h (fun K hK => ?_)
  unfold fX12_comer
  refine r_iload_n (i := 2) (x := x2) (q := 1) 2 hX dX12_comer_0 rfl rfl rfl ?_
  refine r_i2l (q := 2) hX dX12_comer_1 rfl ?_
  refine r_lconst (v := (0 : Int64)) (q := 3) hX dX12_comer_2 rfl rfl ?_
  refine r_ldc2 (v := (23 : Int64)) (q := 6) hX dX12_comer_3 (gd (hcw7_11 _ (List.mem_of_getElem? (i := 12) rfl)) rfl) rfl ?_
  refine r_cs (As := [vj (x2.toInt64), vj (0 : Int64), vj (23 : Int64)]) (st := []) (r := (some (vi (fX12_in (x2.toInt64) (0 : Int64) (23 : Int64))))) (Z1 := Z) (M1 := M) (k1 := 0) (n1 := 0) (st1 := [vi (fX12_in (x2.toInt64) (0 : Int64) (23 : Int64))]) (q := 9) hX (fun l => kX12_in l Z M (x2.toInt64) (0 : Int64) (23 : Int64)) stX12_in ccX12_in (Or.inl lkX12_194) rfl rfl rfl ⟨Nat.le_of_ble_eq_true rfl, Nat.le_of_ble_eq_true rfl, rfl, rfl, Nat.le_of_ble_eq_true rfl, Nat.le_of_ble_eq_true rfl⟩ (Nat.le_of_ble_eq_true rfl) dX12_comer_6 rfl ?_
  refine r_if_eq (tgt := 19) (q := 12) hX dX12_comer_9 (by decide) rfl (fun hb1 => ?_) (fun hb1 => ?_)
  · refine r_bipush (v := (-102 : Int32)) (q := 21) hX dX12_comer_19 rfl rfl ?_
    refine r_lf (hK _) ?_
    exact r_iret hM rfl (Nat.le_of_ble_eq_true rfl) (Nat.le_of_ble_eq_true rfl) dX12_comer_21
  · refine r_iload_n (i := 3) (x := x3) (q := 13) 3 hX dX12_comer_12 rfl rfl rfl ?_
    refine r_cs (As := [vi x3]) (st := []) (r := (some (vi (fX12_isDay x3)))) (Z1 := Z) (M1 := M) (k1 := 0) (n1 := 0) (st1 := [vi (fX12_isDay x3)]) (q := 16) hX (fun l => kX12_isDay l Z M x3) stX12_isDay ccX12_isDay (Or.inl lkX12_393) rfl rfl rfl ⟨Nat.le_of_ble_eq_true rfl, Nat.le_of_ble_eq_true rfl, rfl, rfl, Nat.le_of_ble_eq_true rfl, Nat.le_of_ble_eq_true rfl⟩ (Nat.le_of_ble_eq_true rfl) dX12_comer_13 rfl ?_
    refine r_if_ne (tgt := 22) (q := 19) hX dX12_comer_16 (by decide) rfl (fun hb2 => ?_) (fun hb2 => ?_)
    · refine r_bipush (v := (-102 : Int32)) (q := 21) hX dX12_comer_19 rfl rfl ?_
      refine r_lf (hK _) ?_
      exact r_iret hM rfl (Nat.le_of_ble_eq_true rfl) (Nat.le_of_ble_eq_true rfl) dX12_comer_21
    · refine r_aload_n (i := 0) (x := a0) (q := 23) 0 hX dX12_comer_22 rfl rfl rfl ?_
      refine r_ck (fun hc3 => ?_)
      refine r_getI (a := a0) (ci := 12) (kf := 57) (q := 26) hX hc3 flX12_419 rfl rfl dX12_comer_23 rfl ?_
      refine r_bipush (v := (8 : Int32)) (q := 28) hX dX12_comer_26 rfl rfl ?_
      refine r_icmp_ne (tgt := 34) (q := 31) hX dX12_comer_28 (by decide) rfl (fun hb4 => ?_) (fun hb4 => ?_)
      · refine r_bipush (v := (-104 : Int32)) (q := 33) hX dX12_comer_31 rfl rfl ?_
        refine r_lf (hK _) ?_
        exact r_iret hM rfl (Nat.le_of_ble_eq_true rfl) (Nat.le_of_ble_eq_true rfl) dX12_comer_33
      · refine r_aload_n (i := 0) (x := a0) (q := 35) 0 hX dX12_comer_34 rfl rfl rfl ?_
        refine r_getR (a := a0) (ci := 12) (kf := 58) (q := 38) hX hc3 flX12_125 rfl dX12_comer_35 rfl ?_
        refine r_aload_n (i := 0) (x := a0) (q := 39) 0 hX dX12_comer_38 rfl rfl rfl ?_
        refine r_getI (a := a0) (ci := 12) (kf := 57) (q := 42) hX hc3 flX12_419 rfl rfl dX12_comer_39 rfl ?_
        refine r_iload_n (i := 1) (x := x1) (q := 43) 1 hX dX12_comer_42 rfl rfl rfl ?_
        refine r_ck (fun hc5 => ?_)
        refine r_ck (fun hz7 => ?_)
        refine r_zast (a := (rR M a0 58)) (i := (rI M a0 57)) (x := x1) (q := 44) hX hc5 hz7 dX12_comer_43 rfl (fun M6 => ?_)
        refine r_aload_n (i := 0) (x := a0) (q := 45) 0 hX dX12_comer_44 rfl rfl rfl ?_
        refine r_getR (a := a0) (ci := 12) (kf := 59) (q := 48) hX hc3 flX12_128 rfl dX12_comer_45 rfl ?_
        refine r_aload_n (i := 0) (x := a0) (q := 49) 0 hX dX12_comer_48 rfl rfl rfl ?_
        refine r_getI (a := a0) (ci := 12) (kf := 57) (q := 52) hX hc3 flX12_419 rfl rfl dX12_comer_49 rfl ?_
        refine r_iload_n (i := 2) (x := x2) (q := 53) 2 hX dX12_comer_52 rfl rfl rfl ?_
        refine r_ck (fun hc8 => ?_)
        refine r_iast (a := (rR M6 a0 59)) (i := (rI M6 a0 57)) (x := x2) (q := 54) hX hc8 dX12_comer_53 rfl (fun M9 => ?_)
        refine r_aload_n (i := 0) (x := a0) (q := 55) 0 hX dX12_comer_54 rfl rfl rfl ?_
        refine r_getR (a := a0) (ci := 12) (kf := 60) (q := 58) hX hc3 flX12_131 rfl dX12_comer_55 rfl ?_
        refine r_aload_n (i := 0) (x := a0) (q := 59) 0 hX dX12_comer_58 rfl rfl rfl ?_
        refine r_getI (a := a0) (ci := 12) (kf := 57) (q := 62) hX hc3 flX12_419 rfl rfl dX12_comer_59 rfl ?_
        refine r_iload_n (i := 3) (x := x3) (q := 63) 3 hX dX12_comer_62 rfl rfl rfl ?_
        refine r_ck (fun hc10 => ?_)
        refine r_iast (a := (rR M9 a0 60)) (i := (rI M9 a0 57)) (x := x3) (q := 64) hX hc10 dX12_comer_63 rfl (fun M11 => ?_)
        refine r_aload_n (i := 0) (x := a0) (q := 65) 0 hX dX12_comer_64 rfl rfl rfl ?_
        refine r_dup (q := 66) hX dX12_comer_65 rfl rfl ?_
        refine r_getI (a := a0) (ci := 12) (kf := 57) (q := 69) hX hc3 flX12_419 rfl rfl dX12_comer_66 rfl ?_
        refine r_iconst (v := (1 : Int32)) (q := 70) hX dX12_comer_69 rfl rfl ?_
        refine r_iadd (q := 71) hX dX12_comer_70 rfl ?_
        refine r_putI (a := a0) (ci := 12) (kf := 57) (q := 74) hX hc3 flX12_419 rfl rfl (Or.inl rfl) rfl rfl dX12_comer_71 rfl (fun M12 => ?_)
        refine r_aload_n (i := 0) (x := a0) (q := 75) 0 hX dX12_comer_74 rfl rfl rfl ?_
        refine r_getI (a := a0) (ci := 12) (kf := 57) (q := 78) hX hc3 flX12_419 rfl rfl dX12_comer_75 rfl ?_
        refine r_iconst (v := (1 : Int32)) (q := 79) hX dX12_comer_78 rfl rfl ?_
        refine r_isub (q := 80) hX dX12_comer_79 rfl ?_
        refine r_lf (hK _) ?_
        exact r_iret hM rfl (Nat.le_of_ble_eq_true rfl) (Nat.le_of_ble_eq_true rfl) dX12_comer_80
theorem flX12_146 : FL RX12 146 12 69 := ⟨Nat.le_of_ble_eq_true rfl, Nat.le_of_ble_eq_true rfl, gd (hcw6_1 _ (List.mem_of_getElem? (i := 4) rfl)) rfl⟩
def mX12_readMany : MD := (yX12_readMany, cX12_readMany, 3, (some .int), 0, 0, 0, 0)
theorem ccX12_readMany : Cc mX12_readMany 0 := ⟨gd (hcw1_0 _ (List.mem_of_getElem? (i := 10) rfl)) rfl, gd (hcw8_1 _ (List.mem_of_getElem? (i := 13) rfl)) rfl, by decide +kernel, by decide +kernel, by decide +kernel⟩
theorem ivX12_readMany : Iv mX12_readMany 12 := ⟨Nat.le_of_ble_eq_true rfl, rfl, gd (hcw8_1 _ (List.mem_of_getElem? (i := 12) rfl)) rfl, gd (hps5 _ (List.mem_of_getElem? (i := 5) rfl)) rfl⟩
noncomputable def fX12_readMany (Z : Shp) (M : Mem) (a0 : Nat) : Option (Int32) := (loop (fun s1 : Int32 × Int32 => (if (8 : Int32) ≤ s1.2 then some (Sum.inr s1.1) else (if tg Z a0 = (13, 86) then (if aok Z (rR M a0 69) 100 s1.2 then (if (rI M (rR M a0 69) (ix s1.2)) = (-1 : Int32) then (pu ((s1.1 + (0 : Int32))) (fun z8 => some (Sum.inl (z8, (s1.2 + (1 : Int32)))))) else (pu ((s1.1 + (1 : Int32))) (fun z9 => some (Sum.inl (z9, (s1.2 + (1 : Int32))))))) else none) else none))) ((0 : Int32), (0 : Int32)))
set_option maxRecDepth 20000 in
theorem kX12_readMany (l : Launch) (Z : Shp) (M : Mem) (a0 : Nat) (r : Int32) (h : fX12_readMany Z M a0 = some r) : Ct l mX12_readMany [vr a0] Z M ((some (vi r)), Z, M) := by
  refine Ct.of rfl (Nat.le_of_ble_eq_true rfl) (fun X hM => ?_)
  have hX := hM.1
  refine r_top (mk := fun r => ((some (vi r)), Z, M)) h (fun K hK => ?_)
  unfold fX12_readMany
  refine r_iconst (v := (0 : Int32)) (q := 1) hX dX12_readMany_0 rfl rfl ?_
  refine r_istore_n (x := (0 : Int32)) (q := 2) 1 [1, 0] (L1 := [(0, vr a0), (1, vi (0 : Int32))]) hX dX12_readMany_1 rfl (Nat.le_of_ble_eq_true rfl) rfl rfl ?_
  refine r_iconst (v := (0 : Int32)) (q := 3) hX dX12_readMany_2 rfl rfl ?_
  refine r_istore_n (x := (0 : Int32)) (q := 4) 2 [1, 2, 0] (L1 := [(0, vr a0), (1, vi (0 : Int32)), (2, vi (0 : Int32))]) hX dX12_readMany_3 rfl (Nat.le_of_ble_eq_true rfl) rfl rfl ?_
  refine r_loop (Hd := fun (s1 : Int32 × Int32) (P : Option Res) => Ref mX12_readMany X 0 0 Z M 4 [(0, vr a0), (1, vi s1.1), (2, vi s1.2)] [] P) (fun _ => r_none) (fun s1 K1 hn2 hx3 => ?_) ((0 : Int32), (0 : Int32))
  refine r_iload_n (i := 2) (x := s1.2) (q := 5) 2 hX dX12_readMany_4 rfl rfl rfl ?_
  refine r_bipush (v := (8 : Int32)) (q := 7) hX dX12_readMany_5 rfl rfl ?_
  refine r_icmp_ge (tgt := 34) (q := 10) hX dX12_readMany_7 (by decide) rfl (fun hb4 => ?_) (fun hb4 => ?_)
  · refine r_iload_n (i := 1) (x := s1.1) (q := 35) 1 hX dX12_readMany_34 rfl rfl rfl ?_
    refine r_lf ((hx3 _).trans (hK _)) ?_
    exact r_iret hM rfl (Nat.le_of_ble_eq_true rfl) (Nat.le_of_ble_eq_true rfl) dX12_readMany_35
  · refine r_iload_n (i := 1) (x := s1.1) (q := 11) 1 hX dX12_readMany_10 rfl rfl rfl ?_
    refine r_aload_n (i := 0) (x := a0) (q := 12) 0 hX dX12_readMany_11 rfl rfl rfl ?_
    refine r_ck (fun hc5 => ?_)
    refine r_getR (a := a0) (ci := 12) (kf := 69) (q := 15) hX hc5 flX12_146 rfl dX12_readMany_12 rfl ?_
    refine r_iload_n (i := 2) (x := s1.2) (q := 16) 2 hX dX12_readMany_15 rfl rfl rfl ?_
    refine r_ck (fun hc6 => ?_)
    refine r_iald (a := (rR M a0 69)) (i := s1.2) (q := 17) hX hc6 dX12_readMany_16 rfl ?_
    refine r_iconst (v := (-1 : Int32)) (q := 18) hX dX12_readMany_17 rfl rfl ?_
    refine r_icmp_ne (tgt := 25) (q := 21) hX dX12_readMany_18 (by decide) rfl (fun hb7 => ?_) (fun hb7 => ?_)
    · refine r_iconst (v := (0 : Int32)) (q := 22) hX dX12_readMany_21 rfl rfl ?_
      refine r_goto (q := 26) hX dX12_readMany_22 (by decide) ?_
      refine r_iadd (q := 27) hX dX12_readMany_26 rfl ?_
      refine r_istore_nP (x := (s1.1 + (0 : Int32))) (q := 28) 1 [1, 0, 3] (fun z8 => [(0, vr a0), (1, vi z8), (2, vi s1.2)]) hX dX12_readMany_27 rfl (Nat.le_of_ble_eq_true rfl) (fun _ => rfl) rfl (fun z8 => ?_)
      refine r_iinc (x := s1.2) (v := (s1.2 + (1 : Int32))) (q := 31) 2 2 [1, 2, 0] (L1 := [(0, vr a0), (1, vi z8), (2, vi (s1.2 + (1 : Int32)))]) hX dX12_readMany_28 rfl rfl (Nat.le_of_ble_eq_true rfl) rfl rfl ?_
      refine r_goto (q := 4) hX dX12_readMany_31 (by decide) ?_
      refine r_l0 ?_
      exact hn2 (z8, (s1.2 + (1 : Int32)))
    · refine r_iconst (v := (1 : Int32)) (q := 26) hX dX12_readMany_25 rfl rfl ?_
      refine r_iadd (q := 27) hX dX12_readMany_26 rfl ?_
      refine r_istore_nP (x := (s1.1 + (1 : Int32))) (q := 28) 1 [1, 0, 3] (fun z9 => [(0, vr a0), (1, vi z9), (2, vi s1.2)]) hX dX12_readMany_27 rfl (Nat.le_of_ble_eq_true rfl) (fun _ => rfl) rfl (fun z9 => ?_)
      refine r_iinc (x := s1.2) (v := (s1.2 + (1 : Int32))) (q := 31) 2 2 [1, 2, 0] (L1 := [(0, vr a0), (1, vi z9), (2, vi (s1.2 + (1 : Int32)))]) hX dX12_readMany_28 rfl rfl (Nat.le_of_ble_eq_true rfl) rfl rfl ?_
      refine r_goto (q := 4) hX dX12_readMany_31 (by decide) ?_
      refine r_l0 ?_
      exact hn2 (z9, (s1.2 + (1 : Int32)))
theorem lkX12_443 : Lk RX12 443 yX12_readMany := gd (hcw8_1 _ (List.mem_of_getElem? (i := 10) rfl)) rfl
theorem flX12_463 : FL RX12 463 12 75 := ⟨Nat.le_of_ble_eq_true rfl, Nat.le_of_ble_eq_true rfl, gd (hcw6_1 _ (List.mem_of_getElem? (i := 10) rfl)) rfl⟩
theorem flX12_472 : FL RX12 472 12 81 := ⟨Nat.le_of_ble_eq_true rfl, Nat.le_of_ble_eq_true rfl, gd (hcw6_1 _ (List.mem_of_getElem? (i := 16) rfl)) rfl⟩
theorem flX12_428 : FL RX12 428 12 61 := ⟨Nat.le_of_ble_eq_true rfl, Nat.le_of_ble_eq_true rfl, gd (hcw6_0 _ (List.mem_of_getElem? (i := 16) rfl)) rfl⟩
def mX12_countOf : MD := (yX12_countOf, cX12_countOf, 4, (some .int), 1, 22, 0, 0)
theorem ccX12_countOf : Cc mX12_countOf 1 := ⟨gd (hcw1_0 _ (List.mem_of_getElem? (i := 10) rfl)) rfl, gd (hcw8_6 _ (List.mem_of_getElem? (i := 1) rfl)) rfl, by decide +kernel, by decide +kernel, by decide +kernel⟩
theorem ivX12_countOf : Iv mX12_countOf 12 := ⟨Nat.le_of_ble_eq_true rfl, rfl, gd (hcw8_6 _ (List.mem_of_getElem? (i := 0) rfl)) rfl, gd (hps5 _ (List.mem_of_getElem? (i := 9) rfl)) rfl⟩
noncomputable def fX12_countOf (Z : Shp) (M : Mem) (a0 : Nat) (x1 : Int32) : Option (Int32) := (if x1 = (0 : Int32) then (if tg Z a0 = (13, 86) then some (rI M a0 11) else none) else (if x1 = (1 : Int32) then (if tg Z a0 = (13, 86) then some (rI M a0 15) else none) else (if x1 = (2 : Int32) then (if tg Z a0 = (13, 86) then some (rI M a0 21) else none) else (if x1 = (3 : Int32) then (loop (fun s8 : Int32 × Int32 => (if tg Z a0 = (13, 86) then (if (rI M a0 21) ≤ s8.2 then some (Sum.inr s8.1) else (if aok Z (rR M a0 29) 100 s8.2 then (if (rI M (rR M a0 29) (ix s8.2)) = (-1 : Int32) then (pu ((s8.1 + (1 : Int32))) (fun z15 => some (Sum.inl (z15, (s8.2 + (1 : Int32)))))) else (pu ((s8.1 + (0 : Int32))) (fun z16 => some (Sum.inl (z16, (s8.2 + (1 : Int32))))))) else none)) else none)) ((0 : Int32), (0 : Int32))) else (if x1 = (4 : Int32) then (if tg Z a0 = (13, 86) then some (rI M a0 35) else none) else (if x1 = (5 : Int32) then (if tg Z a0 = (13, 86) then some (rI M a0 57) else none) else (if x1 = (6 : Int32) then (if tg Z a0 = (13, 86) then some (rI M a0 66) else none) else (if x1 = (7 : Int32) then (if tg Z a0 = (13, 86) then (Option.bind (fX12_readMany Z M a0) (fun v25 => some v25)) else none) else (if x1 = (8 : Int32) then (if tg Z a0 = (13, 86) then some (rI M a0 75) else none) else (if x1 = (9 : Int32) then (if tg Z a0 = (13, 86) then some (rI M a0 81) else none) else (if x1 = (10 : Int32) then (if tg Z a0 = (13, 86) then some (rI M a0 34) else none) else (if x1 = (11 : Int32) then (if tg Z a0 = (13, 86) then some (rI M a0 61) else none) else some (-102 : Int32)))))))))))))
set_option maxRecDepth 20000 in
theorem kX12_countOf (l : Launch) (Z : Shp) (M : Mem) (a0 : Nat) (x1 : Int32) (r : Int32) (h : fX12_countOf Z M a0 x1 = some r) : Ct l mX12_countOf [vr a0, vi x1] Z M ((some (vi r)), Z, M) := by
  refine Ct.of rfl (Nat.le_of_ble_eq_true rfl) (fun X hM => ?_)
  have hX := hM.1
  refine r_top (mk := fun r => ((some (vi r)), Z, M)) h (fun K hK => ?_)
  unfold fX12_countOf
  refine r_iconst (v := (0 : Int32)) (q := 1) hX dX12_countOf_0 rfl rfl ?_
  refine r_istore_n (x := (0 : Int32)) (q := 2) 2 [1, 2, 0] (L1 := [(0, vr a0), (1, vi x1), (2, vi (0 : Int32))]) hX dX12_countOf_1 rfl (Nat.le_of_ble_eq_true rfl) rfl rfl ?_
  refine r_iload_n (i := 1) (x := x1) (q := 3) 1 hX dX12_countOf_2 rfl rfl rfl ?_
  refine r_ite (fun hb1 => ?_) (fun hb1 => ?_)
  · refine r_tswI (off := 61) (q := 64) hX hb1 dX12_countOf_3 (by decide) (by decide) ?_
    refine r_aload_n (i := 0) (x := a0) (q := 65) 0 hX dX12_countOf_64 rfl rfl rfl ?_
    refine r_ck (fun hc2 => ?_)
    refine r_getI (a := a0) (ci := 12) (kf := 11) (q := 68) hX hc2 flX12_212 rfl rfl dX12_countOf_65 rfl ?_
    refine r_lf (hK _) ?_
    exact r_iret hM rfl (Nat.le_of_ble_eq_true rfl) (Nat.le_of_ble_eq_true rfl) dX12_countOf_68
  · refine r_ite (fun hb3 => ?_) (fun hb3 => ?_)
    · refine r_tswI (off := 66) (q := 69) hX hb3 dX12_countOf_3 (by decide) (by decide) ?_
      refine r_aload_n (i := 0) (x := a0) (q := 70) 0 hX dX12_countOf_69 rfl rfl rfl ?_
      refine r_ck (fun hc4 => ?_)
      refine r_getI (a := a0) (ci := 12) (kf := 15) (q := 73) hX hc4 flX12_230 rfl rfl dX12_countOf_70 rfl ?_
      refine r_lf (hK _) ?_
      exact r_iret hM rfl (Nat.le_of_ble_eq_true rfl) (Nat.le_of_ble_eq_true rfl) dX12_countOf_73
    · refine r_ite (fun hb5 => ?_) (fun hb5 => ?_)
      · refine r_tswI (off := 71) (q := 74) hX hb5 dX12_countOf_3 (by decide) (by decide) ?_
        refine r_aload_n (i := 0) (x := a0) (q := 75) 0 hX dX12_countOf_74 rfl rfl rfl ?_
        refine r_ck (fun hc6 => ?_)
        refine r_getI (a := a0) (ci := 12) (kf := 21) (q := 78) hX hc6 flX12_215 rfl rfl dX12_countOf_75 rfl ?_
        refine r_lf (hK _) ?_
        exact r_iret hM rfl (Nat.le_of_ble_eq_true rfl) (Nat.le_of_ble_eq_true rfl) dX12_countOf_78
      · refine r_ite (fun hb7 => ?_) (fun hb7 => ?_)
        · refine r_tswI (off := 76) (q := 79) hX hb7 dX12_countOf_3 (by decide) (by decide) ?_
          refine r_iconst (v := (0 : Int32)) (q := 80) hX dX12_countOf_79 rfl rfl ?_
          refine r_istore_n (x := (0 : Int32)) (q := 81) 3 [1, 2, 3, 0] (L1 := [(0, vr a0), (1, vi x1), (2, vi (0 : Int32)), (3, vi (0 : Int32))]) hX dX12_countOf_80 rfl (Nat.le_of_ble_eq_true rfl) rfl rfl ?_
          refine r_sub [0, 2, 3] rfl ?_
          refine r_loop (Hd := fun (s8 : Int32 × Int32) (P : Option Res) => Ref mX12_countOf X 0 0 Z M 81 [(0, vr a0), (2, vi s8.1), (3, vi s8.2)] [] P) (fun _ => r_none) (fun s8 K1 hn9 hx10 => ?_) ((0 : Int32), (0 : Int32))
          refine r_iload_n (i := 3) (x := s8.2) (q := 82) 2 hX dX12_countOf_81 rfl rfl rfl ?_
          refine r_aload_n (i := 0) (x := a0) (q := 83) 0 hX dX12_countOf_82 rfl rfl rfl ?_
          refine r_ck (fun hc11 => ?_)
          refine r_getI (a := a0) (ci := 12) (kf := 21) (q := 86) hX hc11 flX12_215 rfl rfl dX12_countOf_83 rfl ?_
          refine r_icmp_ge (tgt := 113) (q := 89) hX dX12_countOf_86 (by decide) rfl (fun hb12 => ?_) (fun hb12 => ?_)
          · refine r_iload_n (i := 2) (x := s8.1) (q := 114) 1 hX dX12_countOf_113 rfl rfl rfl ?_
            refine r_lf ((hx10 _).trans (hK _)) ?_
            exact r_iret hM rfl (Nat.le_of_ble_eq_true rfl) (Nat.le_of_ble_eq_true rfl) dX12_countOf_114
          · refine r_iload_n (i := 2) (x := s8.1) (q := 90) 1 hX dX12_countOf_89 rfl rfl rfl ?_
            refine r_aload_n (i := 0) (x := a0) (q := 91) 0 hX dX12_countOf_90 rfl rfl rfl ?_
            refine r_getR (a := a0) (ci := 12) (kf := 29) (q := 94) hX hc11 flX12_77 rfl dX12_countOf_91 rfl ?_
            refine r_iload_n (i := 3) (x := s8.2) (q := 95) 2 hX dX12_countOf_94 rfl rfl rfl ?_
            refine r_ck (fun hc13 => ?_)
            refine r_iald (a := (rR M a0 29)) (i := s8.2) (q := 96) hX hc13 dX12_countOf_95 rfl ?_
            refine r_iconst (v := (-1 : Int32)) (q := 97) hX dX12_countOf_96 rfl rfl ?_
            refine r_icmp_ne (tgt := 104) (q := 100) hX dX12_countOf_97 (by decide) rfl (fun hb14 => ?_) (fun hb14 => ?_)
            · refine r_iconst (v := (1 : Int32)) (q := 101) hX dX12_countOf_100 rfl rfl ?_
              refine r_goto (q := 105) hX dX12_countOf_101 (by decide) ?_
              refine r_iadd (q := 106) hX dX12_countOf_105 rfl ?_
              refine r_istore_nP (x := (s8.1 + (1 : Int32))) (q := 107) 2 [1, 0, 3] (fun z15 => [(0, vr a0), (2, vi z15), (3, vi s8.2)]) hX dX12_countOf_106 rfl (Nat.le_of_ble_eq_true rfl) (fun _ => rfl) rfl (fun z15 => ?_)
              refine r_iinc (x := s8.2) (v := (s8.2 + (1 : Int32))) (q := 110) 3 2 [1, 2, 0] (L1 := [(0, vr a0), (2, vi z15), (3, vi (s8.2 + (1 : Int32)))]) hX dX12_countOf_107 rfl rfl (Nat.le_of_ble_eq_true rfl) rfl rfl ?_
              refine r_goto (q := 81) hX dX12_countOf_110 (by decide) ?_
              refine r_l0 ?_
              exact hn9 (z15, (s8.2 + (1 : Int32)))
            · refine r_iconst (v := (0 : Int32)) (q := 105) hX dX12_countOf_104 rfl rfl ?_
              refine r_iadd (q := 106) hX dX12_countOf_105 rfl ?_
              refine r_istore_nP (x := (s8.1 + (0 : Int32))) (q := 107) 2 [1, 0, 3] (fun z16 => [(0, vr a0), (2, vi z16), (3, vi s8.2)]) hX dX12_countOf_106 rfl (Nat.le_of_ble_eq_true rfl) (fun _ => rfl) rfl (fun z16 => ?_)
              refine r_iinc (x := s8.2) (v := (s8.2 + (1 : Int32))) (q := 110) 3 2 [1, 2, 0] (L1 := [(0, vr a0), (2, vi z16), (3, vi (s8.2 + (1 : Int32)))]) hX dX12_countOf_107 rfl rfl (Nat.le_of_ble_eq_true rfl) rfl rfl ?_
              refine r_goto (q := 81) hX dX12_countOf_110 (by decide) ?_
              refine r_l0 ?_
              exact hn9 (z16, (s8.2 + (1 : Int32)))
        · refine r_ite (fun hb17 => ?_) (fun hb17 => ?_)
          · refine r_tswI (off := 112) (q := 115) hX hb17 dX12_countOf_3 (by decide) (by decide) ?_
            refine r_aload_n (i := 0) (x := a0) (q := 116) 0 hX dX12_countOf_115 rfl rfl rfl ?_
            refine r_ck (fun hc18 => ?_)
            refine r_getI (a := a0) (ci := 12) (kf := 35) (q := 119) hX hc18 flX12_388 rfl rfl dX12_countOf_116 rfl ?_
            refine r_lf (hK _) ?_
            exact r_iret hM rfl (Nat.le_of_ble_eq_true rfl) (Nat.le_of_ble_eq_true rfl) dX12_countOf_119
          · refine r_ite (fun hb19 => ?_) (fun hb19 => ?_)
            · refine r_tswI (off := 117) (q := 120) hX hb19 dX12_countOf_3 (by decide) (by decide) ?_
              refine r_aload_n (i := 0) (x := a0) (q := 121) 0 hX dX12_countOf_120 rfl rfl rfl ?_
              refine r_ck (fun hc20 => ?_)
              refine r_getI (a := a0) (ci := 12) (kf := 57) (q := 124) hX hc20 flX12_419 rfl rfl dX12_countOf_121 rfl ?_
              refine r_lf (hK _) ?_
              exact r_iret hM rfl (Nat.le_of_ble_eq_true rfl) (Nat.le_of_ble_eq_true rfl) dX12_countOf_124
            · refine r_ite (fun hb21 => ?_) (fun hb21 => ?_)
              · refine r_tswI (off := 122) (q := 125) hX hb21 dX12_countOf_3 (by decide) (by decide) ?_
                refine r_aload_n (i := 0) (x := a0) (q := 126) 0 hX dX12_countOf_125 rfl rfl rfl ?_
                refine r_ck (fun hc22 => ?_)
                refine r_getI (a := a0) (ci := 12) (kf := 66) (q := 129) hX hc22 flX12_440 rfl rfl dX12_countOf_126 rfl ?_
                refine r_lf (hK _) ?_
                exact r_iret hM rfl (Nat.le_of_ble_eq_true rfl) (Nat.le_of_ble_eq_true rfl) dX12_countOf_129
              · refine r_ite (fun hb23 => ?_) (fun hb23 => ?_)
                · refine r_tswI (off := 127) (q := 130) hX hb23 dX12_countOf_3 (by decide) (by decide) ?_
                  refine r_aload_n (i := 0) (x := a0) (q := 131) 0 hX dX12_countOf_130 rfl rfl rfl ?_
                  refine r_ck (fun hc24 => ?_)
                  refine r_bind (fun v25 h26 => ?_)
                  refine r_cv (a := a0) (As := []) (st := []) (r := (some (vi v25))) (Z1 := Z) (M1 := M) (k1 := 0) (n1 := 0) (st1 := [vi v25]) (q := 134) hX (fun l => kX12_readMany l Z M a0 v25 h26) hc24 ivX12_readMany ccX12_readMany (Or.inl lkX12_443) rfl rfl rfl ⟨Nat.le_of_ble_eq_true rfl, Nat.le_of_ble_eq_true rfl, rfl, rfl, Nat.le_of_ble_eq_true rfl, Nat.le_of_ble_eq_true rfl⟩ (Nat.le_of_ble_eq_true rfl) dX12_countOf_131 rfl ?_
                  refine r_lf (hK _) ?_
                  exact r_iret hM rfl (Nat.le_of_ble_eq_true rfl) (Nat.le_of_ble_eq_true rfl) dX12_countOf_134
                · refine r_ite (fun hb27 => ?_) (fun hb27 => ?_)
                  · refine r_tswI (off := 132) (q := 135) hX hb27 dX12_countOf_3 (by decide) (by decide) ?_
                    refine r_aload_n (i := 0) (x := a0) (q := 136) 0 hX dX12_countOf_135 rfl rfl rfl ?_
                    refine r_ck (fun hc28 => ?_)
                    refine r_getI (a := a0) (ci := 12) (kf := 75) (q := 139) hX hc28 flX12_463 rfl rfl dX12_countOf_136 rfl ?_
                    refine r_lf (hK _) ?_
                    exact r_iret hM rfl (Nat.le_of_ble_eq_true rfl) (Nat.le_of_ble_eq_true rfl) dX12_countOf_139
                  · refine r_ite (fun hb29 => ?_) (fun hb29 => ?_)
                    · refine r_tswI (off := 137) (q := 140) hX hb29 dX12_countOf_3 (by decide) (by decide) ?_
                      refine r_aload_n (i := 0) (x := a0) (q := 141) 0 hX dX12_countOf_140 rfl rfl rfl ?_
                      refine r_ck (fun hc30 => ?_)
                      refine r_getI (a := a0) (ci := 12) (kf := 81) (q := 144) hX hc30 flX12_472 rfl rfl dX12_countOf_141 rfl ?_
                      refine r_lf (hK _) ?_
                      exact r_iret hM rfl (Nat.le_of_ble_eq_true rfl) (Nat.le_of_ble_eq_true rfl) dX12_countOf_144
                    · refine r_ite (fun hb31 => ?_) (fun hb31 => ?_)
                      · refine r_tswI (off := 142) (q := 145) hX hb31 dX12_countOf_3 (by decide) (by decide) ?_
                        refine r_aload_n (i := 0) (x := a0) (q := 146) 0 hX dX12_countOf_145 rfl rfl rfl ?_
                        refine r_ck (fun hc32 => ?_)
                        refine r_getI (a := a0) (ci := 12) (kf := 34) (q := 149) hX hc32 flX12_323 rfl rfl dX12_countOf_146 rfl ?_
                        refine r_lf (hK _) ?_
                        exact r_iret hM rfl (Nat.le_of_ble_eq_true rfl) (Nat.le_of_ble_eq_true rfl) dX12_countOf_149
                      · refine r_ite (fun hb33 => ?_) (fun hb33 => ?_)
                        · refine r_tswI (off := 147) (q := 150) hX hb33 dX12_countOf_3 (by decide) (by decide) ?_
                          refine r_aload_n (i := 0) (x := a0) (q := 151) 0 hX dX12_countOf_150 rfl rfl rfl ?_
                          refine r_ck (fun hc34 => ?_)
                          refine r_getI (a := a0) (ci := 12) (kf := 61) (q := 154) hX hc34 flX12_428 rfl rfl dX12_countOf_151 rfl ?_
                          refine r_lf (hK _) ?_
                          exact r_iret hM rfl (Nat.le_of_ble_eq_true rfl) (Nat.le_of_ble_eq_true rfl) dX12_countOf_154
                        · refine r_tswO (cs := [(0 : Int32), (1 : Int32), (2 : Int32), (3 : Int32), (4 : Int32), (5 : Int32), (6 : Int32), (7 : Int32), (8 : Int32), (9 : Int32), (10 : Int32), (11 : Int32)]) (q := 155) hX ⟨hb1, ⟨hb3, ⟨hb5, ⟨hb7, ⟨hb17, ⟨hb19, ⟨hb21, ⟨hb23, ⟨hb27, ⟨hb29, ⟨hb31, ⟨hb33, trivial⟩⟩⟩⟩⟩⟩⟩⟩⟩⟩⟩⟩ dX12_countOf_3 (by decide) (by decide) ?_
                          refine r_bipush (v := (-102 : Int32)) (q := 157) hX dX12_countOf_155 rfl rfl ?_
                          refine r_lf (hK _) ?_
                          exact r_iret hM rfl (Nat.le_of_ble_eq_true rfl) (Nat.le_of_ble_eq_true rfl) dX12_countOf_157
theorem lkX12_475 : Lk RX12 475 yX12_countOf := gd (hcw8_5 _ (List.mem_of_getElem? (i := 18) rfl)) rfl
def mX12_count : MD := (yX12_count, cX12_count, 2, (some .int), 2, 45, 0, 0)
theorem ccX12_count : Cc mX12_count 1 := ⟨gd (hcw1_0 _ (List.mem_of_getElem? (i := 10) rfl)) rfl, gd (hcw8_5 _ (List.mem_of_getElem? (i := 17) rfl)) rfl, by decide +kernel, by decide +kernel, by decide +kernel⟩
theorem ivX12_count : Iv mX12_count 12 := ⟨Nat.le_of_ble_eq_true rfl, rfl, gd (hcw8_5 _ (List.mem_of_getElem? (i := 15) rfl)) rfl, gd (hcw8_5 _ (List.mem_of_getElem? (i := 16) rfl)) rfl⟩
noncomputable def fX12_count (Z : Shp) (M : Mem) (a0 : Nat) (x1 : Int32) : Option (Int32) := (if tg Z a0 = (13, 86) then (Option.bind (fX12_countOf Z M a0 x1) (fun v2 => some v2)) else none)
set_option maxRecDepth 20000 in
theorem kX12_count (l : Launch) (Z : Shp) (M : Mem) (a0 : Nat) (x1 : Int32) (r : Int32) (h : fX12_count Z M a0 x1 = some r) : Ct l mX12_count [vr a0, vi x1] Z M ((some (vi r)), Z, M) := by
  refine Ct.of rfl (Nat.le_of_ble_eq_true rfl) (fun X hM => ?_)
  have hX := hM.1
  refine r_top (mk := fun r => ((some (vi r)), Z, M)) h (fun K hK => ?_)
  unfold fX12_count
  refine r_aload_n (i := 0) (x := a0) (q := 1) 0 hX dX12_count_0 rfl rfl rfl ?_
  refine r_iload_n (i := 1) (x := x1) (q := 2) 1 hX dX12_count_1 rfl rfl rfl ?_
  refine r_ck (fun hc1 => ?_)
  refine r_bind (fun v2 h3 => ?_)
  refine r_cv (a := a0) (As := [vi x1]) (st := []) (r := (some (vi v2))) (Z1 := Z) (M1 := M) (k1 := 0) (n1 := 0) (st1 := [vi v2]) (q := 5) hX (fun l => kX12_countOf l Z M a0 x1 v2 h3) hc1 ivX12_countOf ccX12_countOf (Or.inl lkX12_475) rfl rfl rfl ⟨Nat.le_of_ble_eq_true rfl, Nat.le_of_ble_eq_true rfl, rfl, rfl, Nat.le_of_ble_eq_true rfl, Nat.le_of_ble_eq_true rfl⟩ (Nat.le_of_ble_eq_true rfl) dX12_count_2 rfl ?_
  refine r_lf (hK _) ?_
  exact r_iret hM rfl (Nat.le_of_ble_eq_true rfl) (Nat.le_of_ble_eq_true rfl) dX12_count_5
def mX12_isCarrier : MD := (yX12_isCarrier, cX12_isCarrier, 1, (some .boolean), 1, 25, 0, 0)
theorem ccX12_isCarrier : Cc mX12_isCarrier 1 := ⟨gd (hcw1_0 _ (List.mem_of_getElem? (i := 10) rfl)) rfl, gd (hcw8_2 _ (List.mem_of_getElem? (i := 15) rfl)) rfl, by decide +kernel, by decide +kernel, by decide +kernel⟩
theorem stX12_isCarrier : Cond.static (yN mX12_isCarrier) ∈ lw_gd := gd (hcw8_2 _ (List.mem_of_getElem? (i := 14) rfl)) rfl
def fX12_isCarrier (x0 : Int32) : Int32 := (fX12_in (x0.toInt64) (0 : Int64) (3 : Int64))
def gX12_isCarrier (x0 : Int32) : Option (Int32) := some (fX12_in (x0.toInt64) (0 : Int64) (3 : Int64))
theorem eX12_isCarrier (x0 : Int32) : gX12_isCarrier x0 = some (fX12_isCarrier x0) := rfl
theorem bX12_isCarrier (x0 : Int32) : zb (fX12_isCarrier x0) := (bX12_in (x0.toInt64) (0 : Int64) (3 : Int64))
set_option maxRecDepth 20000 in
theorem kX12_isCarrier (l : Launch) (Z : Shp) (M : Mem) (x0 : Int32) : Ct l mX12_isCarrier [vi x0] Z M ((some (vi (fX12_isCarrier x0))), Z, M) := by
  refine Ct.of rfl (Nat.le_of_ble_eq_true rfl) (fun X hM => ?_)
  have hX := hM.1
  refine r_top (mk := fun r => ((some (vi r)), Z, M)) (eX12_isCarrier x0) (fun K hK => ?_)
  unfold gX12_isCarrier
  refine r_iload_n (i := 0) (x := x0) (q := 1) 0 hX dX12_isCarrier_0 rfl rfl rfl ?_
  refine r_i2l (q := 2) hX dX12_isCarrier_1 rfl ?_
  refine r_lconst (v := (0 : Int64)) (q := 3) hX dX12_isCarrier_2 rfl rfl ?_
  refine r_ldc2 (v := (3 : Int64)) (q := 6) hX dX12_isCarrier_3 (gd (hcw7_1 _ (List.mem_of_getElem? (i := 15) rfl)) rfl) rfl ?_
  refine r_cs (As := [vj (x0.toInt64), vj (0 : Int64), vj (3 : Int64)]) (st := []) (r := (some (vi (fX12_in (x0.toInt64) (0 : Int64) (3 : Int64))))) (Z1 := Z) (M1 := M) (k1 := 0) (n1 := 0) (st1 := [vi (fX12_in (x0.toInt64) (0 : Int64) (3 : Int64))]) (q := 9) hX (fun l => kX12_in l Z M (x0.toInt64) (0 : Int64) (3 : Int64)) stX12_in ccX12_in (Or.inl lkX12_194) rfl rfl rfl ⟨Nat.le_of_ble_eq_true rfl, Nat.le_of_ble_eq_true rfl, rfl, rfl, Nat.le_of_ble_eq_true rfl, Nat.le_of_ble_eq_true rfl⟩ (Nat.le_of_ble_eq_true rfl) dX12_isCarrier_6 rfl ?_
  refine r_lf (hK _) ?_
  exact r_zret hM rfl (bX12_in (x0.toInt64) (0 : Int64) (3 : Int64)) (Nat.le_of_ble_eq_true rfl) (Nat.le_of_ble_eq_true rfl) dX12_isCarrier_9
theorem lkX12_451 : Lk RX12 451 yX12_isCarrier := gd (hcw8_2 _ (List.mem_of_getElem? (i := 13) rfl)) rfl
theorem flX12_158 : FL RX12 158 12 73 := ⟨Nat.le_of_ble_eq_true rfl, Nat.le_of_ble_eq_true rfl, gd (hcw6_1 _ (List.mem_of_getElem? (i := 8) rfl)) rfl⟩
def mX12_debt : MD := (yX12_debt, cX12_debt, 5, (some .int), 2, 45, 0, 0)
theorem ccX12_debt : Cc mX12_debt 3 := ⟨gd (hcw1_0 _ (List.mem_of_getElem? (i := 10) rfl)) rfl, gd (hcw8_3 _ (List.mem_of_getElem? (i := 0) rfl)) rfl, by decide +kernel, by decide +kernel, by decide +kernel⟩
theorem ivX12_debt : Iv mX12_debt 12 := ⟨Nat.le_of_ble_eq_true rfl, rfl, gd (hcw8_2 _ (List.mem_of_getElem? (i := 18) rfl)) rfl, gd (hcw8_2 _ (List.mem_of_getElem? (i := 19) rfl)) rfl⟩
def fX12_debt (Z : Shp) (M : Mem) (a0 : Nat) (x1 : Int32) (x2 : Int32) (x3 : Int32) : Option (Int32 × Mem) := (if (fX12_isCarrier x1) = 0 then some ((-101 : Int32), M) else (if (fX12_in (x2.toInt64) (0 : Int64) (2 : Int64)) = 0 then some ((-101 : Int32), M) else (if (fX12_in (x3.toInt64) (0 : Int64) (9999 : Int64)) = 0 then some ((-102 : Int32), M) else (if tg Z a0 = (13, 86) then (if aok Z (rR M a0 73) 100 (((3 : Int32) * x1) + x2) then (pu ((rI M (rR M a0 73) (ix (((3 : Int32) * x1) + x2)))) (fun z6 => (pu (wI M (rR M a0 73) (ix (((3 : Int32) * x1) + x2)) x3) (fun M7 => some (z6, M7))))) else none) else none))))
set_option maxRecDepth 20000 in
theorem kX12_debt (l : Launch) (Z : Shp) (M : Mem) (a0 : Nat) (x1 : Int32) (x2 : Int32) (x3 : Int32) (r : Int32 × Mem) (h : fX12_debt Z M a0 x1 x2 x3 = some r) : Ct l mX12_debt [vr a0, vi x1, vi x2, vi x3] Z M ((some (vi r.1)), Z, r.2) := by
  refine Ct.of rfl (Nat.le_of_ble_eq_true rfl) (fun X hM => ?_)
  have hX := hM.1
  refine r_top (mk := fun r => ((some (vi r.1)), Z, r.2)) h (fun K hK => ?_)
  unfold fX12_debt
  refine r_iload_n (i := 1) (x := x1) (q := 1) 1 hX dX12_debt_0 rfl rfl rfl ?_
  refine r_cs (As := [vi x1]) (st := []) (r := (some (vi (fX12_isCarrier x1)))) (Z1 := Z) (M1 := M) (k1 := 0) (n1 := 0) (st1 := [vi (fX12_isCarrier x1)]) (q := 4) hX (fun l => kX12_isCarrier l Z M x1) stX12_isCarrier ccX12_isCarrier (Or.inl lkX12_451) rfl rfl rfl ⟨Nat.le_of_ble_eq_true rfl, Nat.le_of_ble_eq_true rfl, rfl, rfl, Nat.le_of_ble_eq_true rfl, Nat.le_of_ble_eq_true rfl⟩ (Nat.le_of_ble_eq_true rfl) dX12_debt_1 rfl ?_
  refine r_if_eq (tgt := 19) (q := 7) hX dX12_debt_4 (by decide) rfl (fun hb1 => ?_) (fun hb1 => ?_)
  · refine r_bipush (v := (-101 : Int32)) (q := 21) hX dX12_debt_19 rfl rfl ?_
    refine r_lf (hK _) ?_
    exact r_iret hM rfl (Nat.le_of_ble_eq_true rfl) (Nat.le_of_ble_eq_true rfl) dX12_debt_21
  · refine r_iload_n (i := 2) (x := x2) (q := 8) 2 hX dX12_debt_7 rfl rfl rfl ?_
    refine r_i2l (q := 9) hX dX12_debt_8 rfl ?_
    refine r_lconst (v := (0 : Int64)) (q := 10) hX dX12_debt_9 rfl rfl ?_
    refine r_ldc2 (v := (2 : Int64)) (q := 13) hX dX12_debt_10 (gd (hcw6_11 _ (List.mem_of_getElem? (i := 5) rfl)) rfl) rfl ?_
    refine r_cs (As := [vj (x2.toInt64), vj (0 : Int64), vj (2 : Int64)]) (st := []) (r := (some (vi (fX12_in (x2.toInt64) (0 : Int64) (2 : Int64))))) (Z1 := Z) (M1 := M) (k1 := 0) (n1 := 0) (st1 := [vi (fX12_in (x2.toInt64) (0 : Int64) (2 : Int64))]) (q := 16) hX (fun l => kX12_in l Z M (x2.toInt64) (0 : Int64) (2 : Int64)) stX12_in ccX12_in (Or.inl lkX12_194) rfl rfl rfl ⟨Nat.le_of_ble_eq_true rfl, Nat.le_of_ble_eq_true rfl, rfl, rfl, Nat.le_of_ble_eq_true rfl, Nat.le_of_ble_eq_true rfl⟩ (Nat.le_of_ble_eq_true rfl) dX12_debt_13 rfl ?_
    refine r_if_ne (tgt := 22) (q := 19) hX dX12_debt_16 (by decide) rfl (fun hb2 => ?_) (fun hb2 => ?_)
    · refine r_bipush (v := (-101 : Int32)) (q := 21) hX dX12_debt_19 rfl rfl ?_
      refine r_lf (hK _) ?_
      exact r_iret hM rfl (Nat.le_of_ble_eq_true rfl) (Nat.le_of_ble_eq_true rfl) dX12_debt_21
    · refine r_iload_n (i := 3) (x := x3) (q := 23) 3 hX dX12_debt_22 rfl rfl rfl ?_
      refine r_i2l (q := 24) hX dX12_debt_23 rfl ?_
      refine r_lconst (v := (0 : Int64)) (q := 25) hX dX12_debt_24 rfl rfl ?_
      refine r_ldc2 (v := (9999 : Int64)) (q := 28) hX dX12_debt_25 (gd (hcw6_11 _ (List.mem_of_getElem? (i := 6) rfl)) rfl) rfl ?_
      refine r_cs (As := [vj (x3.toInt64), vj (0 : Int64), vj (9999 : Int64)]) (st := []) (r := (some (vi (fX12_in (x3.toInt64) (0 : Int64) (9999 : Int64))))) (Z1 := Z) (M1 := M) (k1 := 0) (n1 := 0) (st1 := [vi (fX12_in (x3.toInt64) (0 : Int64) (9999 : Int64))]) (q := 31) hX (fun l => kX12_in l Z M (x3.toInt64) (0 : Int64) (9999 : Int64)) stX12_in ccX12_in (Or.inl lkX12_194) rfl rfl rfl ⟨Nat.le_of_ble_eq_true rfl, Nat.le_of_ble_eq_true rfl, rfl, rfl, Nat.le_of_ble_eq_true rfl, Nat.le_of_ble_eq_true rfl⟩ (Nat.le_of_ble_eq_true rfl) dX12_debt_28 rfl ?_
      refine r_if_ne (tgt := 37) (q := 34) hX dX12_debt_31 (by decide) rfl (fun hb3 => ?_) (fun hb3 => ?_)
      · refine r_bipush (v := (-102 : Int32)) (q := 36) hX dX12_debt_34 rfl rfl ?_
        refine r_lf (hK _) ?_
        exact r_iret hM rfl (Nat.le_of_ble_eq_true rfl) (Nat.le_of_ble_eq_true rfl) dX12_debt_36
      · refine r_aload_n (i := 0) (x := a0) (q := 38) 0 hX dX12_debt_37 rfl rfl rfl ?_
        refine r_ck (fun hc4 => ?_)
        refine r_getR (a := a0) (ci := 12) (kf := 73) (q := 41) hX hc4 flX12_158 rfl dX12_debt_38 rfl ?_
        refine r_iconst (v := (3 : Int32)) (q := 42) hX dX12_debt_41 rfl rfl ?_
        refine r_iload_n (i := 1) (x := x1) (q := 43) 1 hX dX12_debt_42 rfl rfl rfl ?_
        refine r_imul (q := 44) hX dX12_debt_43 rfl ?_
        refine r_iload_n (i := 2) (x := x2) (q := 45) 2 hX dX12_debt_44 rfl rfl rfl ?_
        refine r_iadd (q := 46) hX dX12_debt_45 rfl ?_
        refine r_ck (fun hc5 => ?_)
        refine r_iald (a := (rR M a0 73)) (i := (((3 : Int32) * x1) + x2)) (q := 47) hX hc5 dX12_debt_46 rfl ?_
        refine r_istoreP (x := (rI M (rR M a0 73) (ix (((3 : Int32) * x1) + x2)))) (q := 49) 4 [1, 2, 3, 4, 0] (fun z6 => [(0, vr a0), (1, vi x1), (2, vi x2), (3, vi x3), (4, vi z6)]) hX dX12_debt_47 (Nat.le_of_ble_eq_true rfl) (fun _ => rfl) rfl (fun z6 => ?_)
        refine r_aload_n (i := 0) (x := a0) (q := 50) 0 hX dX12_debt_49 rfl rfl rfl ?_
        refine r_getR (a := a0) (ci := 12) (kf := 73) (q := 53) hX hc4 flX12_158 rfl dX12_debt_50 rfl ?_
        refine r_iconst (v := (3 : Int32)) (q := 54) hX dX12_debt_53 rfl rfl ?_
        refine r_iload_n (i := 1) (x := x1) (q := 55) 1 hX dX12_debt_54 rfl rfl rfl ?_
        refine r_imul (q := 56) hX dX12_debt_55 rfl ?_
        refine r_iload_n (i := 2) (x := x2) (q := 57) 2 hX dX12_debt_56 rfl rfl rfl ?_
        refine r_iadd (q := 58) hX dX12_debt_57 rfl ?_
        refine r_iload_n (i := 3) (x := x3) (q := 59) 3 hX dX12_debt_58 rfl rfl rfl ?_
        refine r_iast (a := (rR M a0 73)) (i := (((3 : Int32) * x1) + x2)) (x := x3) (q := 60) hX hc5 dX12_debt_59 rfl (fun M7 => ?_)
        refine r_iload (i := 4) (x := z6) (q := 62) 4 hX dX12_debt_60 rfl rfl ?_
        refine r_lf (hK _) ?_
        exact r_iret hM rfl (Nat.le_of_ble_eq_true rfl) (Nat.le_of_ble_eq_true rfl) dX12_debt_62
theorem flX12_480 : FL RX12 480 12 85 := ⟨Nat.le_of_ble_eq_true rfl, Nat.le_of_ble_eq_true rfl, gd (hcw6_2 _ (List.mem_of_getElem? (i := 0) rfl)) rfl⟩
def mX12_tell : MD := (yX12_tell, cX12_tell, 3, none, 0, 0, 0, 0)
theorem ccX12_tell : Cc mX12_tell 1 := ⟨gd (hcw1_0 _ (List.mem_of_getElem? (i := 10) rfl)) rfl, gd (hcw8_6 _ (List.mem_of_getElem? (i := 14) rfl)) rfl, by decide +kernel, by decide +kernel, by decide +kernel⟩
theorem ivX12_tell : Iv mX12_tell 12 := ⟨Nat.le_of_ble_eq_true rfl, rfl, gd (hcw8_6 _ (List.mem_of_getElem? (i := 13) rfl)) rfl, gd (hps5 _ (List.mem_of_getElem? (i := 11) rfl)) rfl⟩
def fX12_tell (Z : Shp) (M : Mem) (a0 : Nat) (y1 : Int64) : Option (Mem) := (if tg Z a0 = (13, 86) then (pu (wJ M a0 85 (((31 : Int64) * (rJ M a0 85)) + y1)) (fun M2 => some M2)) else none)
set_option maxRecDepth 20000 in
theorem kX12_tell (l : Launch) (Z : Shp) (M : Mem) (a0 : Nat) (y1 : Int64) (r : Mem) (h : fX12_tell Z M a0 y1 = some r) : Ct l mX12_tell [vr a0, vj y1] Z M (none, Z, r) := by
  refine Ct.of rfl (Nat.le_of_ble_eq_true rfl) (fun X hM => ?_)
  have hX := hM.1
  refine r_top (mk := fun r => (none, Z, r)) h (fun K hK => ?_)
  unfold fX12_tell
  refine r_aload_n (i := 0) (x := a0) (q := 1) 0 hX dX12_tell_0 rfl rfl rfl ?_
  refine r_ldc2 (v := (31 : Int64)) (q := 4) hX dX12_tell_1 (gd (hcw8_6 _ (List.mem_of_getElem? (i := 15) rfl)) rfl) rfl ?_
  refine r_aload_n (i := 0) (x := a0) (q := 5) 0 hX dX12_tell_4 rfl rfl rfl ?_
  refine r_ck (fun hc1 => ?_)
  refine r_getJ (a := a0) (ci := 12) (kf := 85) (q := 8) hX hc1 flX12_480 rfl rfl dX12_tell_5 rfl ?_
  refine r_lmul (q := 9) hX dX12_tell_8 rfl ?_
  refine r_lload_n (i := 1) (x := y1) (q := 10) 1 hX dX12_tell_9 rfl rfl rfl ?_
  refine r_ladd (q := 11) hX dX12_tell_10 rfl ?_
  refine r_putJ (a := a0) (ci := 12) (kf := 85) (q := 14) hX hc1 flX12_480 rfl rfl (Or.inl rfl) rfl rfl dX12_tell_11 rfl (fun M2 => ?_)
  refine r_lf (hK _) ?_
  exact r_vret hM rfl (Nat.le_of_ble_eq_true rfl) (Nat.le_of_ble_eq_true rfl) dX12_tell_14
theorem flX12_16 : FL RX12 16 12 2 := ⟨Nat.le_of_ble_eq_true rfl, Nat.le_of_ble_eq_true rfl, gd (hcw5_9 _ (List.mem_of_getElem? (i := 17) rfl)) rfl⟩
def mX12_nowOf : MD := (yX12_nowOf, cX12_nowOf, 3, (some .int), 0, 0, 0, 0)
theorem ccX12_nowOf : Cc mX12_nowOf 2 := ⟨gd (hcw1_0 _ (List.mem_of_getElem? (i := 10) rfl)) rfl, gd (hcw6_11 _ (List.mem_of_getElem? (i := 10) rfl)) rfl, by decide +kernel, by decide +kernel, by decide +kernel⟩
theorem ivX12_nowOf : Iv mX12_nowOf 12 := ⟨Nat.le_of_ble_eq_true rfl, rfl, gd (hcw6_11 _ (List.mem_of_getElem? (i := 9) rfl)) rfl, gd (hps3 _ (List.mem_of_getElem? (i := 2) rfl)) rfl⟩
def fX12_nowOf (Z : Shp) (M : Mem) (a0 : Nat) (x1 : Int32) (x2 : Int32) : Option (Int32) := (if x2 = 0 then (if tg Z a0 = (13, 86) then (if aok Z (rR M a0 0) 100 x1 then some (rI M (rR M a0 0) (ix x1)) else none) else none) else (if x2 = (1 : Int32) then (if tg Z a0 = (13, 86) then (if aok Z (rR M a0 1) 100 x1 then some (rI M (rR M a0 1) (ix x1)) else none) else none) else (if tg Z a0 = (13, 86) then (if aok Z (rR M a0 2) 100 x1 then some (rI M (rR M a0 2) (ix x1)) else none) else none)))
set_option maxRecDepth 20000 in
theorem kX12_nowOf (l : Launch) (Z : Shp) (M : Mem) (a0 : Nat) (x1 : Int32) (x2 : Int32) (r : Int32) (h : fX12_nowOf Z M a0 x1 x2 = some r) : Ct l mX12_nowOf [vr a0, vi x1, vi x2] Z M ((some (vi r)), Z, M) := by
  refine Ct.of rfl (Nat.le_of_ble_eq_true rfl) (fun X hM => ?_)
  have hX := hM.1
  refine r_top (mk := fun r => ((some (vi r)), Z, M)) h (fun K hK => ?_)
  unfold fX12_nowOf
  refine r_iload_n (i := 2) (x := x2) (q := 1) 2 hX dX12_nowOf_0 rfl rfl rfl ?_
  refine r_if_ne (tgt := 13) (q := 4) hX dX12_nowOf_1 (by decide) rfl (fun hb1 => ?_) (fun hb1 => ?_)
  · refine r_aload_n (i := 0) (x := a0) (q := 5) 0 hX dX12_nowOf_4 rfl rfl rfl ?_
    refine r_ck (fun hc2 => ?_)
    refine r_getR (a := a0) (ci := 12) (kf := 0) (q := 8) hX hc2 flX12_7 rfl dX12_nowOf_5 rfl ?_
    refine r_iload_n (i := 1) (x := x1) (q := 9) 1 hX dX12_nowOf_8 rfl rfl rfl ?_
    refine r_ck (fun hc3 => ?_)
    refine r_iald (a := (rR M a0 0)) (i := x1) (q := 10) hX hc3 dX12_nowOf_9 rfl ?_
    refine r_goto (q := 33) hX dX12_nowOf_10 (by decide) ?_
    refine r_lf (hK _) ?_
    exact r_iret hM rfl (Nat.le_of_ble_eq_true rfl) (Nat.le_of_ble_eq_true rfl) dX12_nowOf_33
  · refine r_iload_n (i := 2) (x := x2) (q := 14) 2 hX dX12_nowOf_13 rfl rfl rfl ?_
    refine r_iconst (v := (1 : Int32)) (q := 15) hX dX12_nowOf_14 rfl rfl ?_
    refine r_icmp_ne (tgt := 27) (q := 18) hX dX12_nowOf_15 (by decide) rfl (fun hb4 => ?_) (fun hb4 => ?_)
    · refine r_aload_n (i := 0) (x := a0) (q := 19) 0 hX dX12_nowOf_18 rfl rfl rfl ?_
      refine r_ck (fun hc5 => ?_)
      refine r_getR (a := a0) (ci := 12) (kf := 1) (q := 22) hX hc5 flX12_13 rfl dX12_nowOf_19 rfl ?_
      refine r_iload_n (i := 1) (x := x1) (q := 23) 1 hX dX12_nowOf_22 rfl rfl rfl ?_
      refine r_ck (fun hc6 => ?_)
      refine r_iald (a := (rR M a0 1)) (i := x1) (q := 24) hX hc6 dX12_nowOf_23 rfl ?_
      refine r_goto (q := 33) hX dX12_nowOf_24 (by decide) ?_
      refine r_lf (hK _) ?_
      exact r_iret hM rfl (Nat.le_of_ble_eq_true rfl) (Nat.le_of_ble_eq_true rfl) dX12_nowOf_33
    · refine r_aload_n (i := 0) (x := a0) (q := 28) 0 hX dX12_nowOf_27 rfl rfl rfl ?_
      refine r_ck (fun hc7 => ?_)
      refine r_getR (a := a0) (ci := 12) (kf := 2) (q := 31) hX hc7 flX12_16 rfl dX12_nowOf_28 rfl ?_
      refine r_iload_n (i := 1) (x := x1) (q := 32) 1 hX dX12_nowOf_31 rfl rfl rfl ?_
      refine r_ck (fun hc8 => ?_)
      refine r_iald (a := (rR M a0 2)) (i := x1) (q := 33) hX hc8 dX12_nowOf_32 rfl ?_
      refine r_lf (hK _) ?_
      exact r_iret hM rfl (Nat.le_of_ble_eq_true rfl) (Nat.le_of_ble_eq_true rfl) dX12_nowOf_33
theorem flX12_32 : FL RX12 32 12 8 := ⟨Nat.le_of_ble_eq_true rfl, Nat.le_of_ble_eq_true rfl, gd (hcw5_10 _ (List.mem_of_getElem? (i := 3) rfl)) rfl⟩
theorem flX12_35 : FL RX12 35 12 9 := ⟨Nat.le_of_ble_eq_true rfl, Nat.le_of_ble_eq_true rfl, gd (hcw5_10 _ (List.mem_of_getElem? (i := 4) rfl)) rfl⟩
theorem flX12_38 : FL RX12 38 12 10 := ⟨Nat.le_of_ble_eq_true rfl, Nat.le_of_ble_eq_true rfl, gd (hcw5_10 _ (List.mem_of_getElem? (i := 5) rfl)) rfl⟩
def mX12_lockOf : MD := (yX12_lockOf, cX12_lockOf, 3, (some .int), 0, 0, 0, 0)
theorem ccX12_lockOf : Cc mX12_lockOf 2 := ⟨gd (hcw1_0 _ (List.mem_of_getElem? (i := 10) rfl)) rfl, gd (hcw7_6 _ (List.mem_of_getElem? (i := 0) rfl)) rfl, by decide +kernel, by decide +kernel, by decide +kernel⟩
theorem ivX12_lockOf : Iv mX12_lockOf 12 := ⟨Nat.le_of_ble_eq_true rfl, rfl, gd (hcw7_5 _ (List.mem_of_getElem? (i := 19) rfl)) rfl, gd (hps4 _ (List.mem_of_getElem? (i := 4) rfl)) rfl⟩
def fX12_lockOf (Z : Shp) (M : Mem) (a0 : Nat) (x1 : Int32) (x2 : Int32) : Option (Int32) := (if x2 = (0 : Int32) then (if tg Z a0 = (13, 86) then (if aok Z (rR M a0 7) 101 x1 then (if (rI M (rR M a0 7) (ix x1)) = 0 then some (0 : Int32) else some (1 : Int32)) else none) else none) else (if x2 = (1 : Int32) then (if tg Z a0 = (13, 86) then (if aok Z (rR M a0 8) 100 x1 then some (rI M (rR M a0 8) (ix x1)) else none) else none) else (if x2 = (2 : Int32) then (if tg Z a0 = (13, 86) then (if aok Z (rR M a0 9) 100 x1 then some (rI M (rR M a0 9) (ix x1)) else none) else none) else (if x2 = (3 : Int32) then (if tg Z a0 = (13, 86) then (if aok Z (rR M a0 10) 100 x1 then some (rI M (rR M a0 10) (ix x1)) else none) else none) else some (-102 : Int32)))))
set_option maxRecDepth 20000 in
theorem kX12_lockOf (l : Launch) (Z : Shp) (M : Mem) (a0 : Nat) (x1 : Int32) (x2 : Int32) (r : Int32) (h : fX12_lockOf Z M a0 x1 x2 = some r) : Ct l mX12_lockOf [vr a0, vi x1, vi x2] Z M ((some (vi r)), Z, M) := by
  refine Ct.of rfl (Nat.le_of_ble_eq_true rfl) (fun X hM => ?_)
  have hX := hM.1
  refine r_top (mk := fun r => ((some (vi r)), Z, M)) h (fun K hK => ?_)
  unfold fX12_lockOf
  refine r_iload_n (i := 2) (x := x2) (q := 1) 2 hX dX12_lockOf_0 rfl rfl rfl ?_
  refine r_ite (fun hb1 => ?_) (fun hb1 => ?_)
  · refine r_tswI (off := 31) (q := 32) hX hb1 dX12_lockOf_1 (by decide) (by decide) ?_
    refine r_aload_n (i := 0) (x := a0) (q := 33) 0 hX dX12_lockOf_32 rfl rfl rfl ?_
    refine r_ck (fun hc2 => ?_)
    refine r_getR (a := a0) (ci := 12) (kf := 7) (q := 36) hX hc2 flX12_29 rfl dX12_lockOf_33 rfl ?_
    refine r_iload_n (i := 1) (x := x1) (q := 37) 1 hX dX12_lockOf_36 rfl rfl rfl ?_
    refine r_ck (fun hc3 => ?_)
    refine r_zald (a := (rR M a0 7)) (i := x1) (q := 38) hX hc3 dX12_lockOf_37 rfl ?_
    refine r_if_eq (tgt := 45) (q := 41) hX dX12_lockOf_38 (by decide) rfl (fun hb4 => ?_) (fun hb4 => ?_)
    · refine r_iconst (v := (0 : Int32)) (q := 46) hX dX12_lockOf_45 rfl rfl ?_
      refine r_lf (hK _) ?_
      exact r_iret hM rfl (Nat.le_of_ble_eq_true rfl) (Nat.le_of_ble_eq_true rfl) dX12_lockOf_46
    · refine r_iconst (v := (1 : Int32)) (q := 42) hX dX12_lockOf_41 rfl rfl ?_
      refine r_goto (q := 46) hX dX12_lockOf_42 (by decide) ?_
      refine r_lf (hK _) ?_
      exact r_iret hM rfl (Nat.le_of_ble_eq_true rfl) (Nat.le_of_ble_eq_true rfl) dX12_lockOf_46
  · refine r_ite (fun hb5 => ?_) (fun hb5 => ?_)
    · refine r_tswI (off := 46) (q := 47) hX hb5 dX12_lockOf_1 (by decide) (by decide) ?_
      refine r_aload_n (i := 0) (x := a0) (q := 48) 0 hX dX12_lockOf_47 rfl rfl rfl ?_
      refine r_ck (fun hc6 => ?_)
      refine r_getR (a := a0) (ci := 12) (kf := 8) (q := 51) hX hc6 flX12_32 rfl dX12_lockOf_48 rfl ?_
      refine r_iload_n (i := 1) (x := x1) (q := 52) 1 hX dX12_lockOf_51 rfl rfl rfl ?_
      refine r_ck (fun hc7 => ?_)
      refine r_iald (a := (rR M a0 8)) (i := x1) (q := 53) hX hc7 dX12_lockOf_52 rfl ?_
      refine r_lf (hK _) ?_
      exact r_iret hM rfl (Nat.le_of_ble_eq_true rfl) (Nat.le_of_ble_eq_true rfl) dX12_lockOf_53
    · refine r_ite (fun hb8 => ?_) (fun hb8 => ?_)
      · refine r_tswI (off := 53) (q := 54) hX hb8 dX12_lockOf_1 (by decide) (by decide) ?_
        refine r_aload_n (i := 0) (x := a0) (q := 55) 0 hX dX12_lockOf_54 rfl rfl rfl ?_
        refine r_ck (fun hc9 => ?_)
        refine r_getR (a := a0) (ci := 12) (kf := 9) (q := 58) hX hc9 flX12_35 rfl dX12_lockOf_55 rfl ?_
        refine r_iload_n (i := 1) (x := x1) (q := 59) 1 hX dX12_lockOf_58 rfl rfl rfl ?_
        refine r_ck (fun hc10 => ?_)
        refine r_iald (a := (rR M a0 9)) (i := x1) (q := 60) hX hc10 dX12_lockOf_59 rfl ?_
        refine r_lf (hK _) ?_
        exact r_iret hM rfl (Nat.le_of_ble_eq_true rfl) (Nat.le_of_ble_eq_true rfl) dX12_lockOf_60
      · refine r_ite (fun hb11 => ?_) (fun hb11 => ?_)
        · refine r_tswI (off := 60) (q := 61) hX hb11 dX12_lockOf_1 (by decide) (by decide) ?_
          refine r_aload_n (i := 0) (x := a0) (q := 62) 0 hX dX12_lockOf_61 rfl rfl rfl ?_
          refine r_ck (fun hc12 => ?_)
          refine r_getR (a := a0) (ci := 12) (kf := 10) (q := 65) hX hc12 flX12_38 rfl dX12_lockOf_62 rfl ?_
          refine r_iload_n (i := 1) (x := x1) (q := 66) 1 hX dX12_lockOf_65 rfl rfl rfl ?_
          refine r_ck (fun hc13 => ?_)
          refine r_iald (a := (rR M a0 10)) (i := x1) (q := 67) hX hc13 dX12_lockOf_66 rfl ?_
          refine r_lf (hK _) ?_
          exact r_iret hM rfl (Nat.le_of_ble_eq_true rfl) (Nat.le_of_ble_eq_true rfl) dX12_lockOf_67
        · refine r_tswO (cs := [(0 : Int32), (1 : Int32), (2 : Int32), (3 : Int32)]) (q := 68) hX ⟨hb1, ⟨hb5, ⟨hb8, ⟨hb11, trivial⟩⟩⟩⟩ dX12_lockOf_1 (by decide) (by decide) ?_
          refine r_bipush (v := (-102 : Int32)) (q := 70) hX dX12_lockOf_68 rfl rfl ?_
          refine r_lf (hK _) ?_
          exact r_iret hM rfl (Nat.le_of_ble_eq_true rfl) (Nat.le_of_ble_eq_true rfl) dX12_lockOf_70
theorem flX12_19 : FL RX12 19 12 4 := ⟨Nat.le_of_ble_eq_true rfl, Nat.le_of_ble_eq_true rfl, gd (hcw5_9 _ (List.mem_of_getElem? (i := 19) rfl)) rfl⟩
theorem flX12_294 : FL RX12 294 12 12 := ⟨Nat.le_of_ble_eq_true rfl, Nat.le_of_ble_eq_true rfl, gd (hcw5_10 _ (List.mem_of_getElem? (i := 7) rfl)) rfl⟩
theorem flX12_246 : FL RX12 246 12 13 := ⟨Nat.le_of_ble_eq_true rfl, Nat.le_of_ble_eq_true rfl, gd (hcw5_10 _ (List.mem_of_getElem? (i := 8) rfl)) rfl⟩
theorem flX12_222 : FL RX12 222 12 14 := ⟨Nat.le_of_ble_eq_true rfl, Nat.le_of_ble_eq_true rfl, gd (hcw5_10 _ (List.mem_of_getElem? (i := 9) rfl)) rfl⟩
def mX12_sumOf : MD := (yX12_sumOf, cX12_sumOf, 5, (some .long), 0, 0, 0, 0)
theorem ccX12_sumOf : Cc mX12_sumOf 1 := ⟨gd (hcw1_0 _ (List.mem_of_getElem? (i := 10) rfl)) rfl, gd (hcw7_6 _ (List.mem_of_getElem? (i := 8) rfl)) rfl, by decide +kernel, by decide +kernel, by decide +kernel⟩
theorem ivX12_sumOf : Iv mX12_sumOf 12 := ⟨Nat.le_of_ble_eq_true rfl, rfl, gd (hcw7_6 _ (List.mem_of_getElem? (i := 7) rfl)) rfl, gd (hps4 _ (List.mem_of_getElem? (i := 5) rfl)) rfl⟩
noncomputable def fX12_sumOf (Z : Shp) (M : Mem) (a0 : Nat) (x1 : Int32) : Option (Int64) := (Option.bind (loop (fun s4 : Int64 × Int32 => (if (8 : Int32) ≤ s4.2 then some (Sum.inr s4.1) else (if x1 = (3 : Int32) then (if tg Z a0 = (13, 86) then (if aok Z (rR M a0 0) 100 s4.2 then (pu ((s4.1 + ((rI M (rR M a0 0) (ix s4.2)).toInt64))) (fun z11 => some (Sum.inl (z11, (s4.2 + (1 : Int32)))))) else none) else none) else (pu ((s4.1 + (0 : Int64))) (fun z12 => some (Sum.inl (z12, (s4.2 + (1 : Int32))))))))) ((0 : Int64), (0 : Int32))) (fun v3 : Int64 => (Option.bind (loop (fun s16 : Int64 × Int32 => (if (7 : Int32) ≤ s16.2 then some (Sum.inr s16.1) else (if x1 = (4 : Int32) then (if tg Z a0 = (13, 86) then (if aok Z (rR M a0 8) 100 s16.2 then (if aok Z (rR M a0 7) 101 s16.2 then (if (rI M (rR M a0 7) (ix s16.2)) = 0 then (pu ((s16.1 + (((rI M (rR M a0 8) (ix s16.2)) + (0 : Int32)).toInt64))) (fun z25 => some (Sum.inl (z25, (s16.2 + (1 : Int32)))))) else (if aok Z (rR M a0 4) 100 s16.2 then (pu ((s16.1 + (((rI M (rR M a0 8) (ix s16.2)) + (rI M (rR M a0 4) (ix s16.2))).toInt64))) (fun z27 => some (Sum.inl (z27, (s16.2 + (1 : Int32)))))) else none)) else none) else none) else none) else (pu ((s16.1 + (0 : Int64))) (fun z28 => some (Sum.inl (z28, (s16.2 + (1 : Int32))))))))) (v3, (0 : Int32))) (fun v15 : Int64 => (if x1 = 0 then (if tg Z a0 = (13, 86) then some (rJ M a0 12) else none) else (if x1 = (1 : Int32) then (if tg Z a0 = (13, 86) then (if 0 ≤ (lg_cmp (rJ M a0 13) (0 : Int64)) then some (rJ M a0 13) else some ((1000000 : Int64) - (rJ M a0 13))) else none) else (if x1 = (2 : Int32) then (if tg Z a0 = (13, 86) then some (rJ M a0 14) else none) else some v15)))))))
set_option maxRecDepth 20000 in
theorem kX12_sumOf (l : Launch) (Z : Shp) (M : Mem) (a0 : Nat) (x1 : Int32) (r : Int64) (h : fX12_sumOf Z M a0 x1 = some r) : Ct l mX12_sumOf [vr a0, vi x1] Z M ((some (vj r)), Z, M) := by
  refine Ct.of rfl (Nat.le_of_ble_eq_true rfl) (fun X hM => ?_)
  have hX := hM.1
  refine r_top (mk := fun r => ((some (vj r)), Z, M)) h (fun K hK => ?_)
  unfold fX12_sumOf
  refine r_lconst (v := (0 : Int64)) (q := 1) hX dX12_sumOf_0 rfl rfl ?_
  refine r_lstore_n (x := (0 : Int64)) (q := 2) 2 [1, 2, 0] (L1 := [(0, vr a0), (1, vi x1), (2, vj (0 : Int64))]) hX dX12_sumOf_1 rfl (Nat.le_of_ble_eq_true rfl) rfl rfl ?_
  refine r_iconst (v := (0 : Int32)) (q := 3) hX dX12_sumOf_2 rfl rfl ?_
  refine r_istore (x := (0 : Int32)) (q := 5) 4 [1, 2, 3, 0] (L1 := [(0, vr a0), (1, vi x1), (2, vj (0 : Int64)), (4, vi (0 : Int32))]) hX dX12_sumOf_3 (Nat.le_of_ble_eq_true rfl) rfl rfl ?_
  refine r_jn (J := fun (v3 : Int64) (P : Option Res) => Ref mX12_sumOf X 0 0 Z M 38 [(0, vr a0), (1, vi x1), (2, vj v3)] [] P) (fun v3 => ?_) (fun K1 hj1 => ?_)
  · refine r_iconst (v := (0 : Int32)) (q := 39) hX dX12_sumOf_38 rfl rfl ?_
    refine r_istore (x := (0 : Int32)) (q := 41) 4 [1, 2, 3, 0] (L1 := [(0, vr a0), (1, vi x1), (2, vj v3), (4, vi (0 : Int32))]) hX dX12_sumOf_39 (Nat.le_of_ble_eq_true rfl) rfl rfl ?_
    refine r_jn (J := fun (v15 : Int64) (P : Option Res) => Ref mX12_sumOf X 0 0 Z M 96 [(0, vr a0), (1, vi x1), (2, vj v15)] [] P) (fun v15 => ?_) (fun K1 hj13 => ?_)
    · refine r_iload_n (i := 1) (x := x1) (q := 97) 1 hX dX12_sumOf_96 rfl rfl rfl ?_
      refine r_if_ne (tgt := 107) (q := 100) hX dX12_sumOf_97 (by decide) rfl (fun hb29 => ?_) (fun hb29 => ?_)
      · refine r_aload_n (i := 0) (x := a0) (q := 101) 0 hX dX12_sumOf_100 rfl rfl rfl ?_
        refine r_ck (fun hc30 => ?_)
        refine r_getJ (a := a0) (ci := 12) (kf := 12) (q := 104) hX hc30 flX12_294 rfl rfl dX12_sumOf_101 rfl ?_
        refine r_goto (q := 152) hX dX12_sumOf_104 (by decide) ?_
        refine r_lf (hK _) ?_
        exact r_lret hM rfl (Nat.le_of_ble_eq_true rfl) (Nat.le_of_ble_eq_true rfl) dX12_sumOf_152
      · refine r_iload_n (i := 1) (x := x1) (q := 108) 1 hX dX12_sumOf_107 rfl rfl rfl ?_
        refine r_iconst (v := (1 : Int32)) (q := 109) hX dX12_sumOf_108 rfl rfl ?_
        refine r_icmp_ne (tgt := 139) (q := 112) hX dX12_sumOf_109 (by decide) rfl (fun hb31 => ?_) (fun hb31 => ?_)
        · refine r_aload_n (i := 0) (x := a0) (q := 113) 0 hX dX12_sumOf_112 rfl rfl rfl ?_
          refine r_ck (fun hc32 => ?_)
          refine r_getJ (a := a0) (ci := 12) (kf := 13) (q := 116) hX hc32 flX12_246 rfl rfl dX12_sumOf_113 rfl ?_
          refine r_lconst (v := (0 : Int64)) (q := 117) hX dX12_sumOf_116 rfl rfl ?_
          refine r_lcmp (q := 118) hX dX12_sumOf_117 rfl ?_
          refine r_if_ge (tgt := 132) (q := 121) hX dX12_sumOf_118 (by decide) rfl (fun hb33 => ?_) (fun hb33 => ?_)
          · refine r_aload_n (i := 0) (x := a0) (q := 133) 0 hX dX12_sumOf_132 rfl rfl rfl ?_
            refine r_getJ (a := a0) (ci := 12) (kf := 13) (q := 136) hX hc32 flX12_246 rfl rfl dX12_sumOf_133 rfl ?_
            refine r_goto (q := 152) hX dX12_sumOf_136 (by decide) ?_
            refine r_lf (hK _) ?_
            exact r_lret hM rfl (Nat.le_of_ble_eq_true rfl) (Nat.le_of_ble_eq_true rfl) dX12_sumOf_152
          · refine r_ldc2 (v := (1000000 : Int64)) (q := 124) hX dX12_sumOf_121 (gd (hcw7_6 _ (List.mem_of_getElem? (i := 9) rfl)) rfl) rfl ?_
            refine r_aload_n (i := 0) (x := a0) (q := 125) 0 hX dX12_sumOf_124 rfl rfl rfl ?_
            refine r_getJ (a := a0) (ci := 12) (kf := 13) (q := 128) hX hc32 flX12_246 rfl rfl dX12_sumOf_125 rfl ?_
            refine r_lsub (q := 129) hX dX12_sumOf_128 rfl ?_
            refine r_goto (q := 152) hX dX12_sumOf_129 (by decide) ?_
            refine r_lf (hK _) ?_
            exact r_lret hM rfl (Nat.le_of_ble_eq_true rfl) (Nat.le_of_ble_eq_true rfl) dX12_sumOf_152
        · refine r_iload_n (i := 1) (x := x1) (q := 140) 1 hX dX12_sumOf_139 rfl rfl rfl ?_
          refine r_iconst (v := (2 : Int32)) (q := 141) hX dX12_sumOf_140 rfl rfl ?_
          refine r_icmp_ne (tgt := 151) (q := 144) hX dX12_sumOf_141 (by decide) rfl (fun hb34 => ?_) (fun hb34 => ?_)
          · refine r_aload_n (i := 0) (x := a0) (q := 145) 0 hX dX12_sumOf_144 rfl rfl rfl ?_
            refine r_ck (fun hc35 => ?_)
            refine r_getJ (a := a0) (ci := 12) (kf := 14) (q := 148) hX hc35 flX12_222 rfl rfl dX12_sumOf_145 rfl ?_
            refine r_goto (q := 152) hX dX12_sumOf_148 (by decide) ?_
            refine r_lf (hK _) ?_
            exact r_lret hM rfl (Nat.le_of_ble_eq_true rfl) (Nat.le_of_ble_eq_true rfl) dX12_sumOf_152
          · refine r_lload_n (i := 2) (x := v15) (q := 152) 2 hX dX12_sumOf_151 rfl rfl rfl ?_
            refine r_lf (hK _) ?_
            exact r_lret hM rfl (Nat.le_of_ble_eq_true rfl) (Nat.le_of_ble_eq_true rfl) dX12_sumOf_152
    · refine r_loop (Hd := fun (s16 : Int64 × Int32) (P : Option Res) => Ref mX12_sumOf X 0 0 Z M 41 [(0, vr a0), (1, vi x1), (2, vj s16.1), (4, vi s16.2)] [] P) (fun _ => r_none) (fun s16 K1 hn17 hx18 => ?_) (v3, (0 : Int32))
      refine r_iload (i := 4) (x := s16.2) (q := 43) 3 hX dX12_sumOf_41 rfl rfl ?_
      refine r_bipush (v := (7 : Int32)) (q := 45) hX dX12_sumOf_43 rfl rfl ?_
      refine r_icmp_ge (tgt := 96) (q := 48) hX dX12_sumOf_45 (by decide) rfl (fun hb19 => ?_) (fun hb19 => ?_)
      · refine r_lf (hx18 _) ?_
        refine r_sub [0, 1, 2] rfl ?_
        exact hj13 s16.1
      · refine r_lload_n (i := 2) (x := s16.1) (q := 49) 2 hX dX12_sumOf_48 rfl rfl rfl ?_
        refine r_iload_n (i := 1) (x := x1) (q := 50) 1 hX dX12_sumOf_49 rfl rfl rfl ?_
        refine r_iconst (v := (4 : Int32)) (q := 51) hX dX12_sumOf_50 rfl rfl ?_
        refine r_icmp_ne (tgt := 87) (q := 54) hX dX12_sumOf_51 (by decide) rfl (fun hb20 => ?_) (fun hb20 => ?_)
        · refine r_aload_n (i := 0) (x := a0) (q := 55) 0 hX dX12_sumOf_54 rfl rfl rfl ?_
          refine r_ck (fun hc21 => ?_)
          refine r_getR (a := a0) (ci := 12) (kf := 8) (q := 58) hX hc21 flX12_32 rfl dX12_sumOf_55 rfl ?_
          refine r_iload (i := 4) (x := s16.2) (q := 60) 3 hX dX12_sumOf_58 rfl rfl ?_
          refine r_ck (fun hc22 => ?_)
          refine r_iald (a := (rR M a0 8)) (i := s16.2) (q := 61) hX hc22 dX12_sumOf_60 rfl ?_
          refine r_aload_n (i := 0) (x := a0) (q := 62) 0 hX dX12_sumOf_61 rfl rfl rfl ?_
          refine r_getR (a := a0) (ci := 12) (kf := 7) (q := 65) hX hc21 flX12_29 rfl dX12_sumOf_62 rfl ?_
          refine r_iload (i := 4) (x := s16.2) (q := 67) 3 hX dX12_sumOf_65 rfl rfl ?_
          refine r_ck (fun hc23 => ?_)
          refine r_zald (a := (rR M a0 7)) (i := s16.2) (q := 68) hX hc23 dX12_sumOf_67 rfl ?_
          refine r_if_eq (tgt := 81) (q := 71) hX dX12_sumOf_68 (by decide) rfl (fun hb24 => ?_) (fun hb24 => ?_)
          · refine r_iconst (v := (0 : Int32)) (q := 82) hX dX12_sumOf_81 rfl rfl ?_
            refine r_iadd (q := 83) hX dX12_sumOf_82 rfl ?_
            refine r_i2l (q := 84) hX dX12_sumOf_83 rfl ?_
            refine r_goto (q := 88) hX dX12_sumOf_84 (by decide) ?_
            refine r_ladd (q := 89) hX dX12_sumOf_88 rfl ?_
            refine r_lstore_nP (x := (s16.1 + (((rI M (rR M a0 8) (ix s16.2)) + (0 : Int32)).toInt64))) (q := 90) 2 [1, 2, 0, 4] (fun z25 => [(0, vr a0), (1, vi x1), (2, vj z25), (4, vi s16.2)]) hX dX12_sumOf_89 rfl (Nat.le_of_ble_eq_true rfl) (fun _ => rfl) rfl (fun z25 => ?_)
            refine r_iinc (x := s16.2) (v := (s16.2 + (1 : Int32))) (q := 93) 4 3 [1, 2, 3, 0] (L1 := [(0, vr a0), (1, vi x1), (2, vj z25), (4, vi (s16.2 + (1 : Int32)))]) hX dX12_sumOf_90 rfl rfl (Nat.le_of_ble_eq_true rfl) rfl rfl ?_
            refine r_goto (q := 41) hX dX12_sumOf_93 (by decide) ?_
            refine r_l0 ?_
            exact hn17 (z25, (s16.2 + (1 : Int32)))
          · refine r_aload_n (i := 0) (x := a0) (q := 72) 0 hX dX12_sumOf_71 rfl rfl rfl ?_
            refine r_getR (a := a0) (ci := 12) (kf := 4) (q := 75) hX hc21 flX12_19 rfl dX12_sumOf_72 rfl ?_
            refine r_iload (i := 4) (x := s16.2) (q := 77) 3 hX dX12_sumOf_75 rfl rfl ?_
            refine r_ck (fun hc26 => ?_)
            refine r_iald (a := (rR M a0 4)) (i := s16.2) (q := 78) hX hc26 dX12_sumOf_77 rfl ?_
            refine r_goto (q := 82) hX dX12_sumOf_78 (by decide) ?_
            refine r_iadd (q := 83) hX dX12_sumOf_82 rfl ?_
            refine r_i2l (q := 84) hX dX12_sumOf_83 rfl ?_
            refine r_goto (q := 88) hX dX12_sumOf_84 (by decide) ?_
            refine r_ladd (q := 89) hX dX12_sumOf_88 rfl ?_
            refine r_lstore_nP (x := (s16.1 + (((rI M (rR M a0 8) (ix s16.2)) + (rI M (rR M a0 4) (ix s16.2))).toInt64))) (q := 90) 2 [1, 2, 0, 4] (fun z27 => [(0, vr a0), (1, vi x1), (2, vj z27), (4, vi s16.2)]) hX dX12_sumOf_89 rfl (Nat.le_of_ble_eq_true rfl) (fun _ => rfl) rfl (fun z27 => ?_)
            refine r_iinc (x := s16.2) (v := (s16.2 + (1 : Int32))) (q := 93) 4 3 [1, 2, 3, 0] (L1 := [(0, vr a0), (1, vi x1), (2, vj z27), (4, vi (s16.2 + (1 : Int32)))]) hX dX12_sumOf_90 rfl rfl (Nat.le_of_ble_eq_true rfl) rfl rfl ?_
            refine r_goto (q := 41) hX dX12_sumOf_93 (by decide) ?_
            refine r_l0 ?_
            exact hn17 (z27, (s16.2 + (1 : Int32)))
        · refine r_lconst (v := (0 : Int64)) (q := 88) hX dX12_sumOf_87 rfl rfl ?_
          refine r_ladd (q := 89) hX dX12_sumOf_88 rfl ?_
          refine r_lstore_nP (x := (s16.1 + (0 : Int64))) (q := 90) 2 [1, 2, 0, 4] (fun z28 => [(0, vr a0), (1, vi x1), (2, vj z28), (4, vi s16.2)]) hX dX12_sumOf_89 rfl (Nat.le_of_ble_eq_true rfl) (fun _ => rfl) rfl (fun z28 => ?_)
          refine r_iinc (x := s16.2) (v := (s16.2 + (1 : Int32))) (q := 93) 4 3 [1, 2, 3, 0] (L1 := [(0, vr a0), (1, vi x1), (2, vj z28), (4, vi (s16.2 + (1 : Int32)))]) hX dX12_sumOf_90 rfl rfl (Nat.le_of_ble_eq_true rfl) rfl rfl ?_
          refine r_goto (q := 41) hX dX12_sumOf_93 (by decide) ?_
          refine r_l0 ?_
          exact hn17 (z28, (s16.2 + (1 : Int32)))
  · refine r_loop (Hd := fun (s4 : Int64 × Int32) (P : Option Res) => Ref mX12_sumOf X 0 0 Z M 5 [(0, vr a0), (1, vi x1), (2, vj s4.1), (4, vi s4.2)] [] P) (fun _ => r_none) (fun s4 K1 hn5 hx6 => ?_) ((0 : Int64), (0 : Int32))
    refine r_iload (i := 4) (x := s4.2) (q := 7) 3 hX dX12_sumOf_5 rfl rfl ?_
    refine r_bipush (v := (8 : Int32)) (q := 9) hX dX12_sumOf_7 rfl rfl ?_
    refine r_icmp_ge (tgt := 38) (q := 12) hX dX12_sumOf_9 (by decide) rfl (fun hb7 => ?_) (fun hb7 => ?_)
    · refine r_lf (hx6 _) ?_
      refine r_sub [0, 1, 2] rfl ?_
      exact hj1 s4.1
    · refine r_lload_n (i := 2) (x := s4.1) (q := 13) 2 hX dX12_sumOf_12 rfl rfl rfl ?_
      refine r_iload_n (i := 1) (x := x1) (q := 14) 1 hX dX12_sumOf_13 rfl rfl rfl ?_
      refine r_iconst (v := (3 : Int32)) (q := 15) hX dX12_sumOf_14 rfl rfl ?_
      refine r_icmp_ne (tgt := 29) (q := 18) hX dX12_sumOf_15 (by decide) rfl (fun hb8 => ?_) (fun hb8 => ?_)
      · refine r_aload_n (i := 0) (x := a0) (q := 19) 0 hX dX12_sumOf_18 rfl rfl rfl ?_
        refine r_ck (fun hc9 => ?_)
        refine r_getR (a := a0) (ci := 12) (kf := 0) (q := 22) hX hc9 flX12_7 rfl dX12_sumOf_19 rfl ?_
        refine r_iload (i := 4) (x := s4.2) (q := 24) 3 hX dX12_sumOf_22 rfl rfl ?_
        refine r_ck (fun hc10 => ?_)
        refine r_iald (a := (rR M a0 0)) (i := s4.2) (q := 25) hX hc10 dX12_sumOf_24 rfl ?_
        refine r_i2l (q := 26) hX dX12_sumOf_25 rfl ?_
        refine r_goto (q := 30) hX dX12_sumOf_26 (by decide) ?_
        refine r_ladd (q := 31) hX dX12_sumOf_30 rfl ?_
        refine r_lstore_nP (x := (s4.1 + ((rI M (rR M a0 0) (ix s4.2)).toInt64))) (q := 32) 2 [1, 2, 0, 4] (fun z11 => [(0, vr a0), (1, vi x1), (2, vj z11), (4, vi s4.2)]) hX dX12_sumOf_31 rfl (Nat.le_of_ble_eq_true rfl) (fun _ => rfl) rfl (fun z11 => ?_)
        refine r_iinc (x := s4.2) (v := (s4.2 + (1 : Int32))) (q := 35) 4 3 [1, 2, 3, 0] (L1 := [(0, vr a0), (1, vi x1), (2, vj z11), (4, vi (s4.2 + (1 : Int32)))]) hX dX12_sumOf_32 rfl rfl (Nat.le_of_ble_eq_true rfl) rfl rfl ?_
        refine r_goto (q := 5) hX dX12_sumOf_35 (by decide) ?_
        refine r_l0 ?_
        exact hn5 (z11, (s4.2 + (1 : Int32)))
      · refine r_lconst (v := (0 : Int64)) (q := 30) hX dX12_sumOf_29 rfl rfl ?_
        refine r_ladd (q := 31) hX dX12_sumOf_30 rfl ?_
        refine r_lstore_nP (x := (s4.1 + (0 : Int64))) (q := 32) 2 [1, 2, 0, 4] (fun z12 => [(0, vr a0), (1, vi x1), (2, vj z12), (4, vi s4.2)]) hX dX12_sumOf_31 rfl (Nat.le_of_ble_eq_true rfl) (fun _ => rfl) rfl (fun z12 => ?_)
        refine r_iinc (x := s4.2) (v := (s4.2 + (1 : Int32))) (q := 35) 4 3 [1, 2, 3, 0] (L1 := [(0, vr a0), (1, vi x1), (2, vj z12), (4, vi (s4.2 + (1 : Int32)))]) hX dX12_sumOf_32 rfl rfl (Nat.le_of_ble_eq_true rfl) rfl rfl ?_
        refine r_goto (q := 5) hX dX12_sumOf_35 (by decide) ?_
        refine r_l0 ?_
        exact hn5 (z12, (s4.2 + (1 : Int32)))
