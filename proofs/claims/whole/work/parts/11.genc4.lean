def mX5_latestDay : MD := (yX5_latestDay, cX5_latestDay, 1, (some .int), 0, 0, 0, 0)
theorem ccX5_latestDay : Cc mX5_latestDay 0 := ⟨gd (hcw1_0 _ (List.mem_of_getElem? (i := 8) rfl)) rfl, gd (hcw5_1 _ (List.mem_of_getElem? (i := 17) rfl)) rfl, by decide +kernel, by decide +kernel, by decide +kernel⟩
theorem ivX5_latestDay : Iv mX5_latestDay 5 := ⟨Nat.le_of_ble_eq_true rfl, rfl, gd (hcw5_1 _ (List.mem_of_getElem? (i := 15) rfl)) rfl, gd (hcw5_1 _ (List.mem_of_getElem? (i := 16) rfl)) rfl⟩
def fX5_latestDay (Z : Shp) (M : Mem) (a0 : Nat) : Option (Int32) := (if tg Z a0 = (6, 9) then (if (rI M a0 7) = 0 then some (0 : Int32) else (if aok Z (rR M a0 6) 100 ((rI M a0 7) - (1 : Int32)) then some (rI M (rR M a0 6) (ix ((rI M a0 7) - (1 : Int32)))) else none)) else none)
set_option maxRecDepth 20000 in
theorem kX5_latestDay (l : Launch) (Z : Shp) (M : Mem) (a0 : Nat) (r : Int32) (h : fX5_latestDay Z M a0 = some r) : Ct l mX5_latestDay [vr a0] Z M ((some (vi r)), Z, M) := by
  refine Ct.of rfl (Nat.le_of_ble_eq_true rfl) (fun X hM => ?_)
  have hX := hM.1
  refine r_top (mk := fun r => ((some (vi r)), Z, M)) h (fun K hK => ?_)
  unfold fX5_latestDay
  refine r_aload_n (i := 0) (x := a0) (q := 1) 0 hX dX5_latestDay_0 rfl rfl rfl ?_
  refine r_ck (fun hc1 => ?_)
  refine r_getI (a := a0) (ci := 5) (kf := 7) (q := 4) hX hc1 flX5_54 rfl rfl dX5_latestDay_1 rfl ?_
  refine r_if_ne (tgt := 11) (q := 7) hX dX5_latestDay_4 (by decide) rfl (fun hb2 => ?_) (fun hb2 => ?_)
  · refine r_iconst (v := (0 : Int32)) (q := 8) hX dX5_latestDay_7 rfl rfl ?_
    refine r_goto (q := 22) hX dX5_latestDay_8 (by decide) ?_
    refine r_lf (hK _) ?_
    exact r_iret hM rfl (Nat.le_of_ble_eq_true rfl) (Nat.le_of_ble_eq_true rfl) dX5_latestDay_22
  · refine r_aload_n (i := 0) (x := a0) (q := 12) 0 hX dX5_latestDay_11 rfl rfl rfl ?_
    refine r_getR (a := a0) (ci := 5) (kf := 6) (q := 15) hX hc1 flX5_30 rfl dX5_latestDay_12 rfl ?_
    refine r_aload_n (i := 0) (x := a0) (q := 16) 0 hX dX5_latestDay_15 rfl rfl rfl ?_
    refine r_getI (a := a0) (ci := 5) (kf := 7) (q := 19) hX hc1 flX5_54 rfl rfl dX5_latestDay_16 rfl ?_
    refine r_iconst (v := (1 : Int32)) (q := 20) hX dX5_latestDay_19 rfl rfl ?_
    refine r_isub (q := 21) hX dX5_latestDay_20 rfl ?_
    refine r_ck (fun hc3 => ?_)
    refine r_iald (a := (rR M a0 6)) (i := ((rI M a0 7) - (1 : Int32))) (q := 22) hX hc3 dX5_latestDay_21 rfl ?_
    refine r_lf (hK _) ?_
    exact r_iret hM rfl (Nat.le_of_ble_eq_true rfl) (Nat.le_of_ble_eq_true rfl) dX5_latestDay_22
def mX5_addPass : MD := (yX5_addPass, cX5_addPass, 5, (some .int), 0, 0, 0, 0)
theorem ccX5_addPass : Cc mX5_addPass 4 := ⟨gd (hcw1_0 _ (List.mem_of_getElem? (i := 8) rfl)) rfl, gd (hcw5_2 _ (List.mem_of_getElem? (i := 5) rfl)) rfl, by decide +kernel, by decide +kernel, by decide +kernel⟩
theorem ivX5_addPass : Iv mX5_addPass 5 := ⟨Nat.le_of_ble_eq_true rfl, rfl, gd (hcw5_2 _ (List.mem_of_getElem? (i := 3) rfl)) rfl, gd (hcw5_2 _ (List.mem_of_getElem? (i := 4) rfl)) rfl⟩
def fX5_addPass (Z : Shp) (M : Mem) (a0 : Nat) (x1 : Int32) (x2 : Int32) (x3 : Int32) (x4 : Int32) : Option (Int32 × Mem) := (if tg Z a0 = (6, 9) then (if (rI M a0 7) < (24 : Int32) then (if aok Z (rR M a0 3) 100 (rI M a0 7) then (pu (wI M (rR M a0 3) (ix (rI M a0 7)) x1) (fun M4 => (if aok Z (rR M4 a0 4) 100 (rI M4 a0 7) then (pu (wI M4 (rR M4 a0 4) (ix (rI M4 a0 7)) x2) (fun M6 => (if aok Z (rR M6 a0 5) 100 (rI M6 a0 7) then (pu (wI M6 (rR M6 a0 5) (ix (rI M6 a0 7)) x3) (fun M8 => (if aok Z (rR M8 a0 6) 100 (rI M8 a0 7) then (pu (wI M8 (rR M8 a0 6) (ix (rI M8 a0 7)) x4) (fun M10 => (pu (wI M10 a0 7 ((rI M10 a0 7) + (1 : Int32))) (fun M11 => some ((rI M11 a0 7), M11))))) else none))) else none))) else none))) else none) else some ((-104 : Int32), M)) else none)
set_option maxRecDepth 20000 in
theorem kX5_addPass (l : Launch) (Z : Shp) (M : Mem) (a0 : Nat) (x1 : Int32) (x2 : Int32) (x3 : Int32) (x4 : Int32) (r : Int32 × Mem) (h : fX5_addPass Z M a0 x1 x2 x3 x4 = some r) : Ct l mX5_addPass [vr a0, vi x1, vi x2, vi x3, vi x4] Z M ((some (vi r.1)), Z, r.2) := by
  refine Ct.of rfl (Nat.le_of_ble_eq_true rfl) (fun X hM => ?_)
  have hX := hM.1
  refine r_top (mk := fun r => ((some (vi r.1)), Z, r.2)) h (fun K hK => ?_)
  unfold fX5_addPass
  refine r_aload_n (i := 0) (x := a0) (q := 1) 0 hX dX5_addPass_0 rfl rfl rfl ?_
  refine r_ck (fun hc1 => ?_)
  refine r_getI (a := a0) (ci := 5) (kf := 7) (q := 4) hX hc1 flX5_54 rfl rfl dX5_addPass_1 rfl ?_
  refine r_bipush (v := (24 : Int32)) (q := 6) hX dX5_addPass_4 rfl rfl ?_
  refine r_icmp_lt (tgt := 12) (q := 9) hX dX5_addPass_6 (by decide) rfl (fun hb2 => ?_) (fun hb2 => ?_)
  · refine r_aload_n (i := 0) (x := a0) (q := 13) 0 hX dX5_addPass_12 rfl rfl rfl ?_
    refine r_getR (a := a0) (ci := 5) (kf := 3) (q := 16) hX hc1 flX5_21 rfl dX5_addPass_13 rfl ?_
    refine r_aload_n (i := 0) (x := a0) (q := 17) 0 hX dX5_addPass_16 rfl rfl rfl ?_
    refine r_getI (a := a0) (ci := 5) (kf := 7) (q := 20) hX hc1 flX5_54 rfl rfl dX5_addPass_17 rfl ?_
    refine r_iload_n (i := 1) (x := x1) (q := 21) 1 hX dX5_addPass_20 rfl rfl rfl ?_
    refine r_ck (fun hc3 => ?_)
    refine r_iast (a := (rR M a0 3)) (i := (rI M a0 7)) (x := x1) (q := 22) hX hc3 dX5_addPass_21 rfl (fun M4 => ?_)
    refine r_aload_n (i := 0) (x := a0) (q := 23) 0 hX dX5_addPass_22 rfl rfl rfl ?_
    refine r_getR (a := a0) (ci := 5) (kf := 4) (q := 26) hX hc1 flX5_24 rfl dX5_addPass_23 rfl ?_
    refine r_aload_n (i := 0) (x := a0) (q := 27) 0 hX dX5_addPass_26 rfl rfl rfl ?_
    refine r_getI (a := a0) (ci := 5) (kf := 7) (q := 30) hX hc1 flX5_54 rfl rfl dX5_addPass_27 rfl ?_
    refine r_iload_n (i := 2) (x := x2) (q := 31) 2 hX dX5_addPass_30 rfl rfl rfl ?_
    refine r_ck (fun hc5 => ?_)
    refine r_iast (a := (rR M4 a0 4)) (i := (rI M4 a0 7)) (x := x2) (q := 32) hX hc5 dX5_addPass_31 rfl (fun M6 => ?_)
    refine r_aload_n (i := 0) (x := a0) (q := 33) 0 hX dX5_addPass_32 rfl rfl rfl ?_
    refine r_getR (a := a0) (ci := 5) (kf := 5) (q := 36) hX hc1 flX5_27 rfl dX5_addPass_33 rfl ?_
    refine r_aload_n (i := 0) (x := a0) (q := 37) 0 hX dX5_addPass_36 rfl rfl rfl ?_
    refine r_getI (a := a0) (ci := 5) (kf := 7) (q := 40) hX hc1 flX5_54 rfl rfl dX5_addPass_37 rfl ?_
    refine r_iload_n (i := 3) (x := x3) (q := 41) 3 hX dX5_addPass_40 rfl rfl rfl ?_
    refine r_ck (fun hc7 => ?_)
    refine r_iast (a := (rR M6 a0 5)) (i := (rI M6 a0 7)) (x := x3) (q := 42) hX hc7 dX5_addPass_41 rfl (fun M8 => ?_)
    refine r_aload_n (i := 0) (x := a0) (q := 43) 0 hX dX5_addPass_42 rfl rfl rfl ?_
    refine r_getR (a := a0) (ci := 5) (kf := 6) (q := 46) hX hc1 flX5_30 rfl dX5_addPass_43 rfl ?_
    refine r_aload_n (i := 0) (x := a0) (q := 47) 0 hX dX5_addPass_46 rfl rfl rfl ?_
    refine r_getI (a := a0) (ci := 5) (kf := 7) (q := 50) hX hc1 flX5_54 rfl rfl dX5_addPass_47 rfl ?_
    refine r_iload (i := 4) (x := x4) (q := 52) 4 hX dX5_addPass_50 rfl rfl ?_
    refine r_ck (fun hc9 => ?_)
    refine r_iast (a := (rR M8 a0 6)) (i := (rI M8 a0 7)) (x := x4) (q := 53) hX hc9 dX5_addPass_52 rfl (fun M10 => ?_)
    refine r_aload_n (i := 0) (x := a0) (q := 54) 0 hX dX5_addPass_53 rfl rfl rfl ?_
    refine r_dup (q := 55) hX dX5_addPass_54 rfl rfl ?_
    refine r_getI (a := a0) (ci := 5) (kf := 7) (q := 58) hX hc1 flX5_54 rfl rfl dX5_addPass_55 rfl ?_
    refine r_iconst (v := (1 : Int32)) (q := 59) hX dX5_addPass_58 rfl rfl ?_
    refine r_iadd (q := 60) hX dX5_addPass_59 rfl ?_
    refine r_putI (a := a0) (ci := 5) (kf := 7) (q := 63) hX hc1 flX5_54 rfl rfl (Or.inl rfl) rfl rfl dX5_addPass_60 rfl (fun M11 => ?_)
    refine r_aload_n (i := 0) (x := a0) (q := 64) 0 hX dX5_addPass_63 rfl rfl rfl ?_
    refine r_getI (a := a0) (ci := 5) (kf := 7) (q := 67) hX hc1 flX5_54 rfl rfl dX5_addPass_64 rfl ?_
    refine r_lf (hK _) ?_
    exact r_iret hM rfl (Nat.le_of_ble_eq_true rfl) (Nat.le_of_ble_eq_true rfl) dX5_addPass_67
  · refine r_bipush (v := (-104 : Int32)) (q := 11) hX dX5_addPass_9 rfl rfl ?_
    refine r_lf (hK _) ?_
    exact r_iret hM rfl (Nat.le_of_ble_eq_true rfl) (Nat.le_of_ble_eq_true rfl) dX5_addPass_11
theorem lkX11_302 : Lk RX11 302 yX5_latestDay := gd (hcw5_1 _ (List.mem_of_getElem? (i := 14) rfl)) rfl
theorem lkX11_308 : Lk RX11 308 yX5_addPass := gd (hcw5_2 _ (List.mem_of_getElem? (i := 2) rfl)) rfl
def mX11_pass : MD := (yX11_pass, cX11_pass, 5, (some .int), 1, 24, 0, 0)
theorem ccX11_pass : Cc mX11_pass 4 := ⟨gd (hcw1_0 _ (List.mem_of_getElem? (i := 1) rfl)) rfl, gd (hcw5_1 _ (List.mem_of_getElem? (i := 13) rfl)) rfl, by decide +kernel, by decide +kernel, by decide +kernel⟩
theorem ivX11_pass : Iv mX11_pass 11 := ⟨Nat.le_of_ble_eq_true rfl, rfl, gd (hcw5_1 _ (List.mem_of_getElem? (i := 11) rfl)) rfl, gd (hcw5_1 _ (List.mem_of_getElem? (i := 12) rfl)) rfl⟩
noncomputable def fX11_pass (Z : Shp) (M : Mem) (a0 : Nat) (x1 : Int32) (x2 : Int32) (x3 : Int32) (x4 : Int32) : Option (Int32 × Mem) := (if (fX11_within x1 (0 : Int32) (5 : Int32)) = 0 then some ((-101 : Int32), M) else (if (fX11_within x2 (0 : Int32) (5 : Int32)) = 0 then some ((-101 : Int32), M) else (if x1 = x2 then some ((-101 : Int32), M) else (if (fX11_within x3 (1 : Int32) (999 : Int32)) = 0 then some ((-102 : Int32), M) else (if tg Z a0 = (12, 6) then (if tg Z (rR M a0 4) = (6, 9) then (Option.bind (fX5_latestDay Z M (rR M a0 4)) (fun v7 => (if (fX11_within x4 v7 (99 : Int32)) = 0 then some ((-102 : Int32), M) else (Option.bind (fX5_held Z M (rR M a0 4) x1 (99 : Int32)) (fun v10 => (if x3 ≤ v10 then (Option.bind (fX5_addPass Z M (rR M a0 4) x1 x2 x3 x4) (fun v13 => some (v13.1, v13.2))) else some ((-103 : Int32), M))))))) else none) else none)))))
set_option maxRecDepth 20000 in
theorem kX11_pass (l : Launch) (Z : Shp) (M : Mem) (a0 : Nat) (x1 : Int32) (x2 : Int32) (x3 : Int32) (x4 : Int32) (r : Int32 × Mem) (h : fX11_pass Z M a0 x1 x2 x3 x4 = some r) : Ct l mX11_pass [vr a0, vi x1, vi x2, vi x3, vi x4] Z M ((some (vi r.1)), Z, r.2) := by
  refine Ct.of rfl (Nat.le_of_ble_eq_true rfl) (fun X hM => ?_)
  have hX := hM.1
  refine r_top (mk := fun r => ((some (vi r.1)), Z, r.2)) h (fun K hK => ?_)
  unfold fX11_pass
  refine r_iload_n (i := 1) (x := x1) (q := 1) 1 hX dX11_pass_0 rfl rfl rfl ?_
  refine r_iconst (v := (0 : Int32)) (q := 2) hX dX11_pass_1 rfl rfl ?_
  refine r_iconst (v := (5 : Int32)) (q := 3) hX dX11_pass_2 rfl rfl ?_
  refine r_cs (As := [vi x1, vi (0 : Int32), vi (5 : Int32)]) (st := []) (r := (some (vi (fX11_within x1 (0 : Int32) (5 : Int32))))) (Z1 := Z) (M1 := M) (k1 := 0) (n1 := 0) (st1 := [vi (fX11_within x1 (0 : Int32) (5 : Int32))]) (q := 6) hX (fun l => kX11_within l Z M x1 (0 : Int32) (5 : Int32)) stX11_within ccX11_within (Or.inl lkX11_55) rfl rfl rfl ⟨Nat.le_of_ble_eq_true rfl, Nat.le_of_ble_eq_true rfl, rfl, rfl, Nat.le_of_ble_eq_true rfl, Nat.le_of_ble_eq_true rfl⟩ (Nat.le_of_ble_eq_true rfl) dX11_pass_3 rfl ?_
  refine r_if_eq (tgt := 23) (q := 9) hX dX11_pass_6 (by decide) rfl (fun hb1 => ?_) (fun hb1 => ?_)
  · refine r_bipush (v := (-101 : Int32)) (q := 25) hX dX11_pass_23 rfl rfl ?_
    refine r_lf (hK _) ?_
    exact r_iret hM rfl (Nat.le_of_ble_eq_true rfl) (Nat.le_of_ble_eq_true rfl) dX11_pass_25
  · refine r_iload_n (i := 2) (x := x2) (q := 10) 2 hX dX11_pass_9 rfl rfl rfl ?_
    refine r_iconst (v := (0 : Int32)) (q := 11) hX dX11_pass_10 rfl rfl ?_
    refine r_iconst (v := (5 : Int32)) (q := 12) hX dX11_pass_11 rfl rfl ?_
    refine r_cs (As := [vi x2, vi (0 : Int32), vi (5 : Int32)]) (st := []) (r := (some (vi (fX11_within x2 (0 : Int32) (5 : Int32))))) (Z1 := Z) (M1 := M) (k1 := 0) (n1 := 0) (st1 := [vi (fX11_within x2 (0 : Int32) (5 : Int32))]) (q := 15) hX (fun l => kX11_within l Z M x2 (0 : Int32) (5 : Int32)) stX11_within ccX11_within (Or.inl lkX11_55) rfl rfl rfl ⟨Nat.le_of_ble_eq_true rfl, Nat.le_of_ble_eq_true rfl, rfl, rfl, Nat.le_of_ble_eq_true rfl, Nat.le_of_ble_eq_true rfl⟩ (Nat.le_of_ble_eq_true rfl) dX11_pass_12 rfl ?_
    refine r_if_eq (tgt := 23) (q := 18) hX dX11_pass_15 (by decide) rfl (fun hb2 => ?_) (fun hb2 => ?_)
    · refine r_bipush (v := (-101 : Int32)) (q := 25) hX dX11_pass_23 rfl rfl ?_
      refine r_lf (hK _) ?_
      exact r_iret hM rfl (Nat.le_of_ble_eq_true rfl) (Nat.le_of_ble_eq_true rfl) dX11_pass_25
    · refine r_iload_n (i := 1) (x := x1) (q := 19) 1 hX dX11_pass_18 rfl rfl rfl ?_
      refine r_iload_n (i := 2) (x := x2) (q := 20) 2 hX dX11_pass_19 rfl rfl rfl ?_
      refine r_icmp_ne (tgt := 26) (q := 23) hX dX11_pass_20 (by decide) rfl (fun hb3 => ?_) (fun hb3 => ?_)
      · refine r_bipush (v := (-101 : Int32)) (q := 25) hX dX11_pass_23 rfl rfl ?_
        refine r_lf (hK _) ?_
        exact r_iret hM rfl (Nat.le_of_ble_eq_true rfl) (Nat.le_of_ble_eq_true rfl) dX11_pass_25
      · refine r_iload_n (i := 3) (x := x3) (q := 27) 3 hX dX11_pass_26 rfl rfl rfl ?_
        refine r_iconst (v := (1 : Int32)) (q := 28) hX dX11_pass_27 rfl rfl ?_
        refine r_sipush (v := (999 : Int32)) (q := 31) hX dX11_pass_28 rfl rfl ?_
        refine r_cs (As := [vi x3, vi (1 : Int32), vi (999 : Int32)]) (st := []) (r := (some (vi (fX11_within x3 (1 : Int32) (999 : Int32))))) (Z1 := Z) (M1 := M) (k1 := 0) (n1 := 0) (st1 := [vi (fX11_within x3 (1 : Int32) (999 : Int32))]) (q := 34) hX (fun l => kX11_within l Z M x3 (1 : Int32) (999 : Int32)) stX11_within ccX11_within (Or.inl lkX11_55) rfl rfl rfl ⟨Nat.le_of_ble_eq_true rfl, Nat.le_of_ble_eq_true rfl, rfl, rfl, Nat.le_of_ble_eq_true rfl, Nat.le_of_ble_eq_true rfl⟩ (Nat.le_of_ble_eq_true rfl) dX11_pass_31 rfl ?_
        refine r_if_eq (tgt := 54) (q := 37) hX dX11_pass_34 (by decide) rfl (fun hb4 => ?_) (fun hb4 => ?_)
        · refine r_bipush (v := (-102 : Int32)) (q := 56) hX dX11_pass_54 rfl rfl ?_
          refine r_lf (hK _) ?_
          exact r_iret hM rfl (Nat.le_of_ble_eq_true rfl) (Nat.le_of_ble_eq_true rfl) dX11_pass_56
        · refine r_iload (i := 4) (x := x4) (q := 39) 4 hX dX11_pass_37 rfl rfl ?_
          refine r_aload_n (i := 0) (x := a0) (q := 40) 0 hX dX11_pass_39 rfl rfl rfl ?_
          refine r_ck (fun hc5 => ?_)
          refine r_getR (a := a0) (ci := 11) (kf := 4) (q := 43) hX hc5 flX11_40 rfl dX11_pass_40 rfl ?_
          refine r_ck (fun hc6 => ?_)
          refine r_bind (fun v7 h8 => ?_)
          refine r_cv (a := (rR M a0 4)) (As := []) (st := [vi x4]) (r := (some (vi v7))) (Z1 := Z) (M1 := M) (k1 := 0) (n1 := 0) (st1 := [vi v7, vi x4]) (q := 46) hX (fun l => kX5_latestDay l Z M (rR M a0 4) v7 h8) hc6 ivX5_latestDay ccX5_latestDay (Or.inl lkX11_302) rfl rfl rfl ⟨Nat.le_of_ble_eq_true rfl, Nat.le_of_ble_eq_true rfl, rfl, rfl, Nat.le_of_ble_eq_true rfl, Nat.le_of_ble_eq_true rfl⟩ (Nat.le_of_ble_eq_true rfl) dX11_pass_43 rfl ?_
          refine r_bipush (v := (99 : Int32)) (q := 48) hX dX11_pass_46 rfl rfl ?_
          refine r_cs (As := [vi x4, vi v7, vi (99 : Int32)]) (st := []) (r := (some (vi (fX11_within x4 v7 (99 : Int32))))) (Z1 := Z) (M1 := M) (k1 := 0) (n1 := 0) (st1 := [vi (fX11_within x4 v7 (99 : Int32))]) (q := 51) hX (fun l => kX11_within l Z M x4 v7 (99 : Int32)) stX11_within ccX11_within (Or.inl lkX11_55) rfl rfl rfl ⟨Nat.le_of_ble_eq_true rfl, Nat.le_of_ble_eq_true rfl, rfl, rfl, Nat.le_of_ble_eq_true rfl, Nat.le_of_ble_eq_true rfl⟩ (Nat.le_of_ble_eq_true rfl) dX11_pass_48 rfl ?_
          refine r_if_ne (tgt := 57) (q := 54) hX dX11_pass_51 (by decide) rfl (fun hb9 => ?_) (fun hb9 => ?_)
          · refine r_bipush (v := (-102 : Int32)) (q := 56) hX dX11_pass_54 rfl rfl ?_
            refine r_lf (hK _) ?_
            exact r_iret hM rfl (Nat.le_of_ble_eq_true rfl) (Nat.le_of_ble_eq_true rfl) dX11_pass_56
          · refine r_aload_n (i := 0) (x := a0) (q := 58) 0 hX dX11_pass_57 rfl rfl rfl ?_
            refine r_getR (a := a0) (ci := 11) (kf := 4) (q := 61) hX hc5 flX11_40 rfl dX11_pass_58 rfl ?_
            refine r_iload_n (i := 1) (x := x1) (q := 62) 1 hX dX11_pass_61 rfl rfl rfl ?_
            refine r_bipush (v := (99 : Int32)) (q := 64) hX dX11_pass_62 rfl rfl ?_
            refine r_bind (fun v10 h11 => ?_)
            refine r_cv (a := (rR M a0 4)) (As := [vi x1, vi (99 : Int32)]) (st := []) (r := (some (vi v10))) (Z1 := Z) (M1 := M) (k1 := 0) (n1 := 0) (st1 := [vi v10]) (q := 67) hX (fun l => kX5_held l Z M (rR M a0 4) x1 (99 : Int32) v10 h11) hc6 ivX5_held ccX5_held (Or.inl lkX11_305) rfl rfl rfl ⟨Nat.le_of_ble_eq_true rfl, Nat.le_of_ble_eq_true rfl, rfl, rfl, Nat.le_of_ble_eq_true rfl, Nat.le_of_ble_eq_true rfl⟩ (Nat.le_of_ble_eq_true rfl) dX11_pass_64 rfl ?_
            refine r_iload_n (i := 3) (x := x3) (q := 68) 3 hX dX11_pass_67 rfl rfl rfl ?_
            refine r_icmp_ge (tgt := 74) (q := 71) hX dX11_pass_68 (by decide) rfl (fun hb12 => ?_) (fun hb12 => ?_)
            · refine r_aload_n (i := 0) (x := a0) (q := 75) 0 hX dX11_pass_74 rfl rfl rfl ?_
              refine r_getR (a := a0) (ci := 11) (kf := 4) (q := 78) hX hc5 flX11_40 rfl dX11_pass_75 rfl ?_
              refine r_iload_n (i := 1) (x := x1) (q := 79) 1 hX dX11_pass_78 rfl rfl rfl ?_
              refine r_iload_n (i := 2) (x := x2) (q := 80) 2 hX dX11_pass_79 rfl rfl rfl ?_
              refine r_iload_n (i := 3) (x := x3) (q := 81) 3 hX dX11_pass_80 rfl rfl rfl ?_
              refine r_iload (i := 4) (x := x4) (q := 83) 4 hX dX11_pass_81 rfl rfl ?_
              refine r_bind (fun v13 h14 => ?_)
              refine r_cv (a := (rR M a0 4)) (As := [vi x1, vi x2, vi x3, vi x4]) (st := []) (r := (some (vi v13.1))) (Z1 := Z) (M1 := v13.2) (k1 := 0) (n1 := 0) (st1 := [vi v13.1]) (q := 86) hX (fun l => kX5_addPass l Z M (rR M a0 4) x1 x2 x3 x4 v13 h14) hc6 ivX5_addPass ccX5_addPass (Or.inl lkX11_308) rfl rfl rfl ⟨Nat.le_of_ble_eq_true rfl, Nat.le_of_ble_eq_true rfl, rfl, rfl, Nat.le_of_ble_eq_true rfl, Nat.le_of_ble_eq_true rfl⟩ (Nat.le_of_ble_eq_true rfl) dX11_pass_83 rfl ?_
              refine r_lf (hK _) ?_
              exact r_iret hM rfl (Nat.le_of_ble_eq_true rfl) (Nat.le_of_ble_eq_true rfl) dX11_pass_86
            · refine r_bipush (v := (-103 : Int32)) (q := 73) hX dX11_pass_71 rfl rfl ?_
              refine r_lf (hK _) ?_
              exact r_iret hM rfl (Nat.le_of_ble_eq_true rfl) (Nat.le_of_ble_eq_true rfl) dX11_pass_73
def mX11_pay : MD := (yX11_pay, cX11_pay, 3, (some .int), 1, 22, 0, 0)
theorem ccX11_pay : Cc mX11_pay 2 := ⟨gd (hcw1_0 _ (List.mem_of_getElem? (i := 1) rfl)) rfl, gd (hcw4_11 _ (List.mem_of_getElem? (i := 13) rfl)) rfl, by decide +kernel, by decide +kernel, by decide +kernel⟩
theorem ivX11_pay : Iv mX11_pay 11 := ⟨Nat.le_of_ble_eq_true rfl, rfl, gd (hcw4_11 _ (List.mem_of_getElem? (i := 11) rfl)) rfl, gd (hcw4_11 _ (List.mem_of_getElem? (i := 12) rfl)) rfl⟩
def fX11_pay (Z : Shp) (M : Mem) (a0 : Nat) (x1 : Int32) (x2 : Int32) : Option (Int32 × Mem) := (if (fX11_within x1 (0 : Int32) (3 : Int32)) = 0 then some ((-101 : Int32), M) else (if (fX11_within x2 (0 : Int32) (999999 : Int32)) = 0 then some ((-102 : Int32), M) else (if tg Z a0 = (12, 6) then (if tg Z (rR M a0 4) = (6, 9) then (if aok Z (rR M (rR M a0 4) 0) 100 x1 then (pu (wI M (rR M (rR M a0 4) 0) (ix x1) (mxI (0 : Int32) ((rI M (rR M (rR M a0 4) 0) (ix x1)) - x2))) (fun M6 => (if tg Z (rR M6 a0 4) = (6, 9) then (if aok Z (rR M6 (rR M6 a0 4) 0) 100 x1 then some ((rI M6 (rR M6 (rR M6 a0 4) 0) (ix x1)), M6) else none) else none))) else none) else none) else none)))
set_option maxRecDepth 20000 in
theorem kX11_pay (l : Launch) (Z : Shp) (M : Mem) (a0 : Nat) (x1 : Int32) (x2 : Int32) (r : Int32 × Mem) (h : fX11_pay Z M a0 x1 x2 = some r) : Ct l mX11_pay [vr a0, vi x1, vi x2] Z M ((some (vi r.1)), Z, r.2) := by
  refine Ct.of rfl (Nat.le_of_ble_eq_true rfl) (fun X hM => ?_)
  have hX := hM.1
  refine r_top (mk := fun r => ((some (vi r.1)), Z, r.2)) h (fun K hK => ?_)
  unfold fX11_pay
  refine r_iload_n (i := 1) (x := x1) (q := 1) 1 hX dX11_pay_0 rfl rfl rfl ?_
  refine r_iconst (v := (0 : Int32)) (q := 2) hX dX11_pay_1 rfl rfl ?_
  refine r_iconst (v := (3 : Int32)) (q := 3) hX dX11_pay_2 rfl rfl ?_
  refine r_cs (As := [vi x1, vi (0 : Int32), vi (3 : Int32)]) (st := []) (r := (some (vi (fX11_within x1 (0 : Int32) (3 : Int32))))) (Z1 := Z) (M1 := M) (k1 := 0) (n1 := 0) (st1 := [vi (fX11_within x1 (0 : Int32) (3 : Int32))]) (q := 6) hX (fun l => kX11_within l Z M x1 (0 : Int32) (3 : Int32)) stX11_within ccX11_within (Or.inl lkX11_55) rfl rfl rfl ⟨Nat.le_of_ble_eq_true rfl, Nat.le_of_ble_eq_true rfl, rfl, rfl, Nat.le_of_ble_eq_true rfl, Nat.le_of_ble_eq_true rfl⟩ (Nat.le_of_ble_eq_true rfl) dX11_pay_3 rfl ?_
  refine r_if_ne (tgt := 12) (q := 9) hX dX11_pay_6 (by decide) rfl (fun hb1 => ?_) (fun hb1 => ?_)
  · refine r_bipush (v := (-101 : Int32)) (q := 11) hX dX11_pay_9 rfl rfl ?_
    refine r_lf (hK _) ?_
    exact r_iret hM rfl (Nat.le_of_ble_eq_true rfl) (Nat.le_of_ble_eq_true rfl) dX11_pay_11
  · refine r_iload_n (i := 2) (x := x2) (q := 13) 2 hX dX11_pay_12 rfl rfl rfl ?_
    refine r_iconst (v := (0 : Int32)) (q := 14) hX dX11_pay_13 rfl rfl ?_
    refine r_ldcw (v := (999999 : Int32)) (q := 17) hX dX11_pay_14 (gd (hcw4_11 _ (List.mem_of_getElem? (i := 14) rfl)) rfl) rfl ?_
    refine r_cs (As := [vi x2, vi (0 : Int32), vi (999999 : Int32)]) (st := []) (r := (some (vi (fX11_within x2 (0 : Int32) (999999 : Int32))))) (Z1 := Z) (M1 := M) (k1 := 0) (n1 := 0) (st1 := [vi (fX11_within x2 (0 : Int32) (999999 : Int32))]) (q := 20) hX (fun l => kX11_within l Z M x2 (0 : Int32) (999999 : Int32)) stX11_within ccX11_within (Or.inl lkX11_55) rfl rfl rfl ⟨Nat.le_of_ble_eq_true rfl, Nat.le_of_ble_eq_true rfl, rfl, rfl, Nat.le_of_ble_eq_true rfl, Nat.le_of_ble_eq_true rfl⟩ (Nat.le_of_ble_eq_true rfl) dX11_pay_17 rfl ?_
    refine r_if_ne (tgt := 26) (q := 23) hX dX11_pay_20 (by decide) rfl (fun hb2 => ?_) (fun hb2 => ?_)
    · refine r_bipush (v := (-102 : Int32)) (q := 25) hX dX11_pay_23 rfl rfl ?_
      refine r_lf (hK _) ?_
      exact r_iret hM rfl (Nat.le_of_ble_eq_true rfl) (Nat.le_of_ble_eq_true rfl) dX11_pay_25
    · refine r_aload_n (i := 0) (x := a0) (q := 27) 0 hX dX11_pay_26 rfl rfl rfl ?_
      refine r_ck (fun hc3 => ?_)
      refine r_getR (a := a0) (ci := 11) (kf := 4) (q := 30) hX hc3 flX11_40 rfl dX11_pay_27 rfl ?_
      refine r_ck (fun hc4 => ?_)
      refine r_getR (a := (rR M a0 4)) (ci := 5) (kf := 0) (q := 33) hX hc4 flX11_275 rfl dX11_pay_30 rfl ?_
      refine r_iload_n (i := 1) (x := x1) (q := 34) 1 hX dX11_pay_33 rfl rfl rfl ?_
      refine r_iconst (v := (0 : Int32)) (q := 35) hX dX11_pay_34 rfl rfl ?_
      refine r_aload_n (i := 0) (x := a0) (q := 36) 0 hX dX11_pay_35 rfl rfl rfl ?_
      refine r_getR (a := a0) (ci := 11) (kf := 4) (q := 39) hX hc3 flX11_40 rfl dX11_pay_36 rfl ?_
      refine r_getR (a := (rR M a0 4)) (ci := 5) (kf := 0) (q := 42) hX hc4 flX11_275 rfl dX11_pay_39 rfl ?_
      refine r_iload_n (i := 1) (x := x1) (q := 43) 1 hX dX11_pay_42 rfl rfl rfl ?_
      refine r_ck (fun hc5 => ?_)
      refine r_iald (a := (rR M (rR M a0 4) 0)) (i := x1) (q := 44) hX hc5 dX11_pay_43 rfl ?_
      refine r_iload_n (i := 2) (x := x2) (q := 45) 2 hX dX11_pay_44 rfl rfl rfl ?_
      refine r_isub (q := 46) hX dX11_pay_45 rfl ?_
      refine r_mmax (q := 49) hX (gd (hcw4_11 _ (List.mem_of_getElem? (i := 15) rfl)) rfl) (Nat.le_of_ble_eq_true rfl) (Nat.le_of_ble_eq_true rfl) (Nat.le_of_ble_eq_true rfl) (Nat.le_of_ble_eq_true rfl) dX11_pay_46 rfl ?_
      refine r_iast (a := (rR M (rR M a0 4) 0)) (i := x1) (x := (mxI (0 : Int32) ((rI M (rR M (rR M a0 4) 0) (ix x1)) - x2))) (q := 50) hX hc5 dX11_pay_49 rfl (fun M6 => ?_)
      refine r_aload_n (i := 0) (x := a0) (q := 51) 0 hX dX11_pay_50 rfl rfl rfl ?_
      refine r_getR (a := a0) (ci := 11) (kf := 4) (q := 54) hX hc3 flX11_40 rfl dX11_pay_51 rfl ?_
      refine r_ck (fun hc7 => ?_)
      refine r_getR (a := (rR M6 a0 4)) (ci := 5) (kf := 0) (q := 57) hX hc7 flX11_275 rfl dX11_pay_54 rfl ?_
      refine r_iload_n (i := 1) (x := x1) (q := 58) 1 hX dX11_pay_57 rfl rfl rfl ?_
      refine r_ck (fun hc8 => ?_)
      refine r_iald (a := (rR M6 (rR M6 a0 4) 0)) (i := x1) (q := 59) hX hc8 dX11_pay_58 rfl ?_
      refine r_lf (hK _) ?_
      exact r_iret hM rfl (Nat.le_of_ble_eq_true rfl) (Nat.le_of_ble_eq_true rfl) dX11_pay_59
theorem lkX11_335 : Lk RX11 335 yX10_bestSet := gd (hcw5_4 _ (List.mem_of_getElem? (i := 16) rfl)) rfl
theorem lkX11_338 : Lk RX11 338 yX10_given := gd (hcw5_6 _ (List.mem_of_getElem? (i := 1) rfl)) rfl
theorem lkX11_341 : Lk RX11 341 yX10_costOf := gd (hcw5_6 _ (List.mem_of_getElem? (i := 2) rfl)) rfl
def mX11_plan : MD := (yX11_plan, cX11_plan, 4, (some .int), 5, 112, 0, 0)
theorem ccX11_plan : Cc mX11_plan 2 := ⟨gd (hcw1_0 _ (List.mem_of_getElem? (i := 1) rfl)) rfl, gd (hcw5_4 _ (List.mem_of_getElem? (i := 15) rfl)) rfl, by decide +kernel, by decide +kernel, by decide +kernel⟩
theorem ivX11_plan : Iv mX11_plan 11 := ⟨Nat.le_of_ble_eq_true rfl, rfl, gd (hcw5_4 _ (List.mem_of_getElem? (i := 13) rfl)) rfl, gd (hcw5_4 _ (List.mem_of_getElem? (i := 14) rfl)) rfl⟩
noncomputable def fX11_plan (Z : Shp) (M : Mem) (a0 : Nat) (x1 : Int32) (x2 : Int32) : Option (Int32) := (if (fX11_within x1 (0 : Int32) (9999 : Int32)) = 0 then some (-102 : Int32) else (if (fX11_within x2 (0 : Int32) (2 : Int32)) = 0 then some (-102 : Int32) else (if tg Z a0 = (12, 6) then (if tg Z (rR M a0 5) = (11, 4) then (Option.bind (fX10_bestSet Z M (rR M a0 5) x1) (fun v5 => (if x2 = 0 then some v5 else (if x2 = (1 : Int32) then (Option.bind (fX10_given Z M (rR M a0 5) v5) (fun v9 => some v9)) else (Option.bind (fX10_costOf Z M (rR M a0 5) v5) (fun v11 => some v11)))))) else none) else none)))
set_option maxRecDepth 20000 in
theorem kX11_plan (l : Launch) (Z : Shp) (M : Mem) (a0 : Nat) (x1 : Int32) (x2 : Int32) (r : Int32) (h : fX11_plan Z M a0 x1 x2 = some r) : Ct l mX11_plan [vr a0, vi x1, vi x2] Z M ((some (vi r)), Z, M) := by
  refine Ct.of rfl (Nat.le_of_ble_eq_true rfl) (fun X hM => ?_)
  have hX := hM.1
  refine r_top (mk := fun r => ((some (vi r)), Z, M)) h (fun K hK => ?_)
  unfold fX11_plan
  refine r_iload_n (i := 1) (x := x1) (q := 1) 1 hX dX11_plan_0 rfl rfl rfl ?_
  refine r_iconst (v := (0 : Int32)) (q := 2) hX dX11_plan_1 rfl rfl ?_
  refine r_sipush (v := (9999 : Int32)) (q := 5) hX dX11_plan_2 rfl rfl ?_
  refine r_cs (As := [vi x1, vi (0 : Int32), vi (9999 : Int32)]) (st := []) (r := (some (vi (fX11_within x1 (0 : Int32) (9999 : Int32))))) (Z1 := Z) (M1 := M) (k1 := 0) (n1 := 0) (st1 := [vi (fX11_within x1 (0 : Int32) (9999 : Int32))]) (q := 8) hX (fun l => kX11_within l Z M x1 (0 : Int32) (9999 : Int32)) stX11_within ccX11_within (Or.inl lkX11_55) rfl rfl rfl ⟨Nat.le_of_ble_eq_true rfl, Nat.le_of_ble_eq_true rfl, rfl, rfl, Nat.le_of_ble_eq_true rfl, Nat.le_of_ble_eq_true rfl⟩ (Nat.le_of_ble_eq_true rfl) dX11_plan_5 rfl ?_
  refine r_if_eq (tgt := 20) (q := 11) hX dX11_plan_8 (by decide) rfl (fun hb1 => ?_) (fun hb1 => ?_)
  · refine r_bipush (v := (-102 : Int32)) (q := 22) hX dX11_plan_20 rfl rfl ?_
    refine r_lf (hK _) ?_
    exact r_iret hM rfl (Nat.le_of_ble_eq_true rfl) (Nat.le_of_ble_eq_true rfl) dX11_plan_22
  · refine r_iload_n (i := 2) (x := x2) (q := 12) 2 hX dX11_plan_11 rfl rfl rfl ?_
    refine r_iconst (v := (0 : Int32)) (q := 13) hX dX11_plan_12 rfl rfl ?_
    refine r_iconst (v := (2 : Int32)) (q := 14) hX dX11_plan_13 rfl rfl ?_
    refine r_cs (As := [vi x2, vi (0 : Int32), vi (2 : Int32)]) (st := []) (r := (some (vi (fX11_within x2 (0 : Int32) (2 : Int32))))) (Z1 := Z) (M1 := M) (k1 := 0) (n1 := 0) (st1 := [vi (fX11_within x2 (0 : Int32) (2 : Int32))]) (q := 17) hX (fun l => kX11_within l Z M x2 (0 : Int32) (2 : Int32)) stX11_within ccX11_within (Or.inl lkX11_55) rfl rfl rfl ⟨Nat.le_of_ble_eq_true rfl, Nat.le_of_ble_eq_true rfl, rfl, rfl, Nat.le_of_ble_eq_true rfl, Nat.le_of_ble_eq_true rfl⟩ (Nat.le_of_ble_eq_true rfl) dX11_plan_14 rfl ?_
    refine r_if_ne (tgt := 23) (q := 20) hX dX11_plan_17 (by decide) rfl (fun hb2 => ?_) (fun hb2 => ?_)
    · refine r_bipush (v := (-102 : Int32)) (q := 22) hX dX11_plan_20 rfl rfl ?_
      refine r_lf (hK _) ?_
      exact r_iret hM rfl (Nat.le_of_ble_eq_true rfl) (Nat.le_of_ble_eq_true rfl) dX11_plan_22
    · refine r_aload_n (i := 0) (x := a0) (q := 24) 0 hX dX11_plan_23 rfl rfl rfl ?_
      refine r_ck (fun hc3 => ?_)
      refine r_getR (a := a0) (ci := 11) (kf := 5) (q := 27) hX hc3 flX11_47 rfl dX11_plan_24 rfl ?_
      refine r_iload_n (i := 1) (x := x1) (q := 28) 1 hX dX11_plan_27 rfl rfl rfl ?_
      refine r_ck (fun hc4 => ?_)
      refine r_bind (fun v5 h6 => ?_)
      refine r_cv (a := (rR M a0 5)) (As := [vi x1]) (st := []) (r := (some (vi v5))) (Z1 := Z) (M1 := M) (k1 := 0) (n1 := 0) (st1 := [vi v5]) (q := 31) hX (fun l => kX10_bestSet l Z M (rR M a0 5) x1 v5 h6) hc4 ivX10_bestSet ccX10_bestSet (Or.inl lkX11_335) rfl rfl rfl ⟨Nat.le_of_ble_eq_true rfl, Nat.le_of_ble_eq_true rfl, rfl, rfl, Nat.le_of_ble_eq_true rfl, Nat.le_of_ble_eq_true rfl⟩ (Nat.le_of_ble_eq_true rfl) dX11_plan_28 rfl ?_
      refine r_istore_n (x := v5) (q := 32) 3 [1, 2, 3, 0] (L1 := [(0, vr a0), (1, vi x1), (2, vi x2), (3, vi v5)]) hX dX11_plan_31 rfl (Nat.le_of_ble_eq_true rfl) rfl rfl ?_
      refine r_iload_n (i := 2) (x := x2) (q := 33) 2 hX dX11_plan_32 rfl rfl rfl ?_
      refine r_if_ne (tgt := 38) (q := 36) hX dX11_plan_33 (by decide) rfl (fun hb7 => ?_) (fun hb7 => ?_)
      · refine r_iload_n (i := 3) (x := v5) (q := 37) 3 hX dX11_plan_36 rfl rfl rfl ?_
        refine r_lf (hK _) ?_
        exact r_iret hM rfl (Nat.le_of_ble_eq_true rfl) (Nat.le_of_ble_eq_true rfl) dX11_plan_37
      · refine r_iload_n (i := 2) (x := x2) (q := 39) 2 hX dX11_plan_38 rfl rfl rfl ?_
        refine r_iconst (v := (1 : Int32)) (q := 40) hX dX11_plan_39 rfl rfl ?_
        refine r_icmp_ne (tgt := 54) (q := 43) hX dX11_plan_40 (by decide) rfl (fun hb8 => ?_) (fun hb8 => ?_)
        · refine r_aload_n (i := 0) (x := a0) (q := 44) 0 hX dX11_plan_43 rfl rfl rfl ?_
          refine r_getR (a := a0) (ci := 11) (kf := 5) (q := 47) hX hc3 flX11_47 rfl dX11_plan_44 rfl ?_
          refine r_iload_n (i := 3) (x := v5) (q := 48) 3 hX dX11_plan_47 rfl rfl rfl ?_
          refine r_bind (fun v9 h10 => ?_)
          refine r_cv (a := (rR M a0 5)) (As := [vi v5]) (st := []) (r := (some (vi v9))) (Z1 := Z) (M1 := M) (k1 := 0) (n1 := 0) (st1 := [vi v9]) (q := 51) hX (fun l => kX10_given l Z M (rR M a0 5) v5 v9 h10) hc4 ivX10_given ccX10_given (Or.inl lkX11_338) rfl rfl rfl ⟨Nat.le_of_ble_eq_true rfl, Nat.le_of_ble_eq_true rfl, rfl, rfl, Nat.le_of_ble_eq_true rfl, Nat.le_of_ble_eq_true rfl⟩ (Nat.le_of_ble_eq_true rfl) dX11_plan_48 rfl ?_
          refine r_goto (q := 62) hX dX11_plan_51 (by decide) ?_
          refine r_lf (hK _) ?_
          exact r_iret hM rfl (Nat.le_of_ble_eq_true rfl) (Nat.le_of_ble_eq_true rfl) dX11_plan_62
        · refine r_aload_n (i := 0) (x := a0) (q := 55) 0 hX dX11_plan_54 rfl rfl rfl ?_
          refine r_getR (a := a0) (ci := 11) (kf := 5) (q := 58) hX hc3 flX11_47 rfl dX11_plan_55 rfl ?_
          refine r_iload_n (i := 3) (x := v5) (q := 59) 3 hX dX11_plan_58 rfl rfl rfl ?_
          refine r_bind (fun v11 h12 => ?_)
          refine r_cv (a := (rR M a0 5)) (As := [vi v5]) (st := []) (r := (some (vi v11))) (Z1 := Z) (M1 := M) (k1 := 0) (n1 := 0) (st1 := [vi v11]) (q := 62) hX (fun l => kX10_costOf l Z M (rR M a0 5) v5 v11 h12) hc4 ivX10_costOf ccX10_costOf (Or.inl lkX11_341) rfl rfl rfl ⟨Nat.le_of_ble_eq_true rfl, Nat.le_of_ble_eq_true rfl, rfl, rfl, Nat.le_of_ble_eq_true rfl, Nat.le_of_ble_eq_true rfl⟩ (Nat.le_of_ble_eq_true rfl) dX11_plan_59 rfl ?_
          refine r_lf (hK _) ?_
          exact r_iret hM rfl (Nat.le_of_ble_eq_true rfl) (Nat.le_of_ble_eq_true rfl) dX11_plan_62
theorem lkX6_21 : LkN RX6 21 yX11_within "CanalCompany" := bd (hcw2_4 _ (List.mem_of_getElem? (i := 7) rfl)) rfl
def mX6_allows : MD := (yX6_allows, cX6_allows, 3, (some .boolean), 1, 22, 0, 0)
theorem ccX6_allows : Cc mX6_allows 2 := ⟨gd (hcw1_0 _ (List.mem_of_getElem? (i := 3) rfl)) rfl, gd (hcw2_4 _ (List.mem_of_getElem? (i := 6) rfl)) rfl, by decide +kernel, by decide +kernel, by decide +kernel⟩
theorem ivX6_allows : Iv mX6_allows 6 := ⟨Nat.le_of_ble_eq_true rfl, rfl, gd (hcw2_4 _ (List.mem_of_getElem? (i := 4) rfl)) rfl, gd (hcw2_4 _ (List.mem_of_getElem? (i := 5) rfl)) rfl⟩
def fX6_allows (Z : Shp) (M : Mem) (a0 : Nat) (x1 : Int32) (x2 : Int32) : Option (Int32) := (if x1 = 0 then (if tg Z a0 = (7, 3) then some (fX11_within x2 (0 : Int32) (rI M a0 1)) else none) else (if x1 = (1 : Int32) then (if tg Z a0 = (7, 3) then some (fX11_within x2 (mxI (100 : Int32) (rI M a0 0)) (9999 : Int32)) else none) else some (fX11_within x2 (0 : Int32) (9999 : Int32))))
set_option maxRecDepth 20000 in
theorem kX6_allows (l : Launch) (Z : Shp) (M : Mem) (a0 : Nat) (x1 : Int32) (x2 : Int32) (r : Int32) (h : fX6_allows Z M a0 x1 x2 = some r) : Ct l mX6_allows [vr a0, vi x1, vi x2] Z M ((some (vi r)), Z, M) := by
  refine Ct.of rfl (Nat.le_of_ble_eq_true rfl) (fun X hM => ?_)
  have hX := hM.1
  refine r_top (mk := fun r => ((some (vi r)), Z, M)) h (fun K hK => ?_)
  unfold fX6_allows
  refine r_iload_n (i := 1) (x := x1) (q := 1) 1 hX dX6_allows_0 rfl rfl rfl ?_
  refine r_if_ne (tgt := 14) (q := 4) hX dX6_allows_1 (by decide) rfl (fun hb1 => ?_) (fun hb1 => ?_)
  · refine r_iload_n (i := 2) (x := x2) (q := 5) 2 hX dX6_allows_4 rfl rfl rfl ?_
    refine r_iconst (v := (0 : Int32)) (q := 6) hX dX6_allows_5 rfl rfl ?_
    refine r_aload_n (i := 0) (x := a0) (q := 7) 0 hX dX6_allows_6 rfl rfl rfl ?_
    refine r_ck (fun hc2 => ?_)
    refine r_getI (a := a0) (ci := 6) (kf := 1) (q := 10) hX hc2 flX6_15 rfl rfl dX6_allows_7 rfl ?_
    refine r_cs (As := [vi x2, vi (0 : Int32), vi (rI M a0 1)]) (st := []) (r := (some (vi (fX11_within x2 (0 : Int32) (rI M a0 1))))) (Z1 := Z) (M1 := M) (k1 := 0) (n1 := 0) (st1 := [vi (fX11_within x2 (0 : Int32) (rI M a0 1))]) (q := 13) hX (fun l => kX11_within l Z M x2 (0 : Int32) (rI M a0 1)) stX11_within ccX11_within (Or.inr ⟨_, lkX6_21⟩) rfl rfl rfl ⟨Nat.le_of_ble_eq_true rfl, Nat.le_of_ble_eq_true rfl, rfl, rfl, Nat.le_of_ble_eq_true rfl, Nat.le_of_ble_eq_true rfl⟩ (Nat.le_of_ble_eq_true rfl) dX6_allows_10 rfl ?_
    refine r_lf (hK _) ?_
    exact r_zret hM rfl (bX11_within x2 (0 : Int32) (rI M a0 1)) (Nat.le_of_ble_eq_true rfl) (Nat.le_of_ble_eq_true rfl) dX6_allows_13
  · refine r_iload_n (i := 2) (x := x2) (q := 15) 2 hX dX6_allows_14 rfl rfl rfl ?_
    refine r_iload_n (i := 1) (x := x1) (q := 16) 1 hX dX6_allows_15 rfl rfl rfl ?_
    refine r_iconst (v := (1 : Int32)) (q := 17) hX dX6_allows_16 rfl rfl ?_
    refine r_icmp_ne (tgt := 32) (q := 20) hX dX6_allows_17 (by decide) rfl (fun hb3 => ?_) (fun hb3 => ?_)
    · refine r_bipush (v := (100 : Int32)) (q := 22) hX dX6_allows_20 rfl rfl ?_
      refine r_aload_n (i := 0) (x := a0) (q := 23) 0 hX dX6_allows_22 rfl rfl rfl ?_
      refine r_ck (fun hc4 => ?_)
      refine r_getI (a := a0) (ci := 6) (kf := 0) (q := 26) hX hc4 flX6_9 rfl rfl dX6_allows_23 rfl ?_
      refine r_mmax (q := 29) hX (gd (hcw2_4 _ (List.mem_of_getElem? (i := 8) rfl)) rfl) (Nat.le_of_ble_eq_true rfl) (Nat.le_of_ble_eq_true rfl) (Nat.le_of_ble_eq_true rfl) (Nat.le_of_ble_eq_true rfl) dX6_allows_26 rfl ?_
      refine r_goto (q := 33) hX dX6_allows_29 (by decide) ?_
      refine r_sipush (v := (9999 : Int32)) (q := 36) hX dX6_allows_33 rfl rfl ?_
      refine r_cs (As := [vi x2, vi (mxI (100 : Int32) (rI M a0 0)), vi (9999 : Int32)]) (st := []) (r := (some (vi (fX11_within x2 (mxI (100 : Int32) (rI M a0 0)) (9999 : Int32))))) (Z1 := Z) (M1 := M) (k1 := 0) (n1 := 0) (st1 := [vi (fX11_within x2 (mxI (100 : Int32) (rI M a0 0)) (9999 : Int32))]) (q := 39) hX (fun l => kX11_within l Z M x2 (mxI (100 : Int32) (rI M a0 0)) (9999 : Int32)) stX11_within ccX11_within (Or.inr ⟨_, lkX6_21⟩) rfl rfl rfl ⟨Nat.le_of_ble_eq_true rfl, Nat.le_of_ble_eq_true rfl, rfl, rfl, Nat.le_of_ble_eq_true rfl, Nat.le_of_ble_eq_true rfl⟩ (Nat.le_of_ble_eq_true rfl) dX6_allows_36 rfl ?_
      refine r_lf (hK _) ?_
      exact r_zret hM rfl (bX11_within x2 (mxI (100 : Int32) (rI M a0 0)) (9999 : Int32)) (Nat.le_of_ble_eq_true rfl) (Nat.le_of_ble_eq_true rfl) dX6_allows_39
    · refine r_iconst (v := (0 : Int32)) (q := 33) hX dX6_allows_32 rfl rfl ?_
      refine r_sipush (v := (9999 : Int32)) (q := 36) hX dX6_allows_33 rfl rfl ?_
      refine r_cs (As := [vi x2, vi (0 : Int32), vi (9999 : Int32)]) (st := []) (r := (some (vi (fX11_within x2 (0 : Int32) (9999 : Int32))))) (Z1 := Z) (M1 := M) (k1 := 0) (n1 := 0) (st1 := [vi (fX11_within x2 (0 : Int32) (9999 : Int32))]) (q := 39) hX (fun l => kX11_within l Z M x2 (0 : Int32) (9999 : Int32)) stX11_within ccX11_within (Or.inr ⟨_, lkX6_21⟩) rfl rfl rfl ⟨Nat.le_of_ble_eq_true rfl, Nat.le_of_ble_eq_true rfl, rfl, rfl, Nat.le_of_ble_eq_true rfl, Nat.le_of_ble_eq_true rfl⟩ (Nat.le_of_ble_eq_true rfl) dX6_allows_36 rfl ?_
      refine r_lf (hK _) ?_
      exact r_zret hM rfl (bX11_within x2 (0 : Int32) (9999 : Int32)) (Nat.le_of_ble_eq_true rfl) (Nat.le_of_ble_eq_true rfl) dX6_allows_39
theorem lkX6_31 : Lk RX6 31 yX6_tell := gd (hcw2_4 _ (List.mem_of_getElem? (i := 15) rfl)) rfl
def mX6_replace : MD := (yX6_replace, cX6_replace, 4, (some .int), 1, 21, 0, 0)
theorem ccX6_replace : Cc mX6_replace 2 := ⟨gd (hcw1_0 _ (List.mem_of_getElem? (i := 3) rfl)) rfl, gd (hcw2_4 _ (List.mem_of_getElem? (i := 14) rfl)) rfl, by decide +kernel, by decide +kernel, by decide +kernel⟩
theorem ivX6_replace : Iv mX6_replace 6 := ⟨Nat.le_of_ble_eq_true rfl, rfl, gd (hcw2_4 _ (List.mem_of_getElem? (i := 12) rfl)) rfl, gd (hcw2_4 _ (List.mem_of_getElem? (i := 13) rfl)) rfl⟩
noncomputable def fX6_replace (Z : Shp) (M : Mem) (a0 : Nat) (x1 : Int32) (x2 : Int32) : Option (Int32 × Mem) := (if tg Z a0 = (7, 3) then (Option.bind (fX6_tell Z M a0 x1) (fun v2 => (if x1 = 0 then (pu (wI M a0 0 x2) (fun M5 => some (v2, M5))) else (if x1 = (1 : Int32) then (pu (wI M a0 1 x2) (fun M7 => some (v2, M7))) else (pu (wI M a0 2 x2) (fun M8 => some (v2, M8))))))) else none)
set_option maxRecDepth 20000 in
theorem kX6_replace (l : Launch) (Z : Shp) (M : Mem) (a0 : Nat) (x1 : Int32) (x2 : Int32) (r : Int32 × Mem) (h : fX6_replace Z M a0 x1 x2 = some r) : Ct l mX6_replace [vr a0, vi x1, vi x2] Z M ((some (vi r.1)), Z, r.2) := by
  refine Ct.of rfl (Nat.le_of_ble_eq_true rfl) (fun X hM => ?_)
  have hX := hM.1
  refine r_top (mk := fun r => ((some (vi r.1)), Z, r.2)) h (fun K hK => ?_)
  unfold fX6_replace
  refine r_aload_n (i := 0) (x := a0) (q := 1) 0 hX dX6_replace_0 rfl rfl rfl ?_
  refine r_iload_n (i := 1) (x := x1) (q := 2) 1 hX dX6_replace_1 rfl rfl rfl ?_
  refine r_ck (fun hc1 => ?_)
  refine r_bind (fun v2 h3 => ?_)
  refine r_cv (a := a0) (As := [vi x1]) (st := []) (r := (some (vi v2))) (Z1 := Z) (M1 := M) (k1 := 0) (n1 := 0) (st1 := [vi v2]) (q := 5) hX (fun l => kX6_tell l Z M a0 x1 v2 h3) hc1 ivX6_tell ccX6_tell (Or.inl lkX6_31) rfl rfl rfl ⟨Nat.le_of_ble_eq_true rfl, Nat.le_of_ble_eq_true rfl, rfl, rfl, Nat.le_of_ble_eq_true rfl, Nat.le_of_ble_eq_true rfl⟩ (Nat.le_of_ble_eq_true rfl) dX6_replace_2 rfl ?_
  refine r_istore_n (x := v2) (q := 6) 3 [1, 2, 3, 0] (L1 := [(0, vr a0), (1, vi x1), (2, vi x2), (3, vi v2)]) hX dX6_replace_5 rfl (Nat.le_of_ble_eq_true rfl) rfl rfl ?_
  refine r_iload_n (i := 1) (x := x1) (q := 7) 1 hX dX6_replace_6 rfl rfl rfl ?_
  refine r_if_ne (tgt := 18) (q := 10) hX dX6_replace_7 (by decide) rfl (fun hb4 => ?_) (fun hb4 => ?_)
  · refine r_aload_n (i := 0) (x := a0) (q := 11) 0 hX dX6_replace_10 rfl rfl rfl ?_
    refine r_iload_n (i := 2) (x := x2) (q := 12) 2 hX dX6_replace_11 rfl rfl rfl ?_
    refine r_putI (a := a0) (ci := 6) (kf := 0) (q := 15) hX hc1 flX6_9 rfl rfl (Or.inl rfl) rfl rfl dX6_replace_12 rfl (fun M5 => ?_)
    refine r_goto (q := 36) hX dX6_replace_15 (by decide) ?_
    refine r_iload_n (i := 3) (x := v2) (q := 37) 3 hX dX6_replace_36 rfl rfl rfl ?_
    refine r_lf (hK _) ?_
    exact r_iret hM rfl (Nat.le_of_ble_eq_true rfl) (Nat.le_of_ble_eq_true rfl) dX6_replace_37
  · refine r_iload_n (i := 1) (x := x1) (q := 19) 1 hX dX6_replace_18 rfl rfl rfl ?_
    refine r_iconst (v := (1 : Int32)) (q := 20) hX dX6_replace_19 rfl rfl ?_
    refine r_icmp_ne (tgt := 31) (q := 23) hX dX6_replace_20 (by decide) rfl (fun hb6 => ?_) (fun hb6 => ?_)
    · refine r_aload_n (i := 0) (x := a0) (q := 24) 0 hX dX6_replace_23 rfl rfl rfl ?_
      refine r_iload_n (i := 2) (x := x2) (q := 25) 2 hX dX6_replace_24 rfl rfl rfl ?_
      refine r_putI (a := a0) (ci := 6) (kf := 1) (q := 28) hX hc1 flX6_15 rfl rfl (Or.inl rfl) rfl rfl dX6_replace_25 rfl (fun M7 => ?_)
      refine r_goto (q := 36) hX dX6_replace_28 (by decide) ?_
      refine r_iload_n (i := 3) (x := v2) (q := 37) 3 hX dX6_replace_36 rfl rfl rfl ?_
      refine r_lf (hK _) ?_
      exact r_iret hM rfl (Nat.le_of_ble_eq_true rfl) (Nat.le_of_ble_eq_true rfl) dX6_replace_37
    · refine r_aload_n (i := 0) (x := a0) (q := 32) 0 hX dX6_replace_31 rfl rfl rfl ?_
      refine r_iload_n (i := 2) (x := x2) (q := 33) 2 hX dX6_replace_32 rfl rfl rfl ?_
      refine r_putI (a := a0) (ci := 6) (kf := 2) (q := 36) hX hc1 flX6_18 rfl rfl (Or.inl rfl) rfl rfl dX6_replace_33 rfl (fun M8 => ?_)
      refine r_iload_n (i := 3) (x := v2) (q := 37) 3 hX dX6_replace_36 rfl rfl rfl ?_
      refine r_lf (hK _) ?_
      exact r_iret hM rfl (Nat.le_of_ble_eq_true rfl) (Nat.le_of_ble_eq_true rfl) dX6_replace_37
theorem lkX11_59 : Lk RX11 59 yX6_allows := gd (hcw2_4 _ (List.mem_of_getElem? (i := 3) rfl)) rfl
theorem lkX11_65 : Lk RX11 65 yX6_replace := gd (hcw2_4 _ (List.mem_of_getElem? (i := 11) rfl)) rfl
def mX11_pound : MD := (yX11_pound, cX11_pound, 5, (some .int), 2, 44, 0, 0)
theorem ccX11_pound : Cc mX11_pound 3 := ⟨gd (hcw1_0 _ (List.mem_of_getElem? (i := 1) rfl)) rfl, gd (hcw2_3 _ (List.mem_of_getElem? (i := 14) rfl)) rfl, by decide +kernel, by decide +kernel, by decide +kernel⟩
theorem ivX11_pound : Iv mX11_pound 11 := ⟨Nat.le_of_ble_eq_true rfl, rfl, gd (hcw2_3 _ (List.mem_of_getElem? (i := 12) rfl)) rfl, gd (hcw2_3 _ (List.mem_of_getElem? (i := 13) rfl)) rfl⟩
noncomputable def fX11_pound (Z : Shp) (M : Mem) (a0 : Nat) (x1 : Int32) (x2 : Int32) (x3 : Int32) : Option (Int32 × Mem) := (if tg Z a0 = (12, 6) then (if tg Z (rR M a0 0) = (4, 11) then (Option.bind (fX3_poundNumbered Z M (rR M a0 0) x1) (fun v3 => (if v3 = 0 then some ((-101 : Int32), M) else (if (fX11_within x2 (0 : Int32) (2 : Int32)) = 0 then some ((-101 : Int32), M) else (if tg Z v3 = (7, 3) then (Option.bind (fX6_allows Z M v3 x2 x3) (fun v8 => (if v8 = 0 then some ((-102 : Int32), M) else (Option.bind (fX6_replace Z M v3 x2 x3) (fun v11 => some (v11.1, v11.2)))))) else none))))) else none) else none)
set_option maxRecDepth 20000 in
theorem kX11_pound (l : Launch) (Z : Shp) (M : Mem) (a0 : Nat) (x1 : Int32) (x2 : Int32) (x3 : Int32) (r : Int32 × Mem) (h : fX11_pound Z M a0 x1 x2 x3 = some r) : Ct l mX11_pound [vr a0, vi x1, vi x2, vi x3] Z M ((some (vi r.1)), Z, r.2) := by
  refine Ct.of rfl (Nat.le_of_ble_eq_true rfl) (fun X hM => ?_)
  have hX := hM.1
  refine r_top (mk := fun r => ((some (vi r.1)), Z, r.2)) h (fun K hK => ?_)
  unfold fX11_pound
  refine r_aload_n (i := 0) (x := a0) (q := 1) 0 hX dX11_pound_0 rfl rfl rfl ?_
  refine r_ck (fun hc1 => ?_)
  refine r_getR (a := a0) (ci := 11) (kf := 0) (q := 4) hX hc1 flX11_12 rfl dX11_pound_1 rfl ?_
  refine r_iload_n (i := 1) (x := x1) (q := 5) 1 hX dX11_pound_4 rfl rfl rfl ?_
  refine r_ck (fun hc2 => ?_)
  refine r_bind (fun v3 h4 => ?_)
  refine r_cv (a := (rR M a0 0)) (As := [vi x1]) (st := []) (r := (some (vr v3))) (Z1 := Z) (M1 := M) (k1 := 0) (n1 := 0) (st1 := [vr v3]) (q := 8) hX (fun l => kX3_poundNumbered l Z M (rR M a0 0) x1 v3 h4) hc2 ivX3_poundNumbered ccX3_poundNumbered (Or.inl lkX11_51) rfl rfl rfl ⟨Nat.le_of_ble_eq_true rfl, Nat.le_of_ble_eq_true rfl, rfl, rfl, Nat.le_of_ble_eq_true rfl, Nat.le_of_ble_eq_true rfl⟩ (Nat.le_of_ble_eq_true rfl) dX11_pound_5 rfl ?_
  refine r_astore (x := v3) (q := 10) 4 [1, 2, 3, 4, 0] (L1 := [(0, vr a0), (1, vi x1), (2, vi x2), (3, vi x3), (4, vr v3)]) hX dX11_pound_8 (Nat.le_of_ble_eq_true rfl) rfl rfl ?_
  refine r_aload (i := 4) (x := v3) (q := 12) 4 hX dX11_pound_10 rfl rfl ?_
  refine r_ifnull (tgt := 24) (q := 15) hX dX11_pound_12 (by decide) rfl (fun hb5 => ?_) (fun hb5 => ?_)
  · refine r_bipush (v := (-101 : Int32)) (q := 26) hX dX11_pound_24 rfl rfl ?_
    refine r_lf (hK _) ?_
    exact r_iret hM rfl (Nat.le_of_ble_eq_true rfl) (Nat.le_of_ble_eq_true rfl) dX11_pound_26
  · refine r_iload_n (i := 2) (x := x2) (q := 16) 2 hX dX11_pound_15 rfl rfl rfl ?_
    refine r_iconst (v := (0 : Int32)) (q := 17) hX dX11_pound_16 rfl rfl ?_
    refine r_iconst (v := (2 : Int32)) (q := 18) hX dX11_pound_17 rfl rfl ?_
    refine r_cs (As := [vi x2, vi (0 : Int32), vi (2 : Int32)]) (st := []) (r := (some (vi (fX11_within x2 (0 : Int32) (2 : Int32))))) (Z1 := Z) (M1 := M) (k1 := 0) (n1 := 0) (st1 := [vi (fX11_within x2 (0 : Int32) (2 : Int32))]) (q := 21) hX (fun l => kX11_within l Z M x2 (0 : Int32) (2 : Int32)) stX11_within ccX11_within (Or.inl lkX11_55) rfl rfl rfl ⟨Nat.le_of_ble_eq_true rfl, Nat.le_of_ble_eq_true rfl, rfl, rfl, Nat.le_of_ble_eq_true rfl, Nat.le_of_ble_eq_true rfl⟩ (Nat.le_of_ble_eq_true rfl) dX11_pound_18 rfl ?_
    refine r_if_ne (tgt := 27) (q := 24) hX dX11_pound_21 (by decide) rfl (fun hb6 => ?_) (fun hb6 => ?_)
    · refine r_bipush (v := (-101 : Int32)) (q := 26) hX dX11_pound_24 rfl rfl ?_
      refine r_lf (hK _) ?_
      exact r_iret hM rfl (Nat.le_of_ble_eq_true rfl) (Nat.le_of_ble_eq_true rfl) dX11_pound_26
    · refine r_aload (i := 4) (x := v3) (q := 29) 4 hX dX11_pound_27 rfl rfl ?_
      refine r_iload_n (i := 2) (x := x2) (q := 30) 2 hX dX11_pound_29 rfl rfl rfl ?_
      refine r_iload_n (i := 3) (x := x3) (q := 31) 3 hX dX11_pound_30 rfl rfl rfl ?_
      refine r_ck (fun hc7 => ?_)
      refine r_bind (fun v8 h9 => ?_)
      refine r_cv (a := v3) (As := [vi x2, vi x3]) (st := []) (r := (some (vi v8))) (Z1 := Z) (M1 := M) (k1 := 0) (n1 := 0) (st1 := [vi v8]) (q := 34) hX (fun l => kX6_allows l Z M v3 x2 x3 v8 h9) hc7 ivX6_allows ccX6_allows (Or.inl lkX11_59) rfl rfl rfl ⟨Nat.le_of_ble_eq_true rfl, Nat.le_of_ble_eq_true rfl, rfl, rfl, Nat.le_of_ble_eq_true rfl, Nat.le_of_ble_eq_true rfl⟩ (Nat.le_of_ble_eq_true rfl) dX11_pound_31 rfl ?_
      refine r_if_eq (tgt := 47) (q := 37) hX dX11_pound_34 (by decide) rfl (fun hb10 => ?_) (fun hb10 => ?_)
      · refine r_bipush (v := (-102 : Int32)) (q := 49) hX dX11_pound_47 rfl rfl ?_
        refine r_lf (hK _) ?_
        exact r_iret hM rfl (Nat.le_of_ble_eq_true rfl) (Nat.le_of_ble_eq_true rfl) dX11_pound_49
      · refine r_aload (i := 4) (x := v3) (q := 39) 4 hX dX11_pound_37 rfl rfl ?_
        refine r_iload_n (i := 2) (x := x2) (q := 40) 2 hX dX11_pound_39 rfl rfl rfl ?_
        refine r_iload_n (i := 3) (x := x3) (q := 41) 3 hX dX11_pound_40 rfl rfl rfl ?_
        refine r_bind (fun v11 h12 => ?_)
        refine r_cv (a := v3) (As := [vi x2, vi x3]) (st := []) (r := (some (vi v11.1))) (Z1 := Z) (M1 := v11.2) (k1 := 0) (n1 := 0) (st1 := [vi v11.1]) (q := 44) hX (fun l => kX6_replace l Z M v3 x2 x3 v11 h12) hc7 ivX6_replace ccX6_replace (Or.inl lkX11_65) rfl rfl rfl ⟨Nat.le_of_ble_eq_true rfl, Nat.le_of_ble_eq_true rfl, rfl, rfl, Nat.le_of_ble_eq_true rfl, Nat.le_of_ble_eq_true rfl⟩ (Nat.le_of_ble_eq_true rfl) dX11_pound_41 rfl ?_
        refine r_goto (q := 49) hX dX11_pound_44 (by decide) ?_
        refine r_lf (hK _) ?_
        exact r_iret hM rfl (Nat.le_of_ble_eq_true rfl) (Nat.le_of_ble_eq_true rfl) dX11_pound_49
def mX2_quarrelling : MD := (yX2_quarrelling, cX2_quarrelling, 7, (some .int), 5, 128, 0, 0)
theorem ccX2_quarrelling : Cc mX2_quarrelling 3 := ⟨gd (hcw1_0 _ (List.mem_of_getElem? (i := 5) rfl)) rfl, gd (hcw4_2 _ (List.mem_of_getElem? (i := 9) rfl)) rfl, by decide +kernel, by decide +kernel, by decide +kernel⟩
theorem ivX2_quarrelling : Iv mX2_quarrelling 2 := ⟨Nat.le_of_ble_eq_true rfl, rfl, gd (hcw4_2 _ (List.mem_of_getElem? (i := 7) rfl)) rfl, gd (hcw4_2 _ (List.mem_of_getElem? (i := 8) rfl)) rfl⟩
noncomputable def fX2_quarrelling (Z : Shp) (M : Mem) (a0 : Nat) (x1 : Int32) (a2 : Nat) (x3 : Int32) : Option (Int32) := (if tg Z a0 = (3, 4) then (Option.bind (fX2_speaker Z M a0 x1 a2 x3) (fun v2 => (loop (fun s4 : Int32 × Int32 => (if v2 ≤ s4.2 then some (Sum.inr s4.1) else (if aok Z (rR M a0 2) 114 s4.2 then (if tg Z (rR M (rR M a0 2) (ix s4.2)) = (9, 6) then (if aok Z (rR M a0 2) 114 v2 then (if tg Z (rR M (rR M a0 2) (ix v2)) = (9, 6) then (if (rI M (rR M (rR M a0 2) (ix s4.2)) 2) = (rI M (rR M (rR M a0 2) (ix v2)) 2) then some (Sum.inl (s4.1, (s4.2 + (1 : Int32)))) else (Option.bind (fX8_speaksFor Z M (rR M (rR M a0 2) (ix s4.2)) x1 a2 x3) (fun v13 => (if v13 = 0 then some (Sum.inl (s4.1, (s4.2 + (1 : Int32)))) else some (Sum.inl ((s4.1 + (1 : Int32)), (s4.2 + (1 : Int32)))))))) else none) else none) else none) else none))) ((0 : Int32), (0 : Int32))))) else none)
set_option maxRecDepth 20000 in
theorem kX2_quarrelling (l : Launch) (Z : Shp) (M : Mem) (a0 : Nat) (x1 : Int32) (a2 : Nat) (x3 : Int32) (r : Int32) (h : fX2_quarrelling Z M a0 x1 a2 x3 = some r) : Ct l mX2_quarrelling [vr a0, vi x1, vr a2, vi x3] Z M ((some (vi r)), Z, M) := by
  refine Ct.of rfl (Nat.le_of_ble_eq_true rfl) (fun X hM => ?_)
  have hX := hM.1
  refine r_top (mk := fun r => ((some (vi r)), Z, M)) h (fun K hK => ?_)
  unfold fX2_quarrelling
  refine r_aload_n (i := 0) (x := a0) (q := 1) 0 hX dX2_quarrelling_0 rfl rfl rfl ?_
  refine r_iload_n (i := 1) (x := x1) (q := 2) 1 hX dX2_quarrelling_1 rfl rfl rfl ?_
  refine r_aload_n (i := 2) (x := a2) (q := 3) 2 hX dX2_quarrelling_2 rfl rfl rfl ?_
  refine r_iload_n (i := 3) (x := x3) (q := 4) 3 hX dX2_quarrelling_3 rfl rfl rfl ?_
  refine r_ck (fun hc1 => ?_)
  refine r_bind (fun v2 h3 => ?_)
  refine r_cv (a := a0) (As := [vi x1, vr a2, vi x3]) (st := []) (r := (some (vi v2))) (Z1 := Z) (M1 := M) (k1 := 0) (n1 := 0) (st1 := [vi v2]) (q := 7) hX (fun l => kX2_speaker l Z M a0 x1 a2 x3 v2 h3) hc1 ivX2_speaker ccX2_speaker (Or.inl lkX2_72) rfl rfl rfl ⟨Nat.le_of_ble_eq_true rfl, Nat.le_of_ble_eq_true rfl, rfl, rfl, Nat.le_of_ble_eq_true rfl, Nat.le_of_ble_eq_true rfl⟩ (Nat.le_of_ble_eq_true rfl) dX2_quarrelling_4 rfl ?_
  refine r_istore (x := v2) (q := 9) 4 [1, 2, 3, 4, 0] (L1 := [(0, vr a0), (1, vi x1), (2, vr a2), (3, vi x3), (4, vi v2)]) hX dX2_quarrelling_7 (Nat.le_of_ble_eq_true rfl) rfl rfl ?_
  refine r_iconst (v := (0 : Int32)) (q := 10) hX dX2_quarrelling_9 rfl rfl ?_
  refine r_istore (x := (0 : Int32)) (q := 12) 5 [1, 2, 3, 4, 5, 0] (L1 := [(0, vr a0), (1, vi x1), (2, vr a2), (3, vi x3), (4, vi v2), (5, vi (0 : Int32))]) hX dX2_quarrelling_10 (Nat.le_of_ble_eq_true rfl) rfl rfl ?_
  refine r_iconst (v := (0 : Int32)) (q := 13) hX dX2_quarrelling_12 rfl rfl ?_
  refine r_istore (x := (0 : Int32)) (q := 15) 6 [1, 2, 3, 4, 5, 6, 0] (L1 := [(0, vr a0), (1, vi x1), (2, vr a2), (3, vi x3), (4, vi v2), (5, vi (0 : Int32)), (6, vi (0 : Int32))]) hX dX2_quarrelling_13 (Nat.le_of_ble_eq_true rfl) rfl rfl ?_
  refine r_loop (Hd := fun (s4 : Int32 × Int32) (P : Option Res) => Ref mX2_quarrelling X 0 0 Z M 15 [(0, vr a0), (1, vi x1), (2, vr a2), (3, vi x3), (4, vi v2), (5, vi s4.1), (6, vi s4.2)] [] P) (fun _ => r_none) (fun s4 K1 hn5 hx6 => ?_) ((0 : Int32), (0 : Int32))
  refine r_iload (i := 6) (x := s4.2) (q := 17) 6 hX dX2_quarrelling_15 rfl rfl ?_
  refine r_iload (i := 4) (x := v2) (q := 19) 4 hX dX2_quarrelling_17 rfl rfl ?_
  refine r_icmp_ge (tgt := 70) (q := 22) hX dX2_quarrelling_19 (by decide) rfl (fun hb7 => ?_) (fun hb7 => ?_)
  · refine r_iload (i := 5) (x := s4.1) (q := 72) 5 hX dX2_quarrelling_70 rfl rfl ?_
    refine r_lf ((hx6 _).trans (hK _)) ?_
    exact r_iret hM rfl (Nat.le_of_ble_eq_true rfl) (Nat.le_of_ble_eq_true rfl) dX2_quarrelling_72
  · refine r_aload_n (i := 0) (x := a0) (q := 23) 0 hX dX2_quarrelling_22 rfl rfl rfl ?_
    refine r_getR (a := a0) (ci := 2) (kf := 2) (q := 26) hX hc1 flX2_17 rfl dX2_quarrelling_23 rfl ?_
    refine r_iload (i := 6) (x := s4.2) (q := 28) 6 hX dX2_quarrelling_26 rfl rfl ?_
    refine r_ck (fun hc8 => ?_)
    refine r_aald (a := (rR M a0 2)) (i := s4.2) (q := 29) hX arT_114 hc8 dX2_quarrelling_28 rfl ?_
    refine r_ck (fun hc9 => ?_)
    refine r_getI (a := (rR M (rR M a0 2) (ix s4.2))) (ci := 8) (kf := 2) (q := 32) hX hc9 flX2_80 rfl rfl dX2_quarrelling_29 rfl ?_
    refine r_aload_n (i := 0) (x := a0) (q := 33) 0 hX dX2_quarrelling_32 rfl rfl rfl ?_
    refine r_getR (a := a0) (ci := 2) (kf := 2) (q := 36) hX hc1 flX2_17 rfl dX2_quarrelling_33 rfl ?_
    refine r_iload (i := 4) (x := v2) (q := 38) 4 hX dX2_quarrelling_36 rfl rfl ?_
    refine r_ck (fun hc10 => ?_)
    refine r_aald (a := (rR M a0 2)) (i := v2) (q := 39) hX arT_114 hc10 dX2_quarrelling_38 rfl ?_
    refine r_ck (fun hc11 => ?_)
    refine r_getI (a := (rR M (rR M a0 2) (ix v2))) (ci := 8) (kf := 2) (q := 42) hX hc11 flX2_80 rfl rfl dX2_quarrelling_39 rfl ?_
    refine r_icmp_eq (tgt := 64) (q := 45) hX dX2_quarrelling_42 (by decide) rfl (fun hb12 => ?_) (fun hb12 => ?_)
    · refine r_iinc (x := s4.2) (v := (s4.2 + (1 : Int32))) (q := 67) 6 6 [1, 2, 3, 4, 5, 6, 0] (L1 := [(0, vr a0), (1, vi x1), (2, vr a2), (3, vi x3), (4, vi v2), (5, vi s4.1), (6, vi (s4.2 + (1 : Int32)))]) hX dX2_quarrelling_64 rfl rfl (Nat.le_of_ble_eq_true rfl) rfl rfl ?_
      refine r_goto (q := 15) hX dX2_quarrelling_67 (by decide) ?_
      refine r_l0 ?_
      exact hn5 (s4.1, (s4.2 + (1 : Int32)))
    · refine r_aload_n (i := 0) (x := a0) (q := 46) 0 hX dX2_quarrelling_45 rfl rfl rfl ?_
      refine r_getR (a := a0) (ci := 2) (kf := 2) (q := 49) hX hc1 flX2_17 rfl dX2_quarrelling_46 rfl ?_
      refine r_iload (i := 6) (x := s4.2) (q := 51) 6 hX dX2_quarrelling_49 rfl rfl ?_
      refine r_aald (a := (rR M a0 2)) (i := s4.2) (q := 52) hX arT_114 hc8 dX2_quarrelling_51 rfl ?_
      refine r_iload_n (i := 1) (x := x1) (q := 53) 1 hX dX2_quarrelling_52 rfl rfl rfl ?_
      refine r_aload_n (i := 2) (x := a2) (q := 54) 2 hX dX2_quarrelling_53 rfl rfl rfl ?_
      refine r_iload_n (i := 3) (x := x3) (q := 55) 3 hX dX2_quarrelling_54 rfl rfl rfl ?_
      refine r_bind (fun v13 h14 => ?_)
      refine r_cv (a := (rR M (rR M a0 2) (ix s4.2))) (As := [vi x1, vr a2, vi x3]) (st := []) (r := (some (vi v13))) (Z1 := Z) (M1 := M) (k1 := 0) (n1 := 0) (st1 := [vi v13]) (q := 58) hX (fun l => kX8_speaksFor l Z M (rR M (rR M a0 2) (ix s4.2)) x1 a2 x3 v13 h14) hc9 ivX8_speaksFor ccX8_speaksFor (Or.inl lkX2_68) rfl rfl rfl ⟨Nat.le_of_ble_eq_true rfl, Nat.le_of_ble_eq_true rfl, rfl, rfl, Nat.le_of_ble_eq_true rfl, Nat.le_of_ble_eq_true rfl⟩ (Nat.le_of_ble_eq_true rfl) dX2_quarrelling_55 rfl ?_
      refine r_if_eq (tgt := 64) (q := 61) hX dX2_quarrelling_58 (by decide) rfl (fun hb15 => ?_) (fun hb15 => ?_)
      · refine r_iinc (x := s4.2) (v := (s4.2 + (1 : Int32))) (q := 67) 6 6 [1, 2, 3, 4, 5, 6, 0] (L1 := [(0, vr a0), (1, vi x1), (2, vr a2), (3, vi x3), (4, vi v2), (5, vi s4.1), (6, vi (s4.2 + (1 : Int32)))]) hX dX2_quarrelling_64 rfl rfl (Nat.le_of_ble_eq_true rfl) rfl rfl ?_
        refine r_goto (q := 15) hX dX2_quarrelling_67 (by decide) ?_
        refine r_l0 ?_
        exact hn5 (s4.1, (s4.2 + (1 : Int32)))
      · refine r_iinc (x := s4.1) (v := (s4.1 + (1 : Int32))) (q := 64) 5 5 [1, 2, 3, 4, 5, 0, 7] (L1 := [(0, vr a0), (1, vi x1), (2, vr a2), (3, vi x3), (4, vi v2), (5, vi (s4.1 + (1 : Int32))), (6, vi s4.2)]) hX dX2_quarrelling_61 rfl rfl (Nat.le_of_ble_eq_true rfl) rfl rfl ?_
        refine r_iinc (x := s4.2) (v := (s4.2 + (1 : Int32))) (q := 67) 6 6 [1, 2, 3, 4, 5, 6, 0] (L1 := [(0, vr a0), (1, vi x1), (2, vr a2), (3, vi x3), (4, vi v2), (5, vi (s4.1 + (1 : Int32))), (6, vi (s4.2 + (1 : Int32)))]) hX dX2_quarrelling_64 rfl rfl (Nat.le_of_ble_eq_true rfl) rfl rfl ?_
        refine r_goto (q := 15) hX dX2_quarrelling_67 (by decide) ?_
        refine r_l0 ?_
        exact hn5 ((s4.1 + (1 : Int32)), (s4.2 + (1 : Int32)))
theorem lkX11_203 : Lk RX11 203 yX2_quarrelling := gd (hcw4_2 _ (List.mem_of_getElem? (i := 6) rfl)) rfl
def mX11_quarrel : MD := (yX11_quarrel, cX11_quarrel, 5, (some .int), 6, 154, 0, 0)
theorem ccX11_quarrel : Cc mX11_quarrel 3 := ⟨gd (hcw1_0 _ (List.mem_of_getElem? (i := 1) rfl)) rfl, gd (hcw4_2 _ (List.mem_of_getElem? (i := 5) rfl)) rfl, by decide +kernel, by decide +kernel, by decide +kernel⟩
theorem ivX11_quarrel : Iv mX11_quarrel 11 := ⟨Nat.le_of_ble_eq_true rfl, rfl, gd (hcw4_2 _ (List.mem_of_getElem? (i := 3) rfl)) rfl, gd (hcw4_2 _ (List.mem_of_getElem? (i := 4) rfl)) rfl⟩
noncomputable def fX11_quarrel (Z : Shp) (M : Mem) (a0 : Nat) (x1 : Int32) (x2 : Int32) (x3 : Int32) : Option (Int32) := (if (fX11_within x1 (0 : Int32) (1 : Int32)) = 0 then some (-102 : Int32) else (if (fX11_within x3 (0 : Int32) (99 : Int32)) = 0 then some (-102 : Int32) else (if tg Z a0 = (12, 6) then (if tg Z (rR M a0 0) = (4, 11) then (Option.bind (fX3_boatNumbered Z M (rR M a0 0) x2) (fun v5 => (if v5 = 0 then some (-101 : Int32) else (if tg Z (rR M a0 1) = (3, 4) then (Option.bind (fX2_quarrelling Z M (rR M a0 1) x1 v5 x3) (fun v9 => some v9)) else none)))) else none) else none)))
set_option maxRecDepth 20000 in
theorem kX11_quarrel (l : Launch) (Z : Shp) (M : Mem) (a0 : Nat) (x1 : Int32) (x2 : Int32) (x3 : Int32) (r : Int32) (h : fX11_quarrel Z M a0 x1 x2 x3 = some r) : Ct l mX11_quarrel [vr a0, vi x1, vi x2, vi x3] Z M ((some (vi r)), Z, M) := by
  refine Ct.of rfl (Nat.le_of_ble_eq_true rfl) (fun X hM => ?_)
  have hX := hM.1
  refine r_top (mk := fun r => ((some (vi r)), Z, M)) h (fun K hK => ?_)
  unfold fX11_quarrel
  refine r_iload_n (i := 1) (x := x1) (q := 1) 1 hX dX11_quarrel_0 rfl rfl rfl ?_
  refine r_iconst (v := (0 : Int32)) (q := 2) hX dX11_quarrel_1 rfl rfl ?_
  refine r_iconst (v := (1 : Int32)) (q := 3) hX dX11_quarrel_2 rfl rfl ?_
  refine r_cs (As := [vi x1, vi (0 : Int32), vi (1 : Int32)]) (st := []) (r := (some (vi (fX11_within x1 (0 : Int32) (1 : Int32))))) (Z1 := Z) (M1 := M) (k1 := 0) (n1 := 0) (st1 := [vi (fX11_within x1 (0 : Int32) (1 : Int32))]) (q := 6) hX (fun l => kX11_within l Z M x1 (0 : Int32) (1 : Int32)) stX11_within ccX11_within (Or.inl lkX11_55) rfl rfl rfl ⟨Nat.le_of_ble_eq_true rfl, Nat.le_of_ble_eq_true rfl, rfl, rfl, Nat.le_of_ble_eq_true rfl, Nat.le_of_ble_eq_true rfl⟩ (Nat.le_of_ble_eq_true rfl) dX11_quarrel_3 rfl ?_
  refine r_if_eq (tgt := 19) (q := 9) hX dX11_quarrel_6 (by decide) rfl (fun hb1 => ?_) (fun hb1 => ?_)
  · refine r_bipush (v := (-102 : Int32)) (q := 21) hX dX11_quarrel_19 rfl rfl ?_
    refine r_lf (hK _) ?_
    exact r_iret hM rfl (Nat.le_of_ble_eq_true rfl) (Nat.le_of_ble_eq_true rfl) dX11_quarrel_21
  · refine r_iload_n (i := 3) (x := x3) (q := 10) 3 hX dX11_quarrel_9 rfl rfl rfl ?_
    refine r_iconst (v := (0 : Int32)) (q := 11) hX dX11_quarrel_10 rfl rfl ?_
    refine r_bipush (v := (99 : Int32)) (q := 13) hX dX11_quarrel_11 rfl rfl ?_
    refine r_cs (As := [vi x3, vi (0 : Int32), vi (99 : Int32)]) (st := []) (r := (some (vi (fX11_within x3 (0 : Int32) (99 : Int32))))) (Z1 := Z) (M1 := M) (k1 := 0) (n1 := 0) (st1 := [vi (fX11_within x3 (0 : Int32) (99 : Int32))]) (q := 16) hX (fun l => kX11_within l Z M x3 (0 : Int32) (99 : Int32)) stX11_within ccX11_within (Or.inl lkX11_55) rfl rfl rfl ⟨Nat.le_of_ble_eq_true rfl, Nat.le_of_ble_eq_true rfl, rfl, rfl, Nat.le_of_ble_eq_true rfl, Nat.le_of_ble_eq_true rfl⟩ (Nat.le_of_ble_eq_true rfl) dX11_quarrel_13 rfl ?_
    refine r_if_ne (tgt := 22) (q := 19) hX dX11_quarrel_16 (by decide) rfl (fun hb2 => ?_) (fun hb2 => ?_)
    · refine r_bipush (v := (-102 : Int32)) (q := 21) hX dX11_quarrel_19 rfl rfl ?_
      refine r_lf (hK _) ?_
      exact r_iret hM rfl (Nat.le_of_ble_eq_true rfl) (Nat.le_of_ble_eq_true rfl) dX11_quarrel_21
    · refine r_aload_n (i := 0) (x := a0) (q := 23) 0 hX dX11_quarrel_22 rfl rfl rfl ?_
      refine r_ck (fun hc3 => ?_)
      refine r_getR (a := a0) (ci := 11) (kf := 0) (q := 26) hX hc3 flX11_12 rfl dX11_quarrel_23 rfl ?_
      refine r_iload_n (i := 2) (x := x2) (q := 27) 2 hX dX11_quarrel_26 rfl rfl rfl ?_
      refine r_ck (fun hc4 => ?_)
      refine r_bind (fun v5 h6 => ?_)
      refine r_cv (a := (rR M a0 0)) (As := [vi x2]) (st := []) (r := (some (vr v5))) (Z1 := Z) (M1 := M) (k1 := 0) (n1 := 0) (st1 := [vr v5]) (q := 30) hX (fun l => kX3_boatNumbered l Z M (rR M a0 0) x2 v5 h6) hc4 ivX3_boatNumbered ccX3_boatNumbered (Or.inl lkX11_134) rfl rfl rfl ⟨Nat.le_of_ble_eq_true rfl, Nat.le_of_ble_eq_true rfl, rfl, rfl, Nat.le_of_ble_eq_true rfl, Nat.le_of_ble_eq_true rfl⟩ (Nat.le_of_ble_eq_true rfl) dX11_quarrel_27 rfl ?_
      refine r_astore (x := v5) (q := 32) 4 [1, 2, 3, 4, 0] (L1 := [(0, vr a0), (1, vi x1), (2, vi x2), (3, vi x3), (4, vr v5)]) hX dX11_quarrel_30 (Nat.le_of_ble_eq_true rfl) rfl rfl ?_
      refine r_aload (i := 4) (x := v5) (q := 34) 4 hX dX11_quarrel_32 rfl rfl ?_
      refine r_ifnonnull (tgt := 42) (q := 37) hX dX11_quarrel_34 (by decide) rfl (fun hb7 => ?_) (fun hb7 => ?_)
      · refine r_bipush (v := (-101 : Int32)) (q := 39) hX dX11_quarrel_37 rfl rfl ?_
        refine r_goto (q := 53) hX dX11_quarrel_39 (by decide) ?_
        refine r_lf (hK _) ?_
        exact r_iret hM rfl (Nat.le_of_ble_eq_true rfl) (Nat.le_of_ble_eq_true rfl) dX11_quarrel_53
      · refine r_aload_n (i := 0) (x := a0) (q := 43) 0 hX dX11_quarrel_42 rfl rfl rfl ?_
        refine r_getR (a := a0) (ci := 11) (kf := 1) (q := 46) hX hc3 flX11_19 rfl dX11_quarrel_43 rfl ?_
        refine r_iload_n (i := 1) (x := x1) (q := 47) 1 hX dX11_quarrel_46 rfl rfl rfl ?_
        refine r_aload (i := 4) (x := v5) (q := 49) 4 hX dX11_quarrel_47 rfl rfl ?_
        refine r_iload_n (i := 3) (x := x3) (q := 50) 3 hX dX11_quarrel_49 rfl rfl rfl ?_
        refine r_ck (fun hc8 => ?_)
        refine r_bind (fun v9 h10 => ?_)
        refine r_cv (a := (rR M a0 1)) (As := [vi x1, vr v5, vi x3]) (st := []) (r := (some (vi v9))) (Z1 := Z) (M1 := M) (k1 := 0) (n1 := 0) (st1 := [vi v9]) (q := 53) hX (fun l => kX2_quarrelling l Z M (rR M a0 1) x1 v5 x3 v9 h10) hc8 ivX2_quarrelling ccX2_quarrelling (Or.inl lkX11_203) rfl rfl rfl ⟨Nat.le_of_ble_eq_true rfl, Nat.le_of_ble_eq_true rfl, rfl, rfl, Nat.le_of_ble_eq_true rfl, Nat.le_of_ble_eq_true rfl⟩ (Nat.le_of_ble_eq_true rfl) dX11_quarrel_50 rfl ?_
        refine r_lf (hK _) ?_
        exact r_iret hM rfl (Nat.le_of_ble_eq_true rfl) (Nat.le_of_ble_eq_true rfl) dX11_quarrel_53
theorem flX11_318 : FL RX11 318 5 8 := ⟨Nat.le_of_ble_eq_true rfl, Nat.le_of_ble_eq_true rfl, gd (hcw2_0 _ (List.mem_of_getElem? (i := 12) rfl)) rfl⟩
def mX11_rate : MD := (yX11_rate, cX11_rate, 3, (some .int), 1, 22, 0, 0)
theorem ccX11_rate : Cc mX11_rate 1 := ⟨gd (hcw1_0 _ (List.mem_of_getElem? (i := 1) rfl)) rfl, gd (hcw5_3 _ (List.mem_of_getElem? (i := 6) rfl)) rfl, by decide +kernel, by decide +kernel, by decide +kernel⟩
theorem ivX11_rate : Iv mX11_rate 11 := ⟨Nat.le_of_ble_eq_true rfl, rfl, gd (hcw5_3 _ (List.mem_of_getElem? (i := 4) rfl)) rfl, gd (hcw5_3 _ (List.mem_of_getElem? (i := 5) rfl)) rfl⟩
def fX11_rate (Z : Shp) (M : Mem) (a0 : Nat) (x1 : Int32) : Option (Int32 × Mem) := (if (fX11_within x1 (0 : Int32) (999 : Int32)) = 0 then some ((-102 : Int32), M) else (if tg Z a0 = (12, 6) then (if tg Z (rR M a0 4) = (6, 9) then (pu ((rI M (rR M a0 4) 8)) (fun z4 => (pu (wI M (rR M a0 4) 8 x1) (fun M5 => some (z4, M5))))) else none) else none))
set_option maxRecDepth 20000 in
theorem kX11_rate (l : Launch) (Z : Shp) (M : Mem) (a0 : Nat) (x1 : Int32) (r : Int32 × Mem) (h : fX11_rate Z M a0 x1 = some r) : Ct l mX11_rate [vr a0, vi x1] Z M ((some (vi r.1)), Z, r.2) := by
  refine Ct.of rfl (Nat.le_of_ble_eq_true rfl) (fun X hM => ?_)
  have hX := hM.1
  refine r_top (mk := fun r => ((some (vi r.1)), Z, r.2)) h (fun K hK => ?_)
  unfold fX11_rate
  refine r_iload_n (i := 1) (x := x1) (q := 1) 1 hX dX11_rate_0 rfl rfl rfl ?_
  refine r_iconst (v := (0 : Int32)) (q := 2) hX dX11_rate_1 rfl rfl ?_
  refine r_sipush (v := (999 : Int32)) (q := 5) hX dX11_rate_2 rfl rfl ?_
  refine r_cs (As := [vi x1, vi (0 : Int32), vi (999 : Int32)]) (st := []) (r := (some (vi (fX11_within x1 (0 : Int32) (999 : Int32))))) (Z1 := Z) (M1 := M) (k1 := 0) (n1 := 0) (st1 := [vi (fX11_within x1 (0 : Int32) (999 : Int32))]) (q := 8) hX (fun l => kX11_within l Z M x1 (0 : Int32) (999 : Int32)) stX11_within ccX11_within (Or.inl lkX11_55) rfl rfl rfl ⟨Nat.le_of_ble_eq_true rfl, Nat.le_of_ble_eq_true rfl, rfl, rfl, Nat.le_of_ble_eq_true rfl, Nat.le_of_ble_eq_true rfl⟩ (Nat.le_of_ble_eq_true rfl) dX11_rate_5 rfl ?_
  refine r_if_ne (tgt := 14) (q := 11) hX dX11_rate_8 (by decide) rfl (fun hb1 => ?_) (fun hb1 => ?_)
  · refine r_bipush (v := (-102 : Int32)) (q := 13) hX dX11_rate_11 rfl rfl ?_
    refine r_lf (hK _) ?_
    exact r_iret hM rfl (Nat.le_of_ble_eq_true rfl) (Nat.le_of_ble_eq_true rfl) dX11_rate_13
  · refine r_aload_n (i := 0) (x := a0) (q := 15) 0 hX dX11_rate_14 rfl rfl rfl ?_
    refine r_ck (fun hc2 => ?_)
    refine r_getR (a := a0) (ci := 11) (kf := 4) (q := 18) hX hc2 flX11_40 rfl dX11_rate_15 rfl ?_
    refine r_ck (fun hc3 => ?_)
    refine r_getI (a := (rR M a0 4)) (ci := 5) (kf := 8) (q := 21) hX hc3 flX11_318 rfl rfl dX11_rate_18 rfl ?_
    refine r_istore_nP (x := (rI M (rR M a0 4) 8)) (q := 22) 2 [1, 2, 0] (fun z4 => [(0, vr a0), (1, vi x1), (2, vi z4)]) hX dX11_rate_21 rfl (Nat.le_of_ble_eq_true rfl) (fun _ => rfl) rfl (fun z4 => ?_)
    refine r_aload_n (i := 0) (x := a0) (q := 23) 0 hX dX11_rate_22 rfl rfl rfl ?_
    refine r_getR (a := a0) (ci := 11) (kf := 4) (q := 26) hX hc2 flX11_40 rfl dX11_rate_23 rfl ?_
    refine r_iload_n (i := 1) (x := x1) (q := 27) 1 hX dX11_rate_26 rfl rfl rfl ?_
    refine r_putI (a := (rR M a0 4)) (ci := 5) (kf := 8) (q := 30) hX hc3 flX11_318 rfl rfl (Or.inl rfl) rfl rfl dX11_rate_27 rfl (fun M5 => ?_)
    refine r_iload_n (i := 2) (x := z4) (q := 31) 2 hX dX11_rate_30 rfl rfl rfl ?_
    refine r_lf (hK _) ?_
    exact r_iret hM rfl (Nat.le_of_ble_eq_true rfl) (Nat.le_of_ble_eq_true rfl) dX11_rate_31
theorem lkX11_252 : Lk RX11 252 yX0_note := gd (hcw4_9 _ (List.mem_of_getElem? (i := 5) rfl)) rfl
def mX11_read : MD := (yX11_read, cX11_read, 4, (some .int), 2, 43, 0, 0)
theorem ccX11_read : Cc mX11_read 3 := ⟨gd (hcw1_0 _ (List.mem_of_getElem? (i := 1) rfl)) rfl, gd (hcw4_9 _ (List.mem_of_getElem? (i := 4) rfl)) rfl, by decide +kernel, by decide +kernel, by decide +kernel⟩
theorem ivX11_read : Iv mX11_read 11 := ⟨Nat.le_of_ble_eq_true rfl, rfl, gd (hcw4_9 _ (List.mem_of_getElem? (i := 2) rfl)) rfl, gd (hcw4_9 _ (List.mem_of_getElem? (i := 3) rfl)) rfl⟩
noncomputable def fX11_read (Z : Shp) (M : Mem) (a0 : Nat) (x1 : Int32) (x2 : Int32) (x3 : Int32) : Option (Int32 × Mem) := (if tg Z a0 = (12, 6) then (if tg Z (rR M a0 0) = (4, 11) then (Option.bind (fX3_poundNumbered Z M (rR M a0 0) x1) (fun v3 => (if v3 = 0 then some ((-101 : Int32), M) else (if (fX11_within x2 (0 : Int32) (9999 : Int32)) = 0 then some ((-102 : Int32), M) else (if (fX11_within x3 (0 : Int32) (99 : Int32)) = 0 then some ((-102 : Int32), M) else (if tg Z (rR M a0 3) = (1, 9) then (Option.bind (fX0_note Z M (rR M a0 3) x1 x2 x3) (fun v9 => some ((1 : Int32), v9))) else none)))))) else none) else none)
set_option maxRecDepth 20000 in
theorem kX11_read (l : Launch) (Z : Shp) (M : Mem) (a0 : Nat) (x1 : Int32) (x2 : Int32) (x3 : Int32) (r : Int32 × Mem) (h : fX11_read Z M a0 x1 x2 x3 = some r) : Ct l mX11_read [vr a0, vi x1, vi x2, vi x3] Z M ((some (vi r.1)), Z, r.2) := by
  refine Ct.of rfl (Nat.le_of_ble_eq_true rfl) (fun X hM => ?_)
  have hX := hM.1
  refine r_top (mk := fun r => ((some (vi r.1)), Z, r.2)) h (fun K hK => ?_)
  unfold fX11_read
  refine r_aload_n (i := 0) (x := a0) (q := 1) 0 hX dX11_read_0 rfl rfl rfl ?_
  refine r_ck (fun hc1 => ?_)
  refine r_getR (a := a0) (ci := 11) (kf := 0) (q := 4) hX hc1 flX11_12 rfl dX11_read_1 rfl ?_
  refine r_iload_n (i := 1) (x := x1) (q := 5) 1 hX dX11_read_4 rfl rfl rfl ?_
  refine r_ck (fun hc2 => ?_)
  refine r_bind (fun v3 h4 => ?_)
  refine r_cv (a := (rR M a0 0)) (As := [vi x1]) (st := []) (r := (some (vr v3))) (Z1 := Z) (M1 := M) (k1 := 0) (n1 := 0) (st1 := [vr v3]) (q := 8) hX (fun l => kX3_poundNumbered l Z M (rR M a0 0) x1 v3 h4) hc2 ivX3_poundNumbered ccX3_poundNumbered (Or.inl lkX11_51) rfl rfl rfl ⟨Nat.le_of_ble_eq_true rfl, Nat.le_of_ble_eq_true rfl, rfl, rfl, Nat.le_of_ble_eq_true rfl, Nat.le_of_ble_eq_true rfl⟩ (Nat.le_of_ble_eq_true rfl) dX11_read_5 rfl ?_
  refine r_ifnonnull (tgt := 14) (q := 11) hX dX11_read_8 (by decide) rfl (fun hb5 => ?_) (fun hb5 => ?_)
  · refine r_bipush (v := (-101 : Int32)) (q := 13) hX dX11_read_11 rfl rfl ?_
    refine r_lf (hK _) ?_
    exact r_iret hM rfl (Nat.le_of_ble_eq_true rfl) (Nat.le_of_ble_eq_true rfl) dX11_read_13
  · refine r_iload_n (i := 2) (x := x2) (q := 15) 2 hX dX11_read_14 rfl rfl rfl ?_
    refine r_iconst (v := (0 : Int32)) (q := 16) hX dX11_read_15 rfl rfl ?_
    refine r_sipush (v := (9999 : Int32)) (q := 19) hX dX11_read_16 rfl rfl ?_
    refine r_cs (As := [vi x2, vi (0 : Int32), vi (9999 : Int32)]) (st := []) (r := (some (vi (fX11_within x2 (0 : Int32) (9999 : Int32))))) (Z1 := Z) (M1 := M) (k1 := 0) (n1 := 0) (st1 := [vi (fX11_within x2 (0 : Int32) (9999 : Int32))]) (q := 22) hX (fun l => kX11_within l Z M x2 (0 : Int32) (9999 : Int32)) stX11_within ccX11_within (Or.inl lkX11_55) rfl rfl rfl ⟨Nat.le_of_ble_eq_true rfl, Nat.le_of_ble_eq_true rfl, rfl, rfl, Nat.le_of_ble_eq_true rfl, Nat.le_of_ble_eq_true rfl⟩ (Nat.le_of_ble_eq_true rfl) dX11_read_19 rfl ?_
    refine r_if_eq (tgt := 35) (q := 25) hX dX11_read_22 (by decide) rfl (fun hb6 => ?_) (fun hb6 => ?_)
    · refine r_bipush (v := (-102 : Int32)) (q := 37) hX dX11_read_35 rfl rfl ?_
      refine r_lf (hK _) ?_
      exact r_iret hM rfl (Nat.le_of_ble_eq_true rfl) (Nat.le_of_ble_eq_true rfl) dX11_read_37
    · refine r_iload_n (i := 3) (x := x3) (q := 26) 3 hX dX11_read_25 rfl rfl rfl ?_
      refine r_iconst (v := (0 : Int32)) (q := 27) hX dX11_read_26 rfl rfl ?_
      refine r_bipush (v := (99 : Int32)) (q := 29) hX dX11_read_27 rfl rfl ?_
      refine r_cs (As := [vi x3, vi (0 : Int32), vi (99 : Int32)]) (st := []) (r := (some (vi (fX11_within x3 (0 : Int32) (99 : Int32))))) (Z1 := Z) (M1 := M) (k1 := 0) (n1 := 0) (st1 := [vi (fX11_within x3 (0 : Int32) (99 : Int32))]) (q := 32) hX (fun l => kX11_within l Z M x3 (0 : Int32) (99 : Int32)) stX11_within ccX11_within (Or.inl lkX11_55) rfl rfl rfl ⟨Nat.le_of_ble_eq_true rfl, Nat.le_of_ble_eq_true rfl, rfl, rfl, Nat.le_of_ble_eq_true rfl, Nat.le_of_ble_eq_true rfl⟩ (Nat.le_of_ble_eq_true rfl) dX11_read_29 rfl ?_
      refine r_if_ne (tgt := 38) (q := 35) hX dX11_read_32 (by decide) rfl (fun hb7 => ?_) (fun hb7 => ?_)
      · refine r_bipush (v := (-102 : Int32)) (q := 37) hX dX11_read_35 rfl rfl ?_
        refine r_lf (hK _) ?_
        exact r_iret hM rfl (Nat.le_of_ble_eq_true rfl) (Nat.le_of_ble_eq_true rfl) dX11_read_37
      · refine r_aload_n (i := 0) (x := a0) (q := 39) 0 hX dX11_read_38 rfl rfl rfl ?_
        refine r_getR (a := a0) (ci := 11) (kf := 3) (q := 42) hX hc1 flX11_33 rfl dX11_read_39 rfl ?_
        refine r_iload_n (i := 1) (x := x1) (q := 43) 1 hX dX11_read_42 rfl rfl rfl ?_
        refine r_iload_n (i := 2) (x := x2) (q := 44) 2 hX dX11_read_43 rfl rfl rfl ?_
        refine r_iload_n (i := 3) (x := x3) (q := 45) 3 hX dX11_read_44 rfl rfl rfl ?_
        refine r_ck (fun hc8 => ?_)
        refine r_bind (fun v9 h10 => ?_)
        refine r_cv (a := (rR M a0 3)) (As := [vi x1, vi x2, vi x3]) (st := []) (r := none) (Z1 := Z) (M1 := v9) (k1 := 0) (n1 := 0) (st1 := []) (q := 48) hX (fun l => kX0_note l Z M (rR M a0 3) x1 x2 x3 v9 h10) hc8 ivX0_note ccX0_note (Or.inl lkX11_252) rfl rfl rfl ⟨Nat.le_of_ble_eq_true rfl, Nat.le_of_ble_eq_true rfl, rfl, rfl, Nat.le_of_ble_eq_true rfl, Nat.le_of_ble_eq_true rfl⟩ (Nat.le_of_ble_eq_true rfl) dX11_read_45 rfl ?_
        refine r_iconst (v := (1 : Int32)) (q := 49) hX dX11_read_48 rfl rfl ?_
        refine r_lf (hK _) ?_
        exact r_iret hM rfl (Nat.le_of_ble_eq_true rfl) (Nat.le_of_ble_eq_true rfl) dX11_read_49
theorem flX11_299 : FL RX11 299 5 2 := ⟨Nat.le_of_ble_eq_true rfl, Nat.le_of_ble_eq_true rfl, gd (hcw2_0 _ (List.mem_of_getElem? (i := 4) rfl)) rfl⟩
def mX11_shares : MD := (yX11_shares, cX11_shares, 4, (some .int), 1, 22, 0, 0)
theorem ccX11_shares : Cc mX11_shares 2 := ⟨gd (hcw1_0 _ (List.mem_of_getElem? (i := 1) rfl)) rfl, gd (hcw5_1 _ (List.mem_of_getElem? (i := 9) rfl)) rfl, by decide +kernel, by decide +kernel, by decide +kernel⟩
theorem ivX11_shares : Iv mX11_shares 11 := ⟨Nat.le_of_ble_eq_true rfl, rfl, gd (hcw5_1 _ (List.mem_of_getElem? (i := 7) rfl)) rfl, gd (hcw5_1 _ (List.mem_of_getElem? (i := 8) rfl)) rfl⟩
def fX11_shares (Z : Shp) (M : Mem) (a0 : Nat) (x1 : Int32) (x2 : Int32) : Option (Int32 × Mem) := (if (fX11_within x1 (0 : Int32) (5 : Int32)) = 0 then some ((-101 : Int32), M) else (if (fX11_within x2 (0 : Int32) (999 : Int32)) = 0 then some ((-102 : Int32), M) else (if tg Z a0 = (12, 6) then (if tg Z (rR M a0 4) = (6, 9) then (if (rI M (rR M a0 4) 7) ≤ 0 then (if aok Z (rR M (rR M a0 4) 2) 100 x1 then (pu ((rI M (rR M (rR M a0 4) 2) (ix x1))) (fun z7 => (pu (wI M (rR M (rR M a0 4) 2) (ix x1) x2) (fun M8 => some (z7, M8))))) else none) else some ((-103 : Int32), M)) else none) else none)))
set_option maxRecDepth 20000 in
theorem kX11_shares (l : Launch) (Z : Shp) (M : Mem) (a0 : Nat) (x1 : Int32) (x2 : Int32) (r : Int32 × Mem) (h : fX11_shares Z M a0 x1 x2 = some r) : Ct l mX11_shares [vr a0, vi x1, vi x2] Z M ((some (vi r.1)), Z, r.2) := by
  refine Ct.of rfl (Nat.le_of_ble_eq_true rfl) (fun X hM => ?_)
  have hX := hM.1
  refine r_top (mk := fun r => ((some (vi r.1)), Z, r.2)) h (fun K hK => ?_)
  unfold fX11_shares
  refine r_iload_n (i := 1) (x := x1) (q := 1) 1 hX dX11_shares_0 rfl rfl rfl ?_
  refine r_iconst (v := (0 : Int32)) (q := 2) hX dX11_shares_1 rfl rfl ?_
  refine r_iconst (v := (5 : Int32)) (q := 3) hX dX11_shares_2 rfl rfl ?_
  refine r_cs (As := [vi x1, vi (0 : Int32), vi (5 : Int32)]) (st := []) (r := (some (vi (fX11_within x1 (0 : Int32) (5 : Int32))))) (Z1 := Z) (M1 := M) (k1 := 0) (n1 := 0) (st1 := [vi (fX11_within x1 (0 : Int32) (5 : Int32))]) (q := 6) hX (fun l => kX11_within l Z M x1 (0 : Int32) (5 : Int32)) stX11_within ccX11_within (Or.inl lkX11_55) rfl rfl rfl ⟨Nat.le_of_ble_eq_true rfl, Nat.le_of_ble_eq_true rfl, rfl, rfl, Nat.le_of_ble_eq_true rfl, Nat.le_of_ble_eq_true rfl⟩ (Nat.le_of_ble_eq_true rfl) dX11_shares_3 rfl ?_
  refine r_if_ne (tgt := 12) (q := 9) hX dX11_shares_6 (by decide) rfl (fun hb1 => ?_) (fun hb1 => ?_)
  · refine r_bipush (v := (-101 : Int32)) (q := 11) hX dX11_shares_9 rfl rfl ?_
    refine r_lf (hK _) ?_
    exact r_iret hM rfl (Nat.le_of_ble_eq_true rfl) (Nat.le_of_ble_eq_true rfl) dX11_shares_11
  · refine r_iload_n (i := 2) (x := x2) (q := 13) 2 hX dX11_shares_12 rfl rfl rfl ?_
    refine r_iconst (v := (0 : Int32)) (q := 14) hX dX11_shares_13 rfl rfl ?_
    refine r_sipush (v := (999 : Int32)) (q := 17) hX dX11_shares_14 rfl rfl ?_
    refine r_cs (As := [vi x2, vi (0 : Int32), vi (999 : Int32)]) (st := []) (r := (some (vi (fX11_within x2 (0 : Int32) (999 : Int32))))) (Z1 := Z) (M1 := M) (k1 := 0) (n1 := 0) (st1 := [vi (fX11_within x2 (0 : Int32) (999 : Int32))]) (q := 20) hX (fun l => kX11_within l Z M x2 (0 : Int32) (999 : Int32)) stX11_within ccX11_within (Or.inl lkX11_55) rfl rfl rfl ⟨Nat.le_of_ble_eq_true rfl, Nat.le_of_ble_eq_true rfl, rfl, rfl, Nat.le_of_ble_eq_true rfl, Nat.le_of_ble_eq_true rfl⟩ (Nat.le_of_ble_eq_true rfl) dX11_shares_17 rfl ?_
    refine r_if_ne (tgt := 26) (q := 23) hX dX11_shares_20 (by decide) rfl (fun hb2 => ?_) (fun hb2 => ?_)
    · refine r_bipush (v := (-102 : Int32)) (q := 25) hX dX11_shares_23 rfl rfl ?_
      refine r_lf (hK _) ?_
      exact r_iret hM rfl (Nat.le_of_ble_eq_true rfl) (Nat.le_of_ble_eq_true rfl) dX11_shares_25
    · refine r_aload_n (i := 0) (x := a0) (q := 27) 0 hX dX11_shares_26 rfl rfl rfl ?_
      refine r_ck (fun hc3 => ?_)
      refine r_getR (a := a0) (ci := 11) (kf := 4) (q := 30) hX hc3 flX11_40 rfl dX11_shares_27 rfl ?_
      refine r_ck (fun hc4 => ?_)
      refine r_getI (a := (rR M a0 4)) (ci := 5) (kf := 7) (q := 33) hX hc4 flX11_296 rfl rfl dX11_shares_30 rfl ?_
      refine r_if_le (tgt := 39) (q := 36) hX dX11_shares_33 (by decide) rfl (fun hb5 => ?_) (fun hb5 => ?_)
      · refine r_aload_n (i := 0) (x := a0) (q := 40) 0 hX dX11_shares_39 rfl rfl rfl ?_
        refine r_getR (a := a0) (ci := 11) (kf := 4) (q := 43) hX hc3 flX11_40 rfl dX11_shares_40 rfl ?_
        refine r_getR (a := (rR M a0 4)) (ci := 5) (kf := 2) (q := 46) hX hc4 flX11_299 rfl dX11_shares_43 rfl ?_
        refine r_iload_n (i := 1) (x := x1) (q := 47) 1 hX dX11_shares_46 rfl rfl rfl ?_
        refine r_ck (fun hc6 => ?_)
        refine r_iald (a := (rR M (rR M a0 4) 2)) (i := x1) (q := 48) hX hc6 dX11_shares_47 rfl ?_
        refine r_istore_nP (x := (rI M (rR M (rR M a0 4) 2) (ix x1))) (q := 49) 3 [1, 2, 3, 0] (fun z7 => [(0, vr a0), (1, vi x1), (2, vi x2), (3, vi z7)]) hX dX11_shares_48 rfl (Nat.le_of_ble_eq_true rfl) (fun _ => rfl) rfl (fun z7 => ?_)
        refine r_aload_n (i := 0) (x := a0) (q := 50) 0 hX dX11_shares_49 rfl rfl rfl ?_
        refine r_getR (a := a0) (ci := 11) (kf := 4) (q := 53) hX hc3 flX11_40 rfl dX11_shares_50 rfl ?_
        refine r_getR (a := (rR M a0 4)) (ci := 5) (kf := 2) (q := 56) hX hc4 flX11_299 rfl dX11_shares_53 rfl ?_
        refine r_iload_n (i := 1) (x := x1) (q := 57) 1 hX dX11_shares_56 rfl rfl rfl ?_
        refine r_iload_n (i := 2) (x := x2) (q := 58) 2 hX dX11_shares_57 rfl rfl rfl ?_
        refine r_iast (a := (rR M (rR M a0 4) 2)) (i := x1) (x := x2) (q := 59) hX hc6 dX11_shares_58 rfl (fun M8 => ?_)
        refine r_iload_n (i := 3) (x := z7) (q := 60) 3 hX dX11_shares_59 rfl rfl rfl ?_
        refine r_lf (hK _) ?_
        exact r_iret hM rfl (Nat.le_of_ble_eq_true rfl) (Nat.le_of_ble_eq_true rfl) dX11_shares_60
      · refine r_bipush (v := (-103 : Int32)) (q := 38) hX dX11_shares_36 rfl rfl ?_
        refine r_lf (hK _) ?_
        exact r_iret hM rfl (Nat.le_of_ble_eq_true rfl) (Nat.le_of_ble_eq_true rfl) dX11_shares_38
theorem lkX11_199 : Lk RX11 199 yX2_speaker := gd (hcw4_1 _ (List.mem_of_getElem? (i := 0) rfl)) rfl
def mX11_speaks : MD := (yX11_speaks, cX11_speaks, 5, (some .int), 5, 128, 0, 0)
theorem ccX11_speaks : Cc mX11_speaks 3 := ⟨gd (hcw1_0 _ (List.mem_of_getElem? (i := 1) rfl)) rfl, gd (hcw4_0 _ (List.mem_of_getElem? (i := 19) rfl)) rfl, by decide +kernel, by decide +kernel, by decide +kernel⟩
theorem ivX11_speaks : Iv mX11_speaks 11 := ⟨Nat.le_of_ble_eq_true rfl, rfl, gd (hcw4_0 _ (List.mem_of_getElem? (i := 17) rfl)) rfl, gd (hcw4_0 _ (List.mem_of_getElem? (i := 18) rfl)) rfl⟩
noncomputable def fX11_speaks (Z : Shp) (M : Mem) (a0 : Nat) (x1 : Int32) (x2 : Int32) (x3 : Int32) : Option (Int32) := (if (fX11_within x1 (0 : Int32) (1 : Int32)) = 0 then some (-102 : Int32) else (if (fX11_within x3 (0 : Int32) (99 : Int32)) = 0 then some (-102 : Int32) else (if tg Z a0 = (12, 6) then (if tg Z (rR M a0 0) = (4, 11) then (Option.bind (fX3_boatNumbered Z M (rR M a0 0) x2) (fun v5 => (if v5 = 0 then some (-101 : Int32) else (if tg Z (rR M a0 1) = (3, 4) then (Option.bind (fX2_speaker Z M (rR M a0 1) x1 v5 x3) (fun v9 => some v9)) else none)))) else none) else none)))
set_option maxRecDepth 20000 in
theorem kX11_speaks (l : Launch) (Z : Shp) (M : Mem) (a0 : Nat) (x1 : Int32) (x2 : Int32) (x3 : Int32) (r : Int32) (h : fX11_speaks Z M a0 x1 x2 x3 = some r) : Ct l mX11_speaks [vr a0, vi x1, vi x2, vi x3] Z M ((some (vi r)), Z, M) := by
  refine Ct.of rfl (Nat.le_of_ble_eq_true rfl) (fun X hM => ?_)
  have hX := hM.1
  refine r_top (mk := fun r => ((some (vi r)), Z, M)) h (fun K hK => ?_)
  unfold fX11_speaks
  refine r_iload_n (i := 1) (x := x1) (q := 1) 1 hX dX11_speaks_0 rfl rfl rfl ?_
  refine r_iconst (v := (0 : Int32)) (q := 2) hX dX11_speaks_1 rfl rfl ?_
  refine r_iconst (v := (1 : Int32)) (q := 3) hX dX11_speaks_2 rfl rfl ?_
  refine r_cs (As := [vi x1, vi (0 : Int32), vi (1 : Int32)]) (st := []) (r := (some (vi (fX11_within x1 (0 : Int32) (1 : Int32))))) (Z1 := Z) (M1 := M) (k1 := 0) (n1 := 0) (st1 := [vi (fX11_within x1 (0 : Int32) (1 : Int32))]) (q := 6) hX (fun l => kX11_within l Z M x1 (0 : Int32) (1 : Int32)) stX11_within ccX11_within (Or.inl lkX11_55) rfl rfl rfl ⟨Nat.le_of_ble_eq_true rfl, Nat.le_of_ble_eq_true rfl, rfl, rfl, Nat.le_of_ble_eq_true rfl, Nat.le_of_ble_eq_true rfl⟩ (Nat.le_of_ble_eq_true rfl) dX11_speaks_3 rfl ?_
  refine r_if_eq (tgt := 19) (q := 9) hX dX11_speaks_6 (by decide) rfl (fun hb1 => ?_) (fun hb1 => ?_)
  · refine r_bipush (v := (-102 : Int32)) (q := 21) hX dX11_speaks_19 rfl rfl ?_
    refine r_lf (hK _) ?_
    exact r_iret hM rfl (Nat.le_of_ble_eq_true rfl) (Nat.le_of_ble_eq_true rfl) dX11_speaks_21
  · refine r_iload_n (i := 3) (x := x3) (q := 10) 3 hX dX11_speaks_9 rfl rfl rfl ?_
    refine r_iconst (v := (0 : Int32)) (q := 11) hX dX11_speaks_10 rfl rfl ?_
    refine r_bipush (v := (99 : Int32)) (q := 13) hX dX11_speaks_11 rfl rfl ?_
    refine r_cs (As := [vi x3, vi (0 : Int32), vi (99 : Int32)]) (st := []) (r := (some (vi (fX11_within x3 (0 : Int32) (99 : Int32))))) (Z1 := Z) (M1 := M) (k1 := 0) (n1 := 0) (st1 := [vi (fX11_within x3 (0 : Int32) (99 : Int32))]) (q := 16) hX (fun l => kX11_within l Z M x3 (0 : Int32) (99 : Int32)) stX11_within ccX11_within (Or.inl lkX11_55) rfl rfl rfl ⟨Nat.le_of_ble_eq_true rfl, Nat.le_of_ble_eq_true rfl, rfl, rfl, Nat.le_of_ble_eq_true rfl, Nat.le_of_ble_eq_true rfl⟩ (Nat.le_of_ble_eq_true rfl) dX11_speaks_13 rfl ?_
    refine r_if_ne (tgt := 22) (q := 19) hX dX11_speaks_16 (by decide) rfl (fun hb2 => ?_) (fun hb2 => ?_)
    · refine r_bipush (v := (-102 : Int32)) (q := 21) hX dX11_speaks_19 rfl rfl ?_
      refine r_lf (hK _) ?_
      exact r_iret hM rfl (Nat.le_of_ble_eq_true rfl) (Nat.le_of_ble_eq_true rfl) dX11_speaks_21
    · refine r_aload_n (i := 0) (x := a0) (q := 23) 0 hX dX11_speaks_22 rfl rfl rfl ?_
      refine r_ck (fun hc3 => ?_)
      refine r_getR (a := a0) (ci := 11) (kf := 0) (q := 26) hX hc3 flX11_12 rfl dX11_speaks_23 rfl ?_
      refine r_iload_n (i := 2) (x := x2) (q := 27) 2 hX dX11_speaks_26 rfl rfl rfl ?_
      refine r_ck (fun hc4 => ?_)
      refine r_bind (fun v5 h6 => ?_)
      refine r_cv (a := (rR M a0 0)) (As := [vi x2]) (st := []) (r := (some (vr v5))) (Z1 := Z) (M1 := M) (k1 := 0) (n1 := 0) (st1 := [vr v5]) (q := 30) hX (fun l => kX3_boatNumbered l Z M (rR M a0 0) x2 v5 h6) hc4 ivX3_boatNumbered ccX3_boatNumbered (Or.inl lkX11_134) rfl rfl rfl ⟨Nat.le_of_ble_eq_true rfl, Nat.le_of_ble_eq_true rfl, rfl, rfl, Nat.le_of_ble_eq_true rfl, Nat.le_of_ble_eq_true rfl⟩ (Nat.le_of_ble_eq_true rfl) dX11_speaks_27 rfl ?_
      refine r_astore (x := v5) (q := 32) 4 [1, 2, 3, 4, 0] (L1 := [(0, vr a0), (1, vi x1), (2, vi x2), (3, vi x3), (4, vr v5)]) hX dX11_speaks_30 (Nat.le_of_ble_eq_true rfl) rfl rfl ?_
      refine r_aload (i := 4) (x := v5) (q := 34) 4 hX dX11_speaks_32 rfl rfl ?_
      refine r_ifnonnull (tgt := 42) (q := 37) hX dX11_speaks_34 (by decide) rfl (fun hb7 => ?_) (fun hb7 => ?_)
      · refine r_bipush (v := (-101 : Int32)) (q := 39) hX dX11_speaks_37 rfl rfl ?_
        refine r_goto (q := 53) hX dX11_speaks_39 (by decide) ?_
        refine r_lf (hK _) ?_
        exact r_iret hM rfl (Nat.le_of_ble_eq_true rfl) (Nat.le_of_ble_eq_true rfl) dX11_speaks_53
      · refine r_aload_n (i := 0) (x := a0) (q := 43) 0 hX dX11_speaks_42 rfl rfl rfl ?_
        refine r_getR (a := a0) (ci := 11) (kf := 1) (q := 46) hX hc3 flX11_19 rfl dX11_speaks_43 rfl ?_
        refine r_iload_n (i := 1) (x := x1) (q := 47) 1 hX dX11_speaks_46 rfl rfl rfl ?_
        refine r_aload (i := 4) (x := v5) (q := 49) 4 hX dX11_speaks_47 rfl rfl ?_
        refine r_iload_n (i := 3) (x := x3) (q := 50) 3 hX dX11_speaks_49 rfl rfl rfl ?_
        refine r_ck (fun hc8 => ?_)
        refine r_bind (fun v9 h10 => ?_)
        refine r_cv (a := (rR M a0 1)) (As := [vi x1, vr v5, vi x3]) (st := []) (r := (some (vi v9))) (Z1 := Z) (M1 := M) (k1 := 0) (n1 := 0) (st1 := [vi v9]) (q := 53) hX (fun l => kX2_speaker l Z M (rR M a0 1) x1 v5 x3 v9 h10) hc8 ivX2_speaker ccX2_speaker (Or.inl lkX11_199) rfl rfl rfl ⟨Nat.le_of_ble_eq_true rfl, Nat.le_of_ble_eq_true rfl, rfl, rfl, Nat.le_of_ble_eq_true rfl, Nat.le_of_ble_eq_true rfl⟩ (Nat.le_of_ble_eq_true rfl) dX11_speaks_50 rfl ?_
        refine r_lf (hK _) ?_
        exact r_iret hM rfl (Nat.le_of_ble_eq_true rfl) (Nat.le_of_ble_eq_true rfl) dX11_speaks_53
def mX11_summit : MD := (yX11_summit, cX11_summit, 3, (some .int), 1, 22, 0, 0)
theorem ccX11_summit : Cc mX11_summit 1 := ⟨gd (hcw1_0 _ (List.mem_of_getElem? (i := 1) rfl)) rfl, gd (hcw2_5 _ (List.mem_of_getElem? (i := 2) rfl)) rfl, by decide +kernel, by decide +kernel, by decide +kernel⟩
theorem ivX11_summit : Iv mX11_summit 11 := ⟨Nat.le_of_ble_eq_true rfl, rfl, gd (hcw2_5 _ (List.mem_of_getElem? (i := 0) rfl)) rfl, gd (hcw2_5 _ (List.mem_of_getElem? (i := 1) rfl)) rfl⟩
def fX11_summit (Z : Shp) (M : Mem) (a0 : Nat) (x1 : Int32) : Option (Int32 × Mem) := (if (fX11_within x1 (1 : Int32) (6 : Int32)) = 0 then some ((-102 : Int32), M) else (if tg Z a0 = (12, 6) then (if tg Z (rR M a0 0) = (4, 11) then (if 0 < (rI M (rR M a0 0) 8) then some ((-103 : Int32), M) else (if (rI M (rR M a0 0) 6) ≤ 0 then (pu ((rI M (rR M a0 0) 7)) (fun z6 => (pu (wI M (rR M a0 0) 7 x1) (fun M7 => some (z6, M7))))) else some ((-103 : Int32), M))) else none) else none))
set_option maxRecDepth 20000 in
theorem kX11_summit (l : Launch) (Z : Shp) (M : Mem) (a0 : Nat) (x1 : Int32) (r : Int32 × Mem) (h : fX11_summit Z M a0 x1 = some r) : Ct l mX11_summit [vr a0, vi x1] Z M ((some (vi r.1)), Z, r.2) := by
  refine Ct.of rfl (Nat.le_of_ble_eq_true rfl) (fun X hM => ?_)
  have hX := hM.1
  refine r_top (mk := fun r => ((some (vi r.1)), Z, r.2)) h (fun K hK => ?_)
  unfold fX11_summit
  refine r_iload_n (i := 1) (x := x1) (q := 1) 1 hX dX11_summit_0 rfl rfl rfl ?_
  refine r_iconst (v := (1 : Int32)) (q := 2) hX dX11_summit_1 rfl rfl ?_
  refine r_bipush (v := (6 : Int32)) (q := 4) hX dX11_summit_2 rfl rfl ?_
  refine r_cs (As := [vi x1, vi (1 : Int32), vi (6 : Int32)]) (st := []) (r := (some (vi (fX11_within x1 (1 : Int32) (6 : Int32))))) (Z1 := Z) (M1 := M) (k1 := 0) (n1 := 0) (st1 := [vi (fX11_within x1 (1 : Int32) (6 : Int32))]) (q := 7) hX (fun l => kX11_within l Z M x1 (1 : Int32) (6 : Int32)) stX11_within ccX11_within (Or.inl lkX11_55) rfl rfl rfl ⟨Nat.le_of_ble_eq_true rfl, Nat.le_of_ble_eq_true rfl, rfl, rfl, Nat.le_of_ble_eq_true rfl, Nat.le_of_ble_eq_true rfl⟩ (Nat.le_of_ble_eq_true rfl) dX11_summit_4 rfl ?_
  refine r_if_ne (tgt := 13) (q := 10) hX dX11_summit_7 (by decide) rfl (fun hb1 => ?_) (fun hb1 => ?_)
  · refine r_bipush (v := (-102 : Int32)) (q := 12) hX dX11_summit_10 rfl rfl ?_
    refine r_lf (hK _) ?_
    exact r_iret hM rfl (Nat.le_of_ble_eq_true rfl) (Nat.le_of_ble_eq_true rfl) dX11_summit_12
  · refine r_aload_n (i := 0) (x := a0) (q := 14) 0 hX dX11_summit_13 rfl rfl rfl ?_
    refine r_ck (fun hc2 => ?_)
    refine r_getR (a := a0) (ci := 11) (kf := 0) (q := 17) hX hc2 flX11_12 rfl dX11_summit_14 rfl ?_
    refine r_ck (fun hc3 => ?_)
    refine r_getI (a := (rR M a0 0)) (ci := 3) (kf := 8) (q := 20) hX hc3 flX11_69 rfl rfl dX11_summit_17 rfl ?_
    refine r_if_gt (tgt := 33) (q := 23) hX dX11_summit_20 (by decide) rfl (fun hb4 => ?_) (fun hb4 => ?_)
    · refine r_bipush (v := (-103 : Int32)) (q := 35) hX dX11_summit_33 rfl rfl ?_
      refine r_lf (hK _) ?_
      exact r_iret hM rfl (Nat.le_of_ble_eq_true rfl) (Nat.le_of_ble_eq_true rfl) dX11_summit_35
    · refine r_aload_n (i := 0) (x := a0) (q := 24) 0 hX dX11_summit_23 rfl rfl rfl ?_
      refine r_getR (a := a0) (ci := 11) (kf := 0) (q := 27) hX hc2 flX11_12 rfl dX11_summit_24 rfl ?_
      refine r_getI (a := (rR M a0 0)) (ci := 3) (kf := 6) (q := 30) hX hc3 flX11_73 rfl rfl dX11_summit_27 rfl ?_
      refine r_if_le (tgt := 36) (q := 33) hX dX11_summit_30 (by decide) rfl (fun hb5 => ?_) (fun hb5 => ?_)
      · refine r_aload_n (i := 0) (x := a0) (q := 37) 0 hX dX11_summit_36 rfl rfl rfl ?_
        refine r_getR (a := a0) (ci := 11) (kf := 0) (q := 40) hX hc2 flX11_12 rfl dX11_summit_37 rfl ?_
        refine r_getI (a := (rR M a0 0)) (ci := 3) (kf := 7) (q := 43) hX hc3 flX11_76 rfl rfl dX11_summit_40 rfl ?_
        refine r_istore_nP (x := (rI M (rR M a0 0) 7)) (q := 44) 2 [1, 2, 0] (fun z6 => [(0, vr a0), (1, vi x1), (2, vi z6)]) hX dX11_summit_43 rfl (Nat.le_of_ble_eq_true rfl) (fun _ => rfl) rfl (fun z6 => ?_)
        refine r_aload_n (i := 0) (x := a0) (q := 45) 0 hX dX11_summit_44 rfl rfl rfl ?_
        refine r_getR (a := a0) (ci := 11) (kf := 0) (q := 48) hX hc2 flX11_12 rfl dX11_summit_45 rfl ?_
        refine r_iload_n (i := 1) (x := x1) (q := 49) 1 hX dX11_summit_48 rfl rfl rfl ?_
        refine r_putI (a := (rR M a0 0)) (ci := 3) (kf := 7) (q := 52) hX hc3 flX11_76 rfl rfl (Or.inl rfl) rfl rfl dX11_summit_49 rfl (fun M7 => ?_)
        refine r_iload_n (i := 2) (x := z6) (q := 53) 2 hX dX11_summit_52 rfl rfl rfl ?_
        refine r_lf (hK _) ?_
        exact r_iret hM rfl (Nat.le_of_ble_eq_true rfl) (Nat.le_of_ble_eq_true rfl) dX11_summit_53
      · refine r_bipush (v := (-103 : Int32)) (q := 35) hX dX11_summit_33 rfl rfl ?_
        refine r_lf (hK _) ?_
        exact r_iret hM rfl (Nat.le_of_ble_eq_true rfl) (Nat.le_of_ble_eq_true rfl) dX11_summit_35
theorem flX7_13 : FL RX7 13 7 1 := ⟨Nat.le_of_ble_eq_true rfl, Nat.le_of_ble_eq_true rfl, gd (hcw2_6 _ (List.mem_of_getElem? (i := 16) rfl)) rfl⟩
theorem flX7_19 : FL RX7 19 7 3 := ⟨Nat.le_of_ble_eq_true rfl, Nat.le_of_ble_eq_true rfl, gd (hcw2_7 _ (List.mem_of_getElem? (i := 0) rfl)) rfl⟩
def mX7_init : MD := (yX7_init, cX7_init, 5, none, 1, 12, 0, 0)
theorem ccX7_init : Cc mX7_init 4 := ⟨gd (hcw1_0 _ (List.mem_of_getElem? (i := 12) rfl)) rfl, gd (hcw2_6 _ (List.mem_of_getElem? (i := 12) rfl)) rfl, by decide +kernel, by decide +kernel, by decide +kernel⟩
theorem imX7_init : Cond.instanceMethod (yN mX7_init) ∈ lw_gd := gd (hcw2_6 _ (List.mem_of_getElem? (i := 11) rfl)) rfl
def fX7_init (Z : Shp) (M : Mem) (a0 : Nat) (x1 : Int32) (x2 : Int32) (x3 : Int32) (x4 : Int32) : Option (Mem) := (if tg Z a0 = (8, 5) then (pu (wI M a0 0 x1) (fun M2 => (pu (wI M2 a0 1 x2) (fun M3 => (pu (wI M3 a0 2 x3) (fun M4 => (pu (wI M4 a0 3 x4) (fun M5 => some M5)))))))) else none)
set_option maxRecDepth 20000 in
theorem kX7_init (l : Launch) (Z : Shp) (M : Mem) (a0 : Nat) (x1 : Int32) (x2 : Int32) (x3 : Int32) (x4 : Int32) (r : Mem) (h : fX7_init Z M a0 x1 x2 x3 x4 = some r) : Ct l mX7_init [vr a0, vi x1, vi x2, vi x3, vi x4] Z M (none, Z, r) := by
  refine Ct.of rfl (Nat.le_of_ble_eq_true rfl) (fun X hM => ?_)
  have hX := hM.1
  refine r_top (mk := fun r => (none, Z, r)) h (fun K hK => ?_)
  unfold fX7_init
  refine r_aload_n (i := 0) (x := a0) (q := 1) 0 hX dX7_init_0 rfl rfl rfl ?_
  refine r_ck (fun hc1 => ?_)
  refine r_objI (ci := 7) (q := 4) hX (gd (hcw2_6 _ (List.mem_of_getElem? (i := 13) rfl)) rfl) hc1 (Nat.le_of_ble_eq_true rfl) (Nat.le_of_ble_eq_true rfl) dX7_init_1 rfl ?_
  refine r_aload_n (i := 0) (x := a0) (q := 5) 0 hX dX7_init_4 rfl rfl rfl ?_
  refine r_iload_n (i := 1) (x := x1) (q := 6) 1 hX dX7_init_5 rfl rfl rfl ?_
  refine r_putI (a := a0) (ci := 7) (kf := 0) (q := 9) hX hc1 flX7_7 rfl rfl (Or.inr ⟨rfl, rfl, rfl⟩) rfl rfl dX7_init_6 rfl (fun M2 => ?_)
  refine r_aload_n (i := 0) (x := a0) (q := 10) 0 hX dX7_init_9 rfl rfl rfl ?_
  refine r_iload_n (i := 2) (x := x2) (q := 11) 2 hX dX7_init_10 rfl rfl rfl ?_
  refine r_putI (a := a0) (ci := 7) (kf := 1) (q := 14) hX hc1 flX7_13 rfl rfl (Or.inr ⟨rfl, rfl, rfl⟩) rfl rfl dX7_init_11 rfl (fun M3 => ?_)
  refine r_aload_n (i := 0) (x := a0) (q := 15) 0 hX dX7_init_14 rfl rfl rfl ?_
  refine r_iload_n (i := 3) (x := x3) (q := 16) 3 hX dX7_init_15 rfl rfl rfl ?_
  refine r_putI (a := a0) (ci := 7) (kf := 2) (q := 19) hX hc1 flX7_16 rfl rfl (Or.inr ⟨rfl, rfl, rfl⟩) rfl rfl dX7_init_16 rfl (fun M4 => ?_)
  refine r_aload_n (i := 0) (x := a0) (q := 20) 0 hX dX7_init_19 rfl rfl rfl ?_
  refine r_iload (i := 4) (x := x4) (q := 22) 4 hX dX7_init_20 rfl rfl ?_
  refine r_putI (a := a0) (ci := 7) (kf := 3) (q := 25) hX hc1 flX7_19 rfl rfl (Or.inr ⟨rfl, rfl, rfl⟩) rfl rfl dX7_init_22 rfl (fun M5 => ?_)
  refine r_lf (hK _) ?_
  exact r_vret hM rfl (Nat.le_of_ble_eq_true rfl) (Nat.le_of_ble_eq_true rfl) dX7_init_25
def mX3_addTaker : MD := (yX3_addTaker, cX3_addTaker, 3, (some .int), 0, 0, 0, 0)
theorem ccX3_addTaker : Cc mX3_addTaker 1 := ⟨gd (hcw1_0 _ (List.mem_of_getElem? (i := 2) rfl)) rfl, gd (hcw2_7 _ (List.mem_of_getElem? (i := 18) rfl)) rfl, by decide +kernel, by decide +kernel, by decide +kernel⟩
theorem ivX3_addTaker : Iv mX3_addTaker 3 := ⟨Nat.le_of_ble_eq_true rfl, rfl, gd (hcw2_7 _ (List.mem_of_getElem? (i := 16) rfl)) rfl, gd (hcw2_7 _ (List.mem_of_getElem? (i := 17) rfl)) rfl⟩
noncomputable def fX3_addTaker (Z : Shp) (M : Mem) (a0 : Nat) (a1 : Nat) : Option (Int32 × Mem) := (if tg Z a0 = (4, 11) then (pu ((rI M a0 5)) (fun z2 => (Option.bind (loop (fun s6 : Int32 × Mem => (if s6.1 ≤ 0 then some (Sum.inr (s6.1, s6.2)) else (if aok Z (rR s6.2 a0 3) 112 (s6.1 - (1 : Int32)) then (if tg Z (rR s6.2 (rR s6.2 a0 3) (ix (s6.1 - (1 : Int32)))) = (8, 5) then (if tg Z a1 = (8, 5) then (if (rI s6.2 (rR s6.2 (rR s6.2 a0 3) (ix (s6.1 - (1 : Int32)))) 3) ≤ (rI s6.2 a1 3) then some (Sum.inr (s6.1, s6.2)) else (if aok Z (rR s6.2 a0 3) 112 s6.1 then (pu (wR s6.2 (rR s6.2 a0 3) (ix s6.1) (rR s6.2 (rR s6.2 a0 3) (ix (s6.1 - (1 : Int32))))) (fun M15 => some (Sum.inl ((s6.1 + (-1 : Int32)), M15)))) else none)) else none) else none) else none))) (z2, M)) (fun v5 : Int32 × Mem => (if aok Z (rR v5.2 a0 3) 112 v5.1 then (if tg Z a1 = (8, 5) then (pu (wR v5.2 (rR v5.2 a0 3) (ix v5.1) a1) (fun M17 => (if aok Z (rR M17 a0 2) 112 (rI M17 a0 5) then (pu (wR M17 (rR M17 a0 2) (ix (rI M17 a0 5)) a1) (fun M20 => (pu (wI M20 a0 5 ((rI M20 a0 5) + (1 : Int32))) (fun M21 => some ((rI M20 a0 5), M21))))) else none))) else none) else none))))) else none)
set_option maxRecDepth 20000 in
theorem kX3_addTaker (l : Launch) (Z : Shp) (M : Mem) (a0 : Nat) (a1 : Nat) (r : Int32 × Mem) (h : fX3_addTaker Z M a0 a1 = some r) : Ct l mX3_addTaker [vr a0, vr a1] Z M ((some (vi r.1)), Z, r.2) := by
  refine Ct.of rfl (Nat.le_of_ble_eq_true rfl) (fun X hM => ?_)
  have hX := hM.1
  refine r_top (mk := fun r => ((some (vi r.1)), Z, r.2)) h (fun K hK => ?_)
  unfold fX3_addTaker
  refine r_aload_n (i := 0) (x := a0) (q := 1) 0 hX dX3_addTaker_0 rfl rfl rfl ?_
  refine r_ck (fun hc1 => ?_)
  refine r_getI (a := a0) (ci := 3) (kf := 5) (q := 4) hX hc1 flX3_48 rfl rfl dX3_addTaker_1 rfl ?_
  refine r_istore_nP (x := (rI M a0 5)) (q := 5) 2 [1, 2, 0] (fun z2 => [(0, vr a0), (1, vr a1), (2, vi z2)]) hX dX3_addTaker_4 rfl (Nat.le_of_ble_eq_true rfl) (fun _ => rfl) rfl (fun z2 => ?_)
  refine r_jn (J := fun (v5 : Int32 × Mem) (P : Option Res) => Ref mX3_addTaker X 0 0 Z v5.2 47 [(0, vr a0), (1, vr a1), (2, vi v5.1)] [] P) (fun v5 => ?_) (fun K1 hj3 => ?_)
  · refine r_aload_n (i := 0) (x := a0) (q := 48) 0 hX dX3_addTaker_47 rfl rfl rfl ?_
    refine r_getR (a := a0) (ci := 3) (kf := 3) (q := 51) hX hc1 flX3_29 rfl dX3_addTaker_48 rfl ?_
    refine r_iload_n (i := 2) (x := v5.1) (q := 52) 2 hX dX3_addTaker_51 rfl rfl rfl ?_
    refine r_aload_n (i := 1) (x := a1) (q := 53) 1 hX dX3_addTaker_52 rfl rfl rfl ?_
    refine r_ck (fun hc16 => ?_)
    refine r_ck (fun hc18 => ?_)
    refine r_aast (a := (rR v5.2 a0 3)) (v := a1) (i := v5.1) (q := 54) hX arT_112 hc16 hc18 dX3_addTaker_53 rfl (fun M17 => ?_)
    refine r_aload_n (i := 0) (x := a0) (q := 55) 0 hX dX3_addTaker_54 rfl rfl rfl ?_
    refine r_getR (a := a0) (ci := 3) (kf := 2) (q := 58) hX hc1 flX3_25 rfl dX3_addTaker_55 rfl ?_
    refine r_aload_n (i := 0) (x := a0) (q := 59) 0 hX dX3_addTaker_58 rfl rfl rfl ?_
    refine r_getI (a := a0) (ci := 3) (kf := 5) (q := 62) hX hc1 flX3_48 rfl rfl dX3_addTaker_59 rfl ?_
    refine r_aload_n (i := 1) (x := a1) (q := 63) 1 hX dX3_addTaker_62 rfl rfl rfl ?_
    refine r_ck (fun hc19 => ?_)
    refine r_aast (a := (rR M17 a0 2)) (v := a1) (i := (rI M17 a0 5)) (q := 64) hX arT_112 hc19 hc18 dX3_addTaker_63 rfl (fun M20 => ?_)
    refine r_aload_n (i := 0) (x := a0) (q := 65) 0 hX dX3_addTaker_64 rfl rfl rfl ?_
    refine r_dup (q := 66) hX dX3_addTaker_65 rfl rfl ?_
    refine r_getI (a := a0) (ci := 3) (kf := 5) (q := 69) hX hc1 flX3_48 rfl rfl dX3_addTaker_66 rfl ?_
    refine r_dup_x1 (q := 70) hX dX3_addTaker_69 rfl rfl rfl ?_
    refine r_iconst (v := (1 : Int32)) (q := 71) hX dX3_addTaker_70 rfl rfl ?_
    refine r_iadd (q := 72) hX dX3_addTaker_71 rfl ?_
    refine r_putI (a := a0) (ci := 3) (kf := 5) (q := 75) hX hc1 flX3_48 rfl rfl (Or.inl rfl) rfl rfl dX3_addTaker_72 rfl (fun M21 => ?_)
    refine r_lf (hK _) ?_
    exact r_iret hM rfl (Nat.le_of_ble_eq_true rfl) (Nat.le_of_ble_eq_true rfl) dX3_addTaker_75
  · refine r_loop (Hd := fun (s6 : Int32 × Mem) (P : Option Res) => Ref mX3_addTaker X 0 0 Z s6.2 5 [(0, vr a0), (1, vr a1), (2, vi s6.1)] [] P) (fun _ => r_none) (fun s6 K1 hn7 hx8 => ?_) (z2, M)
    refine r_iload_n (i := 2) (x := s6.1) (q := 6) 2 hX dX3_addTaker_5 rfl rfl rfl ?_
    refine r_if_le (tgt := 47) (q := 9) hX dX3_addTaker_6 (by decide) rfl (fun hb9 => ?_) (fun hb9 => ?_)
    · refine r_lf (hx8 _) ?_
      exact hj3 (s6.1, s6.2)
    · refine r_aload_n (i := 0) (x := a0) (q := 10) 0 hX dX3_addTaker_9 rfl rfl rfl ?_
      refine r_getR (a := a0) (ci := 3) (kf := 3) (q := 13) hX hc1 flX3_29 rfl dX3_addTaker_10 rfl ?_
      refine r_iload_n (i := 2) (x := s6.1) (q := 14) 2 hX dX3_addTaker_13 rfl rfl rfl ?_
      refine r_iconst (v := (1 : Int32)) (q := 15) hX dX3_addTaker_14 rfl rfl ?_
      refine r_isub (q := 16) hX dX3_addTaker_15 rfl ?_
      refine r_ck (fun hc10 => ?_)
      refine r_aald (a := (rR s6.2 a0 3)) (i := (s6.1 - (1 : Int32))) (q := 17) hX arT_112 hc10 dX3_addTaker_16 rfl ?_
      refine r_ck (fun hc11 => ?_)
      refine r_getI (a := (rR s6.2 (rR s6.2 a0 3) (ix (s6.1 - (1 : Int32))))) (ci := 7) (kf := 3) (q := 20) hX hc11 flX3_54 rfl rfl dX3_addTaker_17 rfl ?_
      refine r_aload_n (i := 1) (x := a1) (q := 21) 1 hX dX3_addTaker_20 rfl rfl rfl ?_
      refine r_ck (fun hc12 => ?_)
      refine r_getI (a := a1) (ci := 7) (kf := 3) (q := 24) hX hc12 flX3_54 rfl rfl dX3_addTaker_21 rfl ?_
      refine r_icmp_le (tgt := 47) (q := 27) hX dX3_addTaker_24 (by decide) rfl (fun hb13 => ?_) (fun hb13 => ?_)
      · refine r_lf (hx8 _) ?_
        exact hj3 (s6.1, s6.2)
      · refine r_aload_n (i := 0) (x := a0) (q := 28) 0 hX dX3_addTaker_27 rfl rfl rfl ?_
        refine r_getR (a := a0) (ci := 3) (kf := 3) (q := 31) hX hc1 flX3_29 rfl dX3_addTaker_28 rfl ?_
        refine r_iload_n (i := 2) (x := s6.1) (q := 32) 2 hX dX3_addTaker_31 rfl rfl rfl ?_
        refine r_aload_n (i := 0) (x := a0) (q := 33) 0 hX dX3_addTaker_32 rfl rfl rfl ?_
        refine r_getR (a := a0) (ci := 3) (kf := 3) (q := 36) hX hc1 flX3_29 rfl dX3_addTaker_33 rfl ?_
        refine r_iload_n (i := 2) (x := s6.1) (q := 37) 2 hX dX3_addTaker_36 rfl rfl rfl ?_
        refine r_iconst (v := (1 : Int32)) (q := 38) hX dX3_addTaker_37 rfl rfl ?_
        refine r_isub (q := 39) hX dX3_addTaker_38 rfl ?_
        refine r_aald (a := (rR s6.2 a0 3)) (i := (s6.1 - (1 : Int32))) (q := 40) hX arT_112 hc10 dX3_addTaker_39 rfl ?_
        refine r_ck (fun hc14 => ?_)
        refine r_aast (a := (rR s6.2 a0 3)) (v := (rR s6.2 (rR s6.2 a0 3) (ix (s6.1 - (1 : Int32))))) (i := s6.1) (q := 41) hX arT_112 hc14 hc11 dX3_addTaker_40 rfl (fun M15 => ?_)
        refine r_iinc (x := s6.1) (v := (s6.1 + (-1 : Int32))) (q := 44) 2 2 [1, 2, 0] (L1 := [(0, vr a0), (1, vr a1), (2, vi (s6.1 + (-1 : Int32)))]) hX dX3_addTaker_41 rfl rfl (Nat.le_of_ble_eq_true rfl) rfl rfl ?_
        refine r_goto (q := 5) hX dX3_addTaker_44 (by decide) ?_
        refine r_l0 ?_
        exact hn7 ((s6.1 + (-1 : Int32)), M15)
theorem lkX11_92 : Lk RX11 92 yX7_init := gd (hcw2_6 _ (List.mem_of_getElem? (i := 10) rfl)) rfl
theorem lkX11_95 : Lk RX11 95 yX3_addTaker := gd (hcw2_7 _ (List.mem_of_getElem? (i := 15) rfl)) rfl
def mX11_taker : MD := (yX11_taker, cX11_taker, 5, (some .int), 2, 43, 1, 5)
theorem ccX11_taker : Cc mX11_taker 4 := ⟨gd (hcw1_0 _ (List.mem_of_getElem? (i := 1) rfl)) rfl, gd (hcw2_6 _ (List.mem_of_getElem? (i := 7) rfl)) rfl, by decide +kernel, by decide +kernel, by decide +kernel⟩
theorem ivX11_taker : Iv mX11_taker 11 := ⟨Nat.le_of_ble_eq_true rfl, rfl, gd (hcw2_6 _ (List.mem_of_getElem? (i := 5) rfl)) rfl, gd (hcw2_6 _ (List.mem_of_getElem? (i := 6) rfl)) rfl⟩
noncomputable def fX11_taker (Z : Shp) (M : Mem) (a0 : Nat) (x1 : Int32) (x2 : Int32) (x3 : Int32) (x4 : Int32) : Option (Int32 × Shp × Mem) := (if tg Z a0 = (12, 6) then (if tg Z (rR M a0 0) = (4, 11) then (Option.bind (fX3_poundNumbered Z M (rR M a0 0) x2) (fun v3 => (if v3 = 0 then some ((-101 : Int32), Z, M) else (if (fX11_within x1 (0 : Int32) (4 : Int32)) = 0 then some ((-102 : Int32), Z, M) else (if (fX11_within x3 (1 : Int32) (200 : Int32)) = 0 then some ((-102 : Int32), Z, M) else (if (fX11_within x4 (0 : Int32) (9 : Int32)) = 0 then some ((-102 : Int32), Z, M) else (if (rI M (rR M a0 0) 5) < (12 : Int32) then (pu2 (Z ++ [(8, 5)]) (nw M (Z.length + 2)) (fun Z10 M11 => (Option.bind (fX7_init Z10 M11 (Z.length + 2) x1 x2 x3 x4) (fun v14 => (Option.bind (fX3_addTaker Z10 v14 (rR M a0 0) (Z.length + 2)) (fun v16 => some (v16.1, Z10, v16.2))))))) else some ((-104 : Int32), Z, M)))))))) else none) else none)
set_option maxRecDepth 20000 in
theorem kX11_taker (l : Launch) (Z : Shp) (M : Mem) (a0 : Nat) (x1 : Int32) (x2 : Int32) (x3 : Int32) (x4 : Int32) (r : Int32 × Shp × Mem) (h : fX11_taker Z M a0 x1 x2 x3 x4 = some r) : Ct l mX11_taker [vr a0, vi x1, vi x2, vi x3, vi x4] Z M ((some (vi r.1)), r.2.1, r.2.2) := by
  refine Ct.of rfl (Nat.le_of_ble_eq_true rfl) (fun X hM => ?_)
  have hX := hM.1
  refine r_top (mk := fun r => ((some (vi r.1)), r.2.1, r.2.2)) h (fun K hK => ?_)
  unfold fX11_taker
  refine r_aload_n (i := 0) (x := a0) (q := 1) 0 hX dX11_taker_0 rfl rfl rfl ?_
  refine r_ck (fun hc1 => ?_)
  refine r_getR (a := a0) (ci := 11) (kf := 0) (q := 4) hX hc1 flX11_12 rfl dX11_taker_1 rfl ?_
  refine r_iload_n (i := 2) (x := x2) (q := 5) 2 hX dX11_taker_4 rfl rfl rfl ?_
  refine r_ck (fun hc2 => ?_)
  refine r_bind (fun v3 h4 => ?_)
  refine r_cv (a := (rR M a0 0)) (As := [vi x2]) (st := []) (r := (some (vr v3))) (Z1 := Z) (M1 := M) (k1 := 0) (n1 := 0) (st1 := [vr v3]) (q := 8) hX (fun l => kX3_poundNumbered l Z M (rR M a0 0) x2 v3 h4) hc2 ivX3_poundNumbered ccX3_poundNumbered (Or.inl lkX11_51) rfl rfl rfl ⟨Nat.le_of_ble_eq_true rfl, Nat.le_of_ble_eq_true rfl, rfl, rfl, Nat.le_of_ble_eq_true rfl, Nat.le_of_ble_eq_true rfl⟩ (Nat.le_of_ble_eq_true rfl) dX11_taker_5 rfl ?_
  refine r_ifnonnull (tgt := 14) (q := 11) hX dX11_taker_8 (by decide) rfl (fun hb5 => ?_) (fun hb5 => ?_)
  · refine r_bipush (v := (-101 : Int32)) (q := 13) hX dX11_taker_11 rfl rfl ?_
    refine r_lf (hK _) ?_
    exact r_iret hM rfl (Nat.le_of_ble_eq_true rfl) (Nat.le_of_ble_eq_true rfl) dX11_taker_13
  · refine r_iload_n (i := 1) (x := x1) (q := 15) 1 hX dX11_taker_14 rfl rfl rfl ?_
    refine r_iconst (v := (0 : Int32)) (q := 16) hX dX11_taker_15 rfl rfl ?_
    refine r_iconst (v := (4 : Int32)) (q := 17) hX dX11_taker_16 rfl rfl ?_
    refine r_cs (As := [vi x1, vi (0 : Int32), vi (4 : Int32)]) (st := []) (r := (some (vi (fX11_within x1 (0 : Int32) (4 : Int32))))) (Z1 := Z) (M1 := M) (k1 := 0) (n1 := 0) (st1 := [vi (fX11_within x1 (0 : Int32) (4 : Int32))]) (q := 20) hX (fun l => kX11_within l Z M x1 (0 : Int32) (4 : Int32)) stX11_within ccX11_within (Or.inl lkX11_55) rfl rfl rfl ⟨Nat.le_of_ble_eq_true rfl, Nat.le_of_ble_eq_true rfl, rfl, rfl, Nat.le_of_ble_eq_true rfl, Nat.le_of_ble_eq_true rfl⟩ (Nat.le_of_ble_eq_true rfl) dX11_taker_17 rfl ?_
    refine r_if_eq (tgt := 45) (q := 23) hX dX11_taker_20 (by decide) rfl (fun hb6 => ?_) (fun hb6 => ?_)
    · refine r_bipush (v := (-102 : Int32)) (q := 47) hX dX11_taker_45 rfl rfl ?_
      refine r_lf (hK _) ?_
      exact r_iret hM rfl (Nat.le_of_ble_eq_true rfl) (Nat.le_of_ble_eq_true rfl) dX11_taker_47
    · refine r_iload_n (i := 3) (x := x3) (q := 24) 3 hX dX11_taker_23 rfl rfl rfl ?_
      refine r_iconst (v := (1 : Int32)) (q := 25) hX dX11_taker_24 rfl rfl ?_
      refine r_sipush (v := (200 : Int32)) (q := 28) hX dX11_taker_25 rfl rfl ?_
      refine r_cs (As := [vi x3, vi (1 : Int32), vi (200 : Int32)]) (st := []) (r := (some (vi (fX11_within x3 (1 : Int32) (200 : Int32))))) (Z1 := Z) (M1 := M) (k1 := 0) (n1 := 0) (st1 := [vi (fX11_within x3 (1 : Int32) (200 : Int32))]) (q := 31) hX (fun l => kX11_within l Z M x3 (1 : Int32) (200 : Int32)) stX11_within ccX11_within (Or.inl lkX11_55) rfl rfl rfl ⟨Nat.le_of_ble_eq_true rfl, Nat.le_of_ble_eq_true rfl, rfl, rfl, Nat.le_of_ble_eq_true rfl, Nat.le_of_ble_eq_true rfl⟩ (Nat.le_of_ble_eq_true rfl) dX11_taker_28 rfl ?_
      refine r_if_eq (tgt := 45) (q := 34) hX dX11_taker_31 (by decide) rfl (fun hb7 => ?_) (fun hb7 => ?_)
      · refine r_bipush (v := (-102 : Int32)) (q := 47) hX dX11_taker_45 rfl rfl ?_
        refine r_lf (hK _) ?_
        exact r_iret hM rfl (Nat.le_of_ble_eq_true rfl) (Nat.le_of_ble_eq_true rfl) dX11_taker_47
      · refine r_iload (i := 4) (x := x4) (q := 36) 4 hX dX11_taker_34 rfl rfl ?_
        refine r_iconst (v := (0 : Int32)) (q := 37) hX dX11_taker_36 rfl rfl ?_
        refine r_bipush (v := (9 : Int32)) (q := 39) hX dX11_taker_37 rfl rfl ?_
        refine r_cs (As := [vi x4, vi (0 : Int32), vi (9 : Int32)]) (st := []) (r := (some (vi (fX11_within x4 (0 : Int32) (9 : Int32))))) (Z1 := Z) (M1 := M) (k1 := 0) (n1 := 0) (st1 := [vi (fX11_within x4 (0 : Int32) (9 : Int32))]) (q := 42) hX (fun l => kX11_within l Z M x4 (0 : Int32) (9 : Int32)) stX11_within ccX11_within (Or.inl lkX11_55) rfl rfl rfl ⟨Nat.le_of_ble_eq_true rfl, Nat.le_of_ble_eq_true rfl, rfl, rfl, Nat.le_of_ble_eq_true rfl, Nat.le_of_ble_eq_true rfl⟩ (Nat.le_of_ble_eq_true rfl) dX11_taker_39 rfl ?_
        refine r_if_ne (tgt := 48) (q := 45) hX dX11_taker_42 (by decide) rfl (fun hb8 => ?_) (fun hb8 => ?_)
        · refine r_bipush (v := (-102 : Int32)) (q := 47) hX dX11_taker_45 rfl rfl ?_
          refine r_lf (hK _) ?_
          exact r_iret hM rfl (Nat.le_of_ble_eq_true rfl) (Nat.le_of_ble_eq_true rfl) dX11_taker_47
        · refine r_aload_n (i := 0) (x := a0) (q := 49) 0 hX dX11_taker_48 rfl rfl rfl ?_
          refine r_getR (a := a0) (ci := 11) (kf := 0) (q := 52) hX hc1 flX11_12 rfl dX11_taker_49 rfl ?_
          refine r_getI (a := (rR M a0 0)) (ci := 3) (kf := 5) (q := 55) hX hc2 flX11_89 rfl rfl dX11_taker_52 rfl ?_
          refine r_bipush (v := (12 : Int32)) (q := 57) hX dX11_taker_55 rfl rfl ?_
          refine r_icmp_lt (tgt := 63) (q := 60) hX dX11_taker_57 (by decide) rfl (fun hb9 => ?_) (fun hb9 => ?_)
          · refine r_aload_n (i := 0) (x := a0) (q := 64) 0 hX dX11_taker_63 rfl rfl rfl ?_
            refine r_getR (a := a0) (ci := 11) (kf := 0) (q := 67) hX hc1 flX11_12 rfl dX11_taker_64 rfl ?_
            refine r_new (ci := 7) (k1 := 1) (n1 := 5) (q := 70) hX (Nat.le_of_ble_eq_true rfl) (gd (hcw2_6 _ (List.mem_of_getElem? (i := 8) rfl)) rfl) (gd (hcw2_6 _ (List.mem_of_getElem? (i := 9) rfl)) rfl) (gd (hcw1_0 _ (List.mem_of_getElem? (i := 12) rfl)) rfl) rfl (Nat.le_of_ble_eq_true rfl) rfl (Nat.le_of_ble_eq_true rfl) dX11_taker_67 rfl (fun Z10 M11 hc12 he13 => ?_)
            refine r_dup (q := 71) hX dX11_taker_70 rfl rfl ?_
            refine r_iload_n (i := 1) (x := x1) (q := 72) 1 hX dX11_taker_71 rfl rfl rfl ?_
            refine r_iload_n (i := 2) (x := x2) (q := 73) 2 hX dX11_taker_72 rfl rfl rfl ?_
            refine r_iload_n (i := 3) (x := x3) (q := 74) 3 hX dX11_taker_73 rfl rfl rfl ?_
            refine r_iload (i := 4) (x := x4) (q := 76) 4 hX dX11_taker_74 rfl rfl ?_
            refine r_bind (fun v14 h15 => ?_)
            refine r_ci (a := (Z.length + 2)) (As := [vi x1, vi x2, vi x3, vi x4]) (st := [vr (Z.length + 2), vr (rR M a0 0)]) (r := none) (Z1 := Z10) (M1 := v14) (k1 := 1) (n1 := 5) (st1 := [vr (Z.length + 2), vr (rR M a0 0)]) (q := 79) hX (fun l => kX7_init l Z10 M11 (Z.length + 2) x1 x2 x3 x4 v14 h15) hc12 imX7_init rfl rfl ccX7_init (Or.inl lkX11_92) rfl rfl rfl ⟨Nat.le_of_ble_eq_true rfl, Nat.le_of_ble_eq_true rfl, rfl, rfl, Nat.le_of_ble_eq_true rfl, Nat.le_of_ble_eq_true rfl⟩ (Nat.le_of_ble_eq_true rfl) dX11_taker_76 rfl ?_
            refine r_bind (fun v16 h17 => ?_)
            refine r_cv (a := (rR M a0 0)) (As := [vr (Z.length + 2)]) (st := []) (r := (some (vi v16.1))) (Z1 := Z10) (M1 := v16.2) (k1 := 1) (n1 := 5) (st1 := [vi v16.1]) (q := 82) hX (fun l => kX3_addTaker l Z10 v14 (rR M a0 0) (Z.length + 2) v16 h17) (he13 _ _ _ (Nat.succ_pos _) hc2) ivX3_addTaker ccX3_addTaker (Or.inl lkX11_95) rfl rfl rfl ⟨Nat.le_of_ble_eq_true rfl, Nat.le_of_ble_eq_true rfl, rfl, rfl, Nat.le_of_ble_eq_true rfl, Nat.le_of_ble_eq_true rfl⟩ (Nat.le_of_ble_eq_true rfl) dX11_taker_79 rfl ?_
            refine r_lf (hK _) ?_
            exact r_iret hM rfl (Nat.le_of_ble_eq_true rfl) (Nat.le_of_ble_eq_true rfl) dX11_taker_82
          · refine r_bipush (v := (-104 : Int32)) (q := 62) hX dX11_taker_60 rfl rfl ?_
            refine r_lf (hK _) ?_
            exact r_iret hM rfl (Nat.le_of_ble_eq_true rfl) (Nat.le_of_ble_eq_true rfl) dX11_taker_62
def mX2_pageIsText : MD := (yX2_pageIsText, cX2_pageIsText, 3, (some .boolean), 3, 63, 0, 0)
theorem ccX2_pageIsText : Cc mX2_pageIsText 0 := ⟨gd (hcw1_0 _ (List.mem_of_getElem? (i := 5) rfl)) rfl, gd (hcw3_9 _ (List.mem_of_getElem? (i := 18) rfl)) rfl, by decide +kernel, by decide +kernel, by decide +kernel⟩
theorem ivX2_pageIsText : Iv mX2_pageIsText 2 := ⟨Nat.le_of_ble_eq_true rfl, rfl, gd (hcw3_9 _ (List.mem_of_getElem? (i := 16) rfl)) rfl, gd (hcw3_9 _ (List.mem_of_getElem? (i := 17) rfl)) rfl⟩
noncomputable def fX2_pageIsText (Z : Shp) (M : Mem) (a0 : Nat) : Option (Int32) := (Option.bind (loop (fun s4 : Int32 × Int32 => (if tg Z a0 = (3, 4) then (if (rI M a0 1) ≤ s4.2 then some (Sum.inr s4.1) else (if s4.1 = (-1 : Int32) then some (Sum.inr s4.1) else (if aok Z (rR M a0 0) 102 s4.2 then (Option.bind (fX2_step s4.1 (rI M (rR M a0 0) (ix s4.2))) (fun v11 => some (Sum.inl (v11, (s4.2 + (1 : Int32)))))) else none))) else none)) ((0 : Int32), (0 : Int32))) (fun v3 : Int32 => (if (fX11_within v3 (3 : Int32) (6 : Int32)) = 0 then (if (fX11_within v3 (10 : Int32) (13 : Int32)) = 0 then some (0 : Int32) else some (1 : Int32)) else some (1 : Int32))))
set_option maxRecDepth 20000 in
theorem kX2_pageIsText (l : Launch) (Z : Shp) (M : Mem) (a0 : Nat) (r : Int32) (h : fX2_pageIsText Z M a0 = some r) : Ct l mX2_pageIsText [vr a0] Z M ((some (vi r)), Z, M) := by
  refine Ct.of rfl (Nat.le_of_ble_eq_true rfl) (fun X hM => ?_)
  have hX := hM.1
  refine r_top (mk := fun r => ((some (vi r)), Z, M)) h (fun K hK => ?_)
  unfold fX2_pageIsText
  refine r_iconst (v := (0 : Int32)) (q := 1) hX dX2_pageIsText_0 rfl rfl ?_
  refine r_istore_n (x := (0 : Int32)) (q := 2) 1 [1, 0] (L1 := [(0, vr a0), (1, vi (0 : Int32))]) hX dX2_pageIsText_1 rfl (Nat.le_of_ble_eq_true rfl) rfl rfl ?_
  refine r_iconst (v := (0 : Int32)) (q := 3) hX dX2_pageIsText_2 rfl rfl ?_
  refine r_istore_n (x := (0 : Int32)) (q := 4) 2 [1, 2, 0] (L1 := [(0, vr a0), (1, vi (0 : Int32)), (2, vi (0 : Int32))]) hX dX2_pageIsText_3 rfl (Nat.le_of_ble_eq_true rfl) rfl rfl ?_
  refine r_jn (J := fun (v3 : Int32) (P : Option Res) => Ref mX2_pageIsText X 0 0 Z M 34 [(1, vi v3)] [] P) (fun v3 => ?_) (fun K1 hj1 => ?_)
  · refine r_iload_n (i := 1) (x := v3) (q := 35) 0 hX dX2_pageIsText_34 rfl rfl rfl ?_
    refine r_iconst (v := (3 : Int32)) (q := 36) hX dX2_pageIsText_35 rfl rfl ?_
    refine r_bipush (v := (6 : Int32)) (q := 38) hX dX2_pageIsText_36 rfl rfl ?_
    refine r_cs (As := [vi v3, vi (3 : Int32), vi (6 : Int32)]) (st := []) (r := (some (vi (fX11_within v3 (3 : Int32) (6 : Int32))))) (Z1 := Z) (M1 := M) (k1 := 0) (n1 := 0) (st1 := [vi (fX11_within v3 (3 : Int32) (6 : Int32))]) (q := 41) hX (fun l => kX11_within l Z M v3 (3 : Int32) (6 : Int32)) stX11_within ccX11_within (Or.inr ⟨_, lkX2_25⟩) rfl rfl rfl ⟨Nat.le_of_ble_eq_true rfl, Nat.le_of_ble_eq_true rfl, rfl, rfl, Nat.le_of_ble_eq_true rfl, Nat.le_of_ble_eq_true rfl⟩ (Nat.le_of_ble_eq_true rfl) dX2_pageIsText_38 rfl ?_
    refine r_if_ne (tgt := 55) (q := 44) hX dX2_pageIsText_41 (by decide) rfl (fun hb13 => ?_) (fun hb13 => ?_)
    · refine r_iload_n (i := 1) (x := v3) (q := 45) 0 hX dX2_pageIsText_44 rfl rfl rfl ?_
      refine r_bipush (v := (10 : Int32)) (q := 47) hX dX2_pageIsText_45 rfl rfl ?_
      refine r_bipush (v := (13 : Int32)) (q := 49) hX dX2_pageIsText_47 rfl rfl ?_
      refine r_cs (As := [vi v3, vi (10 : Int32), vi (13 : Int32)]) (st := []) (r := (some (vi (fX11_within v3 (10 : Int32) (13 : Int32))))) (Z1 := Z) (M1 := M) (k1 := 0) (n1 := 0) (st1 := [vi (fX11_within v3 (10 : Int32) (13 : Int32))]) (q := 52) hX (fun l => kX11_within l Z M v3 (10 : Int32) (13 : Int32)) stX11_within ccX11_within (Or.inr ⟨_, lkX2_25⟩) rfl rfl rfl ⟨Nat.le_of_ble_eq_true rfl, Nat.le_of_ble_eq_true rfl, rfl, rfl, Nat.le_of_ble_eq_true rfl, Nat.le_of_ble_eq_true rfl⟩ (Nat.le_of_ble_eq_true rfl) dX2_pageIsText_49 rfl ?_
      refine r_if_eq (tgt := 59) (q := 55) hX dX2_pageIsText_52 (by decide) rfl (fun hb14 => ?_) (fun hb14 => ?_)
      · refine r_iconst (v := (0 : Int32)) (q := 60) hX dX2_pageIsText_59 rfl rfl ?_
        refine r_lf (hK _) ?_
        exact r_zret hM rfl (Or.inl rfl) (Nat.le_of_ble_eq_true rfl) (Nat.le_of_ble_eq_true rfl) dX2_pageIsText_60
      · refine r_iconst (v := (1 : Int32)) (q := 56) hX dX2_pageIsText_55 rfl rfl ?_
        refine r_goto (q := 60) hX dX2_pageIsText_56 (by decide) ?_
        refine r_lf (hK _) ?_
        exact r_zret hM rfl (Or.inr rfl) (Nat.le_of_ble_eq_true rfl) (Nat.le_of_ble_eq_true rfl) dX2_pageIsText_60
    · refine r_iconst (v := (1 : Int32)) (q := 56) hX dX2_pageIsText_55 rfl rfl ?_
      refine r_goto (q := 60) hX dX2_pageIsText_56 (by decide) ?_
      refine r_lf (hK _) ?_
      exact r_zret hM rfl (Or.inr rfl) (Nat.le_of_ble_eq_true rfl) (Nat.le_of_ble_eq_true rfl) dX2_pageIsText_60
  · refine r_loop (Hd := fun (s4 : Int32 × Int32) (P : Option Res) => Ref mX2_pageIsText X 0 0 Z M 4 [(0, vr a0), (1, vi s4.1), (2, vi s4.2)] [] P) (fun _ => r_none) (fun s4 K1 hn5 hx6 => ?_) ((0 : Int32), (0 : Int32))
    refine r_iload_n (i := 2) (x := s4.2) (q := 5) 2 hX dX2_pageIsText_4 rfl rfl rfl ?_
    refine r_aload_n (i := 0) (x := a0) (q := 6) 0 hX dX2_pageIsText_5 rfl rfl rfl ?_
    refine r_ck (fun hc7 => ?_)
    refine r_getI (a := a0) (ci := 2) (kf := 1) (q := 9) hX hc7 flX2_33 rfl rfl dX2_pageIsText_6 rfl ?_
    refine r_icmp_ge (tgt := 34) (q := 12) hX dX2_pageIsText_9 (by decide) rfl (fun hb8 => ?_) (fun hb8 => ?_)
    · refine r_lf (hx6 _) ?_
      refine r_sub [1] rfl ?_
      exact hj1 s4.1
    · refine r_iload_n (i := 1) (x := s4.1) (q := 13) 1 hX dX2_pageIsText_12 rfl rfl rfl ?_
      refine r_iconst (v := (-1 : Int32)) (q := 14) hX dX2_pageIsText_13 rfl rfl ?_
      refine r_icmp_eq (tgt := 34) (q := 17) hX dX2_pageIsText_14 (by decide) rfl (fun hb9 => ?_) (fun hb9 => ?_)
      · refine r_lf (hx6 _) ?_
        refine r_sub [1] rfl ?_
        exact hj1 s4.1
      · refine r_iload_n (i := 1) (x := s4.1) (q := 18) 1 hX dX2_pageIsText_17 rfl rfl rfl ?_
        refine r_aload_n (i := 0) (x := a0) (q := 19) 0 hX dX2_pageIsText_18 rfl rfl rfl ?_
        refine r_getR (a := a0) (ci := 2) (kf := 0) (q := 22) hX hc7 flX2_11 rfl dX2_pageIsText_19 rfl ?_
        refine r_iload_n (i := 2) (x := s4.2) (q := 23) 2 hX dX2_pageIsText_22 rfl rfl rfl ?_
        refine r_ck (fun hc10 => ?_)
        refine r_bald (a := (rR M a0 0)) (i := s4.2) (q := 24) hX hc10 dX2_pageIsText_23 rfl ?_
        refine r_bind (fun v11 h12 => ?_)
        refine r_cs (As := [vi s4.1, vi (rI M (rR M a0 0) (ix s4.2))]) (st := []) (r := (some (vi v11))) (Z1 := Z) (M1 := M) (k1 := 0) (n1 := 0) (st1 := [vi v11]) (q := 27) hX (fun l => kX2_step l Z M s4.1 (rI M (rR M a0 0) (ix s4.2)) v11 h12) stX2_step ccX2_step (Or.inl lkX2_36) rfl rfl rfl ⟨Nat.le_of_ble_eq_true rfl, Nat.le_of_ble_eq_true rfl, rfl, rfl, Nat.le_of_ble_eq_true rfl, Nat.le_of_ble_eq_true rfl⟩ (Nat.le_of_ble_eq_true rfl) dX2_pageIsText_24 rfl ?_
        refine r_istore_n (x := v11) (q := 28) 1 [1, 0, 3] (L1 := [(0, vr a0), (1, vi v11), (2, vi s4.2)]) hX dX2_pageIsText_27 rfl (Nat.le_of_ble_eq_true rfl) rfl rfl ?_
        refine r_iinc (x := s4.2) (v := (s4.2 + (1 : Int32))) (q := 31) 2 2 [1, 2, 0] (L1 := [(0, vr a0), (1, vi v11), (2, vi (s4.2 + (1 : Int32)))]) hX dX2_pageIsText_28 rfl rfl (Nat.le_of_ble_eq_true rfl) rfl rfl ?_
        refine r_goto (q := 4) hX dX2_pageIsText_31 (by decide) ?_
        refine r_l0 ?_
        exact hn5 (v11, (s4.2 + (1 : Int32)))
theorem flX8_28 : FL RX8 28 8 2 := ⟨Nat.le_of_ble_eq_true rfl, Nat.le_of_ble_eq_true rfl, gd (hcw3_11 _ (List.mem_of_getElem? (i := 6) rfl)) rfl⟩
def mX8_init : MD := (yX8_init, cX8_init, 4, none, 1, 20, 0, 0)
theorem ccX8_init : Cc mX8_init 1 := ⟨gd (hcw1_0 _ (List.mem_of_getElem? (i := 14) rfl)) rfl, gd (hcw3_11 _ (List.mem_of_getElem? (i := 1) rfl)) rfl, by decide +kernel, by decide +kernel, by decide +kernel⟩
theorem imX8_init : Cond.instanceMethod (yN mX8_init) ∈ lw_gd := gd (hcw3_11 _ (List.mem_of_getElem? (i := 0) rfl)) rfl
noncomputable def fX8_init (Z : Shp) (M : Mem) (a0 : Nat) (a1 : Nat) : Option (Mem) := (if tg Z a0 = (9, 6) then (pu (wI M a0 5 (99 : Int32)) (fun M2 => (pu (wR M2 a0 0 a1) (fun M3 => (if (tg Z a1).1 = 102 then (Option.bind (if (nI (tg Z a1).2) ≤ 0 then some (0 : Int32) else (if aok Z a1 102 (0 : Int32) then (if (rI M3 a1 (ix (0 : Int32))) = (67 : Int32) then some (1 : Int32) else some (0 : Int32)) else none)) (fun v8 : Int32 => (pu (wI M3 a0 1 v8) (fun M11 => (Option.bind (loop (fun s15 : Int32 × Int32 => (if (nI (tg Z a1).2) ≤ s15.1 then some (Sum.inr (s15.1, s15.2)) else (if aok Z a1 102 s15.1 then (if (fX2_isDigit (rI M11 a1 (ix s15.1))) = 0 then some (Sum.inr (s15.1, s15.2)) else (pu (((((10 : Int32) * s15.2) + (rI M11 a1 (ix s15.1))) - (48 : Int32))) (fun z21 => some (Sum.inl ((s15.1 + (1 : Int32)), z21))))) else none))) ((2 : Int32), (0 : Int32))) (fun v14 : Int32 × Int32 => (pu (wI M11 a0 2 v14.2) (fun M22 => (pu (wI M22 a0 3 (v14.1 + (1 : Int32))) (fun M23 => some M23)))))))))) else none))))) else none)
set_option maxRecDepth 20000 in
theorem kX8_init (l : Launch) (Z : Shp) (M : Mem) (a0 : Nat) (a1 : Nat) (r : Mem) (h : fX8_init Z M a0 a1 = some r) : Ct l mX8_init [vr a0, vr a1] Z M (none, Z, r) := by
  refine Ct.of rfl (Nat.le_of_ble_eq_true rfl) (fun X hM => ?_)
  have hX := hM.1
  refine r_top (mk := fun r => (none, Z, r)) h (fun K hK => ?_)
  unfold fX8_init
  refine r_aload_n (i := 0) (x := a0) (q := 1) 0 hX dX8_init_0 rfl rfl rfl ?_
  refine r_ck (fun hc1 => ?_)
  refine r_objI (ci := 8) (q := 4) hX (gd (hcw3_11 _ (List.mem_of_getElem? (i := 2) rfl)) rfl) hc1 (Nat.le_of_ble_eq_true rfl) (Nat.le_of_ble_eq_true rfl) dX8_init_1 rfl ?_
  refine r_aload_n (i := 0) (x := a0) (q := 5) 0 hX dX8_init_4 rfl rfl rfl ?_
  refine r_bipush (v := (99 : Int32)) (q := 7) hX dX8_init_5 rfl rfl ?_
  refine r_putI (a := a0) (ci := 8) (kf := 5) (q := 10) hX hc1 flX8_9 rfl rfl (Or.inl rfl) rfl rfl dX8_init_7 rfl (fun M2 => ?_)
  refine r_aload_n (i := 0) (x := a0) (q := 11) 0 hX dX8_init_10 rfl rfl rfl ?_
  refine r_aload_n (i := 1) (x := a1) (q := 12) 1 hX dX8_init_11 rfl rfl rfl ?_
  refine r_putR (a := a0) (ci := 8) (kf := 0) (q := 15) hX hc1 flX8_15 rfl (Or.inr ⟨rfl, rfl, rfl⟩) nf_arr dX8_init_12 rfl (fun M3 => ?_)
  refine r_aload_n (i := 0) (x := a0) (q := 16) 0 hX dX8_init_15 rfl rfl rfl ?_
  refine r_aload_n (i := 1) (x := a1) (q := 17) 1 hX dX8_init_16 rfl rfl rfl ?_
  refine r_ck (fun hc4 => ?_)
  refine r_alen (a := a1) (q := 18) hX arL_102 hc4 dX8_init_17 rfl ?_
  refine r_jn (J := fun (v8 : Int32) (P : Option Res) => Ref mX8_init X 0 0 Z M3 34 [(0, vr a0), (1, vr a1)] [vi v8, vr a0] P) (fun v8 => ?_) (fun K1 hj6 => ?_)
  · refine r_putI (a := a0) (ci := 8) (kf := 1) (q := 37) hX hc1 flX8_19 rfl rfl (Or.inr ⟨rfl, rfl, rfl⟩) rfl rfl dX8_init_34 rfl (fun M11 => ?_)
    refine r_iconst (v := (2 : Int32)) (q := 38) hX dX8_init_37 rfl rfl ?_
    refine r_istore_n (x := (2 : Int32)) (q := 39) 2 [1, 2, 0] (L1 := [(0, vr a0), (1, vr a1), (2, vi (2 : Int32))]) hX dX8_init_38 rfl (Nat.le_of_ble_eq_true rfl) rfl rfl ?_
    refine r_iconst (v := (0 : Int32)) (q := 40) hX dX8_init_39 rfl rfl ?_
    refine r_istore_n (x := (0 : Int32)) (q := 41) 3 [1, 2, 3, 0] (L1 := [(0, vr a0), (1, vr a1), (2, vi (2 : Int32)), (3, vi (0 : Int32))]) hX dX8_init_40 rfl (Nat.le_of_ble_eq_true rfl) rfl rfl ?_
    refine r_jn (J := fun (v14 : Int32 × Int32) (P : Option Res) => Ref mX8_init X 0 0 Z M11 74 [(0, vr a0), (2, vi v14.1), (3, vi v14.2)] [] P) (fun v14 => ?_) (fun K1 hj12 => ?_)
    · refine r_aload_n (i := 0) (x := a0) (q := 75) 0 hX dX8_init_74 rfl rfl rfl ?_
      refine r_iload_n (i := 3) (x := v14.2) (q := 76) 2 hX dX8_init_75 rfl rfl rfl ?_
      refine r_putI (a := a0) (ci := 8) (kf := 2) (q := 79) hX hc1 flX8_28 rfl rfl (Or.inr ⟨rfl, rfl, rfl⟩) rfl rfl dX8_init_76 rfl (fun M22 => ?_)
      refine r_aload_n (i := 0) (x := a0) (q := 80) 0 hX dX8_init_79 rfl rfl rfl ?_
      refine r_iload_n (i := 2) (x := v14.1) (q := 81) 1 hX dX8_init_80 rfl rfl rfl ?_
      refine r_iconst (v := (1 : Int32)) (q := 82) hX dX8_init_81 rfl rfl ?_
      refine r_iadd (q := 83) hX dX8_init_82 rfl ?_
      refine r_putI (a := a0) (ci := 8) (kf := 3) (q := 86) hX hc1 flX8_31 rfl rfl (Or.inr ⟨rfl, rfl, rfl⟩) rfl rfl dX8_init_83 rfl (fun M23 => ?_)
      refine r_lf (hK _) ?_
      exact r_vret hM rfl (Nat.le_of_ble_eq_true rfl) (Nat.le_of_ble_eq_true rfl) dX8_init_86
    · refine r_loop (Hd := fun (s15 : Int32 × Int32) (P : Option Res) => Ref mX8_init X 0 0 Z M11 41 [(0, vr a0), (1, vr a1), (2, vi s15.1), (3, vi s15.2)] [] P) (fun _ => r_none) (fun s15 K1 hn16 hx17 => ?_) ((2 : Int32), (0 : Int32))
      refine r_iload_n (i := 2) (x := s15.1) (q := 42) 2 hX dX8_init_41 rfl rfl rfl ?_
      refine r_aload_n (i := 1) (x := a1) (q := 43) 1 hX dX8_init_42 rfl rfl rfl ?_
      refine r_alen (a := a1) (q := 44) hX arL_102 hc4 dX8_init_43 rfl ?_
      refine r_icmp_ge (tgt := 74) (q := 47) hX dX8_init_44 (by decide) rfl (fun hb18 => ?_) (fun hb18 => ?_)
      · refine r_lf (hx17 _) ?_
        refine r_sub [0, 2, 3] rfl ?_
        exact hj12 (s15.1, s15.2)
      · refine r_aload_n (i := 1) (x := a1) (q := 48) 1 hX dX8_init_47 rfl rfl rfl ?_
        refine r_iload_n (i := 2) (x := s15.1) (q := 49) 2 hX dX8_init_48 rfl rfl rfl ?_
        refine r_ck (fun hc19 => ?_)
        refine r_bald (a := a1) (i := s15.1) (q := 50) hX hc19 dX8_init_49 rfl ?_
        refine r_cs (As := [vi (rI M11 a1 (ix s15.1))]) (st := []) (r := (some (vi (fX2_isDigit (rI M11 a1 (ix s15.1)))))) (Z1 := Z) (M1 := M11) (k1 := 0) (n1 := 0) (st1 := [vi (fX2_isDigit (rI M11 a1 (ix s15.1)))]) (q := 53) hX (fun l => kX2_isDigit l Z M11 (rI M11 a1 (ix s15.1))) stX2_isDigit ccX2_isDigit (Or.inl lkX8_22) rfl rfl rfl ⟨Nat.le_of_ble_eq_true rfl, Nat.le_of_ble_eq_true rfl, rfl, rfl, Nat.le_of_ble_eq_true rfl, Nat.le_of_ble_eq_true rfl⟩ (Nat.le_of_ble_eq_true rfl) dX8_init_50 rfl ?_
        refine r_if_eq (tgt := 74) (q := 56) hX dX8_init_53 (by decide) rfl (fun hb20 => ?_) (fun hb20 => ?_)
        · refine r_lf (hx17 _) ?_
          refine r_sub [0, 2, 3] rfl ?_
          exact hj12 (s15.1, s15.2)
        · refine r_bipush (v := (10 : Int32)) (q := 58) hX dX8_init_56 rfl rfl ?_
          refine r_iload_n (i := 3) (x := s15.2) (q := 59) 3 hX dX8_init_58 rfl rfl rfl ?_
          refine r_imul (q := 60) hX dX8_init_59 rfl ?_
          refine r_aload_n (i := 1) (x := a1) (q := 61) 1 hX dX8_init_60 rfl rfl rfl ?_
          refine r_iload_n (i := 2) (x := s15.1) (q := 62) 2 hX dX8_init_61 rfl rfl rfl ?_
          refine r_bald (a := a1) (i := s15.1) (q := 63) hX hc19 dX8_init_62 rfl ?_
          refine r_iadd (q := 64) hX dX8_init_63 rfl ?_
          refine r_bipush (v := (48 : Int32)) (q := 66) hX dX8_init_64 rfl rfl ?_
          refine r_isub (q := 67) hX dX8_init_66 rfl ?_
          refine r_istore_nP (x := ((((10 : Int32) * s15.2) + (rI M11 a1 (ix s15.1))) - (48 : Int32))) (q := 68) 3 [1, 2, 3, 0] (fun z21 => [(0, vr a0), (1, vr a1), (2, vi s15.1), (3, vi z21)]) hX dX8_init_67 rfl (Nat.le_of_ble_eq_true rfl) (fun _ => rfl) rfl (fun z21 => ?_)
          refine r_iinc (x := s15.1) (v := (s15.1 + (1 : Int32))) (q := 71) 2 2 [1, 2, 0, 4] (L1 := [(0, vr a0), (1, vr a1), (2, vi (s15.1 + (1 : Int32))), (3, vi z21)]) hX dX8_init_68 rfl rfl (Nat.le_of_ble_eq_true rfl) rfl rfl ?_
          refine r_goto (q := 41) hX dX8_init_71 (by decide) ?_
          refine r_l0 ?_
          exact hn16 ((s15.1 + (1 : Int32)), z21)
  · refine r_if_le (tgt := 33) (q := 21) hX dX8_init_18 (by decide) rfl (fun hb5 => ?_) (fun hb5 => ?_)
    · refine r_iconst (v := (0 : Int32)) (q := 34) hX dX8_init_33 rfl rfl ?_
      refine r_l0 ?_
      exact hj6 (0 : Int32)
    · refine r_aload_n (i := 1) (x := a1) (q := 22) 1 hX dX8_init_21 rfl rfl rfl ?_
      refine r_iconst (v := (0 : Int32)) (q := 23) hX dX8_init_22 rfl rfl ?_
      refine r_ck (fun hc9 => ?_)
      refine r_bald (a := a1) (i := (0 : Int32)) (q := 24) hX hc9 dX8_init_23 rfl ?_
      refine r_bipush (v := (67 : Int32)) (q := 26) hX dX8_init_24 rfl rfl ?_
      refine r_icmp_ne (tgt := 33) (q := 29) hX dX8_init_26 (by decide) rfl (fun hb10 => ?_) (fun hb10 => ?_)
      · refine r_iconst (v := (1 : Int32)) (q := 30) hX dX8_init_29 rfl rfl ?_
        refine r_goto (q := 34) hX dX8_init_30 (by decide) ?_
        refine r_l0 ?_
        exact hj6 (1 : Int32)
      · refine r_iconst (v := (0 : Int32)) (q := 34) hX dX8_init_33 rfl rfl ?_
        refine r_l0 ?_
        exact hj6 (0 : Int32)
theorem lkX2_59 : Lk RX2 59 yJ7_copyOf_9075b := gd (hcw3_10 _ (List.mem_of_getElem? (i := 5) rfl)) rfl
theorem lkX2_65 : Lk RX2 65 yX8_init := gd (hcw3_10 _ (List.mem_of_getElem? (i := 19) rfl)) rfl
def mX2_takeText : MD := (yX2_takeText, cX2_takeText, 1, (some .int), 2, 82, 2, 66)
theorem ccX2_takeText : Cc mX2_takeText 0 := ⟨gd (hcw1_0 _ (List.mem_of_getElem? (i := 5) rfl)) rfl, gd (hcw3_10 _ (List.mem_of_getElem? (i := 3) rfl)) rfl, by decide +kernel, by decide +kernel, by decide +kernel⟩
theorem ivX2_takeText : Iv mX2_takeText 2 := ⟨Nat.le_of_ble_eq_true rfl, rfl, gd (hcw3_10 _ (List.mem_of_getElem? (i := 1) rfl)) rfl, gd (hcw3_10 _ (List.mem_of_getElem? (i := 2) rfl)) rfl⟩
noncomputable def fX2_takeText (Z : Shp) (M : Mem) (a0 : Nat) : Option (Int32 × Shp × Mem) := (if tg Z a0 = (3, 4) then (if (rI M a0 3) < (16 : Int32) then (pu2 (Z ++ [(9, 6)]) (nw M (Z.length + 2)) (fun Z3 M4 => (Option.bind (fJ7_copyOf_9075b Z3 M4 (rR M4 a0 0) (rI M4 a0 1)) (fun v7 => (if tg v7.2.1 (Z.length + 2) = (9, 6) then (Option.bind (fX8_init v7.2.1 v7.2.2 (Z.length + 2) v7.1) (fun v10 => (if aok v7.2.1 (rR M a0 2) 114 (rI M a0 3) then (pu (wR v10 (rR M a0 2) (ix (rI M a0 3)) (Z.length + 2)) (fun M13 => (if tg v7.2.1 a0 = (3, 4) then (pu (wI M13 a0 1 (0 : Int32)) (fun M15 => (pu (wI M15 a0 3 ((rI M15 a0 3) + (1 : Int32))) (fun M16 => some ((rI M15 a0 3), v7.2.1, M16))))) else none))) else none))) else none))))) else some ((-104 : Int32), Z, M)) else none)
set_option maxRecDepth 20000 in
theorem kX2_takeText (l : Launch) (Z : Shp) (M : Mem) (a0 : Nat) (r : Int32 × Shp × Mem) (h : fX2_takeText Z M a0 = some r) : Ct l mX2_takeText [vr a0] Z M ((some (vi r.1)), r.2.1, r.2.2) := by
  refine Ct.of rfl (Nat.le_of_ble_eq_true rfl) (fun X hM => ?_)
  have hX := hM.1
  refine r_top (mk := fun r => ((some (vi r.1)), r.2.1, r.2.2)) h (fun K hK => ?_)
  unfold fX2_takeText
  refine r_aload_n (i := 0) (x := a0) (q := 1) 0 hX dX2_takeText_0 rfl rfl rfl ?_
  refine r_ck (fun hc1 => ?_)
  refine r_getI (a := a0) (ci := 2) (kf := 3) (q := 4) hX hc1 flX2_21 rfl rfl dX2_takeText_1 rfl ?_
  refine r_bipush (v := (16 : Int32)) (q := 6) hX dX2_takeText_4 rfl rfl ?_
  refine r_icmp_lt (tgt := 12) (q := 9) hX dX2_takeText_6 (by decide) rfl (fun hb2 => ?_) (fun hb2 => ?_)
  · refine r_aload_n (i := 0) (x := a0) (q := 13) 0 hX dX2_takeText_12 rfl rfl rfl ?_
    refine r_getR (a := a0) (ci := 2) (kf := 2) (q := 16) hX hc1 flX2_17 rfl dX2_takeText_13 rfl ?_
    refine r_aload_n (i := 0) (x := a0) (q := 17) 0 hX dX2_takeText_16 rfl rfl rfl ?_
    refine r_getI (a := a0) (ci := 2) (kf := 3) (q := 20) hX hc1 flX2_21 rfl rfl dX2_takeText_17 rfl ?_
    refine r_new (ci := 8) (k1 := 1) (n1 := 6) (q := 23) hX (Nat.le_of_ble_eq_true rfl) (gd (hcw1_6 _ (List.mem_of_getElem? (i := 17) rfl)) rfl) (gd (hcw3_10 _ (List.mem_of_getElem? (i := 4) rfl)) rfl) (gd (hcw1_0 _ (List.mem_of_getElem? (i := 14) rfl)) rfl) rfl (Nat.le_of_ble_eq_true rfl) rfl (Nat.le_of_ble_eq_true rfl) dX2_takeText_20 rfl (fun Z3 M4 hc5 he6 => ?_)
    refine r_dup (q := 24) hX dX2_takeText_23 rfl rfl ?_
    refine r_aload_n (i := 0) (x := a0) (q := 25) 0 hX dX2_takeText_24 rfl rfl rfl ?_
    refine r_getR (a := a0) (ci := 2) (kf := 0) (q := 28) hX (he6 _ _ _ (Nat.succ_pos _) hc1) flX2_11 rfl dX2_takeText_25 rfl ?_
    refine r_aload_n (i := 0) (x := a0) (q := 29) 0 hX dX2_takeText_28 rfl rfl rfl ?_
    refine r_getI (a := a0) (ci := 2) (kf := 1) (q := 32) hX (he6 _ _ _ (Nat.succ_pos _) hc1) flX2_33 rfl rfl dX2_takeText_29 rfl ?_
    refine r_bind (fun v7 h8 => ?_)
    refine r_cs (As := [vr (rR M4 a0 0), vi (rI M4 a0 1)]) (st := [vr (Z.length + 2), vr (Z.length + 2), vi (rI M a0 3), vr (rR M a0 2)]) (r := (some (vr v7.1))) (Z1 := v7.2.1) (M1 := v7.2.2) (k1 := 2) (n1 := 66) (st1 := [vr v7.1, vr (Z.length + 2), vr (Z.length + 2), vi (rI M a0 3), vr (rR M a0 2)]) (q := 35) hX (fun l => kJ7_copyOf_9075b l Z3 M4 (rR M4 a0 0) (rI M4 a0 1) v7 h8) stJ7_copyOf_9075b ccJ7_copyOf_9075b (Or.inl lkX2_59) rfl rfl rfl ⟨Nat.le_of_ble_eq_true rfl, Nat.le_of_ble_eq_true rfl, rfl, rfl, Nat.le_of_ble_eq_true rfl, Nat.le_of_ble_eq_true rfl⟩ (Nat.le_of_ble_eq_true rfl) dX2_takeText_32 rfl ?_
    refine r_ck (fun hc9 => ?_)
    refine r_bind (fun v10 h11 => ?_)
    refine r_ci (a := (Z.length + 2)) (As := [vr v7.1]) (st := [vr (Z.length + 2), vi (rI M a0 3), vr (rR M a0 2)]) (r := none) (Z1 := v7.2.1) (M1 := v10) (k1 := 2) (n1 := 66) (st1 := [vr (Z.length + 2), vi (rI M a0 3), vr (rR M a0 2)]) (q := 38) hX (fun l => kX8_init l v7.2.1 v7.2.2 (Z.length + 2) v7.1 v10 h11) hc9 imX8_init rfl rfl ccX8_init (Or.inl lkX2_65) rfl rfl rfl ⟨Nat.le_of_ble_eq_true rfl, Nat.le_of_ble_eq_true rfl, rfl, rfl, Nat.le_of_ble_eq_true rfl, Nat.le_of_ble_eq_true rfl⟩ (Nat.le_of_ble_eq_true rfl) dX2_takeText_35 rfl ?_
    refine r_ck (fun hc12 => ?_)
    refine r_aast (a := (rR M a0 2)) (v := (Z.length + 2)) (i := (rI M a0 3)) (q := 39) hX arT_114 hc12 hc9 dX2_takeText_38 rfl (fun M13 => ?_)
    refine r_aload_n (i := 0) (x := a0) (q := 40) 0 hX dX2_takeText_39 rfl rfl rfl ?_
    refine r_iconst (v := (0 : Int32)) (q := 41) hX dX2_takeText_40 rfl rfl ?_
    refine r_ck (fun hc14 => ?_)
    refine r_putI (a := a0) (ci := 2) (kf := 1) (q := 44) hX hc14 flX2_33 rfl rfl (Or.inl rfl) rfl rfl dX2_takeText_41 rfl (fun M15 => ?_)
    refine r_aload_n (i := 0) (x := a0) (q := 45) 0 hX dX2_takeText_44 rfl rfl rfl ?_
    refine r_dup (q := 46) hX dX2_takeText_45 rfl rfl ?_
    refine r_getI (a := a0) (ci := 2) (kf := 3) (q := 49) hX hc14 flX2_21 rfl rfl dX2_takeText_46 rfl ?_
    refine r_dup_x1 (q := 50) hX dX2_takeText_49 rfl rfl rfl ?_
    refine r_iconst (v := (1 : Int32)) (q := 51) hX dX2_takeText_50 rfl rfl ?_
    refine r_iadd (q := 52) hX dX2_takeText_51 rfl ?_
    refine r_putI (a := a0) (ci := 2) (kf := 3) (q := 55) hX hc14 flX2_21 rfl rfl (Or.inl rfl) rfl rfl dX2_takeText_52 rfl (fun M16 => ?_)
    refine r_lf (hK _) ?_
    exact r_iret hM rfl (Nat.le_of_ble_eq_true rfl) (Nat.le_of_ble_eq_true rfl) dX2_takeText_55
  · refine r_bipush (v := (-104 : Int32)) (q := 11) hX dX2_takeText_9 rfl rfl ?_
    refine r_lf (hK _) ?_
    exact r_iret hM rfl (Nat.le_of_ble_eq_true rfl) (Nat.le_of_ble_eq_true rfl) dX2_takeText_11
theorem lkX11_180 : Lk RX11 180 yX2_pageIsText := gd (hcw3_9 _ (List.mem_of_getElem? (i := 15) rfl)) rfl
theorem lkX11_184 : Lk RX11 184 yX2_takeText := gd (hcw3_10 _ (List.mem_of_getElem? (i := 0) rfl)) rfl
def mX11_text : MD := (yX11_text, cX11_text, 1, (some .int), 4, 102, 2, 66)
theorem ccX11_text : Cc mX11_text 0 := ⟨gd (hcw1_0 _ (List.mem_of_getElem? (i := 1) rfl)) rfl, gd (hcw3_9 _ (List.mem_of_getElem? (i := 14) rfl)) rfl, by decide +kernel, by decide +kernel, by decide +kernel⟩
theorem ivX11_text : Iv mX11_text 11 := ⟨Nat.le_of_ble_eq_true rfl, rfl, gd (hcw3_9 _ (List.mem_of_getElem? (i := 12) rfl)) rfl, gd (hcw3_9 _ (List.mem_of_getElem? (i := 13) rfl)) rfl⟩
noncomputable def fX11_text (Z : Shp) (M : Mem) (a0 : Nat) : Option (Int32 × Shp × Mem) := (if tg Z a0 = (12, 6) then (if tg Z (rR M a0 1) = (3, 4) then (Option.bind (fX2_pageIsText Z M (rR M a0 1)) (fun v3 => (if v3 = 0 then some ((-103 : Int32), Z, M) else (Option.bind (fX2_takeText Z M (rR M a0 1)) (fun v6 => some (v6.1, v6.2.1, v6.2.2)))))) else none) else none)
set_option maxRecDepth 20000 in
theorem kX11_text (l : Launch) (Z : Shp) (M : Mem) (a0 : Nat) (r : Int32 × Shp × Mem) (h : fX11_text Z M a0 = some r) : Ct l mX11_text [vr a0] Z M ((some (vi r.1)), r.2.1, r.2.2) := by
  refine Ct.of rfl (Nat.le_of_ble_eq_true rfl) (fun X hM => ?_)
  have hX := hM.1
  refine r_top (mk := fun r => ((some (vi r.1)), r.2.1, r.2.2)) h (fun K hK => ?_)
  unfold fX11_text
  refine r_aload_n (i := 0) (x := a0) (q := 1) 0 hX dX11_text_0 rfl rfl rfl ?_
  refine r_ck (fun hc1 => ?_)
  refine r_getR (a := a0) (ci := 11) (kf := 1) (q := 4) hX hc1 flX11_19 rfl dX11_text_1 rfl ?_
  refine r_ck (fun hc2 => ?_)
  refine r_bind (fun v3 h4 => ?_)
  refine r_cv (a := (rR M a0 1)) (As := []) (st := []) (r := (some (vi v3))) (Z1 := Z) (M1 := M) (k1 := 0) (n1 := 0) (st1 := [vi v3]) (q := 7) hX (fun l => kX2_pageIsText l Z M (rR M a0 1) v3 h4) hc2 ivX2_pageIsText ccX2_pageIsText (Or.inl lkX11_180) rfl rfl rfl ⟨Nat.le_of_ble_eq_true rfl, Nat.le_of_ble_eq_true rfl, rfl, rfl, Nat.le_of_ble_eq_true rfl, Nat.le_of_ble_eq_true rfl⟩ (Nat.le_of_ble_eq_true rfl) dX11_text_4 rfl ?_
  refine r_if_ne (tgt := 13) (q := 10) hX dX11_text_7 (by decide) rfl (fun hb5 => ?_) (fun hb5 => ?_)
  · refine r_bipush (v := (-103 : Int32)) (q := 12) hX dX11_text_10 rfl rfl ?_
    refine r_lf (hK _) ?_
    exact r_iret hM rfl (Nat.le_of_ble_eq_true rfl) (Nat.le_of_ble_eq_true rfl) dX11_text_12
  · refine r_aload_n (i := 0) (x := a0) (q := 14) 0 hX dX11_text_13 rfl rfl rfl ?_
    refine r_getR (a := a0) (ci := 11) (kf := 1) (q := 17) hX hc1 flX11_19 rfl dX11_text_14 rfl ?_
    refine r_bind (fun v6 h7 => ?_)
    refine r_cv (a := (rR M a0 1)) (As := []) (st := []) (r := (some (vi v6.1))) (Z1 := v6.2.1) (M1 := v6.2.2) (k1 := 2) (n1 := 66) (st1 := [vi v6.1]) (q := 20) hX (fun l => kX2_takeText l Z M (rR M a0 1) v6 h7) hc2 ivX2_takeText ccX2_takeText (Or.inl lkX11_184) rfl rfl rfl ⟨Nat.le_of_ble_eq_true rfl, Nat.le_of_ble_eq_true rfl, rfl, rfl, Nat.le_of_ble_eq_true rfl, Nat.le_of_ble_eq_true rfl⟩ (Nat.le_of_ble_eq_true rfl) dX11_text_17 rfl ?_
    refine r_lf (hK _) ?_
    exact r_iret hM rfl (Nat.le_of_ble_eq_true rfl) (Nat.le_of_ble_eq_true rfl) dX11_text_20
def mX11_toll : MD := (yX11_toll, cX11_toll, 4, (some .int), 6, 152, 0, 0)
theorem ccX11_toll : Cc mX11_toll 2 := ⟨gd (hcw1_0 _ (List.mem_of_getElem? (i := 1) rfl)) rfl, gd (hcw4_2 _ (List.mem_of_getElem? (i := 14) rfl)) rfl, by decide +kernel, by decide +kernel, by decide +kernel⟩
theorem ivX11_toll : Iv mX11_toll 11 := ⟨Nat.le_of_ble_eq_true rfl, rfl, gd (hcw4_2 _ (List.mem_of_getElem? (i := 12) rfl)) rfl, gd (hcw4_2 _ (List.mem_of_getElem? (i := 13) rfl)) rfl⟩
noncomputable def fX11_toll (Z : Shp) (M : Mem) (a0 : Nat) (x1 : Int32) (x2 : Int32) : Option (Int32) := (if tg Z a0 = (12, 6) then (if tg Z (rR M a0 0) = (4, 11) then (Option.bind (fX3_boatNumbered Z M (rR M a0 0) x1) (fun v3 => (if v3 = 0 then some (-101 : Int32) else (if (fX11_within x2 (0 : Int32) (99 : Int32)) = 0 then some (-102 : Int32) else (if tg Z (rR M a0 1) = (3, 4) then (Option.bind (fX2_says Z M (rR M a0 1) (0 : Int32) v3 x2) (fun v8 => (if tg Z v3 = (2, 10) then (Option.bind (fX1_tonMiles Z M v3) (fun v11 => some (v8 * v11))) else none))) else none))))) else none) else none)
set_option maxRecDepth 20000 in
theorem kX11_toll (l : Launch) (Z : Shp) (M : Mem) (a0 : Nat) (x1 : Int32) (x2 : Int32) (r : Int32) (h : fX11_toll Z M a0 x1 x2 = some r) : Ct l mX11_toll [vr a0, vi x1, vi x2] Z M ((some (vi r)), Z, M) := by
  refine Ct.of rfl (Nat.le_of_ble_eq_true rfl) (fun X hM => ?_)
  have hX := hM.1
  refine r_top (mk := fun r => ((some (vi r)), Z, M)) h (fun K hK => ?_)
  unfold fX11_toll
  refine r_aload_n (i := 0) (x := a0) (q := 1) 0 hX dX11_toll_0 rfl rfl rfl ?_
  refine r_ck (fun hc1 => ?_)
  refine r_getR (a := a0) (ci := 11) (kf := 0) (q := 4) hX hc1 flX11_12 rfl dX11_toll_1 rfl ?_
  refine r_iload_n (i := 1) (x := x1) (q := 5) 1 hX dX11_toll_4 rfl rfl rfl ?_
  refine r_ck (fun hc2 => ?_)
  refine r_bind (fun v3 h4 => ?_)
  refine r_cv (a := (rR M a0 0)) (As := [vi x1]) (st := []) (r := (some (vr v3))) (Z1 := Z) (M1 := M) (k1 := 0) (n1 := 0) (st1 := [vr v3]) (q := 8) hX (fun l => kX3_boatNumbered l Z M (rR M a0 0) x1 v3 h4) hc2 ivX3_boatNumbered ccX3_boatNumbered (Or.inl lkX11_134) rfl rfl rfl ⟨Nat.le_of_ble_eq_true rfl, Nat.le_of_ble_eq_true rfl, rfl, rfl, Nat.le_of_ble_eq_true rfl, Nat.le_of_ble_eq_true rfl⟩ (Nat.le_of_ble_eq_true rfl) dX11_toll_5 rfl ?_
  refine r_astore_n (x := v3) (q := 9) 3 [1, 2, 3, 0] (L1 := [(0, vr a0), (1, vi x1), (2, vi x2), (3, vr v3)]) hX dX11_toll_8 rfl (Nat.le_of_ble_eq_true rfl) rfl rfl ?_
  refine r_aload_n (i := 3) (x := v3) (q := 10) 3 hX dX11_toll_9 rfl rfl rfl ?_
  refine r_ifnonnull (tgt := 16) (q := 13) hX dX11_toll_10 (by decide) rfl (fun hb5 => ?_) (fun hb5 => ?_)
  · refine r_bipush (v := (-101 : Int32)) (q := 15) hX dX11_toll_13 rfl rfl ?_
    refine r_lf (hK _) ?_
    exact r_iret hM rfl (Nat.le_of_ble_eq_true rfl) (Nat.le_of_ble_eq_true rfl) dX11_toll_15
  · refine r_iload_n (i := 2) (x := x2) (q := 17) 2 hX dX11_toll_16 rfl rfl rfl ?_
    refine r_iconst (v := (0 : Int32)) (q := 18) hX dX11_toll_17 rfl rfl ?_
    refine r_bipush (v := (99 : Int32)) (q := 20) hX dX11_toll_18 rfl rfl ?_
    refine r_cs (As := [vi x2, vi (0 : Int32), vi (99 : Int32)]) (st := []) (r := (some (vi (fX11_within x2 (0 : Int32) (99 : Int32))))) (Z1 := Z) (M1 := M) (k1 := 0) (n1 := 0) (st1 := [vi (fX11_within x2 (0 : Int32) (99 : Int32))]) (q := 23) hX (fun l => kX11_within l Z M x2 (0 : Int32) (99 : Int32)) stX11_within ccX11_within (Or.inl lkX11_55) rfl rfl rfl ⟨Nat.le_of_ble_eq_true rfl, Nat.le_of_ble_eq_true rfl, rfl, rfl, Nat.le_of_ble_eq_true rfl, Nat.le_of_ble_eq_true rfl⟩ (Nat.le_of_ble_eq_true rfl) dX11_toll_20 rfl ?_
    refine r_if_eq (tgt := 44) (q := 26) hX dX11_toll_23 (by decide) rfl (fun hb6 => ?_) (fun hb6 => ?_)
    · refine r_bipush (v := (-102 : Int32)) (q := 46) hX dX11_toll_44 rfl rfl ?_
      refine r_lf (hK _) ?_
      exact r_iret hM rfl (Nat.le_of_ble_eq_true rfl) (Nat.le_of_ble_eq_true rfl) dX11_toll_46
    · refine r_aload_n (i := 0) (x := a0) (q := 27) 0 hX dX11_toll_26 rfl rfl rfl ?_
      refine r_getR (a := a0) (ci := 11) (kf := 1) (q := 30) hX hc1 flX11_19 rfl dX11_toll_27 rfl ?_
      refine r_iconst (v := (0 : Int32)) (q := 31) hX dX11_toll_30 rfl rfl ?_
      refine r_aload_n (i := 3) (x := v3) (q := 32) 3 hX dX11_toll_31 rfl rfl rfl ?_
      refine r_iload_n (i := 2) (x := x2) (q := 33) 2 hX dX11_toll_32 rfl rfl rfl ?_
      refine r_ck (fun hc7 => ?_)
      refine r_bind (fun v8 h9 => ?_)
      refine r_cv (a := (rR M a0 1)) (As := [vi (0 : Int32), vr v3, vi x2]) (st := []) (r := (some (vi v8))) (Z1 := Z) (M1 := M) (k1 := 0) (n1 := 0) (st1 := [vi v8]) (q := 36) hX (fun l => kX2_says l Z M (rR M a0 1) (0 : Int32) v3 x2 v8 h9) hc7 ivX2_says ccX2_says (Or.inl lkX11_206) rfl rfl rfl ⟨Nat.le_of_ble_eq_true rfl, Nat.le_of_ble_eq_true rfl, rfl, rfl, Nat.le_of_ble_eq_true rfl, Nat.le_of_ble_eq_true rfl⟩ (Nat.le_of_ble_eq_true rfl) dX11_toll_33 rfl ?_
      refine r_aload_n (i := 3) (x := v3) (q := 37) 3 hX dX11_toll_36 rfl rfl rfl ?_
      refine r_ck (fun hc10 => ?_)
      refine r_bind (fun v11 h12 => ?_)
      refine r_cv (a := v3) (As := []) (st := [vi v8]) (r := (some (vi v11))) (Z1 := Z) (M1 := M) (k1 := 0) (n1 := 0) (st1 := [vi v11, vi v8]) (q := 40) hX (fun l => kX1_tonMiles l Z M v3 v11 h12) hc10 ivX1_tonMiles ccX1_tonMiles (Or.inl lkX11_209) rfl rfl rfl ⟨Nat.le_of_ble_eq_true rfl, Nat.le_of_ble_eq_true rfl, rfl, rfl, Nat.le_of_ble_eq_true rfl, Nat.le_of_ble_eq_true rfl⟩ (Nat.le_of_ble_eq_true rfl) dX11_toll_37 rfl ?_
      refine r_imul (q := 41) hX dX11_toll_40 rfl ?_
      refine r_goto (q := 46) hX dX11_toll_41 (by decide) ?_
      refine r_lf (hK _) ?_
      exact r_iret hM rfl (Nat.le_of_ble_eq_true rfl) (Nat.le_of_ble_eq_true rfl) dX11_toll_46
def mX9_cell : MD := (yX9_cell, cX9_cell, 3, (some .int), 0, 0, 0, 0)
theorem ccX9_cell : Cc mX9_cell 3 := ⟨gd (hcw1_0 _ (List.mem_of_getElem? (i := 6) rfl)) rfl, gd (hcw4_4 _ (List.mem_of_getElem? (i := 17) rfl)) rfl, by decide +kernel, by decide +kernel, by decide +kernel⟩
theorem stX9_cell : Cond.static (yN mX9_cell) ∈ lw_gd := gd (hcw4_4 _ (List.mem_of_getElem? (i := 16) rfl)) rfl
def fX9_cell (x0 : Int32) (x1 : Int32) (x2 : Int32) : Int32 := (((((2 : Int32) * x0) + x1) * (9 : Int32)) + x2)
def gX9_cell (x0 : Int32) (x1 : Int32) (x2 : Int32) : Option (Int32) := some (((((2 : Int32) * x0) + x1) * (9 : Int32)) + x2)
theorem eX9_cell (x0 : Int32) (x1 : Int32) (x2 : Int32) : gX9_cell x0 x1 x2 = some (fX9_cell x0 x1 x2) := rfl
set_option maxRecDepth 20000 in
theorem kX9_cell (l : Launch) (Z : Shp) (M : Mem) (x0 : Int32) (x1 : Int32) (x2 : Int32) : Ct l mX9_cell [vi x0, vi x1, vi x2] Z M ((some (vi (fX9_cell x0 x1 x2))), Z, M) := by
  refine Ct.of rfl (Nat.le_of_ble_eq_true rfl) (fun X hM => ?_)
  have hX := hM.1
  refine r_top (mk := fun r => ((some (vi r)), Z, M)) (eX9_cell x0 x1 x2) (fun K hK => ?_)
  unfold gX9_cell
  refine r_iconst (v := (2 : Int32)) (q := 1) hX dX9_cell_0 rfl rfl ?_
  refine r_iload_n (i := 0) (x := x0) (q := 2) 0 hX dX9_cell_1 rfl rfl rfl ?_
  refine r_imul (q := 3) hX dX9_cell_2 rfl ?_
  refine r_iload_n (i := 1) (x := x1) (q := 4) 1 hX dX9_cell_3 rfl rfl rfl ?_
  refine r_iadd (q := 5) hX dX9_cell_4 rfl ?_
  refine r_bipush (v := (9 : Int32)) (q := 7) hX dX9_cell_5 rfl rfl ?_
  refine r_imul (q := 8) hX dX9_cell_7 rfl ?_
  refine r_iload_n (i := 2) (x := x2) (q := 9) 2 hX dX9_cell_8 rfl rfl rfl ?_
  refine r_iadd (q := 10) hX dX9_cell_9 rfl ?_
  refine r_lf (hK _) ?_
  exact r_iret hM rfl (Nat.le_of_ble_eq_true rfl) (Nat.le_of_ble_eq_true rfl) dX9_cell_10
theorem flX9_59 : FL RX9 59 9 9 := ⟨Nat.le_of_ble_eq_true rfl, Nat.le_of_ble_eq_true rfl, gd (hcw1_8 _ (List.mem_of_getElem? (i := 13) rfl)) rfl⟩
theorem lkX9_80 : Lk RX9 80 yX9_cell := gd (hcw4_4 _ (List.mem_of_getElem? (i := 15) rfl)) rfl
theorem lkX9_88 : LkN RX9 88 yX11_hasBit "CanalCompany" := bd (hcw4_5 _ (List.mem_of_getElem? (i := 7) rfl)) rfl
def mX9_extend : MD := (yX9_extend, cX9_extend, 8, none, 2, 35, 0, 0)
theorem ccX9_extend : Cc mX9_extend 3 := ⟨gd (hcw1_0 _ (List.mem_of_getElem? (i := 6) rfl)) rfl, gd (hcw4_5 _ (List.mem_of_getElem? (i := 1) rfl)) rfl, by decide +kernel, by decide +kernel, by decide +kernel⟩
theorem ivX9_extend : Iv mX9_extend 9 := ⟨Nat.le_of_ble_eq_true rfl, rfl, gd (hcw4_5 _ (List.mem_of_getElem? (i := 0) rfl)) rfl, gd (hps1 _ (List.mem_of_getElem? (i := 12) rfl)) rfl⟩
noncomputable def fX9_extend (Z : Shp) (M : Mem) (a0 : Nat) (x1 : Int32) (x2 : Int32) (x3 : Int32) : Option (Mem) := (if tg Z a0 = (10, 10) then (if aok Z (rR M a0 9) 100 (fX9_cell x1 x2 x3) then (pu ((rI M (rR M a0 9) (ix (fX9_cell x1 x2 x3)))) (fun z3 => (if z3 = (1000 : Int32) then some M else (loop (fun s5 : Int32 × Mem => (if (rI s5.2 a0 3) ≤ s5.1 then some (Sum.inr s5.2) else (Option.bind (fX9_hourOf Z s5.2 a0 s5.1 z3) (fun v9 => (if (fX11_hasBit x1 s5.1) = 0 then (if aok Z (rR s5.2 a0 2) 100 s5.1 then (if v9 ≤ (rI s5.2 (rR s5.2 a0 2) (ix s5.1)) then (Option.bind (fX9_stateBehind Z s5.2 a0 s5.1) (fun v14 => (Option.bind (fX9_spends Z s5.2 a0 s5.1 x2) (fun v16 => (pu ((fX9_cell (x1 ||| ((1 : Int32) <<< (s5.1 &&& 31))) v14 (x3 + v16))) (fun z18 => (if aok Z (rR s5.2 a0 9) 100 z18 then (pu (wI s5.2 (rR s5.2 a0 9) (ix z18) (mnI (rI s5.2 (rR s5.2 a0 9) (ix z18)) v9)) (fun M20 => some (Sum.inl ((s5.1 + (1 : Int32)), M20)))) else none))))))) else some (Sum.inl ((s5.1 + (1 : Int32)), s5.2))) else none) else some (Sum.inl ((s5.1 + (1 : Int32)), s5.2))))))) ((0 : Int32), M))))) else none) else none)
set_option maxRecDepth 20000 in
theorem kX9_extend (l : Launch) (Z : Shp) (M : Mem) (a0 : Nat) (x1 : Int32) (x2 : Int32) (x3 : Int32) (r : Mem) (h : fX9_extend Z M a0 x1 x2 x3 = some r) : Ct l mX9_extend [vr a0, vi x1, vi x2, vi x3] Z M (none, Z, r) := by
  refine Ct.of rfl (Nat.le_of_ble_eq_true rfl) (fun X hM => ?_)
  have hX := hM.1
  refine r_top (mk := fun r => (none, Z, r)) h (fun K hK => ?_)
  unfold fX9_extend
  refine r_aload_n (i := 0) (x := a0) (q := 1) 0 hX dX9_extend_0 rfl rfl rfl ?_
  refine r_ck (fun hc1 => ?_)
  refine r_getR (a := a0) (ci := 9) (kf := 9) (q := 4) hX hc1 flX9_59 rfl dX9_extend_1 rfl ?_
  refine r_iload_n (i := 1) (x := x1) (q := 5) 1 hX dX9_extend_4 rfl rfl rfl ?_
  refine r_iload_n (i := 2) (x := x2) (q := 6) 2 hX dX9_extend_5 rfl rfl rfl ?_
  refine r_iload_n (i := 3) (x := x3) (q := 7) 3 hX dX9_extend_6 rfl rfl rfl ?_
  refine r_cs (As := [vi x1, vi x2, vi x3]) (st := [vr (rR M a0 9)]) (r := (some (vi (fX9_cell x1 x2 x3)))) (Z1 := Z) (M1 := M) (k1 := 0) (n1 := 0) (st1 := [vi (fX9_cell x1 x2 x3), vr (rR M a0 9)]) (q := 10) hX (fun l => kX9_cell l Z M x1 x2 x3) stX9_cell ccX9_cell (Or.inl lkX9_80) rfl rfl rfl ⟨Nat.le_of_ble_eq_true rfl, Nat.le_of_ble_eq_true rfl, rfl, rfl, Nat.le_of_ble_eq_true rfl, Nat.le_of_ble_eq_true rfl⟩ (Nat.le_of_ble_eq_true rfl) dX9_extend_7 rfl ?_
  refine r_ck (fun hc2 => ?_)
  refine r_iald (a := (rR M a0 9)) (i := (fX9_cell x1 x2 x3)) (q := 11) hX hc2 dX9_extend_10 rfl ?_
  refine r_istoreP (x := (rI M (rR M a0 9) (ix (fX9_cell x1 x2 x3)))) (q := 13) 4 [1, 2, 3, 4, 0] (fun z3 => [(0, vr a0), (1, vi x1), (2, vi x2), (3, vi x3), (4, vi z3)]) hX dX9_extend_11 (Nat.le_of_ble_eq_true rfl) (fun _ => rfl) rfl (fun z3 => ?_)
  refine r_iload (i := 4) (x := z3) (q := 15) 4 hX dX9_extend_13 rfl rfl ?_
  refine r_sipush (v := (1000 : Int32)) (q := 18) hX dX9_extend_15 rfl rfl ?_
  refine r_icmp_ne (tgt := 22) (q := 21) hX dX9_extend_18 (by decide) rfl (fun hb4 => ?_) (fun hb4 => ?_)
  · refine r_lf (hK _) ?_
    exact r_vret hM rfl (Nat.le_of_ble_eq_true rfl) (Nat.le_of_ble_eq_true rfl) dX9_extend_21
  · refine r_iconst (v := (0 : Int32)) (q := 23) hX dX9_extend_22 rfl rfl ?_
    refine r_istore (x := (0 : Int32)) (q := 25) 5 [1, 2, 3, 4, 5, 0] (L1 := [(0, vr a0), (1, vi x1), (2, vi x2), (3, vi x3), (4, vi z3), (5, vi (0 : Int32))]) hX dX9_extend_23 (Nat.le_of_ble_eq_true rfl) rfl rfl ?_
    refine r_loop (Hd := fun (s5 : Int32 × Mem) (P : Option Res) => Ref mX9_extend X 0 0 Z s5.2 25 [(0, vr a0), (1, vi x1), (2, vi x2), (3, vi x3), (4, vi z3), (5, vi s5.1)] [] P) (fun _ => r_none) (fun s5 K1 hn6 hx7 => ?_) ((0 : Int32), M)
    refine r_iload (i := 5) (x := s5.1) (q := 27) 5 hX dX9_extend_25 rfl rfl ?_
    refine r_aload_n (i := 0) (x := a0) (q := 28) 0 hX dX9_extend_27 rfl rfl rfl ?_
    refine r_getI (a := a0) (ci := 9) (kf := 3) (q := 31) hX hc1 flX9_25 rfl rfl dX9_extend_28 rfl ?_
    refine r_icmp_ge (tgt := 119) (q := 34) hX dX9_extend_31 (by decide) rfl (fun hb8 => ?_) (fun hb8 => ?_)
    · refine r_lf ((hx7 _).trans (hK _)) ?_
      exact r_vret hM rfl (Nat.le_of_ble_eq_true rfl) (Nat.le_of_ble_eq_true rfl) dX9_extend_119
    · refine r_aload_n (i := 0) (x := a0) (q := 35) 0 hX dX9_extend_34 rfl rfl rfl ?_
      refine r_iload (i := 5) (x := s5.1) (q := 37) 5 hX dX9_extend_35 rfl rfl ?_
      refine r_iload (i := 4) (x := z3) (q := 39) 4 hX dX9_extend_37 rfl rfl ?_
      refine r_bind (fun v9 h10 => ?_)
      refine r_cv (a := a0) (As := [vi s5.1, vi z3]) (st := []) (r := (some (vi v9))) (Z1 := Z) (M1 := s5.2) (k1 := 0) (n1 := 0) (st1 := [vi v9]) (q := 42) hX (fun l => kX9_hourOf l Z s5.2 a0 s5.1 z3 v9 h10) hc1 ivX9_hourOf ccX9_hourOf (Or.inl lkX9_44) rfl rfl rfl ⟨Nat.le_of_ble_eq_true rfl, Nat.le_of_ble_eq_true rfl, rfl, rfl, Nat.le_of_ble_eq_true rfl, Nat.le_of_ble_eq_true rfl⟩ (Nat.le_of_ble_eq_true rfl) dX9_extend_39 rfl ?_
      refine r_istore (x := v9) (q := 44) 6 [1, 2, 3, 4, 5, 6, 0] (L1 := [(0, vr a0), (1, vi x1), (2, vi x2), (3, vi x3), (4, vi z3), (5, vi s5.1), (6, vi v9)]) hX dX9_extend_42 (Nat.le_of_ble_eq_true rfl) rfl rfl ?_
      refine r_iload_n (i := 1) (x := x1) (q := 45) 1 hX dX9_extend_44 rfl rfl rfl ?_
      refine r_iload (i := 5) (x := s5.1) (q := 47) 5 hX dX9_extend_45 rfl rfl ?_
      refine r_cs (As := [vi x1, vi s5.1]) (st := []) (r := (some (vi (fX11_hasBit x1 s5.1)))) (Z1 := Z) (M1 := s5.2) (k1 := 0) (n1 := 0) (st1 := [vi (fX11_hasBit x1 s5.1)]) (q := 50) hX (fun l => kX11_hasBit l Z s5.2 x1 s5.1) stX11_hasBit ccX11_hasBit (Or.inr ⟨_, lkX9_88⟩) rfl rfl rfl ⟨Nat.le_of_ble_eq_true rfl, Nat.le_of_ble_eq_true rfl, rfl, rfl, Nat.le_of_ble_eq_true rfl, Nat.le_of_ble_eq_true rfl⟩ (Nat.le_of_ble_eq_true rfl) dX9_extend_47 rfl ?_
      refine r_if_ne (tgt := 113) (q := 53) hX dX9_extend_50 (by decide) rfl (fun hb11 => ?_) (fun hb11 => ?_)
      · refine r_iload (i := 6) (x := v9) (q := 55) 6 hX dX9_extend_53 rfl rfl ?_
        refine r_aload_n (i := 0) (x := a0) (q := 56) 0 hX dX9_extend_55 rfl rfl rfl ?_
        refine r_getR (a := a0) (ci := 9) (kf := 2) (q := 59) hX hc1 flX9_19 rfl dX9_extend_56 rfl ?_
        refine r_iload (i := 5) (x := s5.1) (q := 61) 5 hX dX9_extend_59 rfl rfl ?_
        refine r_ck (fun hc12 => ?_)
        refine r_iald (a := (rR s5.2 a0 2)) (i := s5.1) (q := 62) hX hc12 dX9_extend_61 rfl ?_
        refine r_icmp_le (tgt := 68) (q := 65) hX dX9_extend_62 (by decide) rfl (fun hb13 => ?_) (fun hb13 => ?_)
        · refine r_iload_n (i := 1) (x := x1) (q := 69) 1 hX dX9_extend_68 rfl rfl rfl ?_
          refine r_iconst (v := (1 : Int32)) (q := 70) hX dX9_extend_69 rfl rfl ?_
          refine r_iload (i := 5) (x := s5.1) (q := 72) 5 hX dX9_extend_70 rfl rfl ?_
          refine r_ishl (q := 73) hX dX9_extend_72 rfl ?_
          refine r_ior (q := 74) hX dX9_extend_73 rfl ?_
          refine r_aload_n (i := 0) (x := a0) (q := 75) 0 hX dX9_extend_74 rfl rfl rfl ?_
          refine r_iload (i := 5) (x := s5.1) (q := 77) 5 hX dX9_extend_75 rfl rfl ?_
          refine r_bind (fun v14 h15 => ?_)
          refine r_cv (a := a0) (As := [vi s5.1]) (st := [vi (x1 ||| ((1 : Int32) <<< (s5.1 &&& 31)))]) (r := (some (vi v14))) (Z1 := Z) (M1 := s5.2) (k1 := 0) (n1 := 0) (st1 := [vi v14, vi (x1 ||| ((1 : Int32) <<< (s5.1 &&& 31)))]) (q := 80) hX (fun l => kX9_stateBehind l Z s5.2 a0 s5.1 v14 h15) hc1 ivX9_stateBehind ccX9_stateBehind (Or.inl lkX9_50) rfl rfl rfl ⟨Nat.le_of_ble_eq_true rfl, Nat.le_of_ble_eq_true rfl, rfl, rfl, Nat.le_of_ble_eq_true rfl, Nat.le_of_ble_eq_true rfl⟩ (Nat.le_of_ble_eq_true rfl) dX9_extend_77 rfl ?_
          refine r_iload_n (i := 3) (x := x3) (q := 81) 3 hX dX9_extend_80 rfl rfl rfl ?_
          refine r_aload_n (i := 0) (x := a0) (q := 82) 0 hX dX9_extend_81 rfl rfl rfl ?_
          refine r_iload (i := 5) (x := s5.1) (q := 84) 5 hX dX9_extend_82 rfl rfl ?_
          refine r_iload_n (i := 2) (x := x2) (q := 85) 2 hX dX9_extend_84 rfl rfl rfl ?_
          refine r_bind (fun v16 h17 => ?_)
          refine r_cv (a := a0) (As := [vi s5.1, vi x2]) (st := [vi x3, vi v14, vi (x1 ||| ((1 : Int32) <<< (s5.1 &&& 31)))]) (r := (some (vi v16))) (Z1 := Z) (M1 := s5.2) (k1 := 0) (n1 := 0) (st1 := [vi v16, vi x3, vi v14, vi (x1 ||| ((1 : Int32) <<< (s5.1 &&& 31)))]) (q := 88) hX (fun l => kX9_spends l Z s5.2 a0 s5.1 x2 v16 h17) hc1 ivX9_spends ccX9_spends (Or.inl lkX9_47) rfl rfl rfl ⟨Nat.le_of_ble_eq_true rfl, Nat.le_of_ble_eq_true rfl, rfl, rfl, Nat.le_of_ble_eq_true rfl, Nat.le_of_ble_eq_true rfl⟩ (Nat.le_of_ble_eq_true rfl) dX9_extend_85 rfl ?_
          refine r_iadd (q := 89) hX dX9_extend_88 rfl ?_
          refine r_cs (As := [vi (x1 ||| ((1 : Int32) <<< (s5.1 &&& 31))), vi v14, vi (x3 + v16)]) (st := []) (r := (some (vi (fX9_cell (x1 ||| ((1 : Int32) <<< (s5.1 &&& 31))) v14 (x3 + v16))))) (Z1 := Z) (M1 := s5.2) (k1 := 0) (n1 := 0) (st1 := [vi (fX9_cell (x1 ||| ((1 : Int32) <<< (s5.1 &&& 31))) v14 (x3 + v16))]) (q := 92) hX (fun l => kX9_cell l Z s5.2 (x1 ||| ((1 : Int32) <<< (s5.1 &&& 31))) v14 (x3 + v16)) stX9_cell ccX9_cell (Or.inl lkX9_80) rfl rfl rfl ⟨Nat.le_of_ble_eq_true rfl, Nat.le_of_ble_eq_true rfl, rfl, rfl, Nat.le_of_ble_eq_true rfl, Nat.le_of_ble_eq_true rfl⟩ (Nat.le_of_ble_eq_true rfl) dX9_extend_89 rfl ?_
          refine r_istoreP (x := (fX9_cell (x1 ||| ((1 : Int32) <<< (s5.1 &&& 31))) v14 (x3 + v16))) (q := 94) 7 [1, 2, 3, 4, 5, 6, 7, 0] (fun z18 => [(0, vr a0), (1, vi x1), (2, vi x2), (3, vi x3), (4, vi z3), (5, vi s5.1), (6, vi v9), (7, vi z18)]) hX dX9_extend_92 (Nat.le_of_ble_eq_true rfl) (fun _ => rfl) rfl (fun z18 => ?_)
          refine r_aload_n (i := 0) (x := a0) (q := 95) 0 hX dX9_extend_94 rfl rfl rfl ?_
          refine r_getR (a := a0) (ci := 9) (kf := 9) (q := 98) hX hc1 flX9_59 rfl dX9_extend_95 rfl ?_
          refine r_iload (i := 7) (x := z18) (q := 100) 7 hX dX9_extend_98 rfl rfl ?_
          refine r_aload_n (i := 0) (x := a0) (q := 101) 0 hX dX9_extend_100 rfl rfl rfl ?_
          refine r_getR (a := a0) (ci := 9) (kf := 9) (q := 104) hX hc1 flX9_59 rfl dX9_extend_101 rfl ?_
          refine r_iload (i := 7) (x := z18) (q := 106) 7 hX dX9_extend_104 rfl rfl ?_
          refine r_ck (fun hc19 => ?_)
          refine r_iald (a := (rR s5.2 a0 9)) (i := z18) (q := 107) hX hc19 dX9_extend_106 rfl ?_
          refine r_iload (i := 6) (x := v9) (q := 109) 6 hX dX9_extend_107 rfl rfl ?_
          refine r_mmin (q := 112) hX (gd (hcw4_5 _ (List.mem_of_getElem? (i := 18) rfl)) rfl) (Nat.le_of_ble_eq_true rfl) (Nat.le_of_ble_eq_true rfl) (Nat.le_of_ble_eq_true rfl) (Nat.le_of_ble_eq_true rfl) dX9_extend_109 rfl ?_
          refine r_iast (a := (rR s5.2 a0 9)) (i := z18) (x := (mnI (rI s5.2 (rR s5.2 a0 9) (ix z18)) v9)) (q := 113) hX hc19 dX9_extend_112 rfl (fun M20 => ?_)
          refine r_iinc (x := s5.1) (v := (s5.1 + (1 : Int32))) (q := 116) 5 5 [1, 2, 3, 4, 5, 0, 7, 8] (L1 := [(0, vr a0), (1, vi x1), (2, vi x2), (3, vi x3), (4, vi z3), (5, vi (s5.1 + (1 : Int32))), (6, vi v9), (7, vi z18)]) hX dX9_extend_113 rfl rfl (Nat.le_of_ble_eq_true rfl) rfl rfl ?_
          refine r_goto (q := 25) hX dX9_extend_116 (by decide) ?_
          refine r_l0 ?_
          refine r_sub [0, 1, 2, 3, 4, 5] rfl ?_
          exact hn6 ((s5.1 + (1 : Int32)), M20)
        · refine r_goto (q := 113) hX dX9_extend_65 (by decide) ?_
          refine r_iinc (x := s5.1) (v := (s5.1 + (1 : Int32))) (q := 116) 5 5 [1, 2, 3, 4, 5, 0, 7] (L1 := [(0, vr a0), (1, vi x1), (2, vi x2), (3, vi x3), (4, vi z3), (5, vi (s5.1 + (1 : Int32))), (6, vi v9)]) hX dX9_extend_113 rfl rfl (Nat.le_of_ble_eq_true rfl) rfl rfl ?_
          refine r_goto (q := 25) hX dX9_extend_116 (by decide) ?_
          refine r_l0 ?_
          refine r_sub [0, 1, 2, 3, 4, 5] rfl ?_
          exact hn6 ((s5.1 + (1 : Int32)), s5.2)
      · refine r_iinc (x := s5.1) (v := (s5.1 + (1 : Int32))) (q := 116) 5 5 [1, 2, 3, 4, 5, 0, 7] (L1 := [(0, vr a0), (1, vi x1), (2, vi x2), (3, vi x3), (4, vi z3), (5, vi (s5.1 + (1 : Int32))), (6, vi v9)]) hX dX9_extend_113 rfl rfl (Nat.le_of_ble_eq_true rfl) rfl rfl ?_
        refine r_goto (q := 25) hX dX9_extend_116 (by decide) ?_
        refine r_l0 ?_
        refine r_sub [0, 1, 2, 3, 4, 5] rfl ?_
        exact hn6 ((s5.1 + (1 : Int32)), s5.2)
theorem lkX9_74 : Lk RX9 74 yJ7_fill_53178 := gd (hcw4_4 _ (List.mem_of_getElem? (i := 12) rfl)) rfl
theorem lkX9_84 : Lk RX9 84 yX9_extend := gd (hcw4_4 _ (List.mem_of_getElem? (i := 18) rfl)) rfl
def mX9_fillEarliest : MD := (yX9_fillEarliest, cX9_fillEarliest, 3, none, 3, 62, 0, 0)
theorem ccX9_fillEarliest : Cc mX9_fillEarliest 0 := ⟨gd (hcw1_0 _ (List.mem_of_getElem? (i := 6) rfl)) rfl, gd (hcw4_4 _ (List.mem_of_getElem? (i := 11) rfl)) rfl, by decide +kernel, by decide +kernel, by decide +kernel⟩
theorem ivX9_fillEarliest : Iv mX9_fillEarliest 9 := ⟨Nat.le_of_ble_eq_true rfl, rfl, gd (hcw4_4 _ (List.mem_of_getElem? (i := 10) rfl)) rfl, gd (hps1 _ (List.mem_of_getElem? (i := 11) rfl)) rfl⟩
noncomputable def fX9_fillEarliest (Z : Shp) (M : Mem) (a0 : Nat) : Option (Mem) := (if tg Z a0 = (10, 10) then (Option.bind (fJ7_fill_53178 Z M (rR M a0 9) (1000 : Int32)) (fun v2 => (if aok Z (rR v2 a0 9) 100 (fX9_cell (0 : Int32) (0 : Int32) (0 : Int32)) then (pu (wI v2 (rR v2 a0 9) (ix (fX9_cell (0 : Int32) (0 : Int32) (0 : Int32))) (-1 : Int32)) (fun M5 => (loop (fun s6 : Int32 × Mem => (if ((1 : Int32) <<< ((rI s6.2 a0 3) &&& 31)) ≤ s6.1 then some (Sum.inr s6.2) else (loop (fun s10 : Int32 × Mem => (if (rI s10.2 a0 3) < s10.1 then some (Sum.inr (Sum.inl ((s6.1 + (1 : Int32)), s10.2))) else (Option.bind (fX9_extend Z s10.2 a0 s6.1 (0 : Int32) s10.1) (fun v14 => (Option.bind (fX9_extend Z v14 a0 s6.1 (1 : Int32) s10.1) (fun v16 => some (Sum.inl ((s10.1 + (1 : Int32)), v16)))))))) ((0 : Int32), s6.2)))) ((0 : Int32), M5)))) else none))) else none)
set_option maxRecDepth 20000 in
theorem kX9_fillEarliest (l : Launch) (Z : Shp) (M : Mem) (a0 : Nat) (r : Mem) (h : fX9_fillEarliest Z M a0 = some r) : Ct l mX9_fillEarliest [vr a0] Z M (none, Z, r) := by
  refine Ct.of rfl (Nat.le_of_ble_eq_true rfl) (fun X hM => ?_)
  have hX := hM.1
  refine r_top (mk := fun r => (none, Z, r)) h (fun K hK => ?_)
  unfold fX9_fillEarliest
  refine r_aload_n (i := 0) (x := a0) (q := 1) 0 hX dX9_fillEarliest_0 rfl rfl rfl ?_
  refine r_ck (fun hc1 => ?_)
  refine r_getR (a := a0) (ci := 9) (kf := 9) (q := 4) hX hc1 flX9_59 rfl dX9_fillEarliest_1 rfl ?_
  refine r_sipush (v := (1000 : Int32)) (q := 7) hX dX9_fillEarliest_4 rfl rfl ?_
  refine r_bind (fun v2 h3 => ?_)
  refine r_cs (As := [vr (rR M a0 9), vi (1000 : Int32)]) (st := []) (r := none) (Z1 := Z) (M1 := v2) (k1 := 0) (n1 := 0) (st1 := []) (q := 10) hX (fun l => kJ7_fill_53178 l Z M (rR M a0 9) (1000 : Int32) v2 h3) stJ7_fill_53178 ccJ7_fill_53178 (Or.inl lkX9_74) rfl rfl rfl ⟨Nat.le_of_ble_eq_true rfl, Nat.le_of_ble_eq_true rfl, rfl, rfl, Nat.le_of_ble_eq_true rfl, Nat.le_of_ble_eq_true rfl⟩ (Nat.le_of_ble_eq_true rfl) dX9_fillEarliest_7 rfl ?_
  refine r_aload_n (i := 0) (x := a0) (q := 11) 0 hX dX9_fillEarliest_10 rfl rfl rfl ?_
  refine r_getR (a := a0) (ci := 9) (kf := 9) (q := 14) hX hc1 flX9_59 rfl dX9_fillEarliest_11 rfl ?_
  refine r_iconst (v := (0 : Int32)) (q := 15) hX dX9_fillEarliest_14 rfl rfl ?_
  refine r_iconst (v := (0 : Int32)) (q := 16) hX dX9_fillEarliest_15 rfl rfl ?_
  refine r_iconst (v := (0 : Int32)) (q := 17) hX dX9_fillEarliest_16 rfl rfl ?_
  refine r_cs (As := [vi (0 : Int32), vi (0 : Int32), vi (0 : Int32)]) (st := [vr (rR v2 a0 9)]) (r := (some (vi (fX9_cell (0 : Int32) (0 : Int32) (0 : Int32))))) (Z1 := Z) (M1 := v2) (k1 := 0) (n1 := 0) (st1 := [vi (fX9_cell (0 : Int32) (0 : Int32) (0 : Int32)), vr (rR v2 a0 9)]) (q := 20) hX (fun l => kX9_cell l Z v2 (0 : Int32) (0 : Int32) (0 : Int32)) stX9_cell ccX9_cell (Or.inl lkX9_80) rfl rfl rfl ⟨Nat.le_of_ble_eq_true rfl, Nat.le_of_ble_eq_true rfl, rfl, rfl, Nat.le_of_ble_eq_true rfl, Nat.le_of_ble_eq_true rfl⟩ (Nat.le_of_ble_eq_true rfl) dX9_fillEarliest_17 rfl ?_
  refine r_iconst (v := (-1 : Int32)) (q := 21) hX dX9_fillEarliest_20 rfl rfl ?_
  refine r_ck (fun hc4 => ?_)
  refine r_iast (a := (rR v2 a0 9)) (i := (fX9_cell (0 : Int32) (0 : Int32) (0 : Int32))) (x := (-1 : Int32)) (q := 22) hX hc4 dX9_fillEarliest_21 rfl (fun M5 => ?_)
  refine r_iconst (v := (0 : Int32)) (q := 23) hX dX9_fillEarliest_22 rfl rfl ?_
  refine r_istore_n (x := (0 : Int32)) (q := 24) 1 [1, 0] (L1 := [(0, vr a0), (1, vi (0 : Int32))]) hX dX9_fillEarliest_23 rfl (Nat.le_of_ble_eq_true rfl) rfl rfl ?_
  refine r_loop (Hd := fun (s6 : Int32 × Mem) (P : Option Res) => Ref mX9_fillEarliest X 0 0 Z s6.2 24 [(0, vr a0), (1, vi s6.1)] [] P) (fun _ => r_none) (fun s6 K1 hn7 hx8 => ?_) ((0 : Int32), M5)
  refine r_iload_n (i := 1) (x := s6.1) (q := 25) 1 hX dX9_fillEarliest_24 rfl rfl rfl ?_
  refine r_iconst (v := (1 : Int32)) (q := 26) hX dX9_fillEarliest_25 rfl rfl ?_
  refine r_aload_n (i := 0) (x := a0) (q := 27) 0 hX dX9_fillEarliest_26 rfl rfl rfl ?_
  refine r_getI (a := a0) (ci := 9) (kf := 3) (q := 30) hX hc1 flX9_25 rfl rfl dX9_fillEarliest_27 rfl ?_
  refine r_ishl (q := 31) hX dX9_fillEarliest_30 rfl ?_
  refine r_icmp_ge (tgt := 70) (q := 34) hX dX9_fillEarliest_31 (by decide) rfl (fun hb9 => ?_) (fun hb9 => ?_)
  · refine r_lf ((hx8 _).trans (hK _)) ?_
    exact r_vret hM rfl (Nat.le_of_ble_eq_true rfl) (Nat.le_of_ble_eq_true rfl) dX9_fillEarliest_70
  · refine r_iconst (v := (0 : Int32)) (q := 35) hX dX9_fillEarliest_34 rfl rfl ?_
    refine r_istore_n (x := (0 : Int32)) (q := 36) 2 [1, 2, 0] (L1 := [(0, vr a0), (1, vi s6.1), (2, vi (0 : Int32))]) hX dX9_fillEarliest_35 rfl (Nat.le_of_ble_eq_true rfl) rfl rfl ?_
    refine r_loop (Hd := fun (s10 : Int32 × Mem) (P : Option Res) => Ref mX9_fillEarliest X 0 0 Z s10.2 36 [(0, vr a0), (1, vi s6.1), (2, vi s10.1)] [] P) (fun _ => r_none) (fun s10 K1 hn11 hx12 => ?_) ((0 : Int32), s6.2)
    refine r_iload_n (i := 2) (x := s10.1) (q := 37) 2 hX dX9_fillEarliest_36 rfl rfl rfl ?_
    refine r_aload_n (i := 0) (x := a0) (q := 38) 0 hX dX9_fillEarliest_37 rfl rfl rfl ?_
    refine r_getI (a := a0) (ci := 9) (kf := 3) (q := 41) hX hc1 flX9_25 rfl rfl dX9_fillEarliest_38 rfl ?_
    refine r_icmp_gt (tgt := 64) (q := 44) hX dX9_fillEarliest_41 (by decide) rfl (fun hb13 => ?_) (fun hb13 => ?_)
    · refine r_iinc (x := s6.1) (v := (s6.1 + (1 : Int32))) (q := 67) 1 1 [1, 0, 3] (L1 := [(0, vr a0), (1, vi (s6.1 + (1 : Int32))), (2, vi s10.1)]) hX dX9_fillEarliest_64 rfl rfl (Nat.le_of_ble_eq_true rfl) rfl rfl ?_
      refine r_goto (q := 24) hX dX9_fillEarliest_67 (by decide) ?_
      refine r_lf (hx12 _) ?_
      refine r_sub [0, 1] rfl ?_
      exact hn7 ((s6.1 + (1 : Int32)), s10.2)
    · refine r_aload_n (i := 0) (x := a0) (q := 45) 0 hX dX9_fillEarliest_44 rfl rfl rfl ?_
      refine r_iload_n (i := 1) (x := s6.1) (q := 46) 1 hX dX9_fillEarliest_45 rfl rfl rfl ?_
      refine r_iconst (v := (0 : Int32)) (q := 47) hX dX9_fillEarliest_46 rfl rfl ?_
      refine r_iload_n (i := 2) (x := s10.1) (q := 48) 2 hX dX9_fillEarliest_47 rfl rfl rfl ?_
      refine r_bind (fun v14 h15 => ?_)
      refine r_cv (a := a0) (As := [vi s6.1, vi (0 : Int32), vi s10.1]) (st := []) (r := none) (Z1 := Z) (M1 := v14) (k1 := 0) (n1 := 0) (st1 := []) (q := 51) hX (fun l => kX9_extend l Z s10.2 a0 s6.1 (0 : Int32) s10.1 v14 h15) hc1 ivX9_extend ccX9_extend (Or.inl lkX9_84) rfl rfl rfl ⟨Nat.le_of_ble_eq_true rfl, Nat.le_of_ble_eq_true rfl, rfl, rfl, Nat.le_of_ble_eq_true rfl, Nat.le_of_ble_eq_true rfl⟩ (Nat.le_of_ble_eq_true rfl) dX9_fillEarliest_48 rfl ?_
      refine r_aload_n (i := 0) (x := a0) (q := 52) 0 hX dX9_fillEarliest_51 rfl rfl rfl ?_
      refine r_iload_n (i := 1) (x := s6.1) (q := 53) 1 hX dX9_fillEarliest_52 rfl rfl rfl ?_
      refine r_iconst (v := (1 : Int32)) (q := 54) hX dX9_fillEarliest_53 rfl rfl ?_
      refine r_iload_n (i := 2) (x := s10.1) (q := 55) 2 hX dX9_fillEarliest_54 rfl rfl rfl ?_
      refine r_bind (fun v16 h17 => ?_)
      refine r_cv (a := a0) (As := [vi s6.1, vi (1 : Int32), vi s10.1]) (st := []) (r := none) (Z1 := Z) (M1 := v16) (k1 := 0) (n1 := 0) (st1 := []) (q := 58) hX (fun l => kX9_extend l Z v14 a0 s6.1 (1 : Int32) s10.1 v16 h17) hc1 ivX9_extend ccX9_extend (Or.inl lkX9_84) rfl rfl rfl ⟨Nat.le_of_ble_eq_true rfl, Nat.le_of_ble_eq_true rfl, rfl, rfl, Nat.le_of_ble_eq_true rfl, Nat.le_of_ble_eq_true rfl⟩ (Nat.le_of_ble_eq_true rfl) dX9_fillEarliest_55 rfl ?_
      refine r_iinc (x := s10.1) (v := (s10.1 + (1 : Int32))) (q := 61) 2 2 [1, 2, 0] (L1 := [(0, vr a0), (1, vi s6.1), (2, vi (s10.1 + (1 : Int32)))]) hX dX9_fillEarliest_58 rfl rfl (Nat.le_of_ble_eq_true rfl) rfl rfl ?_
      refine r_goto (q := 36) hX dX9_fillEarliest_61 (by decide) ?_
      refine r_l0 ?_
      exact hn11 ((s10.1 + (1 : Int32)), v16)
theorem flX9_33 : FL RX9 33 9 6 := ⟨Nat.le_of_ble_eq_true rfl, Nat.le_of_ble_eq_true rfl, gd (hcw1_8 _ (List.mem_of_getElem? (i := 8) rfl)) rfl⟩
theorem flX9_95 : FL RX9 95 9 7 := ⟨Nat.le_of_ble_eq_true rfl, Nat.le_of_ble_eq_true rfl, gd (hcw1_8 _ (List.mem_of_getElem? (i := 10) rfl)) rfl⟩
def mX9_chooseGoal : MD := (yX9_chooseGoal, cX9_chooseGoal, 4, none, 1, 22, 0, 0)
theorem ccX9_chooseGoal : Cc mX9_chooseGoal 0 := ⟨gd (hcw1_0 _ (List.mem_of_getElem? (i := 6) rfl)) rfl, gd (hcw4_6 _ (List.mem_of_getElem? (i := 2) rfl)) rfl, by decide +kernel, by decide +kernel, by decide +kernel⟩
theorem ivX9_chooseGoal : Iv mX9_chooseGoal 9 := ⟨Nat.le_of_ble_eq_true rfl, rfl, gd (hcw4_6 _ (List.mem_of_getElem? (i := 1) rfl)) rfl, gd (hps2 _ (List.mem_of_getElem? (i := 0) rfl)) rfl⟩
noncomputable def fX9_chooseGoal (Z : Shp) (M : Mem) (a0 : Nat) : Option (Mem) := (if tg Z a0 = (10, 10) then (pu ((((1 : Int32) <<< ((rI M a0 3) &&& 31)) - (1 : Int32))) (fun z2 => (pu (wI M a0 6 (-1 : Int32)) (fun M3 => (pu (wI M3 a0 7 (-1 : Int32)) (fun M4 => (loop (fun s5 : Int32 × Mem => (if (rI s5.2 a0 3) < s5.1 then some (Sum.inr s5.2) else (if (rI s5.2 a0 6) = (-1 : Int32) then (if aok Z (rR s5.2 a0 9) 100 (fX9_cell z2 (0 : Int32) s5.1) then (if aok Z (rR s5.2 a0 9) 100 (fX9_cell z2 (1 : Int32) s5.1) then (pu ((mnI (rI s5.2 (rR s5.2 a0 9) (ix (fX9_cell z2 (0 : Int32) s5.1))) (rI s5.2 (rR s5.2 a0 9) (ix (fX9_cell z2 (1 : Int32) s5.1))))) (fun z12 => (if z12 = (1000 : Int32) then some (Sum.inl ((s5.1 + (1 : Int32)), s5.2)) else (pu (wI s5.2 a0 6 s5.1) (fun M14 => (pu (wI M14 a0 7 z12) (fun M15 => some (Sum.inl ((s5.1 + (1 : Int32)), M15))))))))) else none) else none) else some (Sum.inr s5.2)))) ((0 : Int32), M4)))))))) else none)
set_option maxRecDepth 20000 in
theorem kX9_chooseGoal (l : Launch) (Z : Shp) (M : Mem) (a0 : Nat) (r : Mem) (h : fX9_chooseGoal Z M a0 = some r) : Ct l mX9_chooseGoal [vr a0] Z M (none, Z, r) := by
  refine Ct.of rfl (Nat.le_of_ble_eq_true rfl) (fun X hM => ?_)
  have hX := hM.1
  refine r_top (mk := fun r => (none, Z, r)) h (fun K hK => ?_)
  unfold fX9_chooseGoal
  refine r_iconst (v := (1 : Int32)) (q := 1) hX dX9_chooseGoal_0 rfl rfl ?_
  refine r_aload_n (i := 0) (x := a0) (q := 2) 0 hX dX9_chooseGoal_1 rfl rfl rfl ?_
  refine r_ck (fun hc1 => ?_)
  refine r_getI (a := a0) (ci := 9) (kf := 3) (q := 5) hX hc1 flX9_25 rfl rfl dX9_chooseGoal_2 rfl ?_
  refine r_ishl (q := 6) hX dX9_chooseGoal_5 rfl ?_
  refine r_iconst (v := (1 : Int32)) (q := 7) hX dX9_chooseGoal_6 rfl rfl ?_
  refine r_isub (q := 8) hX dX9_chooseGoal_7 rfl ?_
  refine r_istore_nP (x := (((1 : Int32) <<< ((rI M a0 3) &&& 31)) - (1 : Int32))) (q := 9) 1 [1, 0] (fun z2 => [(0, vr a0), (1, vi z2)]) hX dX9_chooseGoal_8 rfl (Nat.le_of_ble_eq_true rfl) (fun _ => rfl) rfl (fun z2 => ?_)
  refine r_aload_n (i := 0) (x := a0) (q := 10) 0 hX dX9_chooseGoal_9 rfl rfl rfl ?_
  refine r_iconst (v := (-1 : Int32)) (q := 11) hX dX9_chooseGoal_10 rfl rfl ?_
  refine r_putI (a := a0) (ci := 9) (kf := 6) (q := 14) hX hc1 flX9_33 rfl rfl (Or.inl rfl) rfl rfl dX9_chooseGoal_11 rfl (fun M3 => ?_)
  refine r_aload_n (i := 0) (x := a0) (q := 15) 0 hX dX9_chooseGoal_14 rfl rfl rfl ?_
  refine r_iconst (v := (-1 : Int32)) (q := 16) hX dX9_chooseGoal_15 rfl rfl ?_
  refine r_putI (a := a0) (ci := 9) (kf := 7) (q := 19) hX hc1 flX9_95 rfl rfl (Or.inl rfl) rfl rfl dX9_chooseGoal_16 rfl (fun M4 => ?_)
  refine r_iconst (v := (0 : Int32)) (q := 20) hX dX9_chooseGoal_19 rfl rfl ?_
  refine r_istore_n (x := (0 : Int32)) (q := 21) 2 [1, 2, 0] (L1 := [(0, vr a0), (1, vi z2), (2, vi (0 : Int32))]) hX dX9_chooseGoal_20 rfl (Nat.le_of_ble_eq_true rfl) rfl rfl ?_
  refine r_loop (Hd := fun (s5 : Int32 × Mem) (P : Option Res) => Ref mX9_chooseGoal X 0 0 Z s5.2 21 [(0, vr a0), (1, vi z2), (2, vi s5.1)] [] P) (fun _ => r_none) (fun s5 K1 hn6 hx7 => ?_) ((0 : Int32), M4)
  refine r_iload_n (i := 2) (x := s5.1) (q := 22) 2 hX dX9_chooseGoal_21 rfl rfl rfl ?_
  refine r_aload_n (i := 0) (x := a0) (q := 23) 0 hX dX9_chooseGoal_22 rfl rfl rfl ?_
  refine r_getI (a := a0) (ci := 9) (kf := 3) (q := 26) hX hc1 flX9_25 rfl rfl dX9_chooseGoal_23 rfl ?_
  refine r_icmp_gt (tgt := 86) (q := 29) hX dX9_chooseGoal_26 (by decide) rfl (fun hb8 => ?_) (fun hb8 => ?_)
  · refine r_lf ((hx7 _).trans (hK _)) ?_
    exact r_vret hM rfl (Nat.le_of_ble_eq_true rfl) (Nat.le_of_ble_eq_true rfl) dX9_chooseGoal_86
  · refine r_aload_n (i := 0) (x := a0) (q := 30) 0 hX dX9_chooseGoal_29 rfl rfl rfl ?_
    refine r_getI (a := a0) (ci := 9) (kf := 6) (q := 33) hX hc1 flX9_33 rfl rfl dX9_chooseGoal_30 rfl ?_
    refine r_iconst (v := (-1 : Int32)) (q := 34) hX dX9_chooseGoal_33 rfl rfl ?_
    refine r_icmp_ne (tgt := 86) (q := 37) hX dX9_chooseGoal_34 (by decide) rfl (fun hb9 => ?_) (fun hb9 => ?_)
    · refine r_aload_n (i := 0) (x := a0) (q := 38) 0 hX dX9_chooseGoal_37 rfl rfl rfl ?_
      refine r_getR (a := a0) (ci := 9) (kf := 9) (q := 41) hX hc1 flX9_59 rfl dX9_chooseGoal_38 rfl ?_
      refine r_iload_n (i := 1) (x := z2) (q := 42) 1 hX dX9_chooseGoal_41 rfl rfl rfl ?_
      refine r_iconst (v := (0 : Int32)) (q := 43) hX dX9_chooseGoal_42 rfl rfl ?_
      refine r_iload_n (i := 2) (x := s5.1) (q := 44) 2 hX dX9_chooseGoal_43 rfl rfl rfl ?_
      refine r_cs (As := [vi z2, vi (0 : Int32), vi s5.1]) (st := [vr (rR s5.2 a0 9)]) (r := (some (vi (fX9_cell z2 (0 : Int32) s5.1)))) (Z1 := Z) (M1 := s5.2) (k1 := 0) (n1 := 0) (st1 := [vi (fX9_cell z2 (0 : Int32) s5.1), vr (rR s5.2 a0 9)]) (q := 47) hX (fun l => kX9_cell l Z s5.2 z2 (0 : Int32) s5.1) stX9_cell ccX9_cell (Or.inl lkX9_80) rfl rfl rfl ⟨Nat.le_of_ble_eq_true rfl, Nat.le_of_ble_eq_true rfl, rfl, rfl, Nat.le_of_ble_eq_true rfl, Nat.le_of_ble_eq_true rfl⟩ (Nat.le_of_ble_eq_true rfl) dX9_chooseGoal_44 rfl ?_
      refine r_ck (fun hc10 => ?_)
      refine r_iald (a := (rR s5.2 a0 9)) (i := (fX9_cell z2 (0 : Int32) s5.1)) (q := 48) hX hc10 dX9_chooseGoal_47 rfl ?_
      refine r_aload_n (i := 0) (x := a0) (q := 49) 0 hX dX9_chooseGoal_48 rfl rfl rfl ?_
      refine r_getR (a := a0) (ci := 9) (kf := 9) (q := 52) hX hc1 flX9_59 rfl dX9_chooseGoal_49 rfl ?_
      refine r_iload_n (i := 1) (x := z2) (q := 53) 1 hX dX9_chooseGoal_52 rfl rfl rfl ?_
      refine r_iconst (v := (1 : Int32)) (q := 54) hX dX9_chooseGoal_53 rfl rfl ?_
      refine r_iload_n (i := 2) (x := s5.1) (q := 55) 2 hX dX9_chooseGoal_54 rfl rfl rfl ?_
      refine r_cs (As := [vi z2, vi (1 : Int32), vi s5.1]) (st := [vr (rR s5.2 a0 9), vi (rI s5.2 (rR s5.2 a0 9) (ix (fX9_cell z2 (0 : Int32) s5.1)))]) (r := (some (vi (fX9_cell z2 (1 : Int32) s5.1)))) (Z1 := Z) (M1 := s5.2) (k1 := 0) (n1 := 0) (st1 := [vi (fX9_cell z2 (1 : Int32) s5.1), vr (rR s5.2 a0 9), vi (rI s5.2 (rR s5.2 a0 9) (ix (fX9_cell z2 (0 : Int32) s5.1)))]) (q := 58) hX (fun l => kX9_cell l Z s5.2 z2 (1 : Int32) s5.1) stX9_cell ccX9_cell (Or.inl lkX9_80) rfl rfl rfl ⟨Nat.le_of_ble_eq_true rfl, Nat.le_of_ble_eq_true rfl, rfl, rfl, Nat.le_of_ble_eq_true rfl, Nat.le_of_ble_eq_true rfl⟩ (Nat.le_of_ble_eq_true rfl) dX9_chooseGoal_55 rfl ?_
      refine r_ck (fun hc11 => ?_)
      refine r_iald (a := (rR s5.2 a0 9)) (i := (fX9_cell z2 (1 : Int32) s5.1)) (q := 59) hX hc11 dX9_chooseGoal_58 rfl ?_
      refine r_mmin (q := 62) hX (gd (hcw4_5 _ (List.mem_of_getElem? (i := 18) rfl)) rfl) (Nat.le_of_ble_eq_true rfl) (Nat.le_of_ble_eq_true rfl) (Nat.le_of_ble_eq_true rfl) (Nat.le_of_ble_eq_true rfl) dX9_chooseGoal_59 rfl ?_
      refine r_istore_nP (x := (mnI (rI s5.2 (rR s5.2 a0 9) (ix (fX9_cell z2 (0 : Int32) s5.1))) (rI s5.2 (rR s5.2 a0 9) (ix (fX9_cell z2 (1 : Int32) s5.1))))) (q := 63) 3 [1, 2, 3, 0] (fun z12 => [(0, vr a0), (1, vi z2), (2, vi s5.1), (3, vi z12)]) hX dX9_chooseGoal_62 rfl (Nat.le_of_ble_eq_true rfl) (fun _ => rfl) rfl (fun z12 => ?_)
      refine r_iload_n (i := 3) (x := z12) (q := 64) 3 hX dX9_chooseGoal_63 rfl rfl rfl ?_
      refine r_sipush (v := (1000 : Int32)) (q := 67) hX dX9_chooseGoal_64 rfl rfl ?_
      refine r_icmp_eq (tgt := 80) (q := 70) hX dX9_chooseGoal_67 (by decide) rfl (fun hb13 => ?_) (fun hb13 => ?_)
      · refine r_iinc (x := s5.1) (v := (s5.1 + (1 : Int32))) (q := 83) 2 2 [1, 2, 0, 4] (L1 := [(0, vr a0), (1, vi z2), (2, vi (s5.1 + (1 : Int32))), (3, vi z12)]) hX dX9_chooseGoal_80 rfl rfl (Nat.le_of_ble_eq_true rfl) rfl rfl ?_
        refine r_goto (q := 21) hX dX9_chooseGoal_83 (by decide) ?_
        refine r_l0 ?_
        refine r_sub [0, 1, 2] rfl ?_
        exact hn6 ((s5.1 + (1 : Int32)), s5.2)
      · refine r_aload_n (i := 0) (x := a0) (q := 71) 0 hX dX9_chooseGoal_70 rfl rfl rfl ?_
        refine r_iload_n (i := 2) (x := s5.1) (q := 72) 2 hX dX9_chooseGoal_71 rfl rfl rfl ?_
        refine r_putI (a := a0) (ci := 9) (kf := 6) (q := 75) hX hc1 flX9_33 rfl rfl (Or.inl rfl) rfl rfl dX9_chooseGoal_72 rfl (fun M14 => ?_)
        refine r_aload_n (i := 0) (x := a0) (q := 76) 0 hX dX9_chooseGoal_75 rfl rfl rfl ?_
        refine r_iload_n (i := 3) (x := z12) (q := 77) 3 hX dX9_chooseGoal_76 rfl rfl rfl ?_
        refine r_putI (a := a0) (ci := 9) (kf := 7) (q := 80) hX hc1 flX9_95 rfl rfl (Or.inl rfl) rfl rfl dX9_chooseGoal_77 rfl (fun M15 => ?_)
        refine r_iinc (x := s5.1) (v := (s5.1 + (1 : Int32))) (q := 83) 2 2 [1, 2, 0, 4] (L1 := [(0, vr a0), (1, vi z2), (2, vi (s5.1 + (1 : Int32))), (3, vi z12)]) hX dX9_chooseGoal_80 rfl rfl (Nat.le_of_ble_eq_true rfl) rfl rfl ?_
        refine r_goto (q := 21) hX dX9_chooseGoal_83 (by decide) ?_
        refine r_l0 ?_
        refine r_sub [0, 1, 2] rfl ?_
        exact hn6 ((s5.1 + (1 : Int32)), M15)
    · refine r_lf ((hx7 _).trans (hK _)) ?_
      exact r_vret hM rfl (Nat.le_of_ble_eq_true rfl) (Nat.le_of_ble_eq_true rfl) dX9_chooseGoal_86
def mX9_latestOf : MD := (yX9_latestOf, cX9_latestOf, 5, (some .int), 1, 22, 0, 0)
theorem ccX9_latestOf : Cc mX9_latestOf 3 := ⟨gd (hcw1_0 _ (List.mem_of_getElem? (i := 6) rfl)) rfl, gd (hcw4_6 _ (List.mem_of_getElem? (i := 14) rfl)) rfl, by decide +kernel, by decide +kernel, by decide +kernel⟩
theorem ivX9_latestOf : Iv mX9_latestOf 9 := ⟨Nat.le_of_ble_eq_true rfl, rfl, gd (hcw4_6 _ (List.mem_of_getElem? (i := 13) rfl)) rfl, gd (hps2 _ (List.mem_of_getElem? (i := 3) rfl)) rfl⟩
noncomputable def fX9_latestOf (Z : Shp) (M : Mem) (a0 : Nat) (x1 : Int32) (x2 : Int32) (x3 : Int32) : Option (Int32) := (if 0 ≤ x3 then (if tg Z a0 = (10, 10) then (if aok Z (rR M a0 2) 100 x1 then (pu ((mnI (rI M (rR M a0 2) (ix x1)) (rI M a0 7))) (fun z4 => (Option.bind (fX9_stateBehind Z M a0 x1) (fun v5 => (if aok Z (rR M a0 9) 100 (fX9_cell (x2 ^^^ ((1 : Int32) <<< (x1 &&& 31))) v5 x3) then some (mnI z4 (rI M (rR M a0 9) (ix (fX9_cell (x2 ^^^ ((1 : Int32) <<< (x1 &&& 31))) v5 x3)))) else none))))) else none) else none) else some (-2 : Int32))
set_option maxRecDepth 20000 in
theorem kX9_latestOf (l : Launch) (Z : Shp) (M : Mem) (a0 : Nat) (x1 : Int32) (x2 : Int32) (x3 : Int32) (r : Int32) (h : fX9_latestOf Z M a0 x1 x2 x3 = some r) : Ct l mX9_latestOf [vr a0, vi x1, vi x2, vi x3] Z M ((some (vi r)), Z, M) := by
  refine Ct.of rfl (Nat.le_of_ble_eq_true rfl) (fun X hM => ?_)
  have hX := hM.1
  refine r_top (mk := fun r => ((some (vi r)), Z, M)) h (fun K hK => ?_)
  unfold fX9_latestOf
  refine r_iload_n (i := 3) (x := x3) (q := 1) 3 hX dX9_latestOf_0 rfl rfl rfl ?_
  refine r_if_ge (tgt := 7) (q := 4) hX dX9_latestOf_1 (by decide) rfl (fun hb1 => ?_) (fun hb1 => ?_)
  · refine r_aload_n (i := 0) (x := a0) (q := 8) 0 hX dX9_latestOf_7 rfl rfl rfl ?_
    refine r_ck (fun hc2 => ?_)
    refine r_getR (a := a0) (ci := 9) (kf := 2) (q := 11) hX hc2 flX9_19 rfl dX9_latestOf_8 rfl ?_
    refine r_iload_n (i := 1) (x := x1) (q := 12) 1 hX dX9_latestOf_11 rfl rfl rfl ?_
    refine r_ck (fun hc3 => ?_)
    refine r_iald (a := (rR M a0 2)) (i := x1) (q := 13) hX hc3 dX9_latestOf_12 rfl ?_
    refine r_aload_n (i := 0) (x := a0) (q := 14) 0 hX dX9_latestOf_13 rfl rfl rfl ?_
    refine r_getI (a := a0) (ci := 9) (kf := 7) (q := 17) hX hc2 flX9_95 rfl rfl dX9_latestOf_14 rfl ?_
    refine r_mmin (q := 20) hX (gd (hcw4_5 _ (List.mem_of_getElem? (i := 18) rfl)) rfl) (Nat.le_of_ble_eq_true rfl) (Nat.le_of_ble_eq_true rfl) (Nat.le_of_ble_eq_true rfl) (Nat.le_of_ble_eq_true rfl) dX9_latestOf_17 rfl ?_
    refine r_istoreP (x := (mnI (rI M (rR M a0 2) (ix x1)) (rI M a0 7))) (q := 22) 4 [1, 2, 3, 4, 0] (fun z4 => [(0, vr a0), (1, vi x1), (2, vi x2), (3, vi x3), (4, vi z4)]) hX dX9_latestOf_20 (Nat.le_of_ble_eq_true rfl) (fun _ => rfl) rfl (fun z4 => ?_)
    refine r_iload (i := 4) (x := z4) (q := 24) 4 hX dX9_latestOf_22 rfl rfl ?_
    refine r_aload_n (i := 0) (x := a0) (q := 25) 0 hX dX9_latestOf_24 rfl rfl rfl ?_
    refine r_getR (a := a0) (ci := 9) (kf := 9) (q := 28) hX hc2 flX9_59 rfl dX9_latestOf_25 rfl ?_
    refine r_iload_n (i := 2) (x := x2) (q := 29) 2 hX dX9_latestOf_28 rfl rfl rfl ?_
    refine r_iconst (v := (1 : Int32)) (q := 30) hX dX9_latestOf_29 rfl rfl ?_
    refine r_iload_n (i := 1) (x := x1) (q := 31) 1 hX dX9_latestOf_30 rfl rfl rfl ?_
    refine r_ishl (q := 32) hX dX9_latestOf_31 rfl ?_
    refine r_ixor (q := 33) hX dX9_latestOf_32 rfl ?_
    refine r_aload_n (i := 0) (x := a0) (q := 34) 0 hX dX9_latestOf_33 rfl rfl rfl ?_
    refine r_iload_n (i := 1) (x := x1) (q := 35) 1 hX dX9_latestOf_34 rfl rfl rfl ?_
    refine r_bind (fun v5 h6 => ?_)
    refine r_cv (a := a0) (As := [vi x1]) (st := [vi (x2 ^^^ ((1 : Int32) <<< (x1 &&& 31))), vr (rR M a0 9), vi z4]) (r := (some (vi v5))) (Z1 := Z) (M1 := M) (k1 := 0) (n1 := 0) (st1 := [vi v5, vi (x2 ^^^ ((1 : Int32) <<< (x1 &&& 31))), vr (rR M a0 9), vi z4]) (q := 38) hX (fun l => kX9_stateBehind l Z M a0 x1 v5 h6) hc2 ivX9_stateBehind ccX9_stateBehind (Or.inl lkX9_50) rfl rfl rfl ⟨Nat.le_of_ble_eq_true rfl, Nat.le_of_ble_eq_true rfl, rfl, rfl, Nat.le_of_ble_eq_true rfl, Nat.le_of_ble_eq_true rfl⟩ (Nat.le_of_ble_eq_true rfl) dX9_latestOf_35 rfl ?_
    refine r_iload_n (i := 3) (x := x3) (q := 39) 3 hX dX9_latestOf_38 rfl rfl rfl ?_
    refine r_cs (As := [vi (x2 ^^^ ((1 : Int32) <<< (x1 &&& 31))), vi v5, vi x3]) (st := [vr (rR M a0 9), vi z4]) (r := (some (vi (fX9_cell (x2 ^^^ ((1 : Int32) <<< (x1 &&& 31))) v5 x3)))) (Z1 := Z) (M1 := M) (k1 := 0) (n1 := 0) (st1 := [vi (fX9_cell (x2 ^^^ ((1 : Int32) <<< (x1 &&& 31))) v5 x3), vr (rR M a0 9), vi z4]) (q := 42) hX (fun l => kX9_cell l Z M (x2 ^^^ ((1 : Int32) <<< (x1 &&& 31))) v5 x3) stX9_cell ccX9_cell (Or.inl lkX9_80) rfl rfl rfl ⟨Nat.le_of_ble_eq_true rfl, Nat.le_of_ble_eq_true rfl, rfl, rfl, Nat.le_of_ble_eq_true rfl, Nat.le_of_ble_eq_true rfl⟩ (Nat.le_of_ble_eq_true rfl) dX9_latestOf_39 rfl ?_
    refine r_ck (fun hc7 => ?_)
    refine r_iald (a := (rR M a0 9)) (i := (fX9_cell (x2 ^^^ ((1 : Int32) <<< (x1 &&& 31))) v5 x3)) (q := 43) hX hc7 dX9_latestOf_42 rfl ?_
    refine r_mmin (q := 46) hX (gd (hcw4_5 _ (List.mem_of_getElem? (i := 18) rfl)) rfl) (Nat.le_of_ble_eq_true rfl) (Nat.le_of_ble_eq_true rfl) (Nat.le_of_ble_eq_true rfl) (Nat.le_of_ble_eq_true rfl) dX9_latestOf_43 rfl ?_
    refine r_lf (hK _) ?_
    exact r_iret hM rfl (Nat.le_of_ble_eq_true rfl) (Nat.le_of_ble_eq_true rfl) dX9_latestOf_46
  · refine r_bipush (v := (-2 : Int32)) (q := 6) hX dX9_latestOf_4 rfl rfl ?_
    refine r_lf (hK _) ?_
    exact r_iret hM rfl (Nat.le_of_ble_eq_true rfl) (Nat.le_of_ble_eq_true rfl) dX9_latestOf_6
theorem lkX9_101 : Lk RX9 101 yX9_latestOf := gd (hcw4_6 _ (List.mem_of_getElem? (i := 11) rfl)) rfl
def mX9_latestAhead : MD := (yX9_latestAhead, cX9_latestAhead, 7, (some .int), 2, 46, 0, 0)
theorem ccX9_latestAhead : Cc mX9_latestAhead 3 := ⟨gd (hcw1_0 _ (List.mem_of_getElem? (i := 6) rfl)) rfl, gd (hcw4_6 _ (List.mem_of_getElem? (i := 10) rfl)) rfl, by decide +kernel, by decide +kernel, by decide +kernel⟩
theorem ivX9_latestAhead : Iv mX9_latestAhead 9 := ⟨Nat.le_of_ble_eq_true rfl, rfl, gd (hcw4_6 _ (List.mem_of_getElem? (i := 9) rfl)) rfl, gd (hps2 _ (List.mem_of_getElem? (i := 2) rfl)) rfl⟩
noncomputable def fX9_latestAhead (Z : Shp) (M : Mem) (a0 : Nat) (x1 : Int32) (x2 : Int32) (x3 : Int32) : Option (Int32) := (loop (fun s1 : Int32 × Int32 => (if tg Z a0 = (10, 10) then (if (rI M a0 3) ≤ s1.2 then some (Sum.inr s1.1) else (if (fX11_hasBit x1 s1.2) = 0 then some (Sum.inl (s1.1, (s1.2 + (1 : Int32)))) else (Option.bind (fX9_spends Z M a0 s1.2 x2) (fun v7 => (Option.bind (fX9_latestOf Z M a0 s1.2 x1 (x3 - v7)) (fun v9 => (if aok Z (rR M a0 1) 100 s1.2 then (if v9 < (rI M (rR M a0 1) (ix s1.2)) then some (Sum.inl (s1.1, (s1.2 + (1 : Int32)))) else (pu ((mxI s1.1 (v9 - (1 : Int32)))) (fun z13 => some (Sum.inl (z13, (s1.2 + (1 : Int32))))))) else none))))))) else none)) ((-2 : Int32), (0 : Int32)))
set_option maxRecDepth 20000 in
theorem kX9_latestAhead (l : Launch) (Z : Shp) (M : Mem) (a0 : Nat) (x1 : Int32) (x2 : Int32) (x3 : Int32) (r : Int32) (h : fX9_latestAhead Z M a0 x1 x2 x3 = some r) : Ct l mX9_latestAhead [vr a0, vi x1, vi x2, vi x3] Z M ((some (vi r)), Z, M) := by
  refine Ct.of rfl (Nat.le_of_ble_eq_true rfl) (fun X hM => ?_)
  have hX := hM.1
  refine r_top (mk := fun r => ((some (vi r)), Z, M)) h (fun K hK => ?_)
  unfold fX9_latestAhead
  refine r_bipush (v := (-2 : Int32)) (q := 2) hX dX9_latestAhead_0 rfl rfl ?_
  refine r_istore (x := (-2 : Int32)) (q := 4) 4 [1, 2, 3, 4, 0] (L1 := [(0, vr a0), (1, vi x1), (2, vi x2), (3, vi x3), (4, vi (-2 : Int32))]) hX dX9_latestAhead_2 (Nat.le_of_ble_eq_true rfl) rfl rfl ?_
  refine r_iconst (v := (0 : Int32)) (q := 5) hX dX9_latestAhead_4 rfl rfl ?_
  refine r_istore (x := (0 : Int32)) (q := 7) 5 [1, 2, 3, 4, 5, 0] (L1 := [(0, vr a0), (1, vi x1), (2, vi x2), (3, vi x3), (4, vi (-2 : Int32)), (5, vi (0 : Int32))]) hX dX9_latestAhead_5 (Nat.le_of_ble_eq_true rfl) rfl rfl ?_
  refine r_loop (Hd := fun (s1 : Int32 × Int32) (P : Option Res) => Ref mX9_latestAhead X 0 0 Z M 7 [(0, vr a0), (1, vi x1), (2, vi x2), (3, vi x3), (4, vi s1.1), (5, vi s1.2)] [] P) (fun _ => r_none) (fun s1 K1 hn2 hx3 => ?_) ((-2 : Int32), (0 : Int32))
  refine r_iload (i := 5) (x := s1.2) (q := 9) 5 hX dX9_latestAhead_7 rfl rfl ?_
  refine r_aload_n (i := 0) (x := a0) (q := 10) 0 hX dX9_latestAhead_9 rfl rfl rfl ?_
  refine r_ck (fun hc4 => ?_)
  refine r_getI (a := a0) (ci := 9) (kf := 3) (q := 13) hX hc4 flX9_25 rfl rfl dX9_latestAhead_10 rfl ?_
  refine r_icmp_ge (tgt := 77) (q := 16) hX dX9_latestAhead_13 (by decide) rfl (fun hb5 => ?_) (fun hb5 => ?_)
  · refine r_iload (i := 4) (x := s1.1) (q := 79) 4 hX dX9_latestAhead_77 rfl rfl ?_
    refine r_lf ((hx3 _).trans (hK _)) ?_
    exact r_iret hM rfl (Nat.le_of_ble_eq_true rfl) (Nat.le_of_ble_eq_true rfl) dX9_latestAhead_79
  · refine r_iload_n (i := 1) (x := x1) (q := 17) 1 hX dX9_latestAhead_16 rfl rfl rfl ?_
    refine r_iload (i := 5) (x := s1.2) (q := 19) 5 hX dX9_latestAhead_17 rfl rfl ?_
    refine r_cs (As := [vi x1, vi s1.2]) (st := []) (r := (some (vi (fX11_hasBit x1 s1.2)))) (Z1 := Z) (M1 := M) (k1 := 0) (n1 := 0) (st1 := [vi (fX11_hasBit x1 s1.2)]) (q := 22) hX (fun l => kX11_hasBit l Z M x1 s1.2) stX11_hasBit ccX11_hasBit (Or.inr ⟨_, lkX9_88⟩) rfl rfl rfl ⟨Nat.le_of_ble_eq_true rfl, Nat.le_of_ble_eq_true rfl, rfl, rfl, Nat.le_of_ble_eq_true rfl, Nat.le_of_ble_eq_true rfl⟩ (Nat.le_of_ble_eq_true rfl) dX9_latestAhead_19 rfl ?_
    refine r_if_eq (tgt := 71) (q := 25) hX dX9_latestAhead_22 (by decide) rfl (fun hb6 => ?_) (fun hb6 => ?_)
    · refine r_iinc (x := s1.2) (v := (s1.2 + (1 : Int32))) (q := 74) 5 5 [1, 2, 3, 4, 5, 0] (L1 := [(0, vr a0), (1, vi x1), (2, vi x2), (3, vi x3), (4, vi s1.1), (5, vi (s1.2 + (1 : Int32)))]) hX dX9_latestAhead_71 rfl rfl (Nat.le_of_ble_eq_true rfl) rfl rfl ?_
      refine r_goto (q := 7) hX dX9_latestAhead_74 (by decide) ?_
      refine r_l0 ?_
      exact hn2 (s1.1, (s1.2 + (1 : Int32)))
    · refine r_aload_n (i := 0) (x := a0) (q := 26) 0 hX dX9_latestAhead_25 rfl rfl rfl ?_
      refine r_iload (i := 5) (x := s1.2) (q := 28) 5 hX dX9_latestAhead_26 rfl rfl ?_
      refine r_iload_n (i := 1) (x := x1) (q := 29) 1 hX dX9_latestAhead_28 rfl rfl rfl ?_
      refine r_iload_n (i := 3) (x := x3) (q := 30) 3 hX dX9_latestAhead_29 rfl rfl rfl ?_
      refine r_aload_n (i := 0) (x := a0) (q := 31) 0 hX dX9_latestAhead_30 rfl rfl rfl ?_
      refine r_iload (i := 5) (x := s1.2) (q := 33) 5 hX dX9_latestAhead_31 rfl rfl ?_
      refine r_iload_n (i := 2) (x := x2) (q := 34) 2 hX dX9_latestAhead_33 rfl rfl rfl ?_
      refine r_bind (fun v7 h8 => ?_)
      refine r_cv (a := a0) (As := [vi s1.2, vi x2]) (st := [vi x3, vi x1, vi s1.2, vr a0]) (r := (some (vi v7))) (Z1 := Z) (M1 := M) (k1 := 0) (n1 := 0) (st1 := [vi v7, vi x3, vi x1, vi s1.2, vr a0]) (q := 37) hX (fun l => kX9_spends l Z M a0 s1.2 x2 v7 h8) hc4 ivX9_spends ccX9_spends (Or.inl lkX9_47) rfl rfl rfl ⟨Nat.le_of_ble_eq_true rfl, Nat.le_of_ble_eq_true rfl, rfl, rfl, Nat.le_of_ble_eq_true rfl, Nat.le_of_ble_eq_true rfl⟩ (Nat.le_of_ble_eq_true rfl) dX9_latestAhead_34 rfl ?_
      refine r_isub (q := 38) hX dX9_latestAhead_37 rfl ?_
      refine r_bind (fun v9 h10 => ?_)
      refine r_cv (a := a0) (As := [vi s1.2, vi x1, vi (x3 - v7)]) (st := []) (r := (some (vi v9))) (Z1 := Z) (M1 := M) (k1 := 0) (n1 := 0) (st1 := [vi v9]) (q := 41) hX (fun l => kX9_latestOf l Z M a0 s1.2 x1 (x3 - v7) v9 h10) hc4 ivX9_latestOf ccX9_latestOf (Or.inl lkX9_101) rfl rfl rfl ⟨Nat.le_of_ble_eq_true rfl, Nat.le_of_ble_eq_true rfl, rfl, rfl, Nat.le_of_ble_eq_true rfl, Nat.le_of_ble_eq_true rfl⟩ (Nat.le_of_ble_eq_true rfl) dX9_latestAhead_38 rfl ?_
      refine r_istore (x := v9) (q := 43) 6 [1, 2, 3, 4, 5, 6, 0] (L1 := [(0, vr a0), (1, vi x1), (2, vi x2), (3, vi x3), (4, vi s1.1), (5, vi s1.2), (6, vi v9)]) hX dX9_latestAhead_41 (Nat.le_of_ble_eq_true rfl) rfl rfl ?_
      refine r_aload_n (i := 0) (x := a0) (q := 44) 0 hX dX9_latestAhead_43 rfl rfl rfl ?_
      refine r_getR (a := a0) (ci := 9) (kf := 1) (q := 47) hX hc4 flX9_15 rfl dX9_latestAhead_44 rfl ?_
      refine r_iload (i := 5) (x := s1.2) (q := 49) 5 hX dX9_latestAhead_47 rfl rfl ?_
      refine r_ck (fun hc11 => ?_)
      refine r_iald (a := (rR M a0 1)) (i := s1.2) (q := 50) hX hc11 dX9_latestAhead_49 rfl ?_
      refine r_iload (i := 6) (x := v9) (q := 52) 6 hX dX9_latestAhead_50 rfl rfl ?_
      refine r_icmp_gt (tgt := 67) (q := 55) hX dX9_latestAhead_52 (by decide) rfl (fun hb12 => ?_) (fun hb12 => ?_)
      · refine r_iload (i := 4) (x := s1.1) (q := 69) 4 hX dX9_latestAhead_67 rfl rfl ?_
        refine r_istore (x := s1.1) (q := 71) 4 [1, 2, 3, 4, 0, 6, 7] (L1 := [(0, vr a0), (1, vi x1), (2, vi x2), (3, vi x3), (4, vi s1.1), (5, vi s1.2), (6, vi v9)]) hX dX9_latestAhead_69 (Nat.le_of_ble_eq_true rfl) rfl rfl ?_
        refine r_iinc (x := s1.2) (v := (s1.2 + (1 : Int32))) (q := 74) 5 5 [1, 2, 3, 4, 5, 0, 7] (L1 := [(0, vr a0), (1, vi x1), (2, vi x2), (3, vi x3), (4, vi s1.1), (5, vi (s1.2 + (1 : Int32))), (6, vi v9)]) hX dX9_latestAhead_71 rfl rfl (Nat.le_of_ble_eq_true rfl) rfl rfl ?_
        refine r_goto (q := 7) hX dX9_latestAhead_74 (by decide) ?_
        refine r_l0 ?_
        refine r_sub [0, 1, 2, 3, 4, 5] rfl ?_
        exact hn2 (s1.1, (s1.2 + (1 : Int32)))
      · refine r_iload (i := 4) (x := s1.1) (q := 57) 4 hX dX9_latestAhead_55 rfl rfl ?_
        refine r_iload (i := 6) (x := v9) (q := 59) 6 hX dX9_latestAhead_57 rfl rfl ?_
        refine r_iconst (v := (1 : Int32)) (q := 60) hX dX9_latestAhead_59 rfl rfl ?_
        refine r_isub (q := 61) hX dX9_latestAhead_60 rfl ?_
        refine r_mmax (q := 64) hX (gd (hcw4_5 _ (List.mem_of_getElem? (i := 6) rfl)) rfl) (Nat.le_of_ble_eq_true rfl) (Nat.le_of_ble_eq_true rfl) (Nat.le_of_ble_eq_true rfl) (Nat.le_of_ble_eq_true rfl) dX9_latestAhead_61 rfl ?_
        refine r_goto (q := 69) hX dX9_latestAhead_64 (by decide) ?_
        refine r_istoreP (x := (mxI s1.1 (v9 - (1 : Int32)))) (q := 71) 4 [1, 2, 3, 4, 0, 6, 7] (fun z13 => [(0, vr a0), (1, vi x1), (2, vi x2), (3, vi x3), (4, vi z13), (5, vi s1.2), (6, vi v9)]) hX dX9_latestAhead_69 (Nat.le_of_ble_eq_true rfl) (fun _ => rfl) rfl (fun z13 => ?_)
        refine r_iinc (x := s1.2) (v := (s1.2 + (1 : Int32))) (q := 74) 5 5 [1, 2, 3, 4, 5, 0, 7] (L1 := [(0, vr a0), (1, vi x1), (2, vi x2), (3, vi x3), (4, vi z13), (5, vi (s1.2 + (1 : Int32))), (6, vi v9)]) hX dX9_latestAhead_71 rfl rfl (Nat.le_of_ble_eq_true rfl) rfl rfl ?_
        refine r_goto (q := 7) hX dX9_latestAhead_74 (by decide) ?_
        refine r_l0 ?_
        refine r_sub [0, 1, 2, 3, 4, 5] rfl ?_
        exact hn2 (z13, (s1.2 + (1 : Int32)))
theorem lkX9_98 : Lk RX9 98 yX9_latestAhead := gd (hcw4_6 _ (List.mem_of_getElem? (i := 7) rfl)) rfl
def mX9_fillLatest : MD := (yX9_fillLatest, cX9_fillLatest, 3, none, 3, 72, 0, 0)
theorem ccX9_fillLatest : Cc mX9_fillLatest 0 := ⟨gd (hcw1_0 _ (List.mem_of_getElem? (i := 6) rfl)) rfl, gd (hcw4_6 _ (List.mem_of_getElem? (i := 6) rfl)) rfl, by decide +kernel, by decide +kernel, by decide +kernel⟩
theorem ivX9_fillLatest : Iv mX9_fillLatest 9 := ⟨Nat.le_of_ble_eq_true rfl, rfl, gd (hcw4_6 _ (List.mem_of_getElem? (i := 5) rfl)) rfl, gd (hps2 _ (List.mem_of_getElem? (i := 1) rfl)) rfl⟩
noncomputable def fX9_fillLatest (Z : Shp) (M : Mem) (a0 : Nat) : Option (Mem) := (if tg Z a0 = (10, 10) then (Option.bind (fJ7_fill_53178 Z M (rR M a0 9) (-2 : Int32)) (fun v2 => (if aok Z (rR v2 a0 9) 100 (fX9_cell (0 : Int32) (0 : Int32) (0 : Int32)) then (pu (wI v2 (rR v2 a0 9) (ix (fX9_cell (0 : Int32) (0 : Int32) (0 : Int32))) (1000 : Int32)) (fun M5 => (if aok Z (rR M5 a0 9) 100 (fX9_cell (0 : Int32) (1 : Int32) (0 : Int32)) then (pu (wI M5 (rR M5 a0 9) (ix (fX9_cell (0 : Int32) (1 : Int32) (0 : Int32))) (1000 : Int32)) (fun M7 => (loop (fun s8 : Int32 × Mem => (if ((1 : Int32) <<< ((rI s8.2 a0 3) &&& 31)) ≤ s8.1 then some (Sum.inr s8.2) else (loop (fun s12 : Int32 × Mem => (if (rI s12.2 a0 6) < s12.1 then some (Sum.inr (Sum.inl ((s8.1 + (1 : Int32)), s12.2))) else (Option.bind (fX9_latestAhead Z s12.2 a0 s8.1 (0 : Int32) s12.1) (fun v16 => (if aok Z (rR s12.2 a0 9) 100 (fX9_cell s8.1 (0 : Int32) s12.1) then (pu (wI s12.2 (rR s12.2 a0 9) (ix (fX9_cell s8.1 (0 : Int32) s12.1)) v16) (fun M19 => (Option.bind (fX9_latestAhead Z M19 a0 s8.1 (1 : Int32) s12.1) (fun v20 => (if aok Z (rR M19 a0 9) 100 (fX9_cell s8.1 (1 : Int32) s12.1) then (pu (wI M19 (rR M19 a0 9) (ix (fX9_cell s8.1 (1 : Int32) s12.1)) v20) (fun M23 => some (Sum.inl ((s12.1 + (1 : Int32)), M23)))) else none))))) else none))))) ((0 : Int32), s8.2)))) ((1 : Int32), M7)))) else none))) else none))) else none)
set_option maxRecDepth 20000 in
theorem kX9_fillLatest (l : Launch) (Z : Shp) (M : Mem) (a0 : Nat) (r : Mem) (h : fX9_fillLatest Z M a0 = some r) : Ct l mX9_fillLatest [vr a0] Z M (none, Z, r) := by
  refine Ct.of rfl (Nat.le_of_ble_eq_true rfl) (fun X hM => ?_)
  have hX := hM.1
  refine r_top (mk := fun r => (none, Z, r)) h (fun K hK => ?_)
  unfold fX9_fillLatest
  refine r_aload_n (i := 0) (x := a0) (q := 1) 0 hX dX9_fillLatest_0 rfl rfl rfl ?_
  refine r_ck (fun hc1 => ?_)
  refine r_getR (a := a0) (ci := 9) (kf := 9) (q := 4) hX hc1 flX9_59 rfl dX9_fillLatest_1 rfl ?_
  refine r_bipush (v := (-2 : Int32)) (q := 6) hX dX9_fillLatest_4 rfl rfl ?_
  refine r_bind (fun v2 h3 => ?_)
  refine r_cs (As := [vr (rR M a0 9), vi (-2 : Int32)]) (st := []) (r := none) (Z1 := Z) (M1 := v2) (k1 := 0) (n1 := 0) (st1 := []) (q := 9) hX (fun l => kJ7_fill_53178 l Z M (rR M a0 9) (-2 : Int32) v2 h3) stJ7_fill_53178 ccJ7_fill_53178 (Or.inl lkX9_74) rfl rfl rfl ⟨Nat.le_of_ble_eq_true rfl, Nat.le_of_ble_eq_true rfl, rfl, rfl, Nat.le_of_ble_eq_true rfl, Nat.le_of_ble_eq_true rfl⟩ (Nat.le_of_ble_eq_true rfl) dX9_fillLatest_6 rfl ?_
  refine r_aload_n (i := 0) (x := a0) (q := 10) 0 hX dX9_fillLatest_9 rfl rfl rfl ?_
  refine r_getR (a := a0) (ci := 9) (kf := 9) (q := 13) hX hc1 flX9_59 rfl dX9_fillLatest_10 rfl ?_
  refine r_iconst (v := (0 : Int32)) (q := 14) hX dX9_fillLatest_13 rfl rfl ?_
  refine r_iconst (v := (0 : Int32)) (q := 15) hX dX9_fillLatest_14 rfl rfl ?_
  refine r_iconst (v := (0 : Int32)) (q := 16) hX dX9_fillLatest_15 rfl rfl ?_
  refine r_cs (As := [vi (0 : Int32), vi (0 : Int32), vi (0 : Int32)]) (st := [vr (rR v2 a0 9)]) (r := (some (vi (fX9_cell (0 : Int32) (0 : Int32) (0 : Int32))))) (Z1 := Z) (M1 := v2) (k1 := 0) (n1 := 0) (st1 := [vi (fX9_cell (0 : Int32) (0 : Int32) (0 : Int32)), vr (rR v2 a0 9)]) (q := 19) hX (fun l => kX9_cell l Z v2 (0 : Int32) (0 : Int32) (0 : Int32)) stX9_cell ccX9_cell (Or.inl lkX9_80) rfl rfl rfl ⟨Nat.le_of_ble_eq_true rfl, Nat.le_of_ble_eq_true rfl, rfl, rfl, Nat.le_of_ble_eq_true rfl, Nat.le_of_ble_eq_true rfl⟩ (Nat.le_of_ble_eq_true rfl) dX9_fillLatest_16 rfl ?_
  refine r_sipush (v := (1000 : Int32)) (q := 22) hX dX9_fillLatest_19 rfl rfl ?_
  refine r_ck (fun hc4 => ?_)
  refine r_iast (a := (rR v2 a0 9)) (i := (fX9_cell (0 : Int32) (0 : Int32) (0 : Int32))) (x := (1000 : Int32)) (q := 23) hX hc4 dX9_fillLatest_22 rfl (fun M5 => ?_)
  refine r_aload_n (i := 0) (x := a0) (q := 24) 0 hX dX9_fillLatest_23 rfl rfl rfl ?_
  refine r_getR (a := a0) (ci := 9) (kf := 9) (q := 27) hX hc1 flX9_59 rfl dX9_fillLatest_24 rfl ?_
  refine r_iconst (v := (0 : Int32)) (q := 28) hX dX9_fillLatest_27 rfl rfl ?_
  refine r_iconst (v := (1 : Int32)) (q := 29) hX dX9_fillLatest_28 rfl rfl ?_
  refine r_iconst (v := (0 : Int32)) (q := 30) hX dX9_fillLatest_29 rfl rfl ?_
  refine r_cs (As := [vi (0 : Int32), vi (1 : Int32), vi (0 : Int32)]) (st := [vr (rR M5 a0 9)]) (r := (some (vi (fX9_cell (0 : Int32) (1 : Int32) (0 : Int32))))) (Z1 := Z) (M1 := M5) (k1 := 0) (n1 := 0) (st1 := [vi (fX9_cell (0 : Int32) (1 : Int32) (0 : Int32)), vr (rR M5 a0 9)]) (q := 33) hX (fun l => kX9_cell l Z M5 (0 : Int32) (1 : Int32) (0 : Int32)) stX9_cell ccX9_cell (Or.inl lkX9_80) rfl rfl rfl ⟨Nat.le_of_ble_eq_true rfl, Nat.le_of_ble_eq_true rfl, rfl, rfl, Nat.le_of_ble_eq_true rfl, Nat.le_of_ble_eq_true rfl⟩ (Nat.le_of_ble_eq_true rfl) dX9_fillLatest_30 rfl ?_
  refine r_sipush (v := (1000 : Int32)) (q := 36) hX dX9_fillLatest_33 rfl rfl ?_
  refine r_ck (fun hc6 => ?_)
  refine r_iast (a := (rR M5 a0 9)) (i := (fX9_cell (0 : Int32) (1 : Int32) (0 : Int32))) (x := (1000 : Int32)) (q := 37) hX hc6 dX9_fillLatest_36 rfl (fun M7 => ?_)
  refine r_iconst (v := (1 : Int32)) (q := 38) hX dX9_fillLatest_37 rfl rfl ?_
  refine r_istore_n (x := (1 : Int32)) (q := 39) 1 [1, 0] (L1 := [(0, vr a0), (1, vi (1 : Int32))]) hX dX9_fillLatest_38 rfl (Nat.le_of_ble_eq_true rfl) rfl rfl ?_
  refine r_loop (Hd := fun (s8 : Int32 × Mem) (P : Option Res) => Ref mX9_fillLatest X 0 0 Z s8.2 39 [(0, vr a0), (1, vi s8.1)] [] P) (fun _ => r_none) (fun s8 K1 hn9 hx10 => ?_) ((1 : Int32), M7)
  refine r_iload_n (i := 1) (x := s8.1) (q := 40) 1 hX dX9_fillLatest_39 rfl rfl rfl ?_
  refine r_iconst (v := (1 : Int32)) (q := 41) hX dX9_fillLatest_40 rfl rfl ?_
  refine r_aload_n (i := 0) (x := a0) (q := 42) 0 hX dX9_fillLatest_41 rfl rfl rfl ?_
  refine r_getI (a := a0) (ci := 9) (kf := 3) (q := 45) hX hc1 flX9_25 rfl rfl dX9_fillLatest_42 rfl ?_
  refine r_ishl (q := 46) hX dX9_fillLatest_45 rfl ?_
  refine r_icmp_ge (tgt := 107) (q := 49) hX dX9_fillLatest_46 (by decide) rfl (fun hb11 => ?_) (fun hb11 => ?_)
  · refine r_lf ((hx10 _).trans (hK _)) ?_
    exact r_vret hM rfl (Nat.le_of_ble_eq_true rfl) (Nat.le_of_ble_eq_true rfl) dX9_fillLatest_107
  · refine r_iconst (v := (0 : Int32)) (q := 50) hX dX9_fillLatest_49 rfl rfl ?_
    refine r_istore_n (x := (0 : Int32)) (q := 51) 2 [1, 2, 0] (L1 := [(0, vr a0), (1, vi s8.1), (2, vi (0 : Int32))]) hX dX9_fillLatest_50 rfl (Nat.le_of_ble_eq_true rfl) rfl rfl ?_
    refine r_loop (Hd := fun (s12 : Int32 × Mem) (P : Option Res) => Ref mX9_fillLatest X 0 0 Z s12.2 51 [(0, vr a0), (1, vi s8.1), (2, vi s12.1)] [] P) (fun _ => r_none) (fun s12 K1 hn13 hx14 => ?_) ((0 : Int32), s8.2)
    refine r_iload_n (i := 2) (x := s12.1) (q := 52) 2 hX dX9_fillLatest_51 rfl rfl rfl ?_
    refine r_aload_n (i := 0) (x := a0) (q := 53) 0 hX dX9_fillLatest_52 rfl rfl rfl ?_
    refine r_getI (a := a0) (ci := 9) (kf := 6) (q := 56) hX hc1 flX9_33 rfl rfl dX9_fillLatest_53 rfl ?_
    refine r_icmp_gt (tgt := 101) (q := 59) hX dX9_fillLatest_56 (by decide) rfl (fun hb15 => ?_) (fun hb15 => ?_)
    · refine r_iinc (x := s8.1) (v := (s8.1 + (1 : Int32))) (q := 104) 1 1 [1, 0, 3] (L1 := [(0, vr a0), (1, vi (s8.1 + (1 : Int32))), (2, vi s12.1)]) hX dX9_fillLatest_101 rfl rfl (Nat.le_of_ble_eq_true rfl) rfl rfl ?_
      refine r_goto (q := 39) hX dX9_fillLatest_104 (by decide) ?_
      refine r_lf (hx14 _) ?_
      refine r_sub [0, 1] rfl ?_
      exact hn9 ((s8.1 + (1 : Int32)), s12.2)
    · refine r_aload_n (i := 0) (x := a0) (q := 60) 0 hX dX9_fillLatest_59 rfl rfl rfl ?_
      refine r_getR (a := a0) (ci := 9) (kf := 9) (q := 63) hX hc1 flX9_59 rfl dX9_fillLatest_60 rfl ?_
      refine r_iload_n (i := 1) (x := s8.1) (q := 64) 1 hX dX9_fillLatest_63 rfl rfl rfl ?_
      refine r_iconst (v := (0 : Int32)) (q := 65) hX dX9_fillLatest_64 rfl rfl ?_
      refine r_iload_n (i := 2) (x := s12.1) (q := 66) 2 hX dX9_fillLatest_65 rfl rfl rfl ?_
      refine r_cs (As := [vi s8.1, vi (0 : Int32), vi s12.1]) (st := [vr (rR s12.2 a0 9)]) (r := (some (vi (fX9_cell s8.1 (0 : Int32) s12.1)))) (Z1 := Z) (M1 := s12.2) (k1 := 0) (n1 := 0) (st1 := [vi (fX9_cell s8.1 (0 : Int32) s12.1), vr (rR s12.2 a0 9)]) (q := 69) hX (fun l => kX9_cell l Z s12.2 s8.1 (0 : Int32) s12.1) stX9_cell ccX9_cell (Or.inl lkX9_80) rfl rfl rfl ⟨Nat.le_of_ble_eq_true rfl, Nat.le_of_ble_eq_true rfl, rfl, rfl, Nat.le_of_ble_eq_true rfl, Nat.le_of_ble_eq_true rfl⟩ (Nat.le_of_ble_eq_true rfl) dX9_fillLatest_66 rfl ?_
      refine r_aload_n (i := 0) (x := a0) (q := 70) 0 hX dX9_fillLatest_69 rfl rfl rfl ?_
      refine r_iload_n (i := 1) (x := s8.1) (q := 71) 1 hX dX9_fillLatest_70 rfl rfl rfl ?_
      refine r_iconst (v := (0 : Int32)) (q := 72) hX dX9_fillLatest_71 rfl rfl ?_
      refine r_iload_n (i := 2) (x := s12.1) (q := 73) 2 hX dX9_fillLatest_72 rfl rfl rfl ?_
      refine r_bind (fun v16 h17 => ?_)
      refine r_cv (a := a0) (As := [vi s8.1, vi (0 : Int32), vi s12.1]) (st := [vi (fX9_cell s8.1 (0 : Int32) s12.1), vr (rR s12.2 a0 9)]) (r := (some (vi v16))) (Z1 := Z) (M1 := s12.2) (k1 := 0) (n1 := 0) (st1 := [vi v16, vi (fX9_cell s8.1 (0 : Int32) s12.1), vr (rR s12.2 a0 9)]) (q := 76) hX (fun l => kX9_latestAhead l Z s12.2 a0 s8.1 (0 : Int32) s12.1 v16 h17) hc1 ivX9_latestAhead ccX9_latestAhead (Or.inl lkX9_98) rfl rfl rfl ⟨Nat.le_of_ble_eq_true rfl, Nat.le_of_ble_eq_true rfl, rfl, rfl, Nat.le_of_ble_eq_true rfl, Nat.le_of_ble_eq_true rfl⟩ (Nat.le_of_ble_eq_true rfl) dX9_fillLatest_73 rfl ?_
      refine r_ck (fun hc18 => ?_)
      refine r_iast (a := (rR s12.2 a0 9)) (i := (fX9_cell s8.1 (0 : Int32) s12.1)) (x := v16) (q := 77) hX hc18 dX9_fillLatest_76 rfl (fun M19 => ?_)
      refine r_aload_n (i := 0) (x := a0) (q := 78) 0 hX dX9_fillLatest_77 rfl rfl rfl ?_
      refine r_getR (a := a0) (ci := 9) (kf := 9) (q := 81) hX hc1 flX9_59 rfl dX9_fillLatest_78 rfl ?_
      refine r_iload_n (i := 1) (x := s8.1) (q := 82) 1 hX dX9_fillLatest_81 rfl rfl rfl ?_
      refine r_iconst (v := (1 : Int32)) (q := 83) hX dX9_fillLatest_82 rfl rfl ?_
      refine r_iload_n (i := 2) (x := s12.1) (q := 84) 2 hX dX9_fillLatest_83 rfl rfl rfl ?_
      refine r_cs (As := [vi s8.1, vi (1 : Int32), vi s12.1]) (st := [vr (rR M19 a0 9)]) (r := (some (vi (fX9_cell s8.1 (1 : Int32) s12.1)))) (Z1 := Z) (M1 := M19) (k1 := 0) (n1 := 0) (st1 := [vi (fX9_cell s8.1 (1 : Int32) s12.1), vr (rR M19 a0 9)]) (q := 87) hX (fun l => kX9_cell l Z M19 s8.1 (1 : Int32) s12.1) stX9_cell ccX9_cell (Or.inl lkX9_80) rfl rfl rfl ⟨Nat.le_of_ble_eq_true rfl, Nat.le_of_ble_eq_true rfl, rfl, rfl, Nat.le_of_ble_eq_true rfl, Nat.le_of_ble_eq_true rfl⟩ (Nat.le_of_ble_eq_true rfl) dX9_fillLatest_84 rfl ?_
      refine r_aload_n (i := 0) (x := a0) (q := 88) 0 hX dX9_fillLatest_87 rfl rfl rfl ?_
      refine r_iload_n (i := 1) (x := s8.1) (q := 89) 1 hX dX9_fillLatest_88 rfl rfl rfl ?_
      refine r_iconst (v := (1 : Int32)) (q := 90) hX dX9_fillLatest_89 rfl rfl ?_
      refine r_iload_n (i := 2) (x := s12.1) (q := 91) 2 hX dX9_fillLatest_90 rfl rfl rfl ?_
      refine r_bind (fun v20 h21 => ?_)
      refine r_cv (a := a0) (As := [vi s8.1, vi (1 : Int32), vi s12.1]) (st := [vi (fX9_cell s8.1 (1 : Int32) s12.1), vr (rR M19 a0 9)]) (r := (some (vi v20))) (Z1 := Z) (M1 := M19) (k1 := 0) (n1 := 0) (st1 := [vi v20, vi (fX9_cell s8.1 (1 : Int32) s12.1), vr (rR M19 a0 9)]) (q := 94) hX (fun l => kX9_latestAhead l Z M19 a0 s8.1 (1 : Int32) s12.1 v20 h21) hc1 ivX9_latestAhead ccX9_latestAhead (Or.inl lkX9_98) rfl rfl rfl ⟨Nat.le_of_ble_eq_true rfl, Nat.le_of_ble_eq_true rfl, rfl, rfl, Nat.le_of_ble_eq_true rfl, Nat.le_of_ble_eq_true rfl⟩ (Nat.le_of_ble_eq_true rfl) dX9_fillLatest_91 rfl ?_
      refine r_ck (fun hc22 => ?_)
      refine r_iast (a := (rR M19 a0 9)) (i := (fX9_cell s8.1 (1 : Int32) s12.1)) (x := v20) (q := 95) hX hc22 dX9_fillLatest_94 rfl (fun M23 => ?_)
      refine r_iinc (x := s12.1) (v := (s12.1 + (1 : Int32))) (q := 98) 2 2 [1, 2, 0] (L1 := [(0, vr a0), (1, vi s8.1), (2, vi (s12.1 + (1 : Int32)))]) hX dX9_fillLatest_95 rfl rfl (Nat.le_of_ble_eq_true rfl) rfl rfl ?_
      refine r_goto (q := 51) hX dX9_fillLatest_98 (by decide) ?_
      refine r_l0 ?_
      exact hn13 ((s12.1 + (1 : Int32)), M23)
def mX9_leastThatFits : MD := (yX9_leastThatFits, cX9_leastThatFits, 6, (some .int), 2, 46, 0, 0)
theorem ccX9_leastThatFits : Cc mX9_leastThatFits 4 := ⟨gd (hcw1_0 _ (List.mem_of_getElem? (i := 6) rfl)) rfl, gd (hcw4_7 _ (List.mem_of_getElem? (i := 2) rfl)) rfl, by decide +kernel, by decide +kernel, by decide +kernel⟩
theorem ivX9_leastThatFits : Iv mX9_leastThatFits 9 := ⟨Nat.le_of_ble_eq_true rfl, rfl, gd (hcw4_7 _ (List.mem_of_getElem? (i := 1) rfl)) rfl, gd (hps2 _ (List.mem_of_getElem? (i := 5) rfl)) rfl⟩
noncomputable def fX9_leastThatFits (Z : Shp) (M : Mem) (a0 : Nat) (x1 : Int32) (x2 : Int32) (x3 : Int32) (x4 : Int32) : Option (Int32) := (loop (fun s1 : Int32 => (if tg Z a0 = (10, 10) then (if ((rI M a0 3) - (1 : Int32)) ≤ s1 then some (Sum.inr s1) else (if (fX11_hasBit x1 s1) = 0 then some (Sum.inl (s1 + (1 : Int32))) else (Option.bind (fX9_hourOf Z M a0 s1 x4) (fun v7 => (Option.bind (fX9_spends Z M a0 s1 x2) (fun v9 => (Option.bind (fX9_latestOf Z M a0 s1 x1 (x3 - v9)) (fun v11 => (if v7 ≤ v11 then some (Sum.inr s1) else some (Sum.inl (s1 + (1 : Int32)))))))))))) else none)) (0 : Int32))
set_option maxRecDepth 20000 in
theorem kX9_leastThatFits (l : Launch) (Z : Shp) (M : Mem) (a0 : Nat) (x1 : Int32) (x2 : Int32) (x3 : Int32) (x4 : Int32) (r : Int32) (h : fX9_leastThatFits Z M a0 x1 x2 x3 x4 = some r) : Ct l mX9_leastThatFits [vr a0, vi x1, vi x2, vi x3, vi x4] Z M ((some (vi r)), Z, M) := by
  refine Ct.of rfl (Nat.le_of_ble_eq_true rfl) (fun X hM => ?_)
  have hX := hM.1
  refine r_top (mk := fun r => ((some (vi r)), Z, M)) h (fun K hK => ?_)
  unfold fX9_leastThatFits
  refine r_iconst (v := (0 : Int32)) (q := 1) hX dX9_leastThatFits_0 rfl rfl ?_
  refine r_istore (x := (0 : Int32)) (q := 3) 5 [1, 2, 3, 4, 5, 0] (L1 := [(0, vr a0), (1, vi x1), (2, vi x2), (3, vi x3), (4, vi x4), (5, vi (0 : Int32))]) hX dX9_leastThatFits_1 (Nat.le_of_ble_eq_true rfl) rfl rfl ?_
  refine r_loop (Hd := fun (s1 : Int32) (P : Option Res) => Ref mX9_leastThatFits X 0 0 Z M 3 [(0, vr a0), (1, vi x1), (2, vi x2), (3, vi x3), (4, vi x4), (5, vi s1)] [] P) (fun _ => r_none) (fun s1 K1 hn2 hx3 => ?_) (0 : Int32)
  refine r_iload (i := 5) (x := s1) (q := 5) 5 hX dX9_leastThatFits_3 rfl rfl ?_
  refine r_aload_n (i := 0) (x := a0) (q := 6) 0 hX dX9_leastThatFits_5 rfl rfl rfl ?_
  refine r_ck (fun hc4 => ?_)
  refine r_getI (a := a0) (ci := 9) (kf := 3) (q := 9) hX hc4 flX9_25 rfl rfl dX9_leastThatFits_6 rfl ?_
  refine r_iconst (v := (1 : Int32)) (q := 10) hX dX9_leastThatFits_9 rfl rfl ?_
  refine r_isub (q := 11) hX dX9_leastThatFits_10 rfl ?_
  refine r_icmp_ge (tgt := 56) (q := 14) hX dX9_leastThatFits_11 (by decide) rfl (fun hb5 => ?_) (fun hb5 => ?_)
  · refine r_iload (i := 5) (x := s1) (q := 58) 5 hX dX9_leastThatFits_56 rfl rfl ?_
    refine r_lf ((hx3 _).trans (hK _)) ?_
    exact r_iret hM rfl (Nat.le_of_ble_eq_true rfl) (Nat.le_of_ble_eq_true rfl) dX9_leastThatFits_58
  · refine r_iload_n (i := 1) (x := x1) (q := 15) 1 hX dX9_leastThatFits_14 rfl rfl rfl ?_
    refine r_iload (i := 5) (x := s1) (q := 17) 5 hX dX9_leastThatFits_15 rfl rfl ?_
    refine r_cs (As := [vi x1, vi s1]) (st := []) (r := (some (vi (fX11_hasBit x1 s1)))) (Z1 := Z) (M1 := M) (k1 := 0) (n1 := 0) (st1 := [vi (fX11_hasBit x1 s1)]) (q := 20) hX (fun l => kX11_hasBit l Z M x1 s1) stX11_hasBit ccX11_hasBit (Or.inr ⟨_, lkX9_88⟩) rfl rfl rfl ⟨Nat.le_of_ble_eq_true rfl, Nat.le_of_ble_eq_true rfl, rfl, rfl, Nat.le_of_ble_eq_true rfl, Nat.le_of_ble_eq_true rfl⟩ (Nat.le_of_ble_eq_true rfl) dX9_leastThatFits_17 rfl ?_
    refine r_if_eq (tgt := 50) (q := 23) hX dX9_leastThatFits_20 (by decide) rfl (fun hb6 => ?_) (fun hb6 => ?_)
    · refine r_iinc (x := s1) (v := (s1 + (1 : Int32))) (q := 53) 5 5 [1, 2, 3, 4, 5, 0] (L1 := [(0, vr a0), (1, vi x1), (2, vi x2), (3, vi x3), (4, vi x4), (5, vi (s1 + (1 : Int32)))]) hX dX9_leastThatFits_50 rfl rfl (Nat.le_of_ble_eq_true rfl) rfl rfl ?_
      refine r_goto (q := 3) hX dX9_leastThatFits_53 (by decide) ?_
      refine r_l0 ?_
      exact hn2 (s1 + (1 : Int32))
    · refine r_aload_n (i := 0) (x := a0) (q := 24) 0 hX dX9_leastThatFits_23 rfl rfl rfl ?_
      refine r_iload (i := 5) (x := s1) (q := 26) 5 hX dX9_leastThatFits_24 rfl rfl ?_
      refine r_iload (i := 4) (x := x4) (q := 28) 4 hX dX9_leastThatFits_26 rfl rfl ?_
      refine r_bind (fun v7 h8 => ?_)
      refine r_cv (a := a0) (As := [vi s1, vi x4]) (st := []) (r := (some (vi v7))) (Z1 := Z) (M1 := M) (k1 := 0) (n1 := 0) (st1 := [vi v7]) (q := 31) hX (fun l => kX9_hourOf l Z M a0 s1 x4 v7 h8) hc4 ivX9_hourOf ccX9_hourOf (Or.inl lkX9_44) rfl rfl rfl ⟨Nat.le_of_ble_eq_true rfl, Nat.le_of_ble_eq_true rfl, rfl, rfl, Nat.le_of_ble_eq_true rfl, Nat.le_of_ble_eq_true rfl⟩ (Nat.le_of_ble_eq_true rfl) dX9_leastThatFits_28 rfl ?_
      refine r_aload_n (i := 0) (x := a0) (q := 32) 0 hX dX9_leastThatFits_31 rfl rfl rfl ?_
      refine r_iload (i := 5) (x := s1) (q := 34) 5 hX dX9_leastThatFits_32 rfl rfl ?_
      refine r_iload_n (i := 1) (x := x1) (q := 35) 1 hX dX9_leastThatFits_34 rfl rfl rfl ?_
      refine r_iload_n (i := 3) (x := x3) (q := 36) 3 hX dX9_leastThatFits_35 rfl rfl rfl ?_
      refine r_aload_n (i := 0) (x := a0) (q := 37) 0 hX dX9_leastThatFits_36 rfl rfl rfl ?_
      refine r_iload (i := 5) (x := s1) (q := 39) 5 hX dX9_leastThatFits_37 rfl rfl ?_
      refine r_iload_n (i := 2) (x := x2) (q := 40) 2 hX dX9_leastThatFits_39 rfl rfl rfl ?_
      refine r_bind (fun v9 h10 => ?_)
      refine r_cv (a := a0) (As := [vi s1, vi x2]) (st := [vi x3, vi x1, vi s1, vr a0, vi v7]) (r := (some (vi v9))) (Z1 := Z) (M1 := M) (k1 := 0) (n1 := 0) (st1 := [vi v9, vi x3, vi x1, vi s1, vr a0, vi v7]) (q := 43) hX (fun l => kX9_spends l Z M a0 s1 x2 v9 h10) hc4 ivX9_spends ccX9_spends (Or.inl lkX9_47) rfl rfl rfl ⟨Nat.le_of_ble_eq_true rfl, Nat.le_of_ble_eq_true rfl, rfl, rfl, Nat.le_of_ble_eq_true rfl, Nat.le_of_ble_eq_true rfl⟩ (Nat.le_of_ble_eq_true rfl) dX9_leastThatFits_40 rfl ?_
      refine r_isub (q := 44) hX dX9_leastThatFits_43 rfl ?_
      refine r_bind (fun v11 h12 => ?_)
      refine r_cv (a := a0) (As := [vi s1, vi x1, vi (x3 - v9)]) (st := [vi v7]) (r := (some (vi v11))) (Z1 := Z) (M1 := M) (k1 := 0) (n1 := 0) (st1 := [vi v11, vi v7]) (q := 47) hX (fun l => kX9_latestOf l Z M a0 s1 x1 (x3 - v9) v11 h12) hc4 ivX9_latestOf ccX9_latestOf (Or.inl lkX9_101) rfl rfl rfl ⟨Nat.le_of_ble_eq_true rfl, Nat.le_of_ble_eq_true rfl, rfl, rfl, Nat.le_of_ble_eq_true rfl, Nat.le_of_ble_eq_true rfl⟩ (Nat.le_of_ble_eq_true rfl) dX9_leastThatFits_44 rfl ?_
      refine r_icmp_le (tgt := 56) (q := 50) hX dX9_leastThatFits_47 (by decide) rfl (fun hb13 => ?_) (fun hb13 => ?_)
      · refine r_iload (i := 5) (x := s1) (q := 58) 5 hX dX9_leastThatFits_56 rfl rfl ?_
        refine r_lf ((hx3 _).trans (hK _)) ?_
        exact r_iret hM rfl (Nat.le_of_ble_eq_true rfl) (Nat.le_of_ble_eq_true rfl) dX9_leastThatFits_58
      · refine r_iinc (x := s1) (v := (s1 + (1 : Int32))) (q := 53) 5 5 [1, 2, 3, 4, 5, 0] (L1 := [(0, vr a0), (1, vi x1), (2, vi x2), (3, vi x3), (4, vi x4), (5, vi (s1 + (1 : Int32)))]) hX dX9_leastThatFits_50 rfl rfl (Nat.le_of_ble_eq_true rfl) rfl rfl ?_
        refine r_goto (q := 3) hX dX9_leastThatFits_53 (by decide) ?_
        refine r_l0 ?_
        exact hn2 (s1 + (1 : Int32))
theorem lkX9_104 : Lk RX9 104 yX9_leastThatFits := gd (hcw4_6 _ (List.mem_of_getElem? (i := 19) rfl)) rfl
def mX9_layOut : MD := (yX9_layOut, cX9_layOut, 7, none, 3, 71, 0, 0)
theorem ccX9_layOut : Cc mX9_layOut 0 := ⟨gd (hcw1_0 _ (List.mem_of_getElem? (i := 6) rfl)) rfl, gd (hcw4_6 _ (List.mem_of_getElem? (i := 18) rfl)) rfl, by decide +kernel, by decide +kernel, by decide +kernel⟩
theorem ivX9_layOut : Iv mX9_layOut 9 := ⟨Nat.le_of_ble_eq_true rfl, rfl, gd (hcw4_6 _ (List.mem_of_getElem? (i := 17) rfl)) rfl, gd (hps2 _ (List.mem_of_getElem? (i := 4) rfl)) rfl⟩
noncomputable def fX9_layOut (Z : Shp) (M : Mem) (a0 : Nat) : Option (Mem) := (if tg Z a0 = (10, 10) then (pu ((((1 : Int32) <<< ((rI M a0 3) &&& 31)) - (1 : Int32))) (fun z2 => (pu ((rI M a0 6)) (fun z3 => (loop (fun s4 : Int32 × Int32 × Int32 × Int32 × Int32 × Mem => (if (rI s4.2.2.2.2.2 a0 3) ≤ s4.2.2.2.2.1 then some (Sum.inr s4.2.2.2.2.2) else (Option.bind (fX9_leastThatFits Z s4.2.2.2.2.2 a0 s4.1 s4.2.1 s4.2.2.1 s4.2.2.2.1) (fun v8 => (if aok Z (rR s4.2.2.2.2.2 a0 8) 100 s4.2.2.2.2.1 then (pu (wI s4.2.2.2.2.2 (rR s4.2.2.2.2.2 a0 8) (ix s4.2.2.2.2.1) v8) (fun M11 => (Option.bind (fX9_hourOf Z M11 a0 v8 s4.2.2.2.1) (fun v12 => (Option.bind (fX9_spends Z M11 a0 v8 s4.2.1) (fun v14 => (pu ((s4.2.2.1 - v14)) (fun z16 => (Option.bind (fX9_stateBehind Z M11 a0 v8) (fun v17 => (pu ((s4.1 ^^^ ((1 : Int32) <<< (v8 &&& 31)))) (fun z19 => some (Sum.inl (z19, v17, z16, v12, (s4.2.2.2.2.1 + (1 : Int32)), M11)))))))))))))) else none))))) (z2, (0 : Int32), z3, (-1 : Int32), (0 : Int32), M)))))) else none)
set_option maxRecDepth 20000 in
theorem kX9_layOut (l : Launch) (Z : Shp) (M : Mem) (a0 : Nat) (r : Mem) (h : fX9_layOut Z M a0 = some r) : Ct l mX9_layOut [vr a0] Z M (none, Z, r) := by
  refine Ct.of rfl (Nat.le_of_ble_eq_true rfl) (fun X hM => ?_)
  have hX := hM.1
  refine r_top (mk := fun r => (none, Z, r)) h (fun K hK => ?_)
  unfold fX9_layOut
  refine r_iconst (v := (1 : Int32)) (q := 1) hX dX9_layOut_0 rfl rfl ?_
  refine r_aload_n (i := 0) (x := a0) (q := 2) 0 hX dX9_layOut_1 rfl rfl rfl ?_
  refine r_ck (fun hc1 => ?_)
  refine r_getI (a := a0) (ci := 9) (kf := 3) (q := 5) hX hc1 flX9_25 rfl rfl dX9_layOut_2 rfl ?_
  refine r_ishl (q := 6) hX dX9_layOut_5 rfl ?_
  refine r_iconst (v := (1 : Int32)) (q := 7) hX dX9_layOut_6 rfl rfl ?_
  refine r_isub (q := 8) hX dX9_layOut_7 rfl ?_
  refine r_istore_nP (x := (((1 : Int32) <<< ((rI M a0 3) &&& 31)) - (1 : Int32))) (q := 9) 1 [1, 0] (fun z2 => [(0, vr a0), (1, vi z2)]) hX dX9_layOut_8 rfl (Nat.le_of_ble_eq_true rfl) (fun _ => rfl) rfl (fun z2 => ?_)
  refine r_iconst (v := (0 : Int32)) (q := 10) hX dX9_layOut_9 rfl rfl ?_
  refine r_istore_n (x := (0 : Int32)) (q := 11) 2 [1, 2, 0] (L1 := [(0, vr a0), (1, vi z2), (2, vi (0 : Int32))]) hX dX9_layOut_10 rfl (Nat.le_of_ble_eq_true rfl) rfl rfl ?_
  refine r_aload_n (i := 0) (x := a0) (q := 12) 0 hX dX9_layOut_11 rfl rfl rfl ?_
  refine r_getI (a := a0) (ci := 9) (kf := 6) (q := 15) hX hc1 flX9_33 rfl rfl dX9_layOut_12 rfl ?_
  refine r_istore_nP (x := (rI M a0 6)) (q := 16) 3 [1, 2, 3, 0] (fun z3 => [(0, vr a0), (1, vi z2), (2, vi (0 : Int32)), (3, vi z3)]) hX dX9_layOut_15 rfl (Nat.le_of_ble_eq_true rfl) (fun _ => rfl) rfl (fun z3 => ?_)
  refine r_iconst (v := (-1 : Int32)) (q := 17) hX dX9_layOut_16 rfl rfl ?_
  refine r_istore (x := (-1 : Int32)) (q := 19) 4 [1, 2, 3, 4, 0] (L1 := [(0, vr a0), (1, vi z2), (2, vi (0 : Int32)), (3, vi z3), (4, vi (-1 : Int32))]) hX dX9_layOut_17 (Nat.le_of_ble_eq_true rfl) rfl rfl ?_
  refine r_iconst (v := (0 : Int32)) (q := 20) hX dX9_layOut_19 rfl rfl ?_
  refine r_istore (x := (0 : Int32)) (q := 22) 5 [1, 2, 3, 4, 5, 0] (L1 := [(0, vr a0), (1, vi z2), (2, vi (0 : Int32)), (3, vi z3), (4, vi (-1 : Int32)), (5, vi (0 : Int32))]) hX dX9_layOut_20 (Nat.le_of_ble_eq_true rfl) rfl rfl ?_
  refine r_loop (Hd := fun (s4 : Int32 × Int32 × Int32 × Int32 × Int32 × Mem) (P : Option Res) => Ref mX9_layOut X 0 0 Z s4.2.2.2.2.2 22 [(0, vr a0), (1, vi s4.1), (2, vi s4.2.1), (3, vi s4.2.2.1), (4, vi s4.2.2.2.1), (5, vi s4.2.2.2.2.1)] [] P) (fun _ => r_none) (fun s4 K1 hn5 hx6 => ?_) (z2, (0 : Int32), z3, (-1 : Int32), (0 : Int32), M)
  refine r_iload (i := 5) (x := s4.2.2.2.2.1) (q := 24) 5 hX dX9_layOut_22 rfl rfl ?_
  refine r_aload_n (i := 0) (x := a0) (q := 25) 0 hX dX9_layOut_24 rfl rfl rfl ?_
  refine r_getI (a := a0) (ci := 9) (kf := 3) (q := 28) hX hc1 flX9_25 rfl rfl dX9_layOut_25 rfl ?_
  refine r_icmp_ge (tgt := 91) (q := 31) hX dX9_layOut_28 (by decide) rfl (fun hb7 => ?_) (fun hb7 => ?_)
  · refine r_lf ((hx6 _).trans (hK _)) ?_
    exact r_vret hM rfl (Nat.le_of_ble_eq_true rfl) (Nat.le_of_ble_eq_true rfl) dX9_layOut_91
  · refine r_aload_n (i := 0) (x := a0) (q := 32) 0 hX dX9_layOut_31 rfl rfl rfl ?_
    refine r_iload_n (i := 1) (x := s4.1) (q := 33) 1 hX dX9_layOut_32 rfl rfl rfl ?_
    refine r_iload_n (i := 2) (x := s4.2.1) (q := 34) 2 hX dX9_layOut_33 rfl rfl rfl ?_
    refine r_iload_n (i := 3) (x := s4.2.2.1) (q := 35) 3 hX dX9_layOut_34 rfl rfl rfl ?_
    refine r_iload (i := 4) (x := s4.2.2.2.1) (q := 37) 4 hX dX9_layOut_35 rfl rfl ?_
    refine r_bind (fun v8 h9 => ?_)
    refine r_cv (a := a0) (As := [vi s4.1, vi s4.2.1, vi s4.2.2.1, vi s4.2.2.2.1]) (st := []) (r := (some (vi v8))) (Z1 := Z) (M1 := s4.2.2.2.2.2) (k1 := 0) (n1 := 0) (st1 := [vi v8]) (q := 40) hX (fun l => kX9_leastThatFits l Z s4.2.2.2.2.2 a0 s4.1 s4.2.1 s4.2.2.1 s4.2.2.2.1 v8 h9) hc1 ivX9_leastThatFits ccX9_leastThatFits (Or.inl lkX9_104) rfl rfl rfl ⟨Nat.le_of_ble_eq_true rfl, Nat.le_of_ble_eq_true rfl, rfl, rfl, Nat.le_of_ble_eq_true rfl, Nat.le_of_ble_eq_true rfl⟩ (Nat.le_of_ble_eq_true rfl) dX9_layOut_37 rfl ?_
    refine r_istore (x := v8) (q := 42) 6 [1, 2, 3, 4, 5, 6, 0] (L1 := [(0, vr a0), (1, vi s4.1), (2, vi s4.2.1), (3, vi s4.2.2.1), (4, vi s4.2.2.2.1), (5, vi s4.2.2.2.2.1), (6, vi v8)]) hX dX9_layOut_40 (Nat.le_of_ble_eq_true rfl) rfl rfl ?_
    refine r_aload_n (i := 0) (x := a0) (q := 43) 0 hX dX9_layOut_42 rfl rfl rfl ?_
    refine r_getR (a := a0) (ci := 9) (kf := 8) (q := 46) hX hc1 flX9_22 rfl dX9_layOut_43 rfl ?_
    refine r_iload (i := 5) (x := s4.2.2.2.2.1) (q := 48) 5 hX dX9_layOut_46 rfl rfl ?_
    refine r_iload (i := 6) (x := v8) (q := 50) 6 hX dX9_layOut_48 rfl rfl ?_
    refine r_ck (fun hc10 => ?_)
    refine r_iast (a := (rR s4.2.2.2.2.2 a0 8)) (i := s4.2.2.2.2.1) (x := v8) (q := 51) hX hc10 dX9_layOut_50 rfl (fun M11 => ?_)
    refine r_aload_n (i := 0) (x := a0) (q := 52) 0 hX dX9_layOut_51 rfl rfl rfl ?_
    refine r_iload (i := 6) (x := v8) (q := 54) 6 hX dX9_layOut_52 rfl rfl ?_
    refine r_iload (i := 4) (x := s4.2.2.2.1) (q := 56) 4 hX dX9_layOut_54 rfl rfl ?_
    refine r_bind (fun v12 h13 => ?_)
    refine r_cv (a := a0) (As := [vi v8, vi s4.2.2.2.1]) (st := []) (r := (some (vi v12))) (Z1 := Z) (M1 := M11) (k1 := 0) (n1 := 0) (st1 := [vi v12]) (q := 59) hX (fun l => kX9_hourOf l Z M11 a0 v8 s4.2.2.2.1 v12 h13) hc1 ivX9_hourOf ccX9_hourOf (Or.inl lkX9_44) rfl rfl rfl ⟨Nat.le_of_ble_eq_true rfl, Nat.le_of_ble_eq_true rfl, rfl, rfl, Nat.le_of_ble_eq_true rfl, Nat.le_of_ble_eq_true rfl⟩ (Nat.le_of_ble_eq_true rfl) dX9_layOut_56 rfl ?_
    refine r_istore (x := v12) (q := 61) 4 [1, 2, 3, 4, 0, 6, 7] (L1 := [(0, vr a0), (1, vi s4.1), (2, vi s4.2.1), (3, vi s4.2.2.1), (4, vi v12), (5, vi s4.2.2.2.2.1), (6, vi v8)]) hX dX9_layOut_59 (Nat.le_of_ble_eq_true rfl) rfl rfl ?_
    refine r_iload_n (i := 3) (x := s4.2.2.1) (q := 62) 3 hX dX9_layOut_61 rfl rfl rfl ?_
    refine r_aload_n (i := 0) (x := a0) (q := 63) 0 hX dX9_layOut_62 rfl rfl rfl ?_
    refine r_iload (i := 6) (x := v8) (q := 65) 6 hX dX9_layOut_63 rfl rfl ?_
    refine r_iload_n (i := 2) (x := s4.2.1) (q := 66) 2 hX dX9_layOut_65 rfl rfl rfl ?_
    refine r_bind (fun v14 h15 => ?_)
    refine r_cv (a := a0) (As := [vi v8, vi s4.2.1]) (st := [vi s4.2.2.1]) (r := (some (vi v14))) (Z1 := Z) (M1 := M11) (k1 := 0) (n1 := 0) (st1 := [vi v14, vi s4.2.2.1]) (q := 69) hX (fun l => kX9_spends l Z M11 a0 v8 s4.2.1 v14 h15) hc1 ivX9_spends ccX9_spends (Or.inl lkX9_47) rfl rfl rfl ⟨Nat.le_of_ble_eq_true rfl, Nat.le_of_ble_eq_true rfl, rfl, rfl, Nat.le_of_ble_eq_true rfl, Nat.le_of_ble_eq_true rfl⟩ (Nat.le_of_ble_eq_true rfl) dX9_layOut_66 rfl ?_
    refine r_isub (q := 70) hX dX9_layOut_69 rfl ?_
    refine r_istore_nP (x := (s4.2.2.1 - v14)) (q := 71) 3 [1, 2, 3, 0, 5, 6, 7] (fun z16 => [(0, vr a0), (1, vi s4.1), (2, vi s4.2.1), (3, vi z16), (4, vi v12), (5, vi s4.2.2.2.2.1), (6, vi v8)]) hX dX9_layOut_70 rfl (Nat.le_of_ble_eq_true rfl) (fun _ => rfl) rfl (fun z16 => ?_)
    refine r_aload_n (i := 0) (x := a0) (q := 72) 0 hX dX9_layOut_71 rfl rfl rfl ?_
    refine r_iload (i := 6) (x := v8) (q := 74) 6 hX dX9_layOut_72 rfl rfl ?_
    refine r_bind (fun v17 h18 => ?_)
    refine r_cv (a := a0) (As := [vi v8]) (st := []) (r := (some (vi v17))) (Z1 := Z) (M1 := M11) (k1 := 0) (n1 := 0) (st1 := [vi v17]) (q := 77) hX (fun l => kX9_stateBehind l Z M11 a0 v8 v17 h18) hc1 ivX9_stateBehind ccX9_stateBehind (Or.inl lkX9_50) rfl rfl rfl ⟨Nat.le_of_ble_eq_true rfl, Nat.le_of_ble_eq_true rfl, rfl, rfl, Nat.le_of_ble_eq_true rfl, Nat.le_of_ble_eq_true rfl⟩ (Nat.le_of_ble_eq_true rfl) dX9_layOut_74 rfl ?_
    refine r_istore_n (x := v17) (q := 78) 2 [1, 2, 0, 4, 5, 6, 7] (L1 := [(0, vr a0), (1, vi s4.1), (2, vi v17), (3, vi z16), (4, vi v12), (5, vi s4.2.2.2.2.1), (6, vi v8)]) hX dX9_layOut_77 rfl (Nat.le_of_ble_eq_true rfl) rfl rfl ?_
    refine r_iload_n (i := 1) (x := s4.1) (q := 79) 1 hX dX9_layOut_78 rfl rfl rfl ?_
    refine r_iconst (v := (1 : Int32)) (q := 80) hX dX9_layOut_79 rfl rfl ?_
    refine r_iload (i := 6) (x := v8) (q := 82) 6 hX dX9_layOut_80 rfl rfl ?_
    refine r_ishl (q := 83) hX dX9_layOut_82 rfl ?_
    refine r_ixor (q := 84) hX dX9_layOut_83 rfl ?_
    refine r_istore_nP (x := (s4.1 ^^^ ((1 : Int32) <<< (v8 &&& 31)))) (q := 85) 1 [1, 0, 3, 4, 5, 6, 7] (fun z19 => [(0, vr a0), (1, vi z19), (2, vi v17), (3, vi z16), (4, vi v12), (5, vi s4.2.2.2.2.1), (6, vi v8)]) hX dX9_layOut_84 rfl (Nat.le_of_ble_eq_true rfl) (fun _ => rfl) rfl (fun z19 => ?_)
    refine r_iinc (x := s4.2.2.2.2.1) (v := (s4.2.2.2.2.1 + (1 : Int32))) (q := 88) 5 5 [1, 2, 3, 4, 5, 0, 7] (L1 := [(0, vr a0), (1, vi z19), (2, vi v17), (3, vi z16), (4, vi v12), (5, vi (s4.2.2.2.2.1 + (1 : Int32))), (6, vi v8)]) hX dX9_layOut_85 rfl rfl (Nat.le_of_ble_eq_true rfl) rfl rfl ?_
    refine r_goto (q := 22) hX dX9_layOut_88 (by decide) ?_
    refine r_l0 ?_
    refine r_sub [0, 1, 2, 3, 4, 5] rfl ?_
    exact hn5 (z19, v17, z16, v12, (s4.2.2.2.2.1 + (1 : Int32)), M11)
theorem lkX9_62 : Lk RX9 62 yX9_fillEarliest := gd (hcw4_4 _ (List.mem_of_getElem? (i := 8) rfl)) rfl
theorem lkX9_65 : Lk RX9 65 yX9_chooseGoal := gd (hcw4_5 _ (List.mem_of_getElem? (i := 19) rfl)) rfl
theorem lkX9_68 : Lk RX9 68 yX9_fillLatest := gd (hcw4_6 _ (List.mem_of_getElem? (i := 3) rfl)) rfl
theorem lkX9_71 : Lk RX9 71 yX9_layOut := gd (hcw4_6 _ (List.mem_of_getElem? (i := 15) rfl)) rfl
def mX9_solve : MD := (yX9_solve, cX9_solve, 1, none, 4, 97, 1, 4608)
theorem ccX9_solve : Cc mX9_solve 0 := ⟨gd (hcw1_0 _ (List.mem_of_getElem? (i := 6) rfl)) rfl, gd (hcw4_4 _ (List.mem_of_getElem? (i := 7) rfl)) rfl, by decide +kernel, by decide +kernel, by decide +kernel⟩
theorem ivX9_solve : Iv mX9_solve 9 := ⟨Nat.le_of_ble_eq_true rfl, rfl, gd (hcw4_4 _ (List.mem_of_getElem? (i := 5) rfl)) rfl, gd (hcw4_4 _ (List.mem_of_getElem? (i := 6) rfl)) rfl⟩
noncomputable def fX9_solve (Z : Shp) (M : Mem) (a0 : Nat) : Option (Shp × Mem) := (if tg Z a0 = (10, 10) then (if (rI M a0 5) = 0 then (pu (wI M a0 5 (1 : Int32)) (fun M3 => (Option.bind (if (rR M3 a0 9) = 0 then (pu2 (Z ++ [(100, ix (4608 : Int32))]) (nw M3 (Z.length + 2)) (fun Z8 M9 => (pu (wR M9 a0 9 (Z.length + 2)) (fun M12 => some (Z8, M12))))) else some (Z, M3)) (fun v7 : Shp × Mem => (if tg v7.1 a0 = (10, 10) then (Option.bind (fX9_fillEarliest v7.1 v7.2 a0) (fun v14 => (Option.bind (fX9_chooseGoal v7.1 v14 a0) (fun v16 => (if (rI v16 a0 6) = (-1 : Int32) then some (v7.1, v16) else (Option.bind (fX9_fillLatest v7.1 v16 a0) (fun v19 => (Option.bind (fX9_layOut v7.1 v19 a0) (fun v21 => some (v7.1, v21)))))))))) else none))))) else some (Z, M)) else none)
set_option maxRecDepth 20000 in
theorem kX9_solve (l : Launch) (Z : Shp) (M : Mem) (a0 : Nat) (r : Shp × Mem) (h : fX9_solve Z M a0 = some r) : Ct l mX9_solve [vr a0] Z M (none, r.1, r.2) := by
  refine Ct.of rfl (Nat.le_of_ble_eq_true rfl) (fun X hM => ?_)
  have hX := hM.1
  refine r_top (mk := fun r => (none, r.1, r.2)) h (fun K hK => ?_)
  unfold fX9_solve
  refine r_aload_n (i := 0) (x := a0) (q := 1) 0 hX dX9_solve_0 rfl rfl rfl ?_
  refine r_ck (fun hc1 => ?_)
  refine r_getI (a := a0) (ci := 9) (kf := 5) (q := 4) hX hc1 flX9_29 rfl rfl dX9_solve_1 rfl ?_
  refine r_if_eq (tgt := 8) (q := 7) hX dX9_solve_4 (by decide) rfl (fun hb2 => ?_) (fun hb2 => ?_)
  · refine r_aload_n (i := 0) (x := a0) (q := 9) 0 hX dX9_solve_8 rfl rfl rfl ?_
    refine r_iconst (v := (1 : Int32)) (q := 10) hX dX9_solve_9 rfl rfl ?_
    refine r_putI (a := a0) (ci := 9) (kf := 5) (q := 13) hX hc1 flX9_29 rfl rfl (Or.inl rfl) (zb_n (Or.inr rfl)) (zb_f (Or.inr rfl)) dX9_solve_10 rfl (fun M3 => ?_)
    refine r_aload_n (i := 0) (x := a0) (q := 14) 0 hX dX9_solve_13 rfl rfl rfl ?_
    refine r_getR (a := a0) (ci := 9) (kf := 9) (q := 17) hX hc1 flX9_59 rfl dX9_solve_14 rfl ?_
    refine r_jn (J := fun (v7 : Shp × Mem) (P : Option Res) => Ref mX9_solve X 1 4608 v7.1 v7.2 29 [(0, vr a0)] [] P) (fun v7 => ?_) (fun K1 hj5 => ?_)
    · refine r_aload_n (i := 0) (x := a0) (q := 30) 0 hX dX9_solve_29 rfl rfl rfl ?_
      refine r_ck (fun hc13 => ?_)
      refine r_bind (fun v14 h15 => ?_)
      refine r_cv (a := a0) (As := []) (st := []) (r := none) (Z1 := v7.1) (M1 := v14) (k1 := 1) (n1 := 4608) (st1 := []) (q := 33) hX (fun l => kX9_fillEarliest l v7.1 v7.2 a0 v14 h15) hc13 ivX9_fillEarliest ccX9_fillEarliest (Or.inl lkX9_62) rfl rfl rfl ⟨Nat.le_of_ble_eq_true rfl, Nat.le_of_ble_eq_true rfl, rfl, rfl, Nat.le_of_ble_eq_true rfl, Nat.le_of_ble_eq_true rfl⟩ (Nat.le_of_ble_eq_true rfl) dX9_solve_30 rfl ?_
      refine r_aload_n (i := 0) (x := a0) (q := 34) 0 hX dX9_solve_33 rfl rfl rfl ?_
      refine r_bind (fun v16 h17 => ?_)
      refine r_cv (a := a0) (As := []) (st := []) (r := none) (Z1 := v7.1) (M1 := v16) (k1 := 1) (n1 := 4608) (st1 := []) (q := 37) hX (fun l => kX9_chooseGoal l v7.1 v14 a0 v16 h17) hc13 ivX9_chooseGoal ccX9_chooseGoal (Or.inl lkX9_65) rfl rfl rfl ⟨Nat.le_of_ble_eq_true rfl, Nat.le_of_ble_eq_true rfl, rfl, rfl, Nat.le_of_ble_eq_true rfl, Nat.le_of_ble_eq_true rfl⟩ (Nat.le_of_ble_eq_true rfl) dX9_solve_34 rfl ?_
      refine r_aload_n (i := 0) (x := a0) (q := 38) 0 hX dX9_solve_37 rfl rfl rfl ?_
      refine r_getI (a := a0) (ci := 9) (kf := 6) (q := 41) hX hc13 flX9_33 rfl rfl dX9_solve_38 rfl ?_
      refine r_iconst (v := (-1 : Int32)) (q := 42) hX dX9_solve_41 rfl rfl ?_
      refine r_icmp_eq (tgt := 53) (q := 45) hX dX9_solve_42 (by decide) rfl (fun hb18 => ?_) (fun hb18 => ?_)
      · refine r_lf (hK _) ?_
        exact r_vret hM rfl (Nat.le_of_ble_eq_true rfl) (Nat.le_of_ble_eq_true rfl) dX9_solve_53
      · refine r_aload_n (i := 0) (x := a0) (q := 46) 0 hX dX9_solve_45 rfl rfl rfl ?_
        refine r_bind (fun v19 h20 => ?_)
        refine r_cv (a := a0) (As := []) (st := []) (r := none) (Z1 := v7.1) (M1 := v19) (k1 := 1) (n1 := 4608) (st1 := []) (q := 49) hX (fun l => kX9_fillLatest l v7.1 v16 a0 v19 h20) hc13 ivX9_fillLatest ccX9_fillLatest (Or.inl lkX9_68) rfl rfl rfl ⟨Nat.le_of_ble_eq_true rfl, Nat.le_of_ble_eq_true rfl, rfl, rfl, Nat.le_of_ble_eq_true rfl, Nat.le_of_ble_eq_true rfl⟩ (Nat.le_of_ble_eq_true rfl) dX9_solve_46 rfl ?_
        refine r_aload_n (i := 0) (x := a0) (q := 50) 0 hX dX9_solve_49 rfl rfl rfl ?_
        refine r_bind (fun v21 h22 => ?_)
        refine r_cv (a := a0) (As := []) (st := []) (r := none) (Z1 := v7.1) (M1 := v21) (k1 := 1) (n1 := 4608) (st1 := []) (q := 53) hX (fun l => kX9_layOut l v7.1 v19 a0 v21 h22) hc13 ivX9_layOut ccX9_layOut (Or.inl lkX9_71) rfl rfl rfl ⟨Nat.le_of_ble_eq_true rfl, Nat.le_of_ble_eq_true rfl, rfl, rfl, Nat.le_of_ble_eq_true rfl, Nat.le_of_ble_eq_true rfl⟩ (Nat.le_of_ble_eq_true rfl) dX9_solve_50 rfl ?_
        refine r_lf (hK _) ?_
        exact r_vret hM rfl (Nat.le_of_ble_eq_true rfl) (Nat.le_of_ble_eq_true rfl) dX9_solve_53
    · refine r_ifnonnull (tgt := 29) (q := 20) hX dX9_solve_17 (by decide) rfl (fun hb4 => ?_) (fun hb4 => ?_)
      · refine r_aload_n (i := 0) (x := a0) (q := 21) 0 hX dX9_solve_20 rfl rfl rfl ?_
        refine r_sipush (v := (4608 : Int32)) (q := 24) hX dX9_solve_21 rfl rfl ?_
        refine r_newa (cap := 4608) (k1 := 1) (n1 := 4608) (q := 26) hX arP_i ⟨by decide, by decide⟩ rfl (Nat.le_of_ble_eq_true rfl) rfl (Nat.le_of_ble_eq_true rfl) (Nat.le_of_ble_eq_true rfl) dX9_solve_24 rfl (fun Z8 M9 hc10 he11 => ?_)
        refine r_putR (a := a0) (ci := 9) (kf := 9) (q := 29) hX (he11 _ _ _ (Nat.succ_pos _) hc1) flX9_59 rfl (Or.inl rfl) nf_arr dX9_solve_26 rfl (fun M12 => ?_)
        refine r_l0 ?_
        exact hj5 (Z8, M12)
      · refine r_l0 ?_
        refine r_wide (k1 := 1) (n1 := 4608) (Nat.le_of_ble_eq_true rfl) (Nat.le_of_ble_eq_true rfl) ?_
        exact hj5 (Z, M3)
  · refine r_lf (hK _) ?_
    exact r_vret hM rfl (Nat.le_of_ble_eq_true rfl) (Nat.le_of_ble_eq_true rfl) dX9_solve_7
def mX9_bestAt : MD := (yX9_bestAt, cX9_bestAt, 2, (some .int), 1, 22, 0, 0)
theorem ccX9_bestAt : Cc mX9_bestAt 1 := ⟨gd (hcw1_0 _ (List.mem_of_getElem? (i := 6) rfl)) rfl, gd (hcw4_7 _ (List.mem_of_getElem? (i := 6) rfl)) rfl, by decide +kernel, by decide +kernel, by decide +kernel⟩
theorem ivX9_bestAt : Iv mX9_bestAt 9 := ⟨Nat.le_of_ble_eq_true rfl, rfl, gd (hcw4_7 _ (List.mem_of_getElem? (i := 4) rfl)) rfl, gd (hcw4_7 _ (List.mem_of_getElem? (i := 5) rfl)) rfl⟩
def fX9_bestAt (Z : Shp) (M : Mem) (a0 : Nat) (x1 : Int32) : Option (Int32) := (if tg Z a0 = (10, 10) then (if (rI M a0 6) = (-1 : Int32) then some (-1 : Int32) else (if (fX11_within x1 (0 : Int32) ((rI M a0 3) - (1 : Int32))) = 0 then some (-1 : Int32) else (if aok Z (rR M a0 8) 100 x1 then some (rI M (rR M a0 8) (ix x1)) else none))) else none)
set_option maxRecDepth 20000 in
theorem kX9_bestAt (l : Launch) (Z : Shp) (M : Mem) (a0 : Nat) (x1 : Int32) (r : Int32) (h : fX9_bestAt Z M a0 x1 = some r) : Ct l mX9_bestAt [vr a0, vi x1] Z M ((some (vi r)), Z, M) := by
  refine Ct.of rfl (Nat.le_of_ble_eq_true rfl) (fun X hM => ?_)
  have hX := hM.1
  refine r_top (mk := fun r => ((some (vi r)), Z, M)) h (fun K hK => ?_)
  unfold fX9_bestAt
  refine r_aload_n (i := 0) (x := a0) (q := 1) 0 hX dX9_bestAt_0 rfl rfl rfl ?_
  refine r_ck (fun hc1 => ?_)
  refine r_getI (a := a0) (ci := 9) (kf := 6) (q := 4) hX hc1 flX9_33 rfl rfl dX9_bestAt_1 rfl ?_
  refine r_iconst (v := (-1 : Int32)) (q := 5) hX dX9_bestAt_4 rfl rfl ?_
  refine r_icmp_eq (tgt := 31) (q := 8) hX dX9_bestAt_5 (by decide) rfl (fun hb2 => ?_) (fun hb2 => ?_)
  · refine r_iconst (v := (-1 : Int32)) (q := 32) hX dX9_bestAt_31 rfl rfl ?_
    refine r_lf (hK _) ?_
    exact r_iret hM rfl (Nat.le_of_ble_eq_true rfl) (Nat.le_of_ble_eq_true rfl) dX9_bestAt_32
  · refine r_iload_n (i := 1) (x := x1) (q := 9) 1 hX dX9_bestAt_8 rfl rfl rfl ?_
    refine r_iconst (v := (0 : Int32)) (q := 10) hX dX9_bestAt_9 rfl rfl ?_
    refine r_aload_n (i := 0) (x := a0) (q := 11) 0 hX dX9_bestAt_10 rfl rfl rfl ?_
    refine r_getI (a := a0) (ci := 9) (kf := 3) (q := 14) hX hc1 flX9_25 rfl rfl dX9_bestAt_11 rfl ?_
    refine r_iconst (v := (1 : Int32)) (q := 15) hX dX9_bestAt_14 rfl rfl ?_
    refine r_isub (q := 16) hX dX9_bestAt_15 rfl ?_
    refine r_cs (As := [vi x1, vi (0 : Int32), vi ((rI M a0 3) - (1 : Int32))]) (st := []) (r := (some (vi (fX11_within x1 (0 : Int32) ((rI M a0 3) - (1 : Int32)))))) (Z1 := Z) (M1 := M) (k1 := 0) (n1 := 0) (st1 := [vi (fX11_within x1 (0 : Int32) ((rI M a0 3) - (1 : Int32)))]) (q := 19) hX (fun l => kX11_within l Z M x1 (0 : Int32) ((rI M a0 3) - (1 : Int32))) stX11_within ccX11_within (Or.inr ⟨_, lkX9_36⟩) rfl rfl rfl ⟨Nat.le_of_ble_eq_true rfl, Nat.le_of_ble_eq_true rfl, rfl, rfl, Nat.le_of_ble_eq_true rfl, Nat.le_of_ble_eq_true rfl⟩ (Nat.le_of_ble_eq_true rfl) dX9_bestAt_16 rfl ?_
    refine r_if_eq (tgt := 31) (q := 22) hX dX9_bestAt_19 (by decide) rfl (fun hb3 => ?_) (fun hb3 => ?_)
    · refine r_iconst (v := (-1 : Int32)) (q := 32) hX dX9_bestAt_31 rfl rfl ?_
      refine r_lf (hK _) ?_
      exact r_iret hM rfl (Nat.le_of_ble_eq_true rfl) (Nat.le_of_ble_eq_true rfl) dX9_bestAt_32
    · refine r_aload_n (i := 0) (x := a0) (q := 23) 0 hX dX9_bestAt_22 rfl rfl rfl ?_
      refine r_getR (a := a0) (ci := 9) (kf := 8) (q := 26) hX hc1 flX9_22 rfl dX9_bestAt_23 rfl ?_
      refine r_iload_n (i := 1) (x := x1) (q := 27) 1 hX dX9_bestAt_26 rfl rfl rfl ?_
      refine r_ck (fun hc4 => ?_)
      refine r_iald (a := (rR M a0 8)) (i := x1) (q := 28) hX hc4 dX9_bestAt_27 rfl ?_
      refine r_goto (q := 32) hX dX9_bestAt_28 (by decide) ?_
      refine r_lf (hK _) ?_
      exact r_iret hM rfl (Nat.le_of_ble_eq_true rfl) (Nat.le_of_ble_eq_true rfl) dX9_bestAt_32
theorem lkX11_222 : Lk RX11 222 yX9_solve := gd (hcw4_4 _ (List.mem_of_getElem? (i := 4) rfl)) rfl
theorem flX11_225 : FL RX11 225 9 6 := ⟨Nat.le_of_ble_eq_true rfl, Nat.le_of_ble_eq_true rfl, gd (hcw1_8 _ (List.mem_of_getElem? (i := 9) rfl)) rfl⟩
theorem flX11_228 : FL RX11 228 9 7 := ⟨Nat.le_of_ble_eq_true rfl, Nat.le_of_ble_eq_true rfl, gd (hcw1_8 _ (List.mem_of_getElem? (i := 11) rfl)) rfl⟩
theorem lkX11_231 : Lk RX11 231 yX9_bestAt := gd (hcw4_7 _ (List.mem_of_getElem? (i := 3) rfl)) rfl
def mX11_turn : MD := (yX11_turn, cX11_turn, 2, (some .int), 5, 117, 1, 4608)
theorem ccX11_turn : Cc mX11_turn 1 := ⟨gd (hcw1_0 _ (List.mem_of_getElem? (i := 1) rfl)) rfl, gd (hcw4_4 _ (List.mem_of_getElem? (i := 3) rfl)) rfl, by decide +kernel, by decide +kernel, by decide +kernel⟩
theorem ivX11_turn : Iv mX11_turn 11 := ⟨Nat.le_of_ble_eq_true rfl, rfl, gd (hcw4_4 _ (List.mem_of_getElem? (i := 1) rfl)) rfl, gd (hcw4_4 _ (List.mem_of_getElem? (i := 2) rfl)) rfl⟩
noncomputable def fX11_turn (Z : Shp) (M : Mem) (a0 : Nat) (x1 : Int32) : Option (Int32 × Shp × Mem) := (js (if (fX11_within x1 (0 : Int32) (1 : Int32)) = 0 then (if (fX11_within x1 (10 : Int32) (17 : Int32)) = 0 then some (Sum.inr ((-102 : Int32), Z, M)) else some (Sum.inl ())) else some (Sum.inl ())) (fun v4 : Unit => (if tg Z a0 = (12, 6) then (if tg Z (rR M a0 2) = (10, 10) then (if (rI M (rR M a0 2) 4) < (20 : Int32) then (pu (wI M (rR M a0 2) 4 ((rI M (rR M a0 2) 4) + (1 : Int32))) (fun M9 => (if tg Z (rR M9 a0 2) = (10, 10) then (Option.bind (fX9_solve Z M9 (rR M9 a0 2)) (fun v11 => (if x1 = 0 then (if tg v11.1 a0 = (12, 6) then (if tg v11.1 (rR v11.2 a0 2) = (10, 10) then some ((rI v11.2 (rR v11.2 a0 2) 6), v11.1, v11.2) else none) else none) else (if x1 = (1 : Int32) then (if tg v11.1 a0 = (12, 6) then (if tg v11.1 (rR v11.2 a0 2) = (10, 10) then some ((rI v11.2 (rR v11.2 a0 2) 7), v11.1, v11.2) else none) else none) else (if tg v11.1 a0 = (12, 6) then (if tg v11.1 (rR v11.2 a0 2) = (10, 10) then (Option.bind (fX9_bestAt v11.1 v11.2 (rR v11.2 a0 2) (x1 - (10 : Int32))) (fun v21 => some (v21, v11.1, v11.2))) else none) else none))))) else none))) else some ((-103 : Int32), Z, M)) else none) else none)))
set_option maxRecDepth 20000 in
theorem kX11_turn (l : Launch) (Z : Shp) (M : Mem) (a0 : Nat) (x1 : Int32) (r : Int32 × Shp × Mem) (h : fX11_turn Z M a0 x1 = some r) : Ct l mX11_turn [vr a0, vi x1] Z M ((some (vi r.1)), r.2.1, r.2.2) := by
  refine Ct.of rfl (Nat.le_of_ble_eq_true rfl) (fun X hM => ?_)
  have hX := hM.1
  refine r_top (mk := fun r => ((some (vi r.1)), r.2.1, r.2.2)) h (fun K hK => ?_)
  unfold fX11_turn
  refine r_iload_n (i := 1) (x := x1) (q := 1) 1 hX dX11_turn_0 rfl rfl rfl ?_
  refine r_iconst (v := (0 : Int32)) (q := 2) hX dX11_turn_1 rfl rfl ?_
  refine r_iconst (v := (1 : Int32)) (q := 3) hX dX11_turn_2 rfl rfl ?_
  refine r_cs (As := [vi x1, vi (0 : Int32), vi (1 : Int32)]) (st := []) (r := (some (vi (fX11_within x1 (0 : Int32) (1 : Int32))))) (Z1 := Z) (M1 := M) (k1 := 0) (n1 := 0) (st1 := [vi (fX11_within x1 (0 : Int32) (1 : Int32))]) (q := 6) hX (fun l => kX11_within l Z M x1 (0 : Int32) (1 : Int32)) stX11_within ccX11_within (Or.inl lkX11_55) rfl rfl rfl ⟨Nat.le_of_ble_eq_true rfl, Nat.le_of_ble_eq_true rfl, rfl, rfl, Nat.le_of_ble_eq_true rfl, Nat.le_of_ble_eq_true rfl⟩ (Nat.le_of_ble_eq_true rfl) dX11_turn_3 rfl ?_
  refine r_js (J := fun (v4 : Unit) (P : Option Res) => Ref mX11_turn X 0 0 Z M 23 [(0, vr a0), (1, vi x1)] [] P) (fun v4 => ?_) (fun K1 hj2 ho3 => ?_)
  · refine r_aload_n (i := 0) (x := a0) (q := 24) 0 hX dX11_turn_23 rfl rfl rfl ?_
    refine r_ck (fun hc6 => ?_)
    refine r_getR (a := a0) (ci := 11) (kf := 2) (q := 27) hX hc6 flX11_26 rfl dX11_turn_24 rfl ?_
    refine r_ck (fun hc7 => ?_)
    refine r_getI (a := (rR M a0 2)) (ci := 9) (kf := 4) (q := 30) hX hc7 flX11_219 rfl rfl dX11_turn_27 rfl ?_
    refine r_bipush (v := (20 : Int32)) (q := 32) hX dX11_turn_30 rfl rfl ?_
    refine r_icmp_lt (tgt := 38) (q := 35) hX dX11_turn_32 (by decide) rfl (fun hb8 => ?_) (fun hb8 => ?_)
    · refine r_aload_n (i := 0) (x := a0) (q := 39) 0 hX dX11_turn_38 rfl rfl rfl ?_
      refine r_getR (a := a0) (ci := 11) (kf := 2) (q := 42) hX hc6 flX11_26 rfl dX11_turn_39 rfl ?_
      refine r_dup (q := 43) hX dX11_turn_42 rfl rfl ?_
      refine r_getI (a := (rR M a0 2)) (ci := 9) (kf := 4) (q := 46) hX hc7 flX11_219 rfl rfl dX11_turn_43 rfl ?_
      refine r_iconst (v := (1 : Int32)) (q := 47) hX dX11_turn_46 rfl rfl ?_
      refine r_iadd (q := 48) hX dX11_turn_47 rfl ?_
      refine r_putI (a := (rR M a0 2)) (ci := 9) (kf := 4) (q := 51) hX hc7 flX11_219 rfl rfl (Or.inl rfl) rfl rfl dX11_turn_48 rfl (fun M9 => ?_)
      refine r_aload_n (i := 0) (x := a0) (q := 52) 0 hX dX11_turn_51 rfl rfl rfl ?_
      refine r_getR (a := a0) (ci := 11) (kf := 2) (q := 55) hX hc6 flX11_26 rfl dX11_turn_52 rfl ?_
      refine r_ck (fun hc10 => ?_)
      refine r_bind (fun v11 h12 => ?_)
      refine r_cv (a := (rR M9 a0 2)) (As := []) (st := []) (r := none) (Z1 := v11.1) (M1 := v11.2) (k1 := 1) (n1 := 4608) (st1 := []) (q := 58) hX (fun l => kX9_solve l Z M9 (rR M9 a0 2) v11 h12) hc10 ivX9_solve ccX9_solve (Or.inl lkX11_222) rfl rfl rfl ⟨Nat.le_of_ble_eq_true rfl, Nat.le_of_ble_eq_true rfl, rfl, rfl, Nat.le_of_ble_eq_true rfl, Nat.le_of_ble_eq_true rfl⟩ (Nat.le_of_ble_eq_true rfl) dX11_turn_55 rfl ?_
      refine r_iload_n (i := 1) (x := x1) (q := 59) 1 hX dX11_turn_58 rfl rfl rfl ?_
      refine r_if_ne (tgt := 70) (q := 62) hX dX11_turn_59 (by decide) rfl (fun hb13 => ?_) (fun hb13 => ?_)
      · refine r_aload_n (i := 0) (x := a0) (q := 63) 0 hX dX11_turn_62 rfl rfl rfl ?_
        refine r_ck (fun hc14 => ?_)
        refine r_getR (a := a0) (ci := 11) (kf := 2) (q := 66) hX hc14 flX11_26 rfl dX11_turn_63 rfl ?_
        refine r_ck (fun hc15 => ?_)
        refine r_getI (a := (rR v11.2 a0 2)) (ci := 9) (kf := 6) (q := 69) hX hc15 flX11_225 rfl rfl dX11_turn_66 rfl ?_
        refine r_lf (hK _) ?_
        exact r_iret hM rfl (Nat.le_of_ble_eq_true rfl) (Nat.le_of_ble_eq_true rfl) dX11_turn_69
      · refine r_iload_n (i := 1) (x := x1) (q := 71) 1 hX dX11_turn_70 rfl rfl rfl ?_
        refine r_iconst (v := (1 : Int32)) (q := 72) hX dX11_turn_71 rfl rfl ?_
        refine r_icmp_ne (tgt := 85) (q := 75) hX dX11_turn_72 (by decide) rfl (fun hb16 => ?_) (fun hb16 => ?_)
        · refine r_aload_n (i := 0) (x := a0) (q := 76) 0 hX dX11_turn_75 rfl rfl rfl ?_
          refine r_ck (fun hc17 => ?_)
          refine r_getR (a := a0) (ci := 11) (kf := 2) (q := 79) hX hc17 flX11_26 rfl dX11_turn_76 rfl ?_
          refine r_ck (fun hc18 => ?_)
          refine r_getI (a := (rR v11.2 a0 2)) (ci := 9) (kf := 7) (q := 82) hX hc18 flX11_228 rfl rfl dX11_turn_79 rfl ?_
          refine r_goto (q := 96) hX dX11_turn_82 (by decide) ?_
          refine r_lf (hK _) ?_
          exact r_iret hM rfl (Nat.le_of_ble_eq_true rfl) (Nat.le_of_ble_eq_true rfl) dX11_turn_96
        · refine r_aload_n (i := 0) (x := a0) (q := 86) 0 hX dX11_turn_85 rfl rfl rfl ?_
          refine r_ck (fun hc19 => ?_)
          refine r_getR (a := a0) (ci := 11) (kf := 2) (q := 89) hX hc19 flX11_26 rfl dX11_turn_86 rfl ?_
          refine r_iload_n (i := 1) (x := x1) (q := 90) 1 hX dX11_turn_89 rfl rfl rfl ?_
          refine r_bipush (v := (10 : Int32)) (q := 92) hX dX11_turn_90 rfl rfl ?_
          refine r_isub (q := 93) hX dX11_turn_92 rfl ?_
          refine r_ck (fun hc20 => ?_)
          refine r_bind (fun v21 h22 => ?_)
          refine r_cv (a := (rR v11.2 a0 2)) (As := [vi (x1 - (10 : Int32))]) (st := []) (r := (some (vi v21))) (Z1 := v11.1) (M1 := v11.2) (k1 := 1) (n1 := 4608) (st1 := [vi v21]) (q := 96) hX (fun l => kX9_bestAt l v11.1 v11.2 (rR v11.2 a0 2) (x1 - (10 : Int32)) v21 h22) hc20 ivX9_bestAt ccX9_bestAt (Or.inl lkX11_231) rfl rfl rfl ⟨Nat.le_of_ble_eq_true rfl, Nat.le_of_ble_eq_true rfl, rfl, rfl, Nat.le_of_ble_eq_true rfl, Nat.le_of_ble_eq_true rfl⟩ (Nat.le_of_ble_eq_true rfl) dX11_turn_93 rfl ?_
          refine r_lf (hK _) ?_
          exact r_iret hM rfl (Nat.le_of_ble_eq_true rfl) (Nat.le_of_ble_eq_true rfl) dX11_turn_96
    · refine r_bipush (v := (-103 : Int32)) (q := 37) hX dX11_turn_35 rfl rfl ?_
      refine r_lf (hK _) ?_
      exact r_iret hM rfl (Nat.le_of_ble_eq_true rfl) (Nat.le_of_ble_eq_true rfl) dX11_turn_37
  · refine r_if_ne (tgt := 23) (q := 9) hX dX11_turn_6 (by decide) rfl (fun hb1 => ?_) (fun hb1 => ?_)
    · refine r_iload_n (i := 1) (x := x1) (q := 10) 1 hX dX11_turn_9 rfl rfl rfl ?_
      refine r_bipush (v := (10 : Int32)) (q := 12) hX dX11_turn_10 rfl rfl ?_
      refine r_bipush (v := (17 : Int32)) (q := 14) hX dX11_turn_12 rfl rfl ?_
      refine r_cs (As := [vi x1, vi (10 : Int32), vi (17 : Int32)]) (st := []) (r := (some (vi (fX11_within x1 (10 : Int32) (17 : Int32))))) (Z1 := Z) (M1 := M) (k1 := 0) (n1 := 0) (st1 := [vi (fX11_within x1 (10 : Int32) (17 : Int32))]) (q := 17) hX (fun l => kX11_within l Z M x1 (10 : Int32) (17 : Int32)) stX11_within ccX11_within (Or.inl lkX11_55) rfl rfl rfl ⟨Nat.le_of_ble_eq_true rfl, Nat.le_of_ble_eq_true rfl, rfl, rfl, Nat.le_of_ble_eq_true rfl, Nat.le_of_ble_eq_true rfl⟩ (Nat.le_of_ble_eq_true rfl) dX11_turn_14 rfl ?_
      refine r_if_ne (tgt := 23) (q := 20) hX dX11_turn_17 (by decide) rfl (fun hb5 => ?_) (fun hb5 => ?_)
      · refine r_bipush (v := (-102 : Int32)) (q := 22) hX dX11_turn_20 rfl rfl ?_
        refine r_lf ((ho3 _).trans (hK _)) ?_
        exact r_iret hM rfl (Nat.le_of_ble_eq_true rfl) (Nat.le_of_ble_eq_true rfl) dX11_turn_22
      · refine r_l0 ?_
        exact hj2 ()
    · refine r_l0 ?_
      exact hj2 ()
theorem lkX11_259 : Lk RX11 259 yX0_forget := gd (hcw4_9 _ (List.mem_of_getElem? (i := 17) rfl)) rfl
def mX11_unread : MD := (yX11_unread, cX11_unread, 2, (some .int), 1, 22, 0, 0)
theorem ccX11_unread : Cc mX11_unread 0 := ⟨gd (hcw1_0 _ (List.mem_of_getElem? (i := 1) rfl)) rfl, gd (hcw4_9 _ (List.mem_of_getElem? (i := 12) rfl)) rfl, by decide +kernel, by decide +kernel, by decide +kernel⟩
theorem ivX11_unread : Iv mX11_unread 11 := ⟨Nat.le_of_ble_eq_true rfl, rfl, gd (hcw4_9 _ (List.mem_of_getElem? (i := 10) rfl)) rfl, gd (hcw4_9 _ (List.mem_of_getElem? (i := 11) rfl)) rfl⟩
noncomputable def fX11_unread (Z : Shp) (M : Mem) (a0 : Nat) : Option (Int32 × Mem) := (if tg Z a0 = (12, 6) then (if tg Z (rR M a0 3) = (1, 9) then (Option.bind (fX0_readings Z M (rR M a0 3)) (fun v3 => (Option.bind (fX0_forget Z M (rR M a0 3)) (fun v5 => some (v3, v5))))) else none) else none)
set_option maxRecDepth 20000 in
theorem kX11_unread (l : Launch) (Z : Shp) (M : Mem) (a0 : Nat) (r : Int32 × Mem) (h : fX11_unread Z M a0 = some r) : Ct l mX11_unread [vr a0] Z M ((some (vi r.1)), Z, r.2) := by
  refine Ct.of rfl (Nat.le_of_ble_eq_true rfl) (fun X hM => ?_)
  have hX := hM.1
  refine r_top (mk := fun r => ((some (vi r.1)), Z, r.2)) h (fun K hK => ?_)
  unfold fX11_unread
  refine r_aload_n (i := 0) (x := a0) (q := 1) 0 hX dX11_unread_0 rfl rfl rfl ?_
  refine r_ck (fun hc1 => ?_)
  refine r_getR (a := a0) (ci := 11) (kf := 3) (q := 4) hX hc1 flX11_33 rfl dX11_unread_1 rfl ?_
  refine r_ck (fun hc2 => ?_)
  refine r_bind (fun v3 h4 => ?_)
  refine r_cv (a := (rR M a0 3)) (As := []) (st := []) (r := (some (vi v3))) (Z1 := Z) (M1 := M) (k1 := 0) (n1 := 0) (st1 := [vi v3]) (q := 7) hX (fun l => kX0_readings l Z M (rR M a0 3) v3 h4) hc2 ivX0_readings ccX0_readings (Or.inl lkX11_256) rfl rfl rfl ⟨Nat.le_of_ble_eq_true rfl, Nat.le_of_ble_eq_true rfl, rfl, rfl, Nat.le_of_ble_eq_true rfl, Nat.le_of_ble_eq_true rfl⟩ (Nat.le_of_ble_eq_true rfl) dX11_unread_4 rfl ?_
  refine r_istore_n (x := v3) (q := 8) 1 [1, 0] (L1 := [(0, vr a0), (1, vi v3)]) hX dX11_unread_7 rfl (Nat.le_of_ble_eq_true rfl) rfl rfl ?_
  refine r_aload_n (i := 0) (x := a0) (q := 9) 0 hX dX11_unread_8 rfl rfl rfl ?_
  refine r_getR (a := a0) (ci := 11) (kf := 3) (q := 12) hX hc1 flX11_33 rfl dX11_unread_9 rfl ?_
  refine r_bind (fun v5 h6 => ?_)
  refine r_cv (a := (rR M a0 3)) (As := []) (st := []) (r := none) (Z1 := Z) (M1 := v5) (k1 := 0) (n1 := 0) (st1 := []) (q := 15) hX (fun l => kX0_forget l Z M (rR M a0 3) v5 h6) hc2 ivX0_forget ccX0_forget (Or.inl lkX11_259) rfl rfl rfl ⟨Nat.le_of_ble_eq_true rfl, Nat.le_of_ble_eq_true rfl, rfl, rfl, Nat.le_of_ble_eq_true rfl, Nat.le_of_ble_eq_true rfl⟩ (Nat.le_of_ble_eq_true rfl) dX11_unread_12 rfl ?_
  refine r_iload_n (i := 1) (x := v3) (q := 16) 1 hX dX11_unread_15 rfl rfl rfl ?_
  refine r_lf (hK _) ?_
  exact r_iret hM rfl (Nat.le_of_ble_eq_true rfl) (Nat.le_of_ble_eq_true rfl) dX11_unread_16
theorem lkX11_333 : Lk RX11 333 yX10_add := gd (hcw5_4 _ (List.mem_of_getElem? (i := 8) rfl)) rfl
def mX11_work : MD := (yX11_work, cX11_work, 4, (some .int), 1, 23, 0, 0)
theorem ccX11_work : Cc mX11_work 3 := ⟨gd (hcw1_0 _ (List.mem_of_getElem? (i := 1) rfl)) rfl, gd (hcw5_4 _ (List.mem_of_getElem? (i := 7) rfl)) rfl, by decide +kernel, by decide +kernel, by decide +kernel⟩
theorem ivX11_work : Iv mX11_work 11 := ⟨Nat.le_of_ble_eq_true rfl, rfl, gd (hcw5_4 _ (List.mem_of_getElem? (i := 5) rfl)) rfl, gd (hcw5_4 _ (List.mem_of_getElem? (i := 6) rfl)) rfl⟩
noncomputable def fX11_work (Z : Shp) (M : Mem) (a0 : Nat) (x1 : Int32) (x2 : Int32) (x3 : Int32) : Option (Int32 × Mem) := (if tg Z a0 = (12, 6) then (if tg Z (rR M a0 5) = (11, 4) then (if (fX11_within x3 (-1 : Int32) ((rI M (rR M a0 5) 3) - (1 : Int32))) = 0 then some ((-101 : Int32), M) else (if (fX11_within x1 (1 : Int32) (999 : Int32)) = 0 then some ((-102 : Int32), M) else (if (fX11_within x2 (0 : Int32) (999 : Int32)) = 0 then some ((-102 : Int32), M) else (Option.bind (fX10_add Z M (rR M a0 5) x1 x2 x3) (fun v6 => some (v6.1, v6.2)))))) else none) else none)
set_option maxRecDepth 20000 in
theorem kX11_work (l : Launch) (Z : Shp) (M : Mem) (a0 : Nat) (x1 : Int32) (x2 : Int32) (x3 : Int32) (r : Int32 × Mem) (h : fX11_work Z M a0 x1 x2 x3 = some r) : Ct l mX11_work [vr a0, vi x1, vi x2, vi x3] Z M ((some (vi r.1)), Z, r.2) := by
  refine Ct.of rfl (Nat.le_of_ble_eq_true rfl) (fun X hM => ?_)
  have hX := hM.1
  refine r_top (mk := fun r => ((some (vi r.1)), Z, r.2)) h (fun K hK => ?_)
  unfold fX11_work
  refine r_iload_n (i := 3) (x := x3) (q := 1) 3 hX dX11_work_0 rfl rfl rfl ?_
  refine r_iconst (v := (-1 : Int32)) (q := 2) hX dX11_work_1 rfl rfl ?_
  refine r_aload_n (i := 0) (x := a0) (q := 3) 0 hX dX11_work_2 rfl rfl rfl ?_
  refine r_ck (fun hc1 => ?_)
  refine r_getR (a := a0) (ci := 11) (kf := 5) (q := 6) hX hc1 flX11_47 rfl dX11_work_3 rfl ?_
  refine r_ck (fun hc2 => ?_)
  refine r_getI (a := (rR M a0 5)) (ci := 10) (kf := 3) (q := 9) hX hc2 flX11_332 rfl rfl dX11_work_6 rfl ?_
  refine r_iconst (v := (1 : Int32)) (q := 10) hX dX11_work_9 rfl rfl ?_
  refine r_isub (q := 11) hX dX11_work_10 rfl ?_
  refine r_cs (As := [vi x3, vi (-1 : Int32), vi ((rI M (rR M a0 5) 3) - (1 : Int32))]) (st := []) (r := (some (vi (fX11_within x3 (-1 : Int32) ((rI M (rR M a0 5) 3) - (1 : Int32)))))) (Z1 := Z) (M1 := M) (k1 := 0) (n1 := 0) (st1 := [vi (fX11_within x3 (-1 : Int32) ((rI M (rR M a0 5) 3) - (1 : Int32)))]) (q := 14) hX (fun l => kX11_within l Z M x3 (-1 : Int32) ((rI M (rR M a0 5) 3) - (1 : Int32))) stX11_within ccX11_within (Or.inl lkX11_55) rfl rfl rfl ⟨Nat.le_of_ble_eq_true rfl, Nat.le_of_ble_eq_true rfl, rfl, rfl, Nat.le_of_ble_eq_true rfl, Nat.le_of_ble_eq_true rfl⟩ (Nat.le_of_ble_eq_true rfl) dX11_work_11 rfl ?_
  refine r_if_ne (tgt := 20) (q := 17) hX dX11_work_14 (by decide) rfl (fun hb3 => ?_) (fun hb3 => ?_)
  · refine r_bipush (v := (-101 : Int32)) (q := 19) hX dX11_work_17 rfl rfl ?_
    refine r_lf (hK _) ?_
    exact r_iret hM rfl (Nat.le_of_ble_eq_true rfl) (Nat.le_of_ble_eq_true rfl) dX11_work_19
  · refine r_iload_n (i := 1) (x := x1) (q := 21) 1 hX dX11_work_20 rfl rfl rfl ?_
    refine r_iconst (v := (1 : Int32)) (q := 22) hX dX11_work_21 rfl rfl ?_
    refine r_sipush (v := (999 : Int32)) (q := 25) hX dX11_work_22 rfl rfl ?_
    refine r_cs (As := [vi x1, vi (1 : Int32), vi (999 : Int32)]) (st := []) (r := (some (vi (fX11_within x1 (1 : Int32) (999 : Int32))))) (Z1 := Z) (M1 := M) (k1 := 0) (n1 := 0) (st1 := [vi (fX11_within x1 (1 : Int32) (999 : Int32))]) (q := 28) hX (fun l => kX11_within l Z M x1 (1 : Int32) (999 : Int32)) stX11_within ccX11_within (Or.inl lkX11_55) rfl rfl rfl ⟨Nat.le_of_ble_eq_true rfl, Nat.le_of_ble_eq_true rfl, rfl, rfl, Nat.le_of_ble_eq_true rfl, Nat.le_of_ble_eq_true rfl⟩ (Nat.le_of_ble_eq_true rfl) dX11_work_25 rfl ?_
    refine r_if_eq (tgt := 42) (q := 31) hX dX11_work_28 (by decide) rfl (fun hb4 => ?_) (fun hb4 => ?_)
    · refine r_bipush (v := (-102 : Int32)) (q := 44) hX dX11_work_42 rfl rfl ?_
      refine r_lf (hK _) ?_
      exact r_iret hM rfl (Nat.le_of_ble_eq_true rfl) (Nat.le_of_ble_eq_true rfl) dX11_work_44
    · refine r_iload_n (i := 2) (x := x2) (q := 32) 2 hX dX11_work_31 rfl rfl rfl ?_
      refine r_iconst (v := (0 : Int32)) (q := 33) hX dX11_work_32 rfl rfl ?_
      refine r_sipush (v := (999 : Int32)) (q := 36) hX dX11_work_33 rfl rfl ?_
      refine r_cs (As := [vi x2, vi (0 : Int32), vi (999 : Int32)]) (st := []) (r := (some (vi (fX11_within x2 (0 : Int32) (999 : Int32))))) (Z1 := Z) (M1 := M) (k1 := 0) (n1 := 0) (st1 := [vi (fX11_within x2 (0 : Int32) (999 : Int32))]) (q := 39) hX (fun l => kX11_within l Z M x2 (0 : Int32) (999 : Int32)) stX11_within ccX11_within (Or.inl lkX11_55) rfl rfl rfl ⟨Nat.le_of_ble_eq_true rfl, Nat.le_of_ble_eq_true rfl, rfl, rfl, Nat.le_of_ble_eq_true rfl, Nat.le_of_ble_eq_true rfl⟩ (Nat.le_of_ble_eq_true rfl) dX11_work_36 rfl ?_
      refine r_if_ne (tgt := 45) (q := 42) hX dX11_work_39 (by decide) rfl (fun hb5 => ?_) (fun hb5 => ?_)
      · refine r_bipush (v := (-102 : Int32)) (q := 44) hX dX11_work_42 rfl rfl ?_
        refine r_lf (hK _) ?_
        exact r_iret hM rfl (Nat.le_of_ble_eq_true rfl) (Nat.le_of_ble_eq_true rfl) dX11_work_44
      · refine r_aload_n (i := 0) (x := a0) (q := 46) 0 hX dX11_work_45 rfl rfl rfl ?_
        refine r_getR (a := a0) (ci := 11) (kf := 5) (q := 49) hX hc1 flX11_47 rfl dX11_work_46 rfl ?_
        refine r_iload_n (i := 1) (x := x1) (q := 50) 1 hX dX11_work_49 rfl rfl rfl ?_
        refine r_iload_n (i := 2) (x := x2) (q := 51) 2 hX dX11_work_50 rfl rfl rfl ?_
        refine r_iload_n (i := 3) (x := x3) (q := 52) 3 hX dX11_work_51 rfl rfl rfl ?_
        refine r_bind (fun v6 h7 => ?_)
        refine r_cv (a := (rR M a0 5)) (As := [vi x1, vi x2, vi x3]) (st := []) (r := (some (vi v6.1))) (Z1 := Z) (M1 := v6.2) (k1 := 0) (n1 := 0) (st1 := [vi v6.1]) (q := 55) hX (fun l => kX10_add l Z M (rR M a0 5) x1 x2 x3 v6 h7) hc2 ivX10_add ccX10_add (Or.inl lkX11_333) rfl rfl rfl ⟨Nat.le_of_ble_eq_true rfl, Nat.le_of_ble_eq_true rfl, rfl, rfl, Nat.le_of_ble_eq_true rfl, Nat.le_of_ble_eq_true rfl⟩ (Nat.le_of_ble_eq_true rfl) dX11_work_52 rfl ?_
        refine r_lf (hK _) ?_
        exact r_iret hM rfl (Nat.le_of_ble_eq_true rfl) (Nat.le_of_ble_eq_true rfl) dX11_work_55
