theorem lkX2_43 : Lk RX2 43 yX2_stepAtFactor := gd (hcw3_8 _ (List.mem_of_getElem? (i := 19) rfl)) rfl
theorem lkX2_46 : Lk RX2 46 yX8_isSign := gd (hcw3_9 _ (List.mem_of_getElem? (i := 5) rfl)) rfl
theorem lkX2_53 : Lk RX2 53 yX2_stepBehindFactor := gd (hcw3_9 _ (List.mem_of_getElem? (i := 8) rfl)) rfl
theorem lkX2_40 : Lk RX2 40 yX2_stepInNumber := gd (hcw3_8 _ (List.mem_of_getElem? (i := 13) rfl)) rfl
def mX2_step : MD := (yX2_step, cX2_step, 3, (some .int), 2, 41, 0, 0)
theorem ccX2_step : Cc mX2_step 2 := ⟨gd (hcw1_0 _ (List.mem_of_getElem? (i := 5) rfl)) rfl, gd (hcw3_8 _ (List.mem_of_getElem? (i := 12) rfl)) rfl, by decide +kernel, by decide +kernel, by decide +kernel⟩
theorem stX2_step : Cond.static (yN mX2_step) ∈ lw_gd := gd (hcw3_8 _ (List.mem_of_getElem? (i := 11) rfl)) rfl
noncomputable def fX2_step (x0 : Int32) (x1 : Int32) : Option (Int32) := (pu ((x0 - x0 / (16 : Int32) * (16 : Int32))) (fun z1 => (if z1 = 0 then (if x1 = (84 : Int32) then some (1 : Int32) else (if x1 = (67 : Int32) then some (1 : Int32) else some (-1 : Int32))) else (if z1 = (1 : Int32) then (if x1 = (58 : Int32) then some (2 : Int32) else some (-1 : Int32)) else (if (6 : Int32) < z1 then (if z1 = (7 : Int32) then some (fX2_stepAtFactor x0 x1) else (if z1 = (8 : Int32) then (if (fX8_isSign x1) = 0 then some (-1 : Int32) else some ((x0 - (8 : Int32)) + (9 : Int32))) else (js (if (12 : Int32) ≤ z1 then some (Sum.inl ()) else (if (fX2_isDigit x1) = 0 then some (Sum.inl ()) else some (Sum.inr (x0 + (1 : Int32))))) (fun v14 : Unit => (if z1 = (9 : Int32) then some (-1 : Int32) else some (fX2_stepBehindFactor (x0 - z1) x1)))))) else (Option.bind (fX2_stepInNumber x0 x1) (fun v17 => some v17)))))))
set_option maxRecDepth 20000 in
theorem kX2_step (l : Launch) (Z : Shp) (M : Mem) (x0 : Int32) (x1 : Int32) (r : Int32) (h : fX2_step x0 x1 = some r) : Ct l mX2_step [vi x0, vi x1] Z M ((some (vi r)), Z, M) := by
  refine Ct.of rfl (Nat.le_of_ble_eq_true rfl) (fun X hM => ?_)
  have hX := hM.1
  refine r_top (mk := fun r => ((some (vi r)), Z, M)) h (fun K hK => ?_)
  unfold fX2_step
  refine r_iload_n (i := 0) (x := x0) (q := 1) 0 hX dX2_step_0 rfl rfl rfl ?_
  refine r_bipush (v := (16 : Int32)) (q := 3) hX dX2_step_1 rfl rfl ?_
  refine r_irem (q := 4) hX dX2_step_3 (by decide) rfl ?_
  refine r_istore_nP (x := (x0 - x0 / (16 : Int32) * (16 : Int32))) (q := 5) 2 [1, 2, 0] (fun z1 => [(0, vi x0), (1, vi x1), (2, vi z1)]) hX dX2_step_4 rfl (Nat.le_of_ble_eq_true rfl) (fun _ => rfl) rfl (fun z1 => ?_)
  refine r_iload_n (i := 2) (x := z1) (q := 6) 2 hX dX2_step_5 rfl rfl rfl ?_
  refine r_if_ne (tgt := 27) (q := 9) hX dX2_step_6 (by decide) rfl (fun hb2 => ?_) (fun hb2 => ?_)
  · refine r_iload_n (i := 1) (x := x1) (q := 10) 1 hX dX2_step_9 rfl rfl rfl ?_
    refine r_bipush (v := (84 : Int32)) (q := 12) hX dX2_step_10 rfl rfl ?_
    refine r_icmp_eq (tgt := 21) (q := 15) hX dX2_step_12 (by decide) rfl (fun hb3 => ?_) (fun hb3 => ?_)
    · refine r_iconst (v := (1 : Int32)) (q := 22) hX dX2_step_21 rfl rfl ?_
      refine r_goto (q := 26) hX dX2_step_22 (by decide) ?_
      refine r_lf (hK _) ?_
      exact r_iret hM rfl (Nat.le_of_ble_eq_true rfl) (Nat.le_of_ble_eq_true rfl) dX2_step_26
    · refine r_iload_n (i := 1) (x := x1) (q := 16) 1 hX dX2_step_15 rfl rfl rfl ?_
      refine r_bipush (v := (67 : Int32)) (q := 18) hX dX2_step_16 rfl rfl ?_
      refine r_icmp_ne (tgt := 25) (q := 21) hX dX2_step_18 (by decide) rfl (fun hb4 => ?_) (fun hb4 => ?_)
      · refine r_iconst (v := (1 : Int32)) (q := 22) hX dX2_step_21 rfl rfl ?_
        refine r_goto (q := 26) hX dX2_step_22 (by decide) ?_
        refine r_lf (hK _) ?_
        exact r_iret hM rfl (Nat.le_of_ble_eq_true rfl) (Nat.le_of_ble_eq_true rfl) dX2_step_26
      · refine r_iconst (v := (-1 : Int32)) (q := 26) hX dX2_step_25 rfl rfl ?_
        refine r_lf (hK _) ?_
        exact r_iret hM rfl (Nat.le_of_ble_eq_true rfl) (Nat.le_of_ble_eq_true rfl) dX2_step_26
  · refine r_iload_n (i := 2) (x := z1) (q := 28) 2 hX dX2_step_27 rfl rfl rfl ?_
    refine r_iconst (v := (1 : Int32)) (q := 29) hX dX2_step_28 rfl rfl ?_
    refine r_icmp_ne (tgt := 44) (q := 32) hX dX2_step_29 (by decide) rfl (fun hb5 => ?_) (fun hb5 => ?_)
    · refine r_iload_n (i := 1) (x := x1) (q := 33) 1 hX dX2_step_32 rfl rfl rfl ?_
      refine r_bipush (v := (58 : Int32)) (q := 35) hX dX2_step_33 rfl rfl ?_
      refine r_icmp_ne (tgt := 42) (q := 38) hX dX2_step_35 (by decide) rfl (fun hb6 => ?_) (fun hb6 => ?_)
      · refine r_iconst (v := (2 : Int32)) (q := 39) hX dX2_step_38 rfl rfl ?_
        refine r_goto (q := 43) hX dX2_step_39 (by decide) ?_
        refine r_lf (hK _) ?_
        exact r_iret hM rfl (Nat.le_of_ble_eq_true rfl) (Nat.le_of_ble_eq_true rfl) dX2_step_43
      · refine r_iconst (v := (-1 : Int32)) (q := 43) hX dX2_step_42 rfl rfl ?_
        refine r_lf (hK _) ?_
        exact r_iret hM rfl (Nat.le_of_ble_eq_true rfl) (Nat.le_of_ble_eq_true rfl) dX2_step_43
    · refine r_iload_n (i := 2) (x := z1) (q := 45) 2 hX dX2_step_44 rfl rfl rfl ?_
      refine r_bipush (v := (6 : Int32)) (q := 47) hX dX2_step_45 rfl rfl ?_
      refine r_icmp_gt (tgt := 56) (q := 50) hX dX2_step_47 (by decide) rfl (fun hb7 => ?_) (fun hb7 => ?_)
      · refine r_iload_n (i := 2) (x := z1) (q := 57) 2 hX dX2_step_56 rfl rfl rfl ?_
        refine r_bipush (v := (7 : Int32)) (q := 59) hX dX2_step_57 rfl rfl ?_
        refine r_icmp_ne (tgt := 68) (q := 62) hX dX2_step_59 (by decide) rfl (fun hb8 => ?_) (fun hb8 => ?_)
        · refine r_iload_n (i := 0) (x := x0) (q := 63) 0 hX dX2_step_62 rfl rfl rfl ?_
          refine r_iload_n (i := 1) (x := x1) (q := 64) 1 hX dX2_step_63 rfl rfl rfl ?_
          refine r_cs (As := [vi x0, vi x1]) (st := []) (r := (some (vi (fX2_stepAtFactor x0 x1)))) (Z1 := Z) (M1 := M) (k1 := 0) (n1 := 0) (st1 := [vi (fX2_stepAtFactor x0 x1)]) (q := 67) hX (fun l => kX2_stepAtFactor l Z M x0 x1) stX2_stepAtFactor ccX2_stepAtFactor (Or.inl lkX2_43) rfl rfl rfl ⟨Nat.le_of_ble_eq_true rfl, Nat.le_of_ble_eq_true rfl, rfl, rfl, Nat.le_of_ble_eq_true rfl, Nat.le_of_ble_eq_true rfl⟩ (Nat.le_of_ble_eq_true rfl) dX2_step_64 rfl ?_
          refine r_lf (hK _) ?_
          exact r_iret hM rfl (Nat.le_of_ble_eq_true rfl) (Nat.le_of_ble_eq_true rfl) dX2_step_67
        · refine r_iload_n (i := 2) (x := z1) (q := 69) 2 hX dX2_step_68 rfl rfl rfl ?_
          refine r_bipush (v := (8 : Int32)) (q := 71) hX dX2_step_69 rfl rfl ?_
          refine r_icmp_ne (tgt := 93) (q := 74) hX dX2_step_71 (by decide) rfl (fun hb9 => ?_) (fun hb9 => ?_)
          · refine r_iload_n (i := 1) (x := x1) (q := 75) 1 hX dX2_step_74 rfl rfl rfl ?_
            refine r_cs (As := [vi x1]) (st := []) (r := (some (vi (fX8_isSign x1)))) (Z1 := Z) (M1 := M) (k1 := 0) (n1 := 0) (st1 := [vi (fX8_isSign x1)]) (q := 78) hX (fun l => kX8_isSign l Z M x1) stX8_isSign ccX8_isSign (Or.inl lkX2_46) rfl rfl rfl ⟨Nat.le_of_ble_eq_true rfl, Nat.le_of_ble_eq_true rfl, rfl, rfl, Nat.le_of_ble_eq_true rfl, Nat.le_of_ble_eq_true rfl⟩ (Nat.le_of_ble_eq_true rfl) dX2_step_75 rfl ?_
            refine r_if_eq (tgt := 91) (q := 81) hX dX2_step_78 (by decide) rfl (fun hb10 => ?_) (fun hb10 => ?_)
            · refine r_iconst (v := (-1 : Int32)) (q := 92) hX dX2_step_91 rfl rfl ?_
              refine r_lf (hK _) ?_
              exact r_iret hM rfl (Nat.le_of_ble_eq_true rfl) (Nat.le_of_ble_eq_true rfl) dX2_step_92
            · refine r_iload_n (i := 0) (x := x0) (q := 82) 0 hX dX2_step_81 rfl rfl rfl ?_
              refine r_bipush (v := (8 : Int32)) (q := 84) hX dX2_step_82 rfl rfl ?_
              refine r_isub (q := 85) hX dX2_step_84 rfl ?_
              refine r_bipush (v := (9 : Int32)) (q := 87) hX dX2_step_85 rfl rfl ?_
              refine r_iadd (q := 88) hX dX2_step_87 rfl ?_
              refine r_goto (q := 92) hX dX2_step_88 (by decide) ?_
              refine r_lf (hK _) ?_
              exact r_iret hM rfl (Nat.le_of_ble_eq_true rfl) (Nat.le_of_ble_eq_true rfl) dX2_step_92
          · refine r_iload_n (i := 2) (x := z1) (q := 94) 2 hX dX2_step_93 rfl rfl rfl ?_
            refine r_bipush (v := (12 : Int32)) (q := 96) hX dX2_step_94 rfl rfl ?_
            refine r_js (J := fun (v14 : Unit) (P : Option Res) => Ref mX2_step X 0 0 Z M 110 [(0, vi x0), (1, vi x1), (2, vi z1)] [] P) (fun v14 => ?_) (fun K1 hj12 ho13 => ?_)
            · refine r_iload_n (i := 2) (x := z1) (q := 111) 2 hX dX2_step_110 rfl rfl rfl ?_
              refine r_bipush (v := (9 : Int32)) (q := 113) hX dX2_step_111 rfl rfl ?_
              refine r_icmp_ne (tgt := 120) (q := 116) hX dX2_step_113 (by decide) rfl (fun hb16 => ?_) (fun hb16 => ?_)
              · refine r_iconst (v := (-1 : Int32)) (q := 117) hX dX2_step_116 rfl rfl ?_
                refine r_goto (q := 127) hX dX2_step_117 (by decide) ?_
                refine r_lf (hK _) ?_
                exact r_iret hM rfl (Nat.le_of_ble_eq_true rfl) (Nat.le_of_ble_eq_true rfl) dX2_step_127
              · refine r_iload_n (i := 0) (x := x0) (q := 121) 0 hX dX2_step_120 rfl rfl rfl ?_
                refine r_iload_n (i := 2) (x := z1) (q := 122) 2 hX dX2_step_121 rfl rfl rfl ?_
                refine r_isub (q := 123) hX dX2_step_122 rfl ?_
                refine r_iload_n (i := 1) (x := x1) (q := 124) 1 hX dX2_step_123 rfl rfl rfl ?_
                refine r_cs (As := [vi (x0 - z1), vi x1]) (st := []) (r := (some (vi (fX2_stepBehindFactor (x0 - z1) x1)))) (Z1 := Z) (M1 := M) (k1 := 0) (n1 := 0) (st1 := [vi (fX2_stepBehindFactor (x0 - z1) x1)]) (q := 127) hX (fun l => kX2_stepBehindFactor l Z M (x0 - z1) x1) stX2_stepBehindFactor ccX2_stepBehindFactor (Or.inl lkX2_53) rfl rfl rfl ⟨Nat.le_of_ble_eq_true rfl, Nat.le_of_ble_eq_true rfl, rfl, rfl, Nat.le_of_ble_eq_true rfl, Nat.le_of_ble_eq_true rfl⟩ (Nat.le_of_ble_eq_true rfl) dX2_step_124 rfl ?_
                refine r_lf (hK _) ?_
                exact r_iret hM rfl (Nat.le_of_ble_eq_true rfl) (Nat.le_of_ble_eq_true rfl) dX2_step_127
            · refine r_icmp_ge (tgt := 110) (q := 99) hX dX2_step_96 (by decide) rfl (fun hb11 => ?_) (fun hb11 => ?_)
              · refine r_l0 ?_
                exact hj12 ()
              · refine r_iload_n (i := 1) (x := x1) (q := 100) 1 hX dX2_step_99 rfl rfl rfl ?_
                refine r_cs (As := [vi x1]) (st := []) (r := (some (vi (fX2_isDigit x1)))) (Z1 := Z) (M1 := M) (k1 := 0) (n1 := 0) (st1 := [vi (fX2_isDigit x1)]) (q := 103) hX (fun l => kX2_isDigit l Z M x1) stX2_isDigit ccX2_isDigit (Or.inl lkX2_50) rfl rfl rfl ⟨Nat.le_of_ble_eq_true rfl, Nat.le_of_ble_eq_true rfl, rfl, rfl, Nat.le_of_ble_eq_true rfl, Nat.le_of_ble_eq_true rfl⟩ (Nat.le_of_ble_eq_true rfl) dX2_step_100 rfl ?_
                refine r_if_eq (tgt := 110) (q := 106) hX dX2_step_103 (by decide) rfl (fun hb15 => ?_) (fun hb15 => ?_)
                · refine r_l0 ?_
                  exact hj12 ()
                · refine r_iload_n (i := 0) (x := x0) (q := 107) 0 hX dX2_step_106 rfl rfl rfl ?_
                  refine r_iconst (v := (1 : Int32)) (q := 108) hX dX2_step_107 rfl rfl ?_
                  refine r_iadd (q := 109) hX dX2_step_108 rfl ?_
                  refine r_lf ((ho13 _).trans (hK _)) ?_
                  exact r_iret hM rfl (Nat.le_of_ble_eq_true rfl) (Nat.le_of_ble_eq_true rfl) dX2_step_109
      · refine r_iload_n (i := 0) (x := x0) (q := 51) 0 hX dX2_step_50 rfl rfl rfl ?_
        refine r_iload_n (i := 1) (x := x1) (q := 52) 1 hX dX2_step_51 rfl rfl rfl ?_
        refine r_bind (fun v17 h18 => ?_)
        refine r_cs (As := [vi x0, vi x1]) (st := []) (r := (some (vi v17))) (Z1 := Z) (M1 := M) (k1 := 0) (n1 := 0) (st1 := [vi v17]) (q := 55) hX (fun l => kX2_stepInNumber l Z M x0 x1 v17 h18) stX2_stepInNumber ccX2_stepInNumber (Or.inl lkX2_40) rfl rfl rfl ⟨Nat.le_of_ble_eq_true rfl, Nat.le_of_ble_eq_true rfl, rfl, rfl, Nat.le_of_ble_eq_true rfl, Nat.le_of_ble_eq_true rfl⟩ (Nat.le_of_ble_eq_true rfl) dX2_step_52 rfl ?_
        refine r_lf (hK _) ?_
        exact r_iret hM rfl (Nat.le_of_ble_eq_true rfl) (Nat.le_of_ble_eq_true rfl) dX2_step_55
theorem lkX2_36 : Lk RX2 36 yX2_step := gd (hcw3_8 _ (List.mem_of_getElem? (i := 10) rfl)) rfl
def mX2_firstFault : MD := (yX2_firstFault, cX2_firstFault, 3, (some .int), 3, 63, 0, 0)
theorem ccX2_firstFault : Cc mX2_firstFault 0 := ⟨gd (hcw1_0 _ (List.mem_of_getElem? (i := 5) rfl)) rfl, gd (hcw3_8 _ (List.mem_of_getElem? (i := 9) rfl)) rfl, by decide +kernel, by decide +kernel, by decide +kernel⟩
theorem ivX2_firstFault : Iv mX2_firstFault 2 := ⟨Nat.le_of_ble_eq_true rfl, rfl, gd (hcw3_8 _ (List.mem_of_getElem? (i := 7) rfl)) rfl, gd (hcw3_8 _ (List.mem_of_getElem? (i := 8) rfl)) rfl⟩
noncomputable def fX2_firstFault (Z : Shp) (M : Mem) (a0 : Nat) : Option (Int32) := (loop (fun s1 : Int32 × Int32 => (if tg Z a0 = (3, 4) then (if (rI M a0 1) ≤ s1.2 then some (Sum.inr (rI M a0 1)) else (if aok Z (rR M a0 0) 102 s1.2 then (Option.bind (fX2_step s1.1 (rI M (rR M a0 0) (ix s1.2))) (fun v7 => (if v7 = (-1 : Int32) then some (Sum.inr s1.2) else some (Sum.inl (v7, (s1.2 + (1 : Int32))))))) else none)) else none)) ((0 : Int32), (0 : Int32)))
set_option maxRecDepth 20000 in
theorem kX2_firstFault (l : Launch) (Z : Shp) (M : Mem) (a0 : Nat) (r : Int32) (h : fX2_firstFault Z M a0 = some r) : Ct l mX2_firstFault [vr a0] Z M ((some (vi r)), Z, M) := by
  refine Ct.of rfl (Nat.le_of_ble_eq_true rfl) (fun X hM => ?_)
  have hX := hM.1
  refine r_top (mk := fun r => ((some (vi r)), Z, M)) h (fun K hK => ?_)
  unfold fX2_firstFault
  refine r_iconst (v := (0 : Int32)) (q := 1) hX dX2_firstFault_0 rfl rfl ?_
  refine r_istore_n (x := (0 : Int32)) (q := 2) 1 [1, 0] (L1 := [(0, vr a0), (1, vi (0 : Int32))]) hX dX2_firstFault_1 rfl (Nat.le_of_ble_eq_true rfl) rfl rfl ?_
  refine r_iconst (v := (0 : Int32)) (q := 3) hX dX2_firstFault_2 rfl rfl ?_
  refine r_istore_n (x := (0 : Int32)) (q := 4) 2 [1, 2, 0] (L1 := [(0, vr a0), (1, vi (0 : Int32)), (2, vi (0 : Int32))]) hX dX2_firstFault_3 rfl (Nat.le_of_ble_eq_true rfl) rfl rfl ?_
  refine r_loop (Hd := fun (s1 : Int32 × Int32) (P : Option Res) => Ref mX2_firstFault X 0 0 Z M 4 [(0, vr a0), (1, vi s1.1), (2, vi s1.2)] [] P) (fun _ => r_none) (fun s1 K1 hn2 hx3 => ?_) ((0 : Int32), (0 : Int32))
  refine r_iload_n (i := 2) (x := s1.2) (q := 5) 2 hX dX2_firstFault_4 rfl rfl rfl ?_
  refine r_aload_n (i := 0) (x := a0) (q := 6) 0 hX dX2_firstFault_5 rfl rfl rfl ?_
  refine r_ck (fun hc4 => ?_)
  refine r_getI (a := a0) (ci := 2) (kf := 1) (q := 9) hX hc4 flX2_33 rfl rfl dX2_firstFault_6 rfl ?_
  refine r_icmp_ge (tgt := 36) (q := 12) hX dX2_firstFault_9 (by decide) rfl (fun hb5 => ?_) (fun hb5 => ?_)
  · refine r_aload_n (i := 0) (x := a0) (q := 37) 0 hX dX2_firstFault_36 rfl rfl rfl ?_
    refine r_getI (a := a0) (ci := 2) (kf := 1) (q := 40) hX hc4 flX2_33 rfl rfl dX2_firstFault_37 rfl ?_
    refine r_lf ((hx3 _).trans (hK _)) ?_
    exact r_iret hM rfl (Nat.le_of_ble_eq_true rfl) (Nat.le_of_ble_eq_true rfl) dX2_firstFault_40
  · refine r_iload_n (i := 1) (x := s1.1) (q := 13) 1 hX dX2_firstFault_12 rfl rfl rfl ?_
    refine r_aload_n (i := 0) (x := a0) (q := 14) 0 hX dX2_firstFault_13 rfl rfl rfl ?_
    refine r_getR (a := a0) (ci := 2) (kf := 0) (q := 17) hX hc4 flX2_11 rfl dX2_firstFault_14 rfl ?_
    refine r_iload_n (i := 2) (x := s1.2) (q := 18) 2 hX dX2_firstFault_17 rfl rfl rfl ?_
    refine r_ck (fun hc6 => ?_)
    refine r_bald (a := (rR M a0 0)) (i := s1.2) (q := 19) hX hc6 dX2_firstFault_18 rfl ?_
    refine r_bind (fun v7 h8 => ?_)
    refine r_cs (As := [vi s1.1, vi (rI M (rR M a0 0) (ix s1.2))]) (st := []) (r := (some (vi v7))) (Z1 := Z) (M1 := M) (k1 := 0) (n1 := 0) (st1 := [vi v7]) (q := 22) hX (fun l => kX2_step l Z M s1.1 (rI M (rR M a0 0) (ix s1.2)) v7 h8) stX2_step ccX2_step (Or.inl lkX2_36) rfl rfl rfl ⟨Nat.le_of_ble_eq_true rfl, Nat.le_of_ble_eq_true rfl, rfl, rfl, Nat.le_of_ble_eq_true rfl, Nat.le_of_ble_eq_true rfl⟩ (Nat.le_of_ble_eq_true rfl) dX2_firstFault_19 rfl ?_
    refine r_istore_n (x := v7) (q := 23) 1 [1, 0, 3] (L1 := [(0, vr a0), (1, vi v7), (2, vi s1.2)]) hX dX2_firstFault_22 rfl (Nat.le_of_ble_eq_true rfl) rfl rfl ?_
    refine r_iload_n (i := 1) (x := v7) (q := 24) 1 hX dX2_firstFault_23 rfl rfl rfl ?_
    refine r_iconst (v := (-1 : Int32)) (q := 25) hX dX2_firstFault_24 rfl rfl ?_
    refine r_icmp_ne (tgt := 30) (q := 28) hX dX2_firstFault_25 (by decide) rfl (fun hb9 => ?_) (fun hb9 => ?_)
    · refine r_iload_n (i := 2) (x := s1.2) (q := 29) 2 hX dX2_firstFault_28 rfl rfl rfl ?_
      refine r_lf ((hx3 _).trans (hK _)) ?_
      exact r_iret hM rfl (Nat.le_of_ble_eq_true rfl) (Nat.le_of_ble_eq_true rfl) dX2_firstFault_29
    · refine r_iinc (x := s1.2) (v := (s1.2 + (1 : Int32))) (q := 33) 2 2 [1, 2, 0] (L1 := [(0, vr a0), (1, vi v7), (2, vi (s1.2 + (1 : Int32)))]) hX dX2_firstFault_30 rfl rfl (Nat.le_of_ble_eq_true rfl) rfl rfl ?_
      refine r_goto (q := 4) hX dX2_firstFault_33 (by decide) ?_
      refine r_l0 ?_
      exact hn2 (v7, (s1.2 + (1 : Int32)))
theorem lkX11_177 : Lk RX11 177 yX2_firstFault := gd (hcw3_8 _ (List.mem_of_getElem? (i := 6) rfl)) rfl
def mX11_fault : MD := (yX11_fault, cX11_fault, 1, (some .int), 4, 85, 0, 0)
theorem ccX11_fault : Cc mX11_fault 0 := ⟨gd (hcw1_0 _ (List.mem_of_getElem? (i := 1) rfl)) rfl, gd (hcw3_8 _ (List.mem_of_getElem? (i := 5) rfl)) rfl, by decide +kernel, by decide +kernel, by decide +kernel⟩
theorem ivX11_fault : Iv mX11_fault 11 := ⟨Nat.le_of_ble_eq_true rfl, rfl, gd (hcw3_8 _ (List.mem_of_getElem? (i := 3) rfl)) rfl, gd (hcw3_8 _ (List.mem_of_getElem? (i := 4) rfl)) rfl⟩
noncomputable def fX11_fault (Z : Shp) (M : Mem) (a0 : Nat) : Option (Int32) := (if tg Z a0 = (12, 6) then (if tg Z (rR M a0 1) = (3, 4) then (Option.bind (fX2_firstFault Z M (rR M a0 1)) (fun v3 => some v3)) else none) else none)
set_option maxRecDepth 20000 in
theorem kX11_fault (l : Launch) (Z : Shp) (M : Mem) (a0 : Nat) (r : Int32) (h : fX11_fault Z M a0 = some r) : Ct l mX11_fault [vr a0] Z M ((some (vi r)), Z, M) := by
  refine Ct.of rfl (Nat.le_of_ble_eq_true rfl) (fun X hM => ?_)
  have hX := hM.1
  refine r_top (mk := fun r => ((some (vi r)), Z, M)) h (fun K hK => ?_)
  unfold fX11_fault
  refine r_aload_n (i := 0) (x := a0) (q := 1) 0 hX dX11_fault_0 rfl rfl rfl ?_
  refine r_ck (fun hc1 => ?_)
  refine r_getR (a := a0) (ci := 11) (kf := 1) (q := 4) hX hc1 flX11_19 rfl dX11_fault_1 rfl ?_
  refine r_ck (fun hc2 => ?_)
  refine r_bind (fun v3 h4 => ?_)
  refine r_cv (a := (rR M a0 1)) (As := []) (st := []) (r := (some (vi v3))) (Z1 := Z) (M1 := M) (k1 := 0) (n1 := 0) (st1 := [vi v3]) (q := 7) hX (fun l => kX2_firstFault l Z M (rR M a0 1) v3 h4) hc2 ivX2_firstFault ccX2_firstFault (Or.inl lkX11_177) rfl rfl rfl ⟨Nat.le_of_ble_eq_true rfl, Nat.le_of_ble_eq_true rfl, rfl, rfl, Nat.le_of_ble_eq_true rfl, Nat.le_of_ble_eq_true rfl⟩ (Nat.le_of_ble_eq_true rfl) dX11_fault_4 rfl ?_
  refine r_lf (hK _) ?_
  exact r_iret hM rfl (Nat.le_of_ble_eq_true rfl) (Nat.le_of_ble_eq_true rfl) dX11_fault_7
theorem lkX11_262 : Lk RX11 262 yX0_search := gd (hcw4_10 _ (List.mem_of_getElem? (i := 5) rfl)) rfl
theorem flX11_265 : FL RX11 265 0 7 := ⟨Nat.le_of_ble_eq_true rfl, Nat.le_of_ble_eq_true rfl, gd (hcw1_10 _ (List.mem_of_getElem? (i := 12) rfl)) rfl⟩
theorem flX11_268 : FL RX11 268 0 8 := ⟨Nat.le_of_ble_eq_true rfl, Nat.le_of_ble_eq_true rfl, gd (hcw1_10 _ (List.mem_of_getElem? (i := 14) rfl)) rfl⟩
def mX11_find : MD := (yX11_find, cX11_find, 2, (some .int), 3, 67, 0, 0)
theorem ccX11_find : Cc mX11_find 1 := ⟨gd (hcw1_0 _ (List.mem_of_getElem? (i := 1) rfl)) rfl, gd (hcw4_10 _ (List.mem_of_getElem? (i := 4) rfl)) rfl, by decide +kernel, by decide +kernel, by decide +kernel⟩
theorem ivX11_find : Iv mX11_find 11 := ⟨Nat.le_of_ble_eq_true rfl, rfl, gd (hcw4_10 _ (List.mem_of_getElem? (i := 2) rfl)) rfl, gd (hcw4_10 _ (List.mem_of_getElem? (i := 3) rfl)) rfl⟩
noncomputable def fX11_find (Z : Shp) (M : Mem) (a0 : Nat) (x1 : Int32) : Option (Int32 × Mem) := (if (fX11_within x1 (0 : Int32) (1 : Int32)) = 0 then some ((-102 : Int32), M) else (if tg Z a0 = (12, 6) then (if tg Z (rR M a0 3) = (1, 9) then (Option.bind (fX0_search Z M (rR M a0 3)) (fun v4 => (if x1 = 0 then (if tg Z (rR v4 a0 3) = (1, 9) then some ((rI v4 (rR v4 a0 3) 7), v4) else none) else (if tg Z (rR v4 a0 3) = (1, 9) then (if (rI v4 (rR v4 a0 3) 7) = (-1 : Int32) then some ((rI v4 (rR v4 a0 3) 7), v4) else some ((rI v4 (rR v4 a0 3) 8), v4)) else none)))) else none) else none))
set_option maxRecDepth 20000 in
theorem kX11_find (l : Launch) (Z : Shp) (M : Mem) (a0 : Nat) (x1 : Int32) (r : Int32 × Mem) (h : fX11_find Z M a0 x1 = some r) : Ct l mX11_find [vr a0, vi x1] Z M ((some (vi r.1)), Z, r.2) := by
  refine Ct.of rfl (Nat.le_of_ble_eq_true rfl) (fun X hM => ?_)
  have hX := hM.1
  refine r_top (mk := fun r => ((some (vi r.1)), Z, r.2)) h (fun K hK => ?_)
  unfold fX11_find
  refine r_iload_n (i := 1) (x := x1) (q := 1) 1 hX dX11_find_0 rfl rfl rfl ?_
  refine r_iconst (v := (0 : Int32)) (q := 2) hX dX11_find_1 rfl rfl ?_
  refine r_iconst (v := (1 : Int32)) (q := 3) hX dX11_find_2 rfl rfl ?_
  refine r_cs (As := [vi x1, vi (0 : Int32), vi (1 : Int32)]) (st := []) (r := (some (vi (fX11_within x1 (0 : Int32) (1 : Int32))))) (Z1 := Z) (M1 := M) (k1 := 0) (n1 := 0) (st1 := [vi (fX11_within x1 (0 : Int32) (1 : Int32))]) (q := 6) hX (fun l => kX11_within l Z M x1 (0 : Int32) (1 : Int32)) stX11_within ccX11_within (Or.inl lkX11_55) rfl rfl rfl ⟨Nat.le_of_ble_eq_true rfl, Nat.le_of_ble_eq_true rfl, rfl, rfl, Nat.le_of_ble_eq_true rfl, Nat.le_of_ble_eq_true rfl⟩ (Nat.le_of_ble_eq_true rfl) dX11_find_3 rfl ?_
  refine r_if_ne (tgt := 12) (q := 9) hX dX11_find_6 (by decide) rfl (fun hb1 => ?_) (fun hb1 => ?_)
  · refine r_bipush (v := (-102 : Int32)) (q := 11) hX dX11_find_9 rfl rfl ?_
    refine r_lf (hK _) ?_
    exact r_iret hM rfl (Nat.le_of_ble_eq_true rfl) (Nat.le_of_ble_eq_true rfl) dX11_find_11
  · refine r_aload_n (i := 0) (x := a0) (q := 13) 0 hX dX11_find_12 rfl rfl rfl ?_
    refine r_ck (fun hc2 => ?_)
    refine r_getR (a := a0) (ci := 11) (kf := 3) (q := 16) hX hc2 flX11_33 rfl dX11_find_13 rfl ?_
    refine r_ck (fun hc3 => ?_)
    refine r_bind (fun v4 h5 => ?_)
    refine r_cv (a := (rR M a0 3)) (As := []) (st := []) (r := none) (Z1 := Z) (M1 := v4) (k1 := 0) (n1 := 0) (st1 := []) (q := 19) hX (fun l => kX0_search l Z M (rR M a0 3) v4 h5) hc3 ivX0_search ccX0_search (Or.inl lkX11_262) rfl rfl rfl ⟨Nat.le_of_ble_eq_true rfl, Nat.le_of_ble_eq_true rfl, rfl, rfl, Nat.le_of_ble_eq_true rfl, Nat.le_of_ble_eq_true rfl⟩ (Nat.le_of_ble_eq_true rfl) dX11_find_16 rfl ?_
    refine r_iload_n (i := 1) (x := x1) (q := 20) 1 hX dX11_find_19 rfl rfl rfl ?_
    refine r_if_eq (tgt := 34) (q := 23) hX dX11_find_20 (by decide) rfl (fun hb6 => ?_) (fun hb6 => ?_)
    · refine r_aload_n (i := 0) (x := a0) (q := 35) 0 hX dX11_find_34 rfl rfl rfl ?_
      refine r_getR (a := a0) (ci := 11) (kf := 3) (q := 38) hX hc2 flX11_33 rfl dX11_find_35 rfl ?_
      refine r_ck (fun hc7 => ?_)
      refine r_getI (a := (rR v4 a0 3)) (ci := 0) (kf := 7) (q := 41) hX hc7 flX11_265 rfl rfl dX11_find_38 rfl ?_
      refine r_goto (q := 51) hX dX11_find_41 (by decide) ?_
      refine r_lf (hK _) ?_
      exact r_iret hM rfl (Nat.le_of_ble_eq_true rfl) (Nat.le_of_ble_eq_true rfl) dX11_find_51
    · refine r_aload_n (i := 0) (x := a0) (q := 24) 0 hX dX11_find_23 rfl rfl rfl ?_
      refine r_getR (a := a0) (ci := 11) (kf := 3) (q := 27) hX hc2 flX11_33 rfl dX11_find_24 rfl ?_
      refine r_ck (fun hc8 => ?_)
      refine r_getI (a := (rR v4 a0 3)) (ci := 0) (kf := 7) (q := 30) hX hc8 flX11_265 rfl rfl dX11_find_27 rfl ?_
      refine r_iconst (v := (-1 : Int32)) (q := 31) hX dX11_find_30 rfl rfl ?_
      refine r_icmp_ne (tgt := 44) (q := 34) hX dX11_find_31 (by decide) rfl (fun hb9 => ?_) (fun hb9 => ?_)
      · refine r_aload_n (i := 0) (x := a0) (q := 35) 0 hX dX11_find_34 rfl rfl rfl ?_
        refine r_getR (a := a0) (ci := 11) (kf := 3) (q := 38) hX hc2 flX11_33 rfl dX11_find_35 rfl ?_
        refine r_getI (a := (rR v4 a0 3)) (ci := 0) (kf := 7) (q := 41) hX hc8 flX11_265 rfl rfl dX11_find_38 rfl ?_
        refine r_goto (q := 51) hX dX11_find_41 (by decide) ?_
        refine r_lf (hK _) ?_
        exact r_iret hM rfl (Nat.le_of_ble_eq_true rfl) (Nat.le_of_ble_eq_true rfl) dX11_find_51
      · refine r_aload_n (i := 0) (x := a0) (q := 45) 0 hX dX11_find_44 rfl rfl rfl ?_
        refine r_getR (a := a0) (ci := 11) (kf := 3) (q := 48) hX hc2 flX11_33 rfl dX11_find_45 rfl ?_
        refine r_getI (a := (rR v4 a0 3)) (ci := 0) (kf := 8) (q := 51) hX hc8 flX11_268 rfl rfl dX11_find_48 rfl ?_
        refine r_lf (hK _) ?_
        exact r_iret hM rfl (Nat.le_of_ble_eq_true rfl) (Nat.le_of_ble_eq_true rfl) dX11_find_51
theorem lkX11_187 : Lk RX11 187 yX2_textNumbered := gd (hcw4_0 _ (List.mem_of_getElem? (i := 12) rfl)) rfl
theorem flX11_191 : FL RX11 191 8 4 := ⟨Nat.le_of_ble_eq_true rfl, Nat.le_of_ble_eq_true rfl, gd (hcw3_11 _ (List.mem_of_getElem? (i := 11) rfl)) rfl⟩
theorem flX11_196 : FL RX11 196 8 5 := ⟨Nat.le_of_ble_eq_true rfl, Nat.le_of_ble_eq_true rfl, gd (hcw3_11 _ (List.mem_of_getElem? (i := 14) rfl)) rfl⟩
def mX11_force : MD := (yX11_force, cX11_force, 5, (some .int), 2, 43, 0, 0)
theorem ccX11_force : Cc mX11_force 3 := ⟨gd (hcw1_0 _ (List.mem_of_getElem? (i := 1) rfl)) rfl, gd (hcw4_0 _ (List.mem_of_getElem? (i := 11) rfl)) rfl, by decide +kernel, by decide +kernel, by decide +kernel⟩
theorem ivX11_force : Iv mX11_force 11 := ⟨Nat.le_of_ble_eq_true rfl, rfl, gd (hcw4_0 _ (List.mem_of_getElem? (i := 9) rfl)) rfl, gd (hcw4_0 _ (List.mem_of_getElem? (i := 10) rfl)) rfl⟩
noncomputable def fX11_force (Z : Shp) (M : Mem) (a0 : Nat) (x1 : Int32) (x2 : Int32) (x3 : Int32) : Option (Int32 × Mem) := (if tg Z a0 = (12, 6) then (if tg Z (rR M a0 1) = (3, 4) then (Option.bind (fX2_textNumbered Z M (rR M a0 1) x1) (fun v3 => (if v3 = 0 then some ((-101 : Int32), M) else (if (fX11_within x2 (0 : Int32) (99 : Int32)) = 0 then some ((-102 : Int32), M) else (if (fX11_within x3 x2 (99 : Int32)) = 0 then some ((-102 : Int32), M) else (if tg Z v3 = (9, 6) then (pu (wI M v3 4 x2) (fun M9 => (pu (wI M9 v3 5 x3) (fun M10 => some ((1 : Int32), M10))))) else none)))))) else none) else none)
set_option maxRecDepth 20000 in
theorem kX11_force (l : Launch) (Z : Shp) (M : Mem) (a0 : Nat) (x1 : Int32) (x2 : Int32) (x3 : Int32) (r : Int32 × Mem) (h : fX11_force Z M a0 x1 x2 x3 = some r) : Ct l mX11_force [vr a0, vi x1, vi x2, vi x3] Z M ((some (vi r.1)), Z, r.2) := by
  refine Ct.of rfl (Nat.le_of_ble_eq_true rfl) (fun X hM => ?_)
  have hX := hM.1
  refine r_top (mk := fun r => ((some (vi r.1)), Z, r.2)) h (fun K hK => ?_)
  unfold fX11_force
  refine r_aload_n (i := 0) (x := a0) (q := 1) 0 hX dX11_force_0 rfl rfl rfl ?_
  refine r_ck (fun hc1 => ?_)
  refine r_getR (a := a0) (ci := 11) (kf := 1) (q := 4) hX hc1 flX11_19 rfl dX11_force_1 rfl ?_
  refine r_iload_n (i := 1) (x := x1) (q := 5) 1 hX dX11_force_4 rfl rfl rfl ?_
  refine r_ck (fun hc2 => ?_)
  refine r_bind (fun v3 h4 => ?_)
  refine r_cv (a := (rR M a0 1)) (As := [vi x1]) (st := []) (r := (some (vr v3))) (Z1 := Z) (M1 := M) (k1 := 0) (n1 := 0) (st1 := [vr v3]) (q := 8) hX (fun l => kX2_textNumbered l Z M (rR M a0 1) x1 v3 h4) hc2 ivX2_textNumbered ccX2_textNumbered (Or.inl lkX11_187) rfl rfl rfl ⟨Nat.le_of_ble_eq_true rfl, Nat.le_of_ble_eq_true rfl, rfl, rfl, Nat.le_of_ble_eq_true rfl, Nat.le_of_ble_eq_true rfl⟩ (Nat.le_of_ble_eq_true rfl) dX11_force_5 rfl ?_
  refine r_astore (x := v3) (q := 10) 4 [1, 2, 3, 4, 0] (L1 := [(0, vr a0), (1, vi x1), (2, vi x2), (3, vi x3), (4, vr v3)]) hX dX11_force_8 (Nat.le_of_ble_eq_true rfl) rfl rfl ?_
  refine r_aload (i := 4) (x := v3) (q := 12) 4 hX dX11_force_10 rfl rfl ?_
  refine r_ifnonnull (tgt := 18) (q := 15) hX dX11_force_12 (by decide) rfl (fun hb5 => ?_) (fun hb5 => ?_)
  · refine r_bipush (v := (-101 : Int32)) (q := 17) hX dX11_force_15 rfl rfl ?_
    refine r_lf (hK _) ?_
    exact r_iret hM rfl (Nat.le_of_ble_eq_true rfl) (Nat.le_of_ble_eq_true rfl) dX11_force_17
  · refine r_iload_n (i := 2) (x := x2) (q := 19) 2 hX dX11_force_18 rfl rfl rfl ?_
    refine r_iconst (v := (0 : Int32)) (q := 20) hX dX11_force_19 rfl rfl ?_
    refine r_bipush (v := (99 : Int32)) (q := 22) hX dX11_force_20 rfl rfl ?_
    refine r_cs (As := [vi x2, vi (0 : Int32), vi (99 : Int32)]) (st := []) (r := (some (vi (fX11_within x2 (0 : Int32) (99 : Int32))))) (Z1 := Z) (M1 := M) (k1 := 0) (n1 := 0) (st1 := [vi (fX11_within x2 (0 : Int32) (99 : Int32))]) (q := 25) hX (fun l => kX11_within l Z M x2 (0 : Int32) (99 : Int32)) stX11_within ccX11_within (Or.inl lkX11_55) rfl rfl rfl ⟨Nat.le_of_ble_eq_true rfl, Nat.le_of_ble_eq_true rfl, rfl, rfl, Nat.le_of_ble_eq_true rfl, Nat.le_of_ble_eq_true rfl⟩ (Nat.le_of_ble_eq_true rfl) dX11_force_22 rfl ?_
    refine r_if_eq (tgt := 38) (q := 28) hX dX11_force_25 (by decide) rfl (fun hb6 => ?_) (fun hb6 => ?_)
    · refine r_bipush (v := (-102 : Int32)) (q := 40) hX dX11_force_38 rfl rfl ?_
      refine r_lf (hK _) ?_
      exact r_iret hM rfl (Nat.le_of_ble_eq_true rfl) (Nat.le_of_ble_eq_true rfl) dX11_force_40
    · refine r_iload_n (i := 3) (x := x3) (q := 29) 3 hX dX11_force_28 rfl rfl rfl ?_
      refine r_iload_n (i := 2) (x := x2) (q := 30) 2 hX dX11_force_29 rfl rfl rfl ?_
      refine r_bipush (v := (99 : Int32)) (q := 32) hX dX11_force_30 rfl rfl ?_
      refine r_cs (As := [vi x3, vi x2, vi (99 : Int32)]) (st := []) (r := (some (vi (fX11_within x3 x2 (99 : Int32))))) (Z1 := Z) (M1 := M) (k1 := 0) (n1 := 0) (st1 := [vi (fX11_within x3 x2 (99 : Int32))]) (q := 35) hX (fun l => kX11_within l Z M x3 x2 (99 : Int32)) stX11_within ccX11_within (Or.inl lkX11_55) rfl rfl rfl ⟨Nat.le_of_ble_eq_true rfl, Nat.le_of_ble_eq_true rfl, rfl, rfl, Nat.le_of_ble_eq_true rfl, Nat.le_of_ble_eq_true rfl⟩ (Nat.le_of_ble_eq_true rfl) dX11_force_32 rfl ?_
      refine r_if_ne (tgt := 41) (q := 38) hX dX11_force_35 (by decide) rfl (fun hb7 => ?_) (fun hb7 => ?_)
      · refine r_bipush (v := (-102 : Int32)) (q := 40) hX dX11_force_38 rfl rfl ?_
        refine r_lf (hK _) ?_
        exact r_iret hM rfl (Nat.le_of_ble_eq_true rfl) (Nat.le_of_ble_eq_true rfl) dX11_force_40
      · refine r_aload (i := 4) (x := v3) (q := 43) 4 hX dX11_force_41 rfl rfl ?_
        refine r_iload_n (i := 2) (x := x2) (q := 44) 2 hX dX11_force_43 rfl rfl rfl ?_
        refine r_ck (fun hc8 => ?_)
        refine r_putI (a := v3) (ci := 8) (kf := 4) (q := 47) hX hc8 flX11_191 rfl rfl (Or.inl rfl) rfl rfl dX11_force_44 rfl (fun M9 => ?_)
        refine r_aload (i := 4) (x := v3) (q := 49) 4 hX dX11_force_47 rfl rfl ?_
        refine r_iload_n (i := 3) (x := x3) (q := 50) 3 hX dX11_force_49 rfl rfl rfl ?_
        refine r_putI (a := v3) (ci := 8) (kf := 5) (q := 53) hX hc8 flX11_196 rfl rfl (Or.inl rfl) rfl rfl dX11_force_50 rfl (fun M10 => ?_)
        refine r_iconst (v := (1 : Int32)) (q := 54) hX dX11_force_53 rfl rfl ?_
        refine r_lf (hK _) ?_
        exact r_iret hM rfl (Nat.le_of_ble_eq_true rfl) (Nat.le_of_ble_eq_true rfl) dX11_force_54
theorem lkX11_305 : Lk RX11 305 yX5_held := gd (hcw5_1 _ (List.mem_of_getElem? (i := 18) rfl)) rfl
def mX11_had : MD := (yX11_had, cX11_had, 3, (some .int), 1, 24, 0, 0)
theorem ccX11_had : Cc mX11_had 2 := ⟨gd (hcw1_0 _ (List.mem_of_getElem? (i := 1) rfl)) rfl, gd (hcw5_2 _ (List.mem_of_getElem? (i := 9) rfl)) rfl, by decide +kernel, by decide +kernel, by decide +kernel⟩
theorem ivX11_had : Iv mX11_had 11 := ⟨Nat.le_of_ble_eq_true rfl, rfl, gd (hcw5_2 _ (List.mem_of_getElem? (i := 7) rfl)) rfl, gd (hcw5_2 _ (List.mem_of_getElem? (i := 8) rfl)) rfl⟩
noncomputable def fX11_had (Z : Shp) (M : Mem) (a0 : Nat) (x1 : Int32) (x2 : Int32) : Option (Int32) := (if (fX11_within x1 (0 : Int32) (5 : Int32)) = 0 then some (-101 : Int32) else (if (fX11_within x2 (0 : Int32) (99 : Int32)) = 0 then some (-102 : Int32) else (if tg Z a0 = (12, 6) then (if tg Z (rR M a0 4) = (6, 9) then (Option.bind (fX5_held Z M (rR M a0 4) x1 x2) (fun v5 => some v5)) else none) else none)))
set_option maxRecDepth 20000 in
theorem kX11_had (l : Launch) (Z : Shp) (M : Mem) (a0 : Nat) (x1 : Int32) (x2 : Int32) (r : Int32) (h : fX11_had Z M a0 x1 x2 = some r) : Ct l mX11_had [vr a0, vi x1, vi x2] Z M ((some (vi r)), Z, M) := by
  refine Ct.of rfl (Nat.le_of_ble_eq_true rfl) (fun X hM => ?_)
  have hX := hM.1
  refine r_top (mk := fun r => ((some (vi r)), Z, M)) h (fun K hK => ?_)
  unfold fX11_had
  refine r_iload_n (i := 1) (x := x1) (q := 1) 1 hX dX11_had_0 rfl rfl rfl ?_
  refine r_iconst (v := (0 : Int32)) (q := 2) hX dX11_had_1 rfl rfl ?_
  refine r_iconst (v := (5 : Int32)) (q := 3) hX dX11_had_2 rfl rfl ?_
  refine r_cs (As := [vi x1, vi (0 : Int32), vi (5 : Int32)]) (st := []) (r := (some (vi (fX11_within x1 (0 : Int32) (5 : Int32))))) (Z1 := Z) (M1 := M) (k1 := 0) (n1 := 0) (st1 := [vi (fX11_within x1 (0 : Int32) (5 : Int32))]) (q := 6) hX (fun l => kX11_within l Z M x1 (0 : Int32) (5 : Int32)) stX11_within ccX11_within (Or.inl lkX11_55) rfl rfl rfl ⟨Nat.le_of_ble_eq_true rfl, Nat.le_of_ble_eq_true rfl, rfl, rfl, Nat.le_of_ble_eq_true rfl, Nat.le_of_ble_eq_true rfl⟩ (Nat.le_of_ble_eq_true rfl) dX11_had_3 rfl ?_
  refine r_if_ne (tgt := 12) (q := 9) hX dX11_had_6 (by decide) rfl (fun hb1 => ?_) (fun hb1 => ?_)
  · refine r_bipush (v := (-101 : Int32)) (q := 11) hX dX11_had_9 rfl rfl ?_
    refine r_lf (hK _) ?_
    exact r_iret hM rfl (Nat.le_of_ble_eq_true rfl) (Nat.le_of_ble_eq_true rfl) dX11_had_11
  · refine r_iload_n (i := 2) (x := x2) (q := 13) 2 hX dX11_had_12 rfl rfl rfl ?_
    refine r_iconst (v := (0 : Int32)) (q := 14) hX dX11_had_13 rfl rfl ?_
    refine r_bipush (v := (99 : Int32)) (q := 16) hX dX11_had_14 rfl rfl ?_
    refine r_cs (As := [vi x2, vi (0 : Int32), vi (99 : Int32)]) (st := []) (r := (some (vi (fX11_within x2 (0 : Int32) (99 : Int32))))) (Z1 := Z) (M1 := M) (k1 := 0) (n1 := 0) (st1 := [vi (fX11_within x2 (0 : Int32) (99 : Int32))]) (q := 19) hX (fun l => kX11_within l Z M x2 (0 : Int32) (99 : Int32)) stX11_within ccX11_within (Or.inl lkX11_55) rfl rfl rfl ⟨Nat.le_of_ble_eq_true rfl, Nat.le_of_ble_eq_true rfl, rfl, rfl, Nat.le_of_ble_eq_true rfl, Nat.le_of_ble_eq_true rfl⟩ (Nat.le_of_ble_eq_true rfl) dX11_had_16 rfl ?_
    refine r_if_eq (tgt := 34) (q := 22) hX dX11_had_19 (by decide) rfl (fun hb2 => ?_) (fun hb2 => ?_)
    · refine r_bipush (v := (-102 : Int32)) (q := 36) hX dX11_had_34 rfl rfl ?_
      refine r_lf (hK _) ?_
      exact r_iret hM rfl (Nat.le_of_ble_eq_true rfl) (Nat.le_of_ble_eq_true rfl) dX11_had_36
    · refine r_aload_n (i := 0) (x := a0) (q := 23) 0 hX dX11_had_22 rfl rfl rfl ?_
      refine r_ck (fun hc3 => ?_)
      refine r_getR (a := a0) (ci := 11) (kf := 4) (q := 26) hX hc3 flX11_40 rfl dX11_had_23 rfl ?_
      refine r_iload_n (i := 1) (x := x1) (q := 27) 1 hX dX11_had_26 rfl rfl rfl ?_
      refine r_iload_n (i := 2) (x := x2) (q := 28) 2 hX dX11_had_27 rfl rfl rfl ?_
      refine r_ck (fun hc4 => ?_)
      refine r_bind (fun v5 h6 => ?_)
      refine r_cv (a := (rR M a0 4)) (As := [vi x1, vi x2]) (st := []) (r := (some (vi v5))) (Z1 := Z) (M1 := M) (k1 := 0) (n1 := 0) (st1 := [vi v5]) (q := 31) hX (fun l => kX5_held l Z M (rR M a0 4) x1 x2 v5 h6) hc4 ivX5_held ccX5_held (Or.inl lkX11_305) rfl rfl rfl ⟨Nat.le_of_ble_eq_true rfl, Nat.le_of_ble_eq_true rfl, rfl, rfl, Nat.le_of_ble_eq_true rfl, Nat.le_of_ble_eq_true rfl⟩ (Nat.le_of_ble_eq_true rfl) dX11_had_28 rfl ?_
      refine r_goto (q := 36) hX dX11_had_31 (by decide) ?_
      refine r_lf (hK _) ?_
      exact r_iret hM rfl (Nat.le_of_ble_eq_true rfl) (Nat.le_of_ble_eq_true rfl) dX11_had_36
def mX6_spill : MD := (yX6_spill, cX6_spill, 2, (some .int), 1, 13, 0, 0)
theorem ccX6_spill : Cc mX6_spill 0 := ⟨gd (hcw1_0 _ (List.mem_of_getElem? (i := 3) rfl)) rfl, gd (hcw3_1 _ (List.mem_of_getElem? (i := 9) rfl)) rfl, by decide +kernel, by decide +kernel, by decide +kernel⟩
theorem ivX6_spill : Iv mX6_spill 6 := ⟨Nat.le_of_ble_eq_true rfl, rfl, gd (hcw3_1 _ (List.mem_of_getElem? (i := 7) rfl)) rfl, gd (hcw3_1 _ (List.mem_of_getElem? (i := 8) rfl)) rfl⟩
def fX6_spill (Z : Shp) (M : Mem) (a0 : Nat) : Option (Int32 × Mem) := (if tg Z a0 = (7, 3) then (pu ((mxI (0 : Int32) ((rI M a0 0) - (rI M a0 1)))) (fun z2 => (pu (wI M a0 0 ((rI M a0 0) - z2)) (fun M3 => some (z2, M3))))) else none)
set_option maxRecDepth 20000 in
theorem kX6_spill (l : Launch) (Z : Shp) (M : Mem) (a0 : Nat) (r : Int32 × Mem) (h : fX6_spill Z M a0 = some r) : Ct l mX6_spill [vr a0] Z M ((some (vi r.1)), Z, r.2) := by
  refine Ct.of rfl (Nat.le_of_ble_eq_true rfl) (fun X hM => ?_)
  have hX := hM.1
  refine r_top (mk := fun r => ((some (vi r.1)), Z, r.2)) h (fun K hK => ?_)
  unfold fX6_spill
  refine r_iconst (v := (0 : Int32)) (q := 1) hX dX6_spill_0 rfl rfl ?_
  refine r_aload_n (i := 0) (x := a0) (q := 2) 0 hX dX6_spill_1 rfl rfl rfl ?_
  refine r_ck (fun hc1 => ?_)
  refine r_getI (a := a0) (ci := 6) (kf := 0) (q := 5) hX hc1 flX6_9 rfl rfl dX6_spill_2 rfl ?_
  refine r_aload_n (i := 0) (x := a0) (q := 6) 0 hX dX6_spill_5 rfl rfl rfl ?_
  refine r_getI (a := a0) (ci := 6) (kf := 1) (q := 9) hX hc1 flX6_15 rfl rfl dX6_spill_6 rfl ?_
  refine r_isub (q := 10) hX dX6_spill_9 rfl ?_
  refine r_mmax (q := 13) hX (gd (hcw2_4 _ (List.mem_of_getElem? (i := 8) rfl)) rfl) (Nat.le_of_ble_eq_true rfl) (Nat.le_of_ble_eq_true rfl) (Nat.le_of_ble_eq_true rfl) (Nat.le_of_ble_eq_true rfl) dX6_spill_10 rfl ?_
  refine r_istore_nP (x := (mxI (0 : Int32) ((rI M a0 0) - (rI M a0 1)))) (q := 14) 1 [1, 0] (fun z2 => [(0, vr a0), (1, vi z2)]) hX dX6_spill_13 rfl (Nat.le_of_ble_eq_true rfl) (fun _ => rfl) rfl (fun z2 => ?_)
  refine r_aload_n (i := 0) (x := a0) (q := 15) 0 hX dX6_spill_14 rfl rfl rfl ?_
  refine r_dup (q := 16) hX dX6_spill_15 rfl rfl ?_
  refine r_getI (a := a0) (ci := 6) (kf := 0) (q := 19) hX hc1 flX6_9 rfl rfl dX6_spill_16 rfl ?_
  refine r_iload_n (i := 1) (x := z2) (q := 20) 1 hX dX6_spill_19 rfl rfl rfl ?_
  refine r_isub (q := 21) hX dX6_spill_20 rfl ?_
  refine r_putI (a := a0) (ci := 6) (kf := 0) (q := 24) hX hc1 flX6_9 rfl rfl (Or.inl rfl) rfl rfl dX6_spill_21 rfl (fun M3 => ?_)
  refine r_iload_n (i := 1) (x := z2) (q := 25) 1 hX dX6_spill_24 rfl rfl rfl ?_
  refine r_lf (hK _) ?_
  exact r_iret hM rfl (Nat.le_of_ble_eq_true rfl) (Nat.le_of_ble_eq_true rfl) dX6_spill_25
theorem flX3_90 : FL RX3 90 3 10 := ⟨Nat.le_of_ble_eq_true rfl, Nat.le_of_ble_eq_true rfl, gd (hcw1_5 _ (List.mem_of_getElem? (i := 6) rfl)) rfl⟩
theorem lkX3_94 : Lk RX3 94 yX6_spill := gd (hcw3_1 _ (List.mem_of_getElem? (i := 6) rfl)) rfl
theorem flX3_98 : FL RX3 98 3 9 := ⟨Nat.le_of_ble_eq_true rfl, Nat.le_of_ble_eq_true rfl, gd (hcw1_5 _ (List.mem_of_getElem? (i := 4) rfl)) rfl⟩
def mX3_rainOn : MD := (yX3_rainOn, cX3_rainOn, 3, none, 2, 34, 0, 0)
theorem ccX3_rainOn : Cc mX3_rainOn 1 := ⟨gd (hcw1_0 _ (List.mem_of_getElem? (i := 2) rfl)) rfl, gd (hcw3_1 _ (List.mem_of_getElem? (i := 5) rfl)) rfl, by decide +kernel, by decide +kernel, by decide +kernel⟩
theorem ivX3_rainOn : Iv mX3_rainOn 3 := ⟨Nat.le_of_ble_eq_true rfl, rfl, gd (hcw3_1 _ (List.mem_of_getElem? (i := 4) rfl)) rfl, gd (hps1 _ (List.mem_of_getElem? (i := 0) rfl)) rfl⟩
noncomputable def fX3_rainOn (Z : Shp) (M : Mem) (a0 : Nat) (x1 : Int32) : Option (Mem) := (loop (fun s1 : Int32 × Mem => (if (8 : Int32) ≤ s1.1 then some (Sum.inr s1.2) else (if tg Z a0 = (4, 11) then (if aok Z (rR s1.2 a0 0) 110 s1.1 then (if tg Z (rR s1.2 (rR s1.2 a0 0) (ix s1.1)) = (7, 3) then (pu (wI s1.2 (rR s1.2 (rR s1.2 a0 0) (ix s1.1)) 0 ((rI s1.2 (rR s1.2 (rR s1.2 a0 0) (ix s1.1)) 0) + x1)) (fun M8 => (if aok Z (rR M8 a0 0) 110 s1.1 then (if tg Z (rR M8 (rR M8 a0 0) (ix s1.1)) = (7, 3) then (Option.bind (fX6_spill Z M8 (rR M8 (rR M8 a0 0) (ix s1.1))) (fun v11 => (pu (wJ v11.2 a0 10 ((rJ M8 a0 10) + (v11.1.toInt64))) (fun M13 => (pu (wJ M13 a0 9 ((rJ M13 a0 9) + (x1.toInt64))) (fun M14 => some (Sum.inl ((s1.1 + (1 : Int32)), M14)))))))) else none) else none))) else none) else none) else none))) ((0 : Int32), M))
set_option maxRecDepth 20000 in
theorem kX3_rainOn (l : Launch) (Z : Shp) (M : Mem) (a0 : Nat) (x1 : Int32) (r : Mem) (h : fX3_rainOn Z M a0 x1 = some r) : Ct l mX3_rainOn [vr a0, vi x1] Z M (none, Z, r) := by
  refine Ct.of rfl (Nat.le_of_ble_eq_true rfl) (fun X hM => ?_)
  have hX := hM.1
  refine r_top (mk := fun r => (none, Z, r)) h (fun K hK => ?_)
  unfold fX3_rainOn
  refine r_iconst (v := (0 : Int32)) (q := 1) hX dX3_rainOn_0 rfl rfl ?_
  refine r_istore_n (x := (0 : Int32)) (q := 2) 2 [1, 2, 0] (L1 := [(0, vr a0), (1, vi x1), (2, vi (0 : Int32))]) hX dX3_rainOn_1 rfl (Nat.le_of_ble_eq_true rfl) rfl rfl ?_
  refine r_loop (Hd := fun (s1 : Int32 × Mem) (P : Option Res) => Ref mX3_rainOn X 0 0 Z s1.2 2 [(0, vr a0), (1, vi x1), (2, vi s1.1)] [] P) (fun _ => r_none) (fun s1 K1 hn2 hx3 => ?_) ((0 : Int32), M)
  refine r_iload_n (i := 2) (x := s1.1) (q := 3) 2 hX dX3_rainOn_2 rfl rfl rfl ?_
  refine r_bipush (v := (8 : Int32)) (q := 5) hX dX3_rainOn_3 rfl rfl ?_
  refine r_icmp_ge (tgt := 59) (q := 8) hX dX3_rainOn_5 (by decide) rfl (fun hb4 => ?_) (fun hb4 => ?_)
  · refine r_lf ((hx3 _).trans (hK _)) ?_
    exact r_vret hM rfl (Nat.le_of_ble_eq_true rfl) (Nat.le_of_ble_eq_true rfl) dX3_rainOn_59
  · refine r_aload_n (i := 0) (x := a0) (q := 9) 0 hX dX3_rainOn_8 rfl rfl rfl ?_
    refine r_ck (fun hc5 => ?_)
    refine r_getR (a := a0) (ci := 3) (kf := 0) (q := 12) hX hc5 flX3_11 rfl dX3_rainOn_9 rfl ?_
    refine r_iload_n (i := 2) (x := s1.1) (q := 13) 2 hX dX3_rainOn_12 rfl rfl rfl ?_
    refine r_ck (fun hc6 => ?_)
    refine r_aald (a := (rR s1.2 a0 0)) (i := s1.1) (q := 14) hX arT_110 hc6 dX3_rainOn_13 rfl ?_
    refine r_dup (q := 15) hX dX3_rainOn_14 rfl rfl ?_
    refine r_ck (fun hc7 => ?_)
    refine r_getI (a := (rR s1.2 (rR s1.2 a0 0) (ix s1.1))) (ci := 6) (kf := 0) (q := 18) hX hc7 flX3_87 rfl rfl dX3_rainOn_15 rfl ?_
    refine r_iload_n (i := 1) (x := x1) (q := 19) 1 hX dX3_rainOn_18 rfl rfl rfl ?_
    refine r_iadd (q := 20) hX dX3_rainOn_19 rfl ?_
    refine r_putI (a := (rR s1.2 (rR s1.2 a0 0) (ix s1.1))) (ci := 6) (kf := 0) (q := 23) hX hc7 flX3_87 rfl rfl (Or.inl rfl) rfl rfl dX3_rainOn_20 rfl (fun M8 => ?_)
    refine r_aload_n (i := 0) (x := a0) (q := 24) 0 hX dX3_rainOn_23 rfl rfl rfl ?_
    refine r_dup (q := 25) hX dX3_rainOn_24 rfl rfl ?_
    refine r_getJ (a := a0) (ci := 3) (kf := 10) (q := 28) hX hc5 flX3_90 rfl rfl dX3_rainOn_25 rfl ?_
    refine r_aload_n (i := 0) (x := a0) (q := 29) 0 hX dX3_rainOn_28 rfl rfl rfl ?_
    refine r_getR (a := a0) (ci := 3) (kf := 0) (q := 32) hX hc5 flX3_11 rfl dX3_rainOn_29 rfl ?_
    refine r_iload_n (i := 2) (x := s1.1) (q := 33) 2 hX dX3_rainOn_32 rfl rfl rfl ?_
    refine r_ck (fun hc9 => ?_)
    refine r_aald (a := (rR M8 a0 0)) (i := s1.1) (q := 34) hX arT_110 hc9 dX3_rainOn_33 rfl ?_
    refine r_ck (fun hc10 => ?_)
    refine r_bind (fun v11 h12 => ?_)
    refine r_cv (a := (rR M8 (rR M8 a0 0) (ix s1.1))) (As := []) (st := [vj (rJ M8 a0 10), vr a0]) (r := (some (vi v11.1))) (Z1 := Z) (M1 := v11.2) (k1 := 0) (n1 := 0) (st1 := [vi v11.1, vj (rJ M8 a0 10), vr a0]) (q := 37) hX (fun l => kX6_spill l Z M8 (rR M8 (rR M8 a0 0) (ix s1.1)) v11 h12) hc10 ivX6_spill ccX6_spill (Or.inl lkX3_94) rfl rfl rfl ⟨Nat.le_of_ble_eq_true rfl, Nat.le_of_ble_eq_true rfl, rfl, rfl, Nat.le_of_ble_eq_true rfl, Nat.le_of_ble_eq_true rfl⟩ (Nat.le_of_ble_eq_true rfl) dX3_rainOn_34 rfl ?_
    refine r_i2l (q := 38) hX dX3_rainOn_37 rfl ?_
    refine r_ladd (q := 39) hX dX3_rainOn_38 rfl ?_
    refine r_putJ (a := a0) (ci := 3) (kf := 10) (q := 42) hX hc5 flX3_90 rfl rfl (Or.inl rfl) rfl rfl dX3_rainOn_39 rfl (fun M13 => ?_)
    refine r_aload_n (i := 0) (x := a0) (q := 43) 0 hX dX3_rainOn_42 rfl rfl rfl ?_
    refine r_dup (q := 44) hX dX3_rainOn_43 rfl rfl ?_
    refine r_getJ (a := a0) (ci := 3) (kf := 9) (q := 47) hX hc5 flX3_98 rfl rfl dX3_rainOn_44 rfl ?_
    refine r_iload_n (i := 1) (x := x1) (q := 48) 1 hX dX3_rainOn_47 rfl rfl rfl ?_
    refine r_i2l (q := 49) hX dX3_rainOn_48 rfl ?_
    refine r_ladd (q := 50) hX dX3_rainOn_49 rfl ?_
    refine r_putJ (a := a0) (ci := 3) (kf := 9) (q := 53) hX hc5 flX3_98 rfl rfl (Or.inl rfl) rfl rfl dX3_rainOn_50 rfl (fun M14 => ?_)
    refine r_iinc (x := s1.1) (v := (s1.1 + (1 : Int32))) (q := 56) 2 2 [1, 2, 0] (L1 := [(0, vr a0), (1, vi x1), (2, vi (s1.1 + (1 : Int32)))]) hX dX3_rainOn_53 rfl rfl (Nat.le_of_ble_eq_true rfl) rfl rfl ?_
    refine r_goto (q := 2) hX dX3_rainOn_56 (by decide) ?_
    refine r_l0 ?_
    exact hn2 ((s1.1 + (1 : Int32)), M14)
theorem lkX3_101 : Lk RX3 101 yX3_wantedBy := gd (hcw3_1 _ (List.mem_of_getElem? (i := 14) rfl)) rfl
def mX3_serve : MD := (yX3_serve, cX3_serve, 4, none, 3, 66, 0, 0)
theorem ccX3_serve : Cc mX3_serve 1 := ⟨gd (hcw1_0 _ (List.mem_of_getElem? (i := 2) rfl)) rfl, gd (hcw3_1 _ (List.mem_of_getElem? (i := 13) rfl)) rfl, by decide +kernel, by decide +kernel, by decide +kernel⟩
theorem ivX3_serve : Iv mX3_serve 3 := ⟨Nat.le_of_ble_eq_true rfl, rfl, gd (hcw3_1 _ (List.mem_of_getElem? (i := 12) rfl)) rfl, gd (hps1 _ (List.mem_of_getElem? (i := 1) rfl)) rfl⟩
noncomputable def fX3_serve (Z : Shp) (M : Mem) (a0 : Nat) (a1 : Nat) : Option (Mem) := (if tg Z a0 = (4, 11) then (if tg Z a1 = (8, 5) then (if aok Z (rR M a0 0) 110 (rI M a1 1) then (pu ((rR M (rR M a0 0) (ix (rI M a1 1)))) (fun z4 => (Option.bind (fX3_wantedBy Z M a0 a1 (rI M a0 8)) (fun v5 => (if tg Z z4 = (7, 3) then (pu ((mnI v5 (rI M z4 0))) (fun z8 => (pu (wI M z4 0 ((rI M z4 0) - z8)) (fun M9 => (pu (wI M9 a1 4 ((rI M9 a1 4) + z8)) (fun M10 => (Option.bind (fX6_spill Z M10 z4) (fun v11 => (pu (wJ v11.2 a0 10 ((rJ M10 a0 10) + (v11.1.toInt64))) (fun M13 => some M13)))))))))) else none))))) else none) else none) else none)
set_option maxRecDepth 20000 in
theorem kX3_serve (l : Launch) (Z : Shp) (M : Mem) (a0 : Nat) (a1 : Nat) (r : Mem) (h : fX3_serve Z M a0 a1 = some r) : Ct l mX3_serve [vr a0, vr a1] Z M (none, Z, r) := by
  refine Ct.of rfl (Nat.le_of_ble_eq_true rfl) (fun X hM => ?_)
  have hX := hM.1
  refine r_top (mk := fun r => (none, Z, r)) h (fun K hK => ?_)
  unfold fX3_serve
  refine r_aload_n (i := 0) (x := a0) (q := 1) 0 hX dX3_serve_0 rfl rfl rfl ?_
  refine r_ck (fun hc1 => ?_)
  refine r_getR (a := a0) (ci := 3) (kf := 0) (q := 4) hX hc1 flX3_11 rfl dX3_serve_1 rfl ?_
  refine r_aload_n (i := 1) (x := a1) (q := 5) 1 hX dX3_serve_4 rfl rfl rfl ?_
  refine r_ck (fun hc2 => ?_)
  refine r_getI (a := a1) (ci := 7) (kf := 1) (q := 8) hX hc2 flX3_67 rfl rfl dX3_serve_5 rfl ?_
  refine r_ck (fun hc3 => ?_)
  refine r_aald (a := (rR M a0 0)) (i := (rI M a1 1)) (q := 9) hX arT_110 hc3 dX3_serve_8 rfl ?_
  refine r_astore_nP (x := (rR M (rR M a0 0) (ix (rI M a1 1)))) (q := 10) 2 [1, 2, 0] (fun z4 => [(0, vr a0), (1, vr a1), (2, vr z4)]) hX dX3_serve_9 rfl (Nat.le_of_ble_eq_true rfl) (fun _ => rfl) rfl (fun z4 => ?_)
  refine r_aload_n (i := 0) (x := a0) (q := 11) 0 hX dX3_serve_10 rfl rfl rfl ?_
  refine r_aload_n (i := 1) (x := a1) (q := 12) 1 hX dX3_serve_11 rfl rfl rfl ?_
  refine r_aload_n (i := 0) (x := a0) (q := 13) 0 hX dX3_serve_12 rfl rfl rfl ?_
  refine r_getI (a := a0) (ci := 3) (kf := 8) (q := 16) hX hc1 flX3_60 rfl rfl dX3_serve_13 rfl ?_
  refine r_bind (fun v5 h6 => ?_)
  refine r_cv (a := a0) (As := [vr a1, vi (rI M a0 8)]) (st := []) (r := (some (vi v5))) (Z1 := Z) (M1 := M) (k1 := 0) (n1 := 0) (st1 := [vi v5]) (q := 19) hX (fun l => kX3_wantedBy l Z M a0 a1 (rI M a0 8) v5 h6) hc1 ivX3_wantedBy ccX3_wantedBy (Or.inl lkX3_101) rfl rfl rfl ⟨Nat.le_of_ble_eq_true rfl, Nat.le_of_ble_eq_true rfl, rfl, rfl, Nat.le_of_ble_eq_true rfl, Nat.le_of_ble_eq_true rfl⟩ (Nat.le_of_ble_eq_true rfl) dX3_serve_16 rfl ?_
  refine r_aload_n (i := 2) (x := z4) (q := 20) 2 hX dX3_serve_19 rfl rfl rfl ?_
  refine r_ck (fun hc7 => ?_)
  refine r_getI (a := z4) (ci := 6) (kf := 0) (q := 23) hX hc7 flX3_87 rfl rfl dX3_serve_20 rfl ?_
  refine r_mmin (q := 26) hX (gd (hcw3_1 _ (List.mem_of_getElem? (i := 15) rfl)) rfl) (Nat.le_of_ble_eq_true rfl) (Nat.le_of_ble_eq_true rfl) (Nat.le_of_ble_eq_true rfl) (Nat.le_of_ble_eq_true rfl) dX3_serve_23 rfl ?_
  refine r_istore_nP (x := (mnI v5 (rI M z4 0))) (q := 27) 3 [1, 2, 3, 0] (fun z8 => [(0, vr a0), (1, vr a1), (2, vr z4), (3, vi z8)]) hX dX3_serve_26 rfl (Nat.le_of_ble_eq_true rfl) (fun _ => rfl) rfl (fun z8 => ?_)
  refine r_aload_n (i := 2) (x := z4) (q := 28) 2 hX dX3_serve_27 rfl rfl rfl ?_
  refine r_dup (q := 29) hX dX3_serve_28 rfl rfl ?_
  refine r_getI (a := z4) (ci := 6) (kf := 0) (q := 32) hX hc7 flX3_87 rfl rfl dX3_serve_29 rfl ?_
  refine r_iload_n (i := 3) (x := z8) (q := 33) 3 hX dX3_serve_32 rfl rfl rfl ?_
  refine r_isub (q := 34) hX dX3_serve_33 rfl ?_
  refine r_putI (a := z4) (ci := 6) (kf := 0) (q := 37) hX hc7 flX3_87 rfl rfl (Or.inl rfl) rfl rfl dX3_serve_34 rfl (fun M9 => ?_)
  refine r_aload_n (i := 1) (x := a1) (q := 38) 1 hX dX3_serve_37 rfl rfl rfl ?_
  refine r_dup (q := 39) hX dX3_serve_38 rfl rfl ?_
  refine r_getI (a := a1) (ci := 7) (kf := 4) (q := 42) hX hc2 flX3_111 rfl rfl dX3_serve_39 rfl ?_
  refine r_iload_n (i := 3) (x := z8) (q := 43) 3 hX dX3_serve_42 rfl rfl rfl ?_
  refine r_iadd (q := 44) hX dX3_serve_43 rfl ?_
  refine r_putI (a := a1) (ci := 7) (kf := 4) (q := 47) hX hc2 flX3_111 rfl rfl (Or.inl rfl) rfl rfl dX3_serve_44 rfl (fun M10 => ?_)
  refine r_aload_n (i := 0) (x := a0) (q := 48) 0 hX dX3_serve_47 rfl rfl rfl ?_
  refine r_dup (q := 49) hX dX3_serve_48 rfl rfl ?_
  refine r_getJ (a := a0) (ci := 3) (kf := 10) (q := 52) hX hc1 flX3_90 rfl rfl dX3_serve_49 rfl ?_
  refine r_aload_n (i := 2) (x := z4) (q := 53) 2 hX dX3_serve_52 rfl rfl rfl ?_
  refine r_bind (fun v11 h12 => ?_)
  refine r_cv (a := z4) (As := []) (st := [vj (rJ M10 a0 10), vr a0]) (r := (some (vi v11.1))) (Z1 := Z) (M1 := v11.2) (k1 := 0) (n1 := 0) (st1 := [vi v11.1, vj (rJ M10 a0 10), vr a0]) (q := 56) hX (fun l => kX6_spill l Z M10 z4 v11 h12) hc7 ivX6_spill ccX6_spill (Or.inl lkX3_94) rfl rfl rfl ⟨Nat.le_of_ble_eq_true rfl, Nat.le_of_ble_eq_true rfl, rfl, rfl, Nat.le_of_ble_eq_true rfl, Nat.le_of_ble_eq_true rfl⟩ (Nat.le_of_ble_eq_true rfl) dX3_serve_53 rfl ?_
  refine r_i2l (q := 57) hX dX3_serve_56 rfl ?_
  refine r_ladd (q := 58) hX dX3_serve_57 rfl ?_
  refine r_putJ (a := a0) (ci := 3) (kf := 10) (q := 61) hX hc1 flX3_90 rfl rfl (Or.inl rfl) rfl rfl dX3_serve_58 rfl (fun M13 => ?_)
  refine r_lf (hK _) ?_
  exact r_vret hM rfl (Nat.le_of_ble_eq_true rfl) (Nat.le_of_ble_eq_true rfl) dX3_serve_61
def mX1_isReady : MD := (yX1_isReady, cX1_isReady, 2, (some .boolean), 1, 20, 0, 0)
theorem ccX1_isReady : Cc mX1_isReady 1 := ⟨gd (hcw1_0 _ (List.mem_of_getElem? (i := 13) rfl)) rfl, gd (hcw3_2 _ (List.mem_of_getElem? (i := 9) rfl)) rfl, by decide +kernel, by decide +kernel, by decide +kernel⟩
theorem ivX1_isReady : Iv mX1_isReady 1 := ⟨Nat.le_of_ble_eq_true rfl, rfl, gd (hcw3_2 _ (List.mem_of_getElem? (i := 7) rfl)) rfl, gd (hcw3_2 _ (List.mem_of_getElem? (i := 8) rfl)) rfl⟩
noncomputable def fX1_isReady (Z : Shp) (M : Mem) (a0 : Nat) (x1 : Int32) : Option (Int32) := (if tg Z a0 = (2, 10) then (Option.bind (fX1_isThere Z M a0) (fun v2 => (if v2 = 0 then (if x1 < (rI M a0 7) then some (0 : Int32) else some (1 : Int32)) else some (0 : Int32)))) else none)
set_option maxRecDepth 20000 in
theorem kX1_isReady (l : Launch) (Z : Shp) (M : Mem) (a0 : Nat) (x1 : Int32) (r : Int32) (h : fX1_isReady Z M a0 x1 = some r) : Ct l mX1_isReady [vr a0, vi x1] Z M ((some (vi r)), Z, M) := by
  refine Ct.of rfl (Nat.le_of_ble_eq_true rfl) (fun X hM => ?_)
  have hX := hM.1
  refine r_top (mk := fun r => ((some (vi r)), Z, M)) h (fun K hK => ?_)
  unfold fX1_isReady
  refine r_aload_n (i := 0) (x := a0) (q := 1) 0 hX dX1_isReady_0 rfl rfl rfl ?_
  refine r_ck (fun hc1 => ?_)
  refine r_bind (fun v2 h3 => ?_)
  refine r_cv (a := a0) (As := []) (st := []) (r := (some (vi v2))) (Z1 := Z) (M1 := M) (k1 := 0) (n1 := 0) (st1 := [vi v2]) (q := 4) hX (fun l => kX1_isThere l Z M a0 v2 h3) hc1 ivX1_isThere ccX1_isThere (Or.inl lkX1_42) rfl rfl rfl ⟨Nat.le_of_ble_eq_true rfl, Nat.le_of_ble_eq_true rfl, rfl, rfl, Nat.le_of_ble_eq_true rfl, Nat.le_of_ble_eq_true rfl⟩ (Nat.le_of_ble_eq_true rfl) dX1_isReady_1 rfl ?_
  refine r_if_ne (tgt := 19) (q := 7) hX dX1_isReady_4 (by decide) rfl (fun hb4 => ?_) (fun hb4 => ?_)
  · refine r_aload_n (i := 0) (x := a0) (q := 8) 0 hX dX1_isReady_7 rfl rfl rfl ?_
    refine r_getI (a := a0) (ci := 1) (kf := 7) (q := 11) hX hc1 flX1_39 rfl rfl dX1_isReady_8 rfl ?_
    refine r_iload_n (i := 1) (x := x1) (q := 12) 1 hX dX1_isReady_11 rfl rfl rfl ?_
    refine r_icmp_gt (tgt := 19) (q := 15) hX dX1_isReady_12 (by decide) rfl (fun hb5 => ?_) (fun hb5 => ?_)
    · refine r_iconst (v := (0 : Int32)) (q := 20) hX dX1_isReady_19 rfl rfl ?_
      refine r_lf (hK _) ?_
      exact r_zret hM rfl (Or.inl rfl) (Nat.le_of_ble_eq_true rfl) (Nat.le_of_ble_eq_true rfl) dX1_isReady_20
    · refine r_iconst (v := (1 : Int32)) (q := 16) hX dX1_isReady_15 rfl rfl ?_
      refine r_goto (q := 20) hX dX1_isReady_16 (by decide) ?_
      refine r_lf (hK _) ?_
      exact r_zret hM rfl (Or.inr rfl) (Nat.le_of_ble_eq_true rfl) (Nat.le_of_ble_eq_true rfl) dX1_isReady_20
  · refine r_iconst (v := (0 : Int32)) (q := 20) hX dX1_isReady_19 rfl rfl ?_
    refine r_lf (hK _) ?_
    exact r_zret hM rfl (Or.inl rfl) (Nat.le_of_ble_eq_true rfl) (Nat.le_of_ble_eq_true rfl) dX1_isReady_20
def mX1_nextLock : MD := (yX1_nextLock, cX1_nextLock, 1, (some .int), 0, 0, 0, 0)
theorem ccX1_nextLock : Cc mX1_nextLock 0 := ⟨gd (hcw1_0 _ (List.mem_of_getElem? (i := 13) rfl)) rfl, gd (hcw3_2 _ (List.mem_of_getElem? (i := 17) rfl)) rfl, by decide +kernel, by decide +kernel, by decide +kernel⟩
theorem ivX1_nextLock : Iv mX1_nextLock 1 := ⟨Nat.le_of_ble_eq_true rfl, rfl, gd (hcw3_2 _ (List.mem_of_getElem? (i := 15) rfl)) rfl, gd (hcw3_2 _ (List.mem_of_getElem? (i := 16) rfl)) rfl⟩
def fX1_nextLock (Z : Shp) (M : Mem) (a0 : Nat) : Option (Int32) := (if tg Z a0 = (2, 10) then (if (rI M a0 0) ≤ (rI M a0 6) then some ((rI M a0 6) - (1 : Int32)) else some (rI M a0 6)) else none)
set_option maxRecDepth 20000 in
theorem kX1_nextLock (l : Launch) (Z : Shp) (M : Mem) (a0 : Nat) (r : Int32) (h : fX1_nextLock Z M a0 = some r) : Ct l mX1_nextLock [vr a0] Z M ((some (vi r)), Z, M) := by
  refine Ct.of rfl (Nat.le_of_ble_eq_true rfl) (fun X hM => ?_)
  have hX := hM.1
  refine r_top (mk := fun r => ((some (vi r)), Z, M)) h (fun K hK => ?_)
  unfold fX1_nextLock
  refine r_aload_n (i := 0) (x := a0) (q := 1) 0 hX dX1_nextLock_0 rfl rfl rfl ?_
  refine r_ck (fun hc1 => ?_)
  refine r_getI (a := a0) (ci := 1) (kf := 0) (q := 4) hX hc1 flX1_9 rfl rfl dX1_nextLock_1 rfl ?_
  refine r_aload_n (i := 0) (x := a0) (q := 5) 0 hX dX1_nextLock_4 rfl rfl rfl ?_
  refine r_getI (a := a0) (ci := 1) (kf := 6) (q := 8) hX hc1 flX1_36 rfl rfl dX1_nextLock_5 rfl ?_
  refine r_icmp_le (tgt := 18) (q := 11) hX dX1_nextLock_8 (by decide) rfl (fun hb2 => ?_) (fun hb2 => ?_)
  · refine r_aload_n (i := 0) (x := a0) (q := 19) 0 hX dX1_nextLock_18 rfl rfl rfl ?_
    refine r_getI (a := a0) (ci := 1) (kf := 6) (q := 22) hX hc1 flX1_36 rfl rfl dX1_nextLock_19 rfl ?_
    refine r_iconst (v := (1 : Int32)) (q := 23) hX dX1_nextLock_22 rfl rfl ?_
    refine r_isub (q := 24) hX dX1_nextLock_23 rfl ?_
    refine r_lf (hK _) ?_
    exact r_iret hM rfl (Nat.le_of_ble_eq_true rfl) (Nat.le_of_ble_eq_true rfl) dX1_nextLock_24
  · refine r_aload_n (i := 0) (x := a0) (q := 12) 0 hX dX1_nextLock_11 rfl rfl rfl ?_
    refine r_getI (a := a0) (ci := 1) (kf := 6) (q := 15) hX hc1 flX1_36 rfl rfl dX1_nextLock_12 rfl ?_
    refine r_goto (q := 24) hX dX1_nextLock_15 (by decide) ?_
    refine r_lf (hK _) ?_
    exact r_iret hM rfl (Nat.le_of_ble_eq_true rfl) (Nat.le_of_ble_eq_true rfl) dX1_nextLock_24
def mX1_climbs : MD := (yX1_climbs, cX1_climbs, 2, (some .boolean), 0, 0, 0, 0)
theorem ccX1_climbs : Cc mX1_climbs 1 := ⟨gd (hcw1_0 _ (List.mem_of_getElem? (i := 13) rfl)) rfl, gd (hcw3_3 _ (List.mem_of_getElem? (i := 5) rfl)) rfl, by decide +kernel, by decide +kernel, by decide +kernel⟩
theorem ivX1_climbs : Iv mX1_climbs 1 := ⟨Nat.le_of_ble_eq_true rfl, rfl, gd (hcw3_3 _ (List.mem_of_getElem? (i := 3) rfl)) rfl, gd (hcw3_3 _ (List.mem_of_getElem? (i := 4) rfl)) rfl⟩
def fX1_climbs (Z : Shp) (M : Mem) (a0 : Nat) (x1 : Int32) : Option (Int32) := (if tg Z a0 = (2, 10) then (if (rI M a0 0) ≤ (rI M a0 6) then (if (rI M a0 6) ≤ x1 then some (0 : Int32) else some (1 : Int32)) else (if x1 ≤ (rI M a0 6) then some (0 : Int32) else some (1 : Int32))) else none)
set_option maxRecDepth 20000 in
theorem kX1_climbs (l : Launch) (Z : Shp) (M : Mem) (a0 : Nat) (x1 : Int32) (r : Int32) (h : fX1_climbs Z M a0 x1 = some r) : Ct l mX1_climbs [vr a0, vi x1] Z M ((some (vi r)), Z, M) := by
  refine Ct.of rfl (Nat.le_of_ble_eq_true rfl) (fun X hM => ?_)
  have hX := hM.1
  refine r_top (mk := fun r => ((some (vi r)), Z, M)) h (fun K hK => ?_)
  unfold fX1_climbs
  refine r_aload_n (i := 0) (x := a0) (q := 1) 0 hX dX1_climbs_0 rfl rfl rfl ?_
  refine r_ck (fun hc1 => ?_)
  refine r_getI (a := a0) (ci := 1) (kf := 0) (q := 4) hX hc1 flX1_9 rfl rfl dX1_climbs_1 rfl ?_
  refine r_aload_n (i := 0) (x := a0) (q := 5) 0 hX dX1_climbs_4 rfl rfl rfl ?_
  refine r_getI (a := a0) (ci := 1) (kf := 6) (q := 8) hX hc1 flX1_36 rfl rfl dX1_climbs_5 rfl ?_
  refine r_icmp_le (tgt := 27) (q := 11) hX dX1_climbs_8 (by decide) rfl (fun hb2 => ?_) (fun hb2 => ?_)
  · refine r_aload_n (i := 0) (x := a0) (q := 28) 0 hX dX1_climbs_27 rfl rfl rfl ?_
    refine r_getI (a := a0) (ci := 1) (kf := 6) (q := 31) hX hc1 flX1_36 rfl rfl dX1_climbs_28 rfl ?_
    refine r_iload_n (i := 1) (x := x1) (q := 32) 1 hX dX1_climbs_31 rfl rfl rfl ?_
    refine r_icmp_le (tgt := 39) (q := 35) hX dX1_climbs_32 (by decide) rfl (fun hb3 => ?_) (fun hb3 => ?_)
    · refine r_iconst (v := (0 : Int32)) (q := 40) hX dX1_climbs_39 rfl rfl ?_
      refine r_lf (hK _) ?_
      exact r_zret hM rfl (Or.inl rfl) (Nat.le_of_ble_eq_true rfl) (Nat.le_of_ble_eq_true rfl) dX1_climbs_40
    · refine r_iconst (v := (1 : Int32)) (q := 36) hX dX1_climbs_35 rfl rfl ?_
      refine r_goto (q := 40) hX dX1_climbs_36 (by decide) ?_
      refine r_lf (hK _) ?_
      exact r_zret hM rfl (Or.inr rfl) (Nat.le_of_ble_eq_true rfl) (Nat.le_of_ble_eq_true rfl) dX1_climbs_40
  · refine r_aload_n (i := 0) (x := a0) (q := 12) 0 hX dX1_climbs_11 rfl rfl rfl ?_
    refine r_getI (a := a0) (ci := 1) (kf := 6) (q := 15) hX hc1 flX1_36 rfl rfl dX1_climbs_12 rfl ?_
    refine r_iload_n (i := 1) (x := x1) (q := 16) 1 hX dX1_climbs_15 rfl rfl rfl ?_
    refine r_icmp_ge (tgt := 23) (q := 19) hX dX1_climbs_16 (by decide) rfl (fun hb4 => ?_) (fun hb4 => ?_)
    · refine r_iconst (v := (0 : Int32)) (q := 24) hX dX1_climbs_23 rfl rfl ?_
      refine r_goto (q := 40) hX dX1_climbs_24 (by decide) ?_
      refine r_lf (hK _) ?_
      exact r_zret hM rfl (Or.inl rfl) (Nat.le_of_ble_eq_true rfl) (Nat.le_of_ble_eq_true rfl) dX1_climbs_40
    · refine r_iconst (v := (1 : Int32)) (q := 20) hX dX1_climbs_19 rfl rfl ?_
      refine r_goto (q := 40) hX dX1_climbs_20 (by decide) ?_
      refine r_lf (hK _) ?_
      exact r_zret hM rfl (Or.inr rfl) (Nat.le_of_ble_eq_true rfl) (Nat.le_of_ble_eq_true rfl) dX1_climbs_40
theorem flX3_148 : FL RX3 148 4 2 := ⟨Nat.le_of_ble_eq_true rfl, Nat.le_of_ble_eq_true rfl, gd (hcw1_3 _ (List.mem_of_getElem? (i := 8) rfl)) rfl⟩
theorem flX3_151 : FL RX3 151 4 3 := ⟨Nat.le_of_ble_eq_true rfl, Nat.le_of_ble_eq_true rfl, gd (hcw1_3 _ (List.mem_of_getElem? (i := 10) rfl)) rfl⟩
theorem lkX3_118 : Lk RX3 118 yX1_climbs := gd (hcw3_3 _ (List.mem_of_getElem? (i := 2) rfl)) rfl
def mX3_goesAhead : MD := (yX3_goesAhead, cX3_goesAhead, 4, (some .boolean), 1, 21, 0, 0)
theorem ccX3_goesAhead : Cc mX3_goesAhead 3 := ⟨gd (hcw1_0 _ (List.mem_of_getElem? (i := 2) rfl)) rfl, gd (hcw3_3 _ (List.mem_of_getElem? (i := 1) rfl)) rfl, by decide +kernel, by decide +kernel, by decide +kernel⟩
theorem ivX3_goesAhead : Iv mX3_goesAhead 3 := ⟨Nat.le_of_ble_eq_true rfl, rfl, gd (hcw3_3 _ (List.mem_of_getElem? (i := 0) rfl)) rfl, gd (hps1 _ (List.mem_of_getElem? (i := 4) rfl)) rfl⟩
noncomputable def fX3_goesAhead (Z : Shp) (M : Mem) (a0 : Nat) (a1 : Nat) (a2 : Nat) (a3 : Nat) : Option (Int32) := (if tg Z a3 = (5, 7) then (if (rI M a3 2) = (1 : Int32) then (if tg Z a1 = (2, 10) then (if tg Z a2 = (2, 10) then (if (rI M a1 1) ≤ (rI M a2 1) then some (0 : Int32) else some (1 : Int32)) else none) else none) else (if (rI M a3 2) = (2 : Int32) then (if tg Z a0 = (4, 11) then (if tg Z a1 = (2, 10) then (Option.bind (fX1_climbs Z M a1 (rI M a0 7)) (fun v9 => (if (rI M a3 3) = v9 then some (0 : Int32) else (if tg Z a2 = (2, 10) then (Option.bind (fX1_climbs Z M a2 (rI M a0 7)) (fun v13 => (if (rI M a3 3) = v13 then some (1 : Int32) else some (0 : Int32)))) else none)))) else none) else none) else some (0 : Int32))) else none)
set_option maxRecDepth 20000 in
theorem kX3_goesAhead (l : Launch) (Z : Shp) (M : Mem) (a0 : Nat) (a1 : Nat) (a2 : Nat) (a3 : Nat) (r : Int32) (h : fX3_goesAhead Z M a0 a1 a2 a3 = some r) : Ct l mX3_goesAhead [vr a0, vr a1, vr a2, vr a3] Z M ((some (vi r)), Z, M) := by
  refine Ct.of rfl (Nat.le_of_ble_eq_true rfl) (fun X hM => ?_)
  have hX := hM.1
  refine r_top (mk := fun r => ((some (vi r)), Z, M)) h (fun K hK => ?_)
  unfold fX3_goesAhead
  refine r_aload_n (i := 3) (x := a3) (q := 1) 3 hX dX3_goesAhead_0 rfl rfl rfl ?_
  refine r_ck (fun hc1 => ?_)
  refine r_getI (a := a3) (ci := 4) (kf := 2) (q := 4) hX hc1 flX3_148 rfl rfl dX3_goesAhead_1 rfl ?_
  refine r_ite (fun hb2 => ?_) (fun hb2 => ?_)
  · refine r_lswI (off := 28) (q := 32) hX hb2 dX3_goesAhead_4 (by decide) (by decide) ?_
    refine r_aload_n (i := 1) (x := a1) (q := 33) 1 hX dX3_goesAhead_32 rfl rfl rfl ?_
    refine r_ck (fun hc3 => ?_)
    refine r_getI (a := a1) (ci := 1) (kf := 1) (q := 36) hX hc3 flX3_131 rfl rfl dX3_goesAhead_33 rfl ?_
    refine r_aload_n (i := 2) (x := a2) (q := 37) 2 hX dX3_goesAhead_36 rfl rfl rfl ?_
    refine r_ck (fun hc4 => ?_)
    refine r_getI (a := a2) (ci := 1) (kf := 1) (q := 40) hX hc4 flX3_131 rfl rfl dX3_goesAhead_37 rfl ?_
    refine r_icmp_le (tgt := 47) (q := 43) hX dX3_goesAhead_40 (by decide) rfl (fun hb5 => ?_) (fun hb5 => ?_)
    · refine r_iconst (v := (0 : Int32)) (q := 48) hX dX3_goesAhead_47 rfl rfl ?_
      refine r_lf (hK _) ?_
      exact r_zret hM rfl (Or.inl rfl) (Nat.le_of_ble_eq_true rfl) (Nat.le_of_ble_eq_true rfl) dX3_goesAhead_48
    · refine r_iconst (v := (1 : Int32)) (q := 44) hX dX3_goesAhead_43 rfl rfl ?_
      refine r_goto (q := 48) hX dX3_goesAhead_44 (by decide) ?_
      refine r_lf (hK _) ?_
      exact r_zret hM rfl (Or.inr rfl) (Nat.le_of_ble_eq_true rfl) (Nat.le_of_ble_eq_true rfl) dX3_goesAhead_48
  · refine r_ite (fun hb6 => ?_) (fun hb6 => ?_)
    · refine r_lswI (off := 45) (q := 49) hX hb6 dX3_goesAhead_4 (by decide) (by decide) ?_
      refine r_aload_n (i := 3) (x := a3) (q := 50) 3 hX dX3_goesAhead_49 rfl rfl rfl ?_
      refine r_getI (a := a3) (ci := 4) (kf := 3) (q := 53) hX hc1 flX3_151 rfl rfl dX3_goesAhead_50 rfl ?_
      refine r_aload_n (i := 1) (x := a1) (q := 54) 1 hX dX3_goesAhead_53 rfl rfl rfl ?_
      refine r_aload_n (i := 0) (x := a0) (q := 55) 0 hX dX3_goesAhead_54 rfl rfl rfl ?_
      refine r_ck (fun hc7 => ?_)
      refine r_getI (a := a0) (ci := 3) (kf := 7) (q := 58) hX hc7 flX3_38 rfl rfl dX3_goesAhead_55 rfl ?_
      refine r_ck (fun hc8 => ?_)
      refine r_bind (fun v9 h10 => ?_)
      refine r_cv (a := a1) (As := [vi (rI M a0 7)]) (st := [vi (rI M a3 3)]) (r := (some (vi v9))) (Z1 := Z) (M1 := M) (k1 := 0) (n1 := 0) (st1 := [vi v9, vi (rI M a3 3)]) (q := 61) hX (fun l => kX1_climbs l Z M a1 (rI M a0 7) v9 h10) hc8 ivX1_climbs ccX1_climbs (Or.inl lkX3_118) rfl rfl rfl ⟨Nat.le_of_ble_eq_true rfl, Nat.le_of_ble_eq_true rfl, rfl, rfl, Nat.le_of_ble_eq_true rfl, Nat.le_of_ble_eq_true rfl⟩ (Nat.le_of_ble_eq_true rfl) dX3_goesAhead_58 rfl ?_
      refine r_icmp_eq (tgt := 83) (q := 64) hX dX3_goesAhead_61 (by decide) rfl (fun hb11 => ?_) (fun hb11 => ?_)
      · refine r_iconst (v := (0 : Int32)) (q := 84) hX dX3_goesAhead_83 rfl rfl ?_
        refine r_lf (hK _) ?_
        exact r_zret hM rfl (Or.inl rfl) (Nat.le_of_ble_eq_true rfl) (Nat.le_of_ble_eq_true rfl) dX3_goesAhead_84
      · refine r_aload_n (i := 3) (x := a3) (q := 65) 3 hX dX3_goesAhead_64 rfl rfl rfl ?_
        refine r_getI (a := a3) (ci := 4) (kf := 3) (q := 68) hX hc1 flX3_151 rfl rfl dX3_goesAhead_65 rfl ?_
        refine r_aload_n (i := 2) (x := a2) (q := 69) 2 hX dX3_goesAhead_68 rfl rfl rfl ?_
        refine r_aload_n (i := 0) (x := a0) (q := 70) 0 hX dX3_goesAhead_69 rfl rfl rfl ?_
        refine r_getI (a := a0) (ci := 3) (kf := 7) (q := 73) hX hc7 flX3_38 rfl rfl dX3_goesAhead_70 rfl ?_
        refine r_ck (fun hc12 => ?_)
        refine r_bind (fun v13 h14 => ?_)
        refine r_cv (a := a2) (As := [vi (rI M a0 7)]) (st := [vi (rI M a3 3)]) (r := (some (vi v13))) (Z1 := Z) (M1 := M) (k1 := 0) (n1 := 0) (st1 := [vi v13, vi (rI M a3 3)]) (q := 76) hX (fun l => kX1_climbs l Z M a2 (rI M a0 7) v13 h14) hc12 ivX1_climbs ccX1_climbs (Or.inl lkX3_118) rfl rfl rfl ⟨Nat.le_of_ble_eq_true rfl, Nat.le_of_ble_eq_true rfl, rfl, rfl, Nat.le_of_ble_eq_true rfl, Nat.le_of_ble_eq_true rfl⟩ (Nat.le_of_ble_eq_true rfl) dX3_goesAhead_73 rfl ?_
        refine r_icmp_ne (tgt := 83) (q := 79) hX dX3_goesAhead_76 (by decide) rfl (fun hb15 => ?_) (fun hb15 => ?_)
        · refine r_iconst (v := (1 : Int32)) (q := 80) hX dX3_goesAhead_79 rfl rfl ?_
          refine r_goto (q := 84) hX dX3_goesAhead_80 (by decide) ?_
          refine r_lf (hK _) ?_
          exact r_zret hM rfl (Or.inr rfl) (Nat.le_of_ble_eq_true rfl) (Nat.le_of_ble_eq_true rfl) dX3_goesAhead_84
        · refine r_iconst (v := (0 : Int32)) (q := 84) hX dX3_goesAhead_83 rfl rfl ?_
          refine r_lf (hK _) ?_
          exact r_zret hM rfl (Or.inl rfl) (Nat.le_of_ble_eq_true rfl) (Nat.le_of_ble_eq_true rfl) dX3_goesAhead_84
    · refine r_lswO (cs := [(1 : Int32), (2 : Int32)]) (q := 85) hX ⟨hb2, ⟨hb6, trivial⟩⟩ dX3_goesAhead_4 (by decide) (by decide) ?_
      refine r_iconst (v := (0 : Int32)) (q := 86) hX dX3_goesAhead_85 rfl rfl ?_
      refine r_lf (hK _) ?_
      exact r_zret hM rfl (Or.inl rfl) (Nat.le_of_ble_eq_true rfl) (Nat.le_of_ble_eq_true rfl) dX3_goesAhead_86
theorem lkX3_138 : Lk RX3 138 yX1_isReady := gd (hcw3_2 _ (List.mem_of_getElem? (i := 6) rfl)) rfl
theorem lkX3_141 : Lk RX3 141 yX1_nextLock := gd (hcw3_2 _ (List.mem_of_getElem? (i := 14) rfl)) rfl
theorem lkX3_144 : Lk RX3 144 yX3_goesAhead := gd (hcw3_2 _ (List.mem_of_getElem? (i := 18) rfl)) rfl
def mX3_firstAt : MD := (yX3_firstAt, cX3_firstAt, 5, (some (.object "CanalCompany$Boat")), 2, 44, 0, 0)
theorem ccX3_firstAt : Cc mX3_firstAt 1 := ⟨gd (hcw1_0 _ (List.mem_of_getElem? (i := 2) rfl)) rfl, gd (hcw3_2 _ (List.mem_of_getElem? (i := 5) rfl)) rfl, by decide +kernel, by decide +kernel, by decide +kernel⟩
theorem ivX3_firstAt : Iv mX3_firstAt 3 := ⟨Nat.le_of_ble_eq_true rfl, rfl, gd (hcw3_2 _ (List.mem_of_getElem? (i := 4) rfl)) rfl, gd (hps1 _ (List.mem_of_getElem? (i := 3) rfl)) rfl⟩
noncomputable def fX3_firstAt (Z : Shp) (M : Mem) (a0 : Nat) (x1 : Int32) : Option (Nat) := (loop (fun s1 : Nat × Int32 => (if tg Z a0 = (4, 11) then (if (rI M a0 6) ≤ s1.2 then some (Sum.inr s1.1) else (if aok Z (rR M a0 4) 113 s1.2 then (pu ((rR M (rR M a0 4) (ix s1.2))) (fun z7 => (if tg Z z7 = (2, 10) then (Option.bind (fX1_isReady Z M z7 (rI M a0 8)) (fun v9 => (if v9 = 0 then some (Sum.inl (s1.1, (s1.2 + (1 : Int32)))) else (Option.bind (fX1_nextLock Z M z7) (fun v12 => (if v12 = x1 then (if s1.1 = 0 then some (Sum.inl (z7, (s1.2 + (1 : Int32)))) else (if aok Z (rR M a0 1) 111 x1 then (Option.bind (fX3_goesAhead Z M a0 z7 s1.1 (rR M (rR M a0 1) (ix x1))) (fun v17 => (if v17 = 0 then some (Sum.inl (s1.1, (s1.2 + (1 : Int32)))) else some (Sum.inl (z7, (s1.2 + (1 : Int32))))))) else none)) else some (Sum.inl (s1.1, (s1.2 + (1 : Int32)))))))))) else none))) else none)) else none)) (0, (0 : Int32)))
set_option maxRecDepth 20000 in
theorem kX3_firstAt (l : Launch) (Z : Shp) (M : Mem) (a0 : Nat) (x1 : Int32) (r : Nat) (h : fX3_firstAt Z M a0 x1 = some r) : Ct l mX3_firstAt [vr a0, vi x1] Z M ((some (vr r)), Z, M) := by
  refine Ct.of rfl (Nat.le_of_ble_eq_true rfl) (fun X hM => ?_)
  have hX := hM.1
  refine r_top (mk := fun r => ((some (vr r)), Z, M)) h (fun K hK => ?_)
  unfold fX3_firstAt
  refine r_null (q := 1) hX dX3_firstAt_0 rfl ?_
  refine r_astore_n (x := 0) (q := 2) 2 [1, 2, 0] (L1 := [(0, vr a0), (1, vi x1), (2, vr 0)]) hX dX3_firstAt_1 rfl (Nat.le_of_ble_eq_true rfl) rfl rfl ?_
  refine r_iconst (v := (0 : Int32)) (q := 3) hX dX3_firstAt_2 rfl rfl ?_
  refine r_istore_n (x := (0 : Int32)) (q := 4) 3 [1, 2, 3, 0] (L1 := [(0, vr a0), (1, vi x1), (2, vr 0), (3, vi (0 : Int32))]) hX dX3_firstAt_3 rfl (Nat.le_of_ble_eq_true rfl) rfl rfl ?_
  refine r_loop (Hd := fun (s1 : Nat × Int32) (P : Option Res) => Ref mX3_firstAt X 0 0 Z M 4 [(0, vr a0), (1, vi x1), (2, vr s1.1), (3, vi s1.2)] [] P) (fun _ => r_none) (fun s1 K1 hn2 hx3 => ?_) (0, (0 : Int32))
  refine r_iload_n (i := 3) (x := s1.2) (q := 5) 3 hX dX3_firstAt_4 rfl rfl rfl ?_
  refine r_aload_n (i := 0) (x := a0) (q := 6) 0 hX dX3_firstAt_5 rfl rfl rfl ?_
  refine r_ck (fun hc4 => ?_)
  refine r_getI (a := a0) (ci := 3) (kf := 6) (q := 9) hX hc4 flX3_51 rfl rfl dX3_firstAt_6 rfl ?_
  refine r_icmp_ge (tgt := 70) (q := 12) hX dX3_firstAt_9 (by decide) rfl (fun hb5 => ?_) (fun hb5 => ?_)
  · refine r_aload_n (i := 2) (x := s1.1) (q := 71) 2 hX dX3_firstAt_70 rfl rfl rfl ?_
    refine r_lf ((hx3 _).trans (hK _)) ?_
    exact r_aret hM rfl (Or.inl ⟨_, rfl⟩) (Nat.le_of_ble_eq_true rfl) (Nat.le_of_ble_eq_true rfl) dX3_firstAt_71
  · refine r_aload_n (i := 0) (x := a0) (q := 13) 0 hX dX3_firstAt_12 rfl rfl rfl ?_
    refine r_getR (a := a0) (ci := 3) (kf := 4) (q := 16) hX hc4 flX3_34 rfl dX3_firstAt_13 rfl ?_
    refine r_iload_n (i := 3) (x := s1.2) (q := 17) 3 hX dX3_firstAt_16 rfl rfl rfl ?_
    refine r_ck (fun hc6 => ?_)
    refine r_aald (a := (rR M a0 4)) (i := s1.2) (q := 18) hX arT_113 hc6 dX3_firstAt_17 rfl ?_
    refine r_astoreP (x := (rR M (rR M a0 4) (ix s1.2))) (q := 20) 4 [1, 2, 3, 4, 0] (fun z7 => [(0, vr a0), (1, vi x1), (2, vr s1.1), (3, vi s1.2), (4, vr z7)]) hX dX3_firstAt_18 (Nat.le_of_ble_eq_true rfl) (fun _ => rfl) rfl (fun z7 => ?_)
    refine r_aload (i := 4) (x := z7) (q := 22) 4 hX dX3_firstAt_20 rfl rfl ?_
    refine r_aload_n (i := 0) (x := a0) (q := 23) 0 hX dX3_firstAt_22 rfl rfl rfl ?_
    refine r_getI (a := a0) (ci := 3) (kf := 8) (q := 26) hX hc4 flX3_60 rfl rfl dX3_firstAt_23 rfl ?_
    refine r_ck (fun hc8 => ?_)
    refine r_bind (fun v9 h10 => ?_)
    refine r_cv (a := z7) (As := [vi (rI M a0 8)]) (st := []) (r := (some (vi v9))) (Z1 := Z) (M1 := M) (k1 := 0) (n1 := 0) (st1 := [vi v9]) (q := 29) hX (fun l => kX1_isReady l Z M z7 (rI M a0 8) v9 h10) hc8 ivX1_isReady ccX1_isReady (Or.inl lkX3_138) rfl rfl rfl ⟨Nat.le_of_ble_eq_true rfl, Nat.le_of_ble_eq_true rfl, rfl, rfl, Nat.le_of_ble_eq_true rfl, Nat.le_of_ble_eq_true rfl⟩ (Nat.le_of_ble_eq_true rfl) dX3_firstAt_26 rfl ?_
    refine r_if_eq (tgt := 64) (q := 32) hX dX3_firstAt_29 (by decide) rfl (fun hb11 => ?_) (fun hb11 => ?_)
    · refine r_iinc (x := s1.2) (v := (s1.2 + (1 : Int32))) (q := 67) 3 3 [1, 2, 3, 0, 5] (L1 := [(0, vr a0), (1, vi x1), (2, vr s1.1), (3, vi (s1.2 + (1 : Int32))), (4, vr z7)]) hX dX3_firstAt_64 rfl rfl (Nat.le_of_ble_eq_true rfl) rfl rfl ?_
      refine r_goto (q := 4) hX dX3_firstAt_67 (by decide) ?_
      refine r_l0 ?_
      refine r_sub [0, 1, 2, 3] rfl ?_
      exact hn2 (s1.1, (s1.2 + (1 : Int32)))
    · refine r_aload (i := 4) (x := z7) (q := 34) 4 hX dX3_firstAt_32 rfl rfl ?_
      refine r_bind (fun v12 h13 => ?_)
      refine r_cv (a := z7) (As := []) (st := []) (r := (some (vi v12))) (Z1 := Z) (M1 := M) (k1 := 0) (n1 := 0) (st1 := [vi v12]) (q := 37) hX (fun l => kX1_nextLock l Z M z7 v12 h13) hc8 ivX1_nextLock ccX1_nextLock (Or.inl lkX3_141) rfl rfl rfl ⟨Nat.le_of_ble_eq_true rfl, Nat.le_of_ble_eq_true rfl, rfl, rfl, Nat.le_of_ble_eq_true rfl, Nat.le_of_ble_eq_true rfl⟩ (Nat.le_of_ble_eq_true rfl) dX3_firstAt_34 rfl ?_
      refine r_iload_n (i := 1) (x := x1) (q := 38) 1 hX dX3_firstAt_37 rfl rfl rfl ?_
      refine r_icmp_ne (tgt := 64) (q := 41) hX dX3_firstAt_38 (by decide) rfl (fun hb14 => ?_) (fun hb14 => ?_)
      · refine r_aload_n (i := 2) (x := s1.1) (q := 42) 2 hX dX3_firstAt_41 rfl rfl rfl ?_
        refine r_ifnull (tgt := 61) (q := 45) hX dX3_firstAt_42 (by decide) rfl (fun hb15 => ?_) (fun hb15 => ?_)
        · refine r_aload (i := 4) (x := z7) (q := 63) 4 hX dX3_firstAt_61 rfl rfl ?_
          refine r_astore_n (x := z7) (q := 64) 2 [1, 2, 0, 4, 5] (L1 := [(0, vr a0), (1, vi x1), (2, vr z7), (3, vi s1.2), (4, vr z7)]) hX dX3_firstAt_63 rfl (Nat.le_of_ble_eq_true rfl) rfl rfl ?_
          refine r_iinc (x := s1.2) (v := (s1.2 + (1 : Int32))) (q := 67) 3 3 [1, 2, 3, 0, 5] (L1 := [(0, vr a0), (1, vi x1), (2, vr z7), (3, vi (s1.2 + (1 : Int32))), (4, vr z7)]) hX dX3_firstAt_64 rfl rfl (Nat.le_of_ble_eq_true rfl) rfl rfl ?_
          refine r_goto (q := 4) hX dX3_firstAt_67 (by decide) ?_
          refine r_l0 ?_
          refine r_sub [0, 1, 2, 3] rfl ?_
          exact hn2 (z7, (s1.2 + (1 : Int32)))
        · refine r_aload_n (i := 0) (x := a0) (q := 46) 0 hX dX3_firstAt_45 rfl rfl rfl ?_
          refine r_aload (i := 4) (x := z7) (q := 48) 4 hX dX3_firstAt_46 rfl rfl ?_
          refine r_aload_n (i := 2) (x := s1.1) (q := 49) 2 hX dX3_firstAt_48 rfl rfl rfl ?_
          refine r_aload_n (i := 0) (x := a0) (q := 50) 0 hX dX3_firstAt_49 rfl rfl rfl ?_
          refine r_getR (a := a0) (ci := 3) (kf := 1) (q := 53) hX hc4 flX3_19 rfl dX3_firstAt_50 rfl ?_
          refine r_iload_n (i := 1) (x := x1) (q := 54) 1 hX dX3_firstAt_53 rfl rfl rfl ?_
          refine r_ck (fun hc16 => ?_)
          refine r_aald (a := (rR M a0 1)) (i := x1) (q := 55) hX arT_111 hc16 dX3_firstAt_54 rfl ?_
          refine r_bind (fun v17 h18 => ?_)
          refine r_cv (a := a0) (As := [vr z7, vr s1.1, vr (rR M (rR M a0 1) (ix x1))]) (st := []) (r := (some (vi v17))) (Z1 := Z) (M1 := M) (k1 := 0) (n1 := 0) (st1 := [vi v17]) (q := 58) hX (fun l => kX3_goesAhead l Z M a0 z7 s1.1 (rR M (rR M a0 1) (ix x1)) v17 h18) hc4 ivX3_goesAhead ccX3_goesAhead (Or.inl lkX3_144) rfl rfl rfl ⟨Nat.le_of_ble_eq_true rfl, Nat.le_of_ble_eq_true rfl, rfl, rfl, Nat.le_of_ble_eq_true rfl, Nat.le_of_ble_eq_true rfl⟩ (Nat.le_of_ble_eq_true rfl) dX3_firstAt_55 rfl ?_
          refine r_if_eq (tgt := 64) (q := 61) hX dX3_firstAt_58 (by decide) rfl (fun hb19 => ?_) (fun hb19 => ?_)
          · refine r_iinc (x := s1.2) (v := (s1.2 + (1 : Int32))) (q := 67) 3 3 [1, 2, 3, 0, 5] (L1 := [(0, vr a0), (1, vi x1), (2, vr s1.1), (3, vi (s1.2 + (1 : Int32))), (4, vr z7)]) hX dX3_firstAt_64 rfl rfl (Nat.le_of_ble_eq_true rfl) rfl rfl ?_
            refine r_goto (q := 4) hX dX3_firstAt_67 (by decide) ?_
            refine r_l0 ?_
            refine r_sub [0, 1, 2, 3] rfl ?_
            exact hn2 (s1.1, (s1.2 + (1 : Int32)))
          · refine r_aload (i := 4) (x := z7) (q := 63) 4 hX dX3_firstAt_61 rfl rfl ?_
            refine r_astore_n (x := z7) (q := 64) 2 [1, 2, 0, 4, 5] (L1 := [(0, vr a0), (1, vi x1), (2, vr z7), (3, vi s1.2), (4, vr z7)]) hX dX3_firstAt_63 rfl (Nat.le_of_ble_eq_true rfl) rfl rfl ?_
            refine r_iinc (x := s1.2) (v := (s1.2 + (1 : Int32))) (q := 67) 3 3 [1, 2, 3, 0, 5] (L1 := [(0, vr a0), (1, vi x1), (2, vr z7), (3, vi (s1.2 + (1 : Int32))), (4, vr z7)]) hX dX3_firstAt_64 rfl rfl (Nat.le_of_ble_eq_true rfl) rfl rfl ?_
            refine r_goto (q := 4) hX dX3_firstAt_67 (by decide) ?_
            refine r_l0 ?_
            refine r_sub [0, 1, 2, 3] rfl ?_
            exact hn2 (z7, (s1.2 + (1 : Int32)))
      · refine r_iinc (x := s1.2) (v := (s1.2 + (1 : Int32))) (q := 67) 3 3 [1, 2, 3, 0, 5] (L1 := [(0, vr a0), (1, vi x1), (2, vr s1.1), (3, vi (s1.2 + (1 : Int32))), (4, vr z7)]) hX dX3_firstAt_64 rfl rfl (Nat.le_of_ble_eq_true rfl) rfl rfl ?_
        refine r_goto (q := 4) hX dX3_firstAt_67 (by decide) ?_
        refine r_l0 ?_
        refine r_sub [0, 1, 2, 3] rfl ?_
        exact hn2 (s1.1, (s1.2 + (1 : Int32)))
def mX1_nextPlace : MD := (yX1_nextPlace, cX1_nextPlace, 1, (some .int), 0, 0, 0, 0)
theorem ccX1_nextPlace : Cc mX1_nextPlace 0 := ⟨gd (hcw1_0 _ (List.mem_of_getElem? (i := 13) rfl)) rfl, gd (hcw3_3 _ (List.mem_of_getElem? (i := 9) rfl)) rfl, by decide +kernel, by decide +kernel, by decide +kernel⟩
theorem ivX1_nextPlace : Iv mX1_nextPlace 1 := ⟨Nat.le_of_ble_eq_true rfl, rfl, gd (hcw3_3 _ (List.mem_of_getElem? (i := 7) rfl)) rfl, gd (hcw3_3 _ (List.mem_of_getElem? (i := 8) rfl)) rfl⟩
def fX1_nextPlace (Z : Shp) (M : Mem) (a0 : Nat) : Option (Int32) := (if tg Z a0 = (2, 10) then (if (rI M a0 0) ≤ (rI M a0 6) then some ((rI M a0 6) - (1 : Int32)) else some ((rI M a0 6) + (1 : Int32))) else none)
set_option maxRecDepth 20000 in
theorem kX1_nextPlace (l : Launch) (Z : Shp) (M : Mem) (a0 : Nat) (r : Int32) (h : fX1_nextPlace Z M a0 = some r) : Ct l mX1_nextPlace [vr a0] Z M ((some (vi r)), Z, M) := by
  refine Ct.of rfl (Nat.le_of_ble_eq_true rfl) (fun X hM => ?_)
  have hX := hM.1
  refine r_top (mk := fun r => ((some (vi r)), Z, M)) h (fun K hK => ?_)
  unfold fX1_nextPlace
  refine r_aload_n (i := 0) (x := a0) (q := 1) 0 hX dX1_nextPlace_0 rfl rfl rfl ?_
  refine r_ck (fun hc1 => ?_)
  refine r_getI (a := a0) (ci := 1) (kf := 0) (q := 4) hX hc1 flX1_9 rfl rfl dX1_nextPlace_1 rfl ?_
  refine r_aload_n (i := 0) (x := a0) (q := 5) 0 hX dX1_nextPlace_4 rfl rfl rfl ?_
  refine r_getI (a := a0) (ci := 1) (kf := 6) (q := 8) hX hc1 flX1_36 rfl rfl dX1_nextPlace_5 rfl ?_
  refine r_icmp_le (tgt := 20) (q := 11) hX dX1_nextPlace_8 (by decide) rfl (fun hb2 => ?_) (fun hb2 => ?_)
  · refine r_aload_n (i := 0) (x := a0) (q := 21) 0 hX dX1_nextPlace_20 rfl rfl rfl ?_
    refine r_getI (a := a0) (ci := 1) (kf := 6) (q := 24) hX hc1 flX1_36 rfl rfl dX1_nextPlace_21 rfl ?_
    refine r_iconst (v := (1 : Int32)) (q := 25) hX dX1_nextPlace_24 rfl rfl ?_
    refine r_isub (q := 26) hX dX1_nextPlace_25 rfl ?_
    refine r_lf (hK _) ?_
    exact r_iret hM rfl (Nat.le_of_ble_eq_true rfl) (Nat.le_of_ble_eq_true rfl) dX1_nextPlace_26
  · refine r_aload_n (i := 0) (x := a0) (q := 12) 0 hX dX1_nextPlace_11 rfl rfl rfl ?_
    refine r_getI (a := a0) (ci := 1) (kf := 6) (q := 15) hX hc1 flX1_36 rfl rfl dX1_nextPlace_12 rfl ?_
    refine r_iconst (v := (1 : Int32)) (q := 16) hX dX1_nextPlace_15 rfl rfl ?_
    refine r_iadd (q := 17) hX dX1_nextPlace_16 rfl ?_
    refine r_goto (q := 26) hX dX1_nextPlace_17 (by decide) ?_
    refine r_lf (hK _) ?_
    exact r_iret hM rfl (Nat.le_of_ble_eq_true rfl) (Nat.le_of_ble_eq_true rfl) dX1_nextPlace_26
def mX4_keepable : MD := (yX4_keepable, cX4_keepable, 1, (some .int), 1, 13, 0, 0)
theorem ccX4_keepable : Cc mX4_keepable 0 := ⟨gd (hcw1_0 _ (List.mem_of_getElem? (i := 4) rfl)) rfl, gd (hcw3_3 _ (List.mem_of_getElem? (i := 17) rfl)) rfl, by decide +kernel, by decide +kernel, by decide +kernel⟩
theorem ivX4_keepable : Iv mX4_keepable 4 := ⟨Nat.le_of_ble_eq_true rfl, rfl, gd (hcw3_3 _ (List.mem_of_getElem? (i := 16) rfl)) rfl, gd (hps1 _ (List.mem_of_getElem? (i := 5) rfl)) rfl⟩
def fX4_keepable (Z : Shp) (M : Mem) (a0 : Nat) : Option (Int32) := (if tg Z a0 = (5, 7) then (if (rI M a0 1) = 0 then some (0 : Int32) else some (mxI (0 : Int32) (((rI M a0 0) / (2 : Int32)) - (rI M a0 4)))) else none)
set_option maxRecDepth 20000 in
theorem kX4_keepable (l : Launch) (Z : Shp) (M : Mem) (a0 : Nat) (r : Int32) (h : fX4_keepable Z M a0 = some r) : Ct l mX4_keepable [vr a0] Z M ((some (vi r)), Z, M) := by
  refine Ct.of rfl (Nat.le_of_ble_eq_true rfl) (fun X hM => ?_)
  have hX := hM.1
  refine r_top (mk := fun r => ((some (vi r)), Z, M)) h (fun K hK => ?_)
  unfold fX4_keepable
  refine r_aload_n (i := 0) (x := a0) (q := 1) 0 hX dX4_keepable_0 rfl rfl rfl ?_
  refine r_ck (fun hc1 => ?_)
  refine r_getI (a := a0) (ci := 4) (kf := 1) (q := 4) hX hc1 flX4_19 rfl rfl dX4_keepable_1 rfl ?_
  refine r_if_eq (tgt := 25) (q := 7) hX dX4_keepable_4 (by decide) rfl (fun hb2 => ?_) (fun hb2 => ?_)
  · refine r_iconst (v := (0 : Int32)) (q := 26) hX dX4_keepable_25 rfl rfl ?_
    refine r_lf (hK _) ?_
    exact r_iret hM rfl (Nat.le_of_ble_eq_true rfl) (Nat.le_of_ble_eq_true rfl) dX4_keepable_26
  · refine r_iconst (v := (0 : Int32)) (q := 8) hX dX4_keepable_7 rfl rfl ?_
    refine r_aload_n (i := 0) (x := a0) (q := 9) 0 hX dX4_keepable_8 rfl rfl rfl ?_
    refine r_getI (a := a0) (ci := 4) (kf := 0) (q := 12) hX hc1 flX4_7 rfl rfl dX4_keepable_9 rfl ?_
    refine r_iconst (v := (2 : Int32)) (q := 13) hX dX4_keepable_12 rfl rfl ?_
    refine r_idiv (q := 14) hX dX4_keepable_13 (by decide) rfl ?_
    refine r_aload_n (i := 0) (x := a0) (q := 15) 0 hX dX4_keepable_14 rfl rfl rfl ?_
    refine r_getI (a := a0) (ci := 4) (kf := 4) (q := 18) hX hc1 flX4_33 rfl rfl dX4_keepable_15 rfl ?_
    refine r_isub (q := 19) hX dX4_keepable_18 rfl ?_
    refine r_mmax (q := 22) hX (gd (hcw3_3 _ (List.mem_of_getElem? (i := 18) rfl)) rfl) (Nat.le_of_ble_eq_true rfl) (Nat.le_of_ble_eq_true rfl) (Nat.le_of_ble_eq_true rfl) (Nat.le_of_ble_eq_true rfl) dX4_keepable_19 rfl ?_
    refine r_goto (q := 26) hX dX4_keepable_22 (by decide) ?_
    refine r_lf (hK _) ?_
    exact r_iret hM rfl (Nat.le_of_ble_eq_true rfl) (Nat.le_of_ble_eq_true rfl) dX4_keepable_26
theorem lkX4_48 : Lk RX4 48 yX4_keepable := gd (hcw3_3 _ (List.mem_of_getElem? (i := 14) rfl)) rfl
def mX4_draws : MD := (yX4_draws, cX4_draws, 2, (some .int), 2, 33, 0, 0)
theorem ccX4_draws : Cc mX4_draws 1 := ⟨gd (hcw1_0 _ (List.mem_of_getElem? (i := 4) rfl)) rfl, gd (hcw3_3 _ (List.mem_of_getElem? (i := 13) rfl)) rfl, by decide +kernel, by decide +kernel, by decide +kernel⟩
theorem ivX4_draws : Iv mX4_draws 4 := ⟨Nat.le_of_ble_eq_true rfl, rfl, gd (hcw3_3 _ (List.mem_of_getElem? (i := 11) rfl)) rfl, gd (hcw3_3 _ (List.mem_of_getElem? (i := 12) rfl)) rfl⟩
noncomputable def fX4_draws (Z : Shp) (M : Mem) (a0 : Nat) (x1 : Int32) : Option (Int32) := (if tg Z a0 = (5, 7) then (if (rI M a0 3) = 0 then some ((rI M a0 0) - (rI M a0 4)) else (if x1 = 0 then some (0 : Int32) else (Option.bind (fX4_keepable Z M a0) (fun v4 => some (((rI M a0 0) - (rI M a0 4)) - v4))))) else none)
set_option maxRecDepth 20000 in
theorem kX4_draws (l : Launch) (Z : Shp) (M : Mem) (a0 : Nat) (x1 : Int32) (r : Int32) (h : fX4_draws Z M a0 x1 = some r) : Ct l mX4_draws [vr a0, vi x1] Z M ((some (vi r)), Z, M) := by
  refine Ct.of rfl (Nat.le_of_ble_eq_true rfl) (fun X hM => ?_)
  have hX := hM.1
  refine r_top (mk := fun r => ((some (vi r)), Z, M)) h (fun K hK => ?_)
  unfold fX4_draws
  refine r_aload_n (i := 0) (x := a0) (q := 1) 0 hX dX4_draws_0 rfl rfl rfl ?_
  refine r_ck (fun hc1 => ?_)
  refine r_getI (a := a0) (ci := 4) (kf := 3) (q := 4) hX hc1 flX4_30 rfl rfl dX4_draws_1 rfl ?_
  refine r_if_ne (tgt := 17) (q := 7) hX dX4_draws_4 (by decide) rfl (fun hb2 => ?_) (fun hb2 => ?_)
  · refine r_aload_n (i := 0) (x := a0) (q := 8) 0 hX dX4_draws_7 rfl rfl rfl ?_
    refine r_getI (a := a0) (ci := 4) (kf := 0) (q := 11) hX hc1 flX4_7 rfl rfl dX4_draws_8 rfl ?_
    refine r_aload_n (i := 0) (x := a0) (q := 12) 0 hX dX4_draws_11 rfl rfl rfl ?_
    refine r_getI (a := a0) (ci := 4) (kf := 4) (q := 15) hX hc1 flX4_33 rfl rfl dX4_draws_12 rfl ?_
    refine r_isub (q := 16) hX dX4_draws_15 rfl ?_
    refine r_lf (hK _) ?_
    exact r_iret hM rfl (Nat.le_of_ble_eq_true rfl) (Nat.le_of_ble_eq_true rfl) dX4_draws_16
  · refine r_iload_n (i := 1) (x := x1) (q := 18) 1 hX dX4_draws_17 rfl rfl rfl ?_
    refine r_if_eq (tgt := 38) (q := 21) hX dX4_draws_18 (by decide) rfl (fun hb3 => ?_) (fun hb3 => ?_)
    · refine r_iconst (v := (0 : Int32)) (q := 39) hX dX4_draws_38 rfl rfl ?_
      refine r_lf (hK _) ?_
      exact r_iret hM rfl (Nat.le_of_ble_eq_true rfl) (Nat.le_of_ble_eq_true rfl) dX4_draws_39
    · refine r_aload_n (i := 0) (x := a0) (q := 22) 0 hX dX4_draws_21 rfl rfl rfl ?_
      refine r_getI (a := a0) (ci := 4) (kf := 0) (q := 25) hX hc1 flX4_7 rfl rfl dX4_draws_22 rfl ?_
      refine r_aload_n (i := 0) (x := a0) (q := 26) 0 hX dX4_draws_25 rfl rfl rfl ?_
      refine r_getI (a := a0) (ci := 4) (kf := 4) (q := 29) hX hc1 flX4_33 rfl rfl dX4_draws_26 rfl ?_
      refine r_isub (q := 30) hX dX4_draws_29 rfl ?_
      refine r_aload_n (i := 0) (x := a0) (q := 31) 0 hX dX4_draws_30 rfl rfl rfl ?_
      refine r_bind (fun v4 h5 => ?_)
      refine r_cv (a := a0) (As := []) (st := [vi ((rI M a0 0) - (rI M a0 4))]) (r := (some (vi v4))) (Z1 := Z) (M1 := M) (k1 := 0) (n1 := 0) (st1 := [vi v4, vi ((rI M a0 0) - (rI M a0 4))]) (q := 34) hX (fun l => kX4_keepable l Z M a0 v4 h5) hc1 ivX4_keepable ccX4_keepable (Or.inl lkX4_48) rfl rfl rfl ⟨Nat.le_of_ble_eq_true rfl, Nat.le_of_ble_eq_true rfl, rfl, rfl, Nat.le_of_ble_eq_true rfl, Nat.le_of_ble_eq_true rfl⟩ (Nat.le_of_ble_eq_true rfl) dX4_draws_31 rfl ?_
      refine r_isub (q := 35) hX dX4_draws_34 rfl ?_
      refine r_goto (q := 39) hX dX4_draws_35 (by decide) ?_
      refine r_lf (hK _) ?_
      exact r_iret hM rfl (Nat.le_of_ble_eq_true rfl) (Nat.le_of_ble_eq_true rfl) dX4_draws_39
theorem flX4_60 : FL RX4 60 6 0 := ⟨Nat.le_of_ble_eq_true rfl, Nat.le_of_ble_eq_true rfl, gd (hcw1_2 _ (List.mem_of_getElem? (i := 7) rfl)) rfl⟩
theorem lkX4_65 : Lk RX4 65 yX6_spill := gd (hcw3_4 _ (List.mem_of_getElem? (i := 7) rfl)) rfl
def mX4_drainInto : MD := (yX4_drainInto, cX4_drainInto, 3, (some .int), 2, 34, 0, 0)
theorem ccX4_drainInto : Cc mX4_drainInto 1 := ⟨gd (hcw1_0 _ (List.mem_of_getElem? (i := 4) rfl)) rfl, gd (hcw3_4 _ (List.mem_of_getElem? (i := 6) rfl)) rfl, by decide +kernel, by decide +kernel, by decide +kernel⟩
theorem ivX4_drainInto : Iv mX4_drainInto 4 := ⟨Nat.le_of_ble_eq_true rfl, rfl, gd (hcw3_4 _ (List.mem_of_getElem? (i := 5) rfl)) rfl, gd (hps1 _ (List.mem_of_getElem? (i := 6) rfl)) rfl⟩
noncomputable def fX4_drainInto (Z : Shp) (M : Mem) (a0 : Nat) (a1 : Nat) : Option (Int32 × Mem) := (if tg Z a0 = (5, 7) then (Option.bind (fX4_keepable Z M a0) (fun v2 => (pu (wI M a0 4 ((rI M a0 4) + v2)) (fun M4 => (if tg Z a1 = (7, 3) then (pu (wI M4 a1 0 ((rI M4 a1 0) + ((rI M4 a0 0) - v2))) (fun M6 => (pu (wI M6 a0 3 (0 : Int32)) (fun M7 => (Option.bind (fX6_spill Z M7 a1) (fun v8 => some (v8.1, v8.2))))))) else none))))) else none)
set_option maxRecDepth 20000 in
theorem kX4_drainInto (l : Launch) (Z : Shp) (M : Mem) (a0 : Nat) (a1 : Nat) (r : Int32 × Mem) (h : fX4_drainInto Z M a0 a1 = some r) : Ct l mX4_drainInto [vr a0, vr a1] Z M ((some (vi r.1)), Z, r.2) := by
  refine Ct.of rfl (Nat.le_of_ble_eq_true rfl) (fun X hM => ?_)
  have hX := hM.1
  refine r_top (mk := fun r => ((some (vi r.1)), Z, r.2)) h (fun K hK => ?_)
  unfold fX4_drainInto
  refine r_aload_n (i := 0) (x := a0) (q := 1) 0 hX dX4_drainInto_0 rfl rfl rfl ?_
  refine r_ck (fun hc1 => ?_)
  refine r_bind (fun v2 h3 => ?_)
  refine r_cv (a := a0) (As := []) (st := []) (r := (some (vi v2))) (Z1 := Z) (M1 := M) (k1 := 0) (n1 := 0) (st1 := [vi v2]) (q := 4) hX (fun l => kX4_keepable l Z M a0 v2 h3) hc1 ivX4_keepable ccX4_keepable (Or.inl lkX4_48) rfl rfl rfl ⟨Nat.le_of_ble_eq_true rfl, Nat.le_of_ble_eq_true rfl, rfl, rfl, Nat.le_of_ble_eq_true rfl, Nat.le_of_ble_eq_true rfl⟩ (Nat.le_of_ble_eq_true rfl) dX4_drainInto_1 rfl ?_
  refine r_istore_n (x := v2) (q := 5) 2 [1, 2, 0] (L1 := [(0, vr a0), (1, vr a1), (2, vi v2)]) hX dX4_drainInto_4 rfl (Nat.le_of_ble_eq_true rfl) rfl rfl ?_
  refine r_aload_n (i := 0) (x := a0) (q := 6) 0 hX dX4_drainInto_5 rfl rfl rfl ?_
  refine r_dup (q := 7) hX dX4_drainInto_6 rfl rfl ?_
  refine r_getI (a := a0) (ci := 4) (kf := 4) (q := 10) hX hc1 flX4_33 rfl rfl dX4_drainInto_7 rfl ?_
  refine r_iload_n (i := 2) (x := v2) (q := 11) 2 hX dX4_drainInto_10 rfl rfl rfl ?_
  refine r_iadd (q := 12) hX dX4_drainInto_11 rfl ?_
  refine r_putI (a := a0) (ci := 4) (kf := 4) (q := 15) hX hc1 flX4_33 rfl rfl (Or.inl rfl) rfl rfl dX4_drainInto_12 rfl (fun M4 => ?_)
  refine r_aload_n (i := 1) (x := a1) (q := 16) 1 hX dX4_drainInto_15 rfl rfl rfl ?_
  refine r_dup (q := 17) hX dX4_drainInto_16 rfl rfl ?_
  refine r_ck (fun hc5 => ?_)
  refine r_getI (a := a1) (ci := 6) (kf := 0) (q := 20) hX hc5 flX4_60 rfl rfl dX4_drainInto_17 rfl ?_
  refine r_aload_n (i := 0) (x := a0) (q := 21) 0 hX dX4_drainInto_20 rfl rfl rfl ?_
  refine r_getI (a := a0) (ci := 4) (kf := 0) (q := 24) hX hc1 flX4_7 rfl rfl dX4_drainInto_21 rfl ?_
  refine r_iload_n (i := 2) (x := v2) (q := 25) 2 hX dX4_drainInto_24 rfl rfl rfl ?_
  refine r_isub (q := 26) hX dX4_drainInto_25 rfl ?_
  refine r_iadd (q := 27) hX dX4_drainInto_26 rfl ?_
  refine r_putI (a := a1) (ci := 6) (kf := 0) (q := 30) hX hc5 flX4_60 rfl rfl (Or.inl rfl) rfl rfl dX4_drainInto_27 rfl (fun M6 => ?_)
  refine r_aload_n (i := 0) (x := a0) (q := 31) 0 hX dX4_drainInto_30 rfl rfl rfl ?_
  refine r_iconst (v := (0 : Int32)) (q := 32) hX dX4_drainInto_31 rfl rfl ?_
  refine r_putI (a := a0) (ci := 4) (kf := 3) (q := 35) hX hc1 flX4_30 rfl rfl (Or.inl rfl) (zb_n (Or.inl rfl)) (zb_f (Or.inl rfl)) dX4_drainInto_32 rfl (fun M7 => ?_)
  refine r_aload_n (i := 1) (x := a1) (q := 36) 1 hX dX4_drainInto_35 rfl rfl rfl ?_
  refine r_bind (fun v8 h9 => ?_)
  refine r_cv (a := a1) (As := []) (st := []) (r := (some (vi v8.1))) (Z1 := Z) (M1 := v8.2) (k1 := 0) (n1 := 0) (st1 := [vi v8.1]) (q := 39) hX (fun l => kX6_spill l Z M7 a1 v8 h9) hc5 ivX6_spill ccX6_spill (Or.inl lkX4_65) rfl rfl rfl ⟨Nat.le_of_ble_eq_true rfl, Nat.le_of_ble_eq_true rfl, rfl, rfl, Nat.le_of_ble_eq_true rfl, Nat.le_of_ble_eq_true rfl⟩ (Nat.le_of_ble_eq_true rfl) dX4_drainInto_36 rfl ?_
  refine r_lf (hK _) ?_
  exact r_iret hM rfl (Nat.le_of_ble_eq_true rfl) (Nat.le_of_ble_eq_true rfl) dX4_drainInto_39
def mX4_fillFrom : MD := (yX4_fillFrom, cX4_fillFrom, 2, none, 0, 0, 0, 0)
theorem ccX4_fillFrom : Cc mX4_fillFrom 1 := ⟨gd (hcw1_0 _ (List.mem_of_getElem? (i := 4) rfl)) rfl, gd (hcw3_4 _ (List.mem_of_getElem? (i := 11) rfl)) rfl, by decide +kernel, by decide +kernel, by decide +kernel⟩
theorem ivX4_fillFrom : Iv mX4_fillFrom 4 := ⟨Nat.le_of_ble_eq_true rfl, rfl, gd (hcw3_4 _ (List.mem_of_getElem? (i := 10) rfl)) rfl, gd (hps1 _ (List.mem_of_getElem? (i := 7) rfl)) rfl⟩
def fX4_fillFrom (Z : Shp) (M : Mem) (a0 : Nat) (a1 : Nat) : Option (Mem) := (if tg Z a1 = (7, 3) then (if tg Z a0 = (5, 7) then (pu (wI M a1 0 ((rI M a1 0) - ((rI M a0 0) - (rI M a0 4)))) (fun M3 => (pu (wI M3 a0 4 (0 : Int32)) (fun M4 => (pu (wI M4 a0 3 (1 : Int32)) (fun M5 => (pu (wI M5 a0 6 ((rI M5 a0 6) + (1 : Int32))) (fun M6 => some M6)))))))) else none) else none)
set_option maxRecDepth 20000 in
theorem kX4_fillFrom (l : Launch) (Z : Shp) (M : Mem) (a0 : Nat) (a1 : Nat) (r : Mem) (h : fX4_fillFrom Z M a0 a1 = some r) : Ct l mX4_fillFrom [vr a0, vr a1] Z M (none, Z, r) := by
  refine Ct.of rfl (Nat.le_of_ble_eq_true rfl) (fun X hM => ?_)
  have hX := hM.1
  refine r_top (mk := fun r => (none, Z, r)) h (fun K hK => ?_)
  unfold fX4_fillFrom
  refine r_aload_n (i := 1) (x := a1) (q := 1) 1 hX dX4_fillFrom_0 rfl rfl rfl ?_
  refine r_dup (q := 2) hX dX4_fillFrom_1 rfl rfl ?_
  refine r_ck (fun hc1 => ?_)
  refine r_getI (a := a1) (ci := 6) (kf := 0) (q := 5) hX hc1 flX4_60 rfl rfl dX4_fillFrom_2 rfl ?_
  refine r_aload_n (i := 0) (x := a0) (q := 6) 0 hX dX4_fillFrom_5 rfl rfl rfl ?_
  refine r_ck (fun hc2 => ?_)
  refine r_getI (a := a0) (ci := 4) (kf := 0) (q := 9) hX hc2 flX4_7 rfl rfl dX4_fillFrom_6 rfl ?_
  refine r_aload_n (i := 0) (x := a0) (q := 10) 0 hX dX4_fillFrom_9 rfl rfl rfl ?_
  refine r_getI (a := a0) (ci := 4) (kf := 4) (q := 13) hX hc2 flX4_33 rfl rfl dX4_fillFrom_10 rfl ?_
  refine r_isub (q := 14) hX dX4_fillFrom_13 rfl ?_
  refine r_isub (q := 15) hX dX4_fillFrom_14 rfl ?_
  refine r_putI (a := a1) (ci := 6) (kf := 0) (q := 18) hX hc1 flX4_60 rfl rfl (Or.inl rfl) rfl rfl dX4_fillFrom_15 rfl (fun M3 => ?_)
  refine r_aload_n (i := 0) (x := a0) (q := 19) 0 hX dX4_fillFrom_18 rfl rfl rfl ?_
  refine r_iconst (v := (0 : Int32)) (q := 20) hX dX4_fillFrom_19 rfl rfl ?_
  refine r_putI (a := a0) (ci := 4) (kf := 4) (q := 23) hX hc2 flX4_33 rfl rfl (Or.inl rfl) rfl rfl dX4_fillFrom_20 rfl (fun M4 => ?_)
  refine r_aload_n (i := 0) (x := a0) (q := 24) 0 hX dX4_fillFrom_23 rfl rfl rfl ?_
  refine r_iconst (v := (1 : Int32)) (q := 25) hX dX4_fillFrom_24 rfl rfl ?_
  refine r_putI (a := a0) (ci := 4) (kf := 3) (q := 28) hX hc2 flX4_30 rfl rfl (Or.inl rfl) (zb_n (Or.inr rfl)) (zb_f (Or.inr rfl)) dX4_fillFrom_25 rfl (fun M5 => ?_)
  refine r_aload_n (i := 0) (x := a0) (q := 29) 0 hX dX4_fillFrom_28 rfl rfl rfl ?_
  refine r_dup (q := 30) hX dX4_fillFrom_29 rfl rfl ?_
  refine r_getI (a := a0) (ci := 4) (kf := 6) (q := 33) hX hc2 flX4_39 rfl rfl dX4_fillFrom_30 rfl ?_
  refine r_iconst (v := (1 : Int32)) (q := 34) hX dX4_fillFrom_33 rfl rfl ?_
  refine r_iadd (q := 35) hX dX4_fillFrom_34 rfl ?_
  refine r_putI (a := a0) (ci := 4) (kf := 6) (q := 38) hX hc2 flX4_39 rfl rfl (Or.inl rfl) rfl rfl dX4_fillFrom_35 rfl (fun M6 => ?_)
  refine r_lf (hK _) ?_
  exact r_vret hM rfl (Nat.le_of_ble_eq_true rfl) (Nat.le_of_ble_eq_true rfl) dX4_fillFrom_38
theorem lkX4_56 : Lk RX4 56 yX4_fillFrom := gd (hcw3_4 _ (List.mem_of_getElem? (i := 8) rfl)) rfl
theorem lkX4_52 : Lk RX4 52 yX4_drainInto := gd (hcw3_4 _ (List.mem_of_getElem? (i := 3) rfl)) rfl
def mX4_letThrough : MD := (yX4_letThrough, cX4_letThrough, 5, (some .int), 3, 56, 0, 0)
theorem ccX4_letThrough : Cc mX4_letThrough 3 := ⟨gd (hcw1_0 _ (List.mem_of_getElem? (i := 4) rfl)) rfl, gd (hcw3_4 _ (List.mem_of_getElem? (i := 2) rfl)) rfl, by decide +kernel, by decide +kernel, by decide +kernel⟩
theorem ivX4_letThrough : Iv mX4_letThrough 4 := ⟨Nat.le_of_ble_eq_true rfl, rfl, gd (hcw3_4 _ (List.mem_of_getElem? (i := 0) rfl)) rfl, gd (hcw3_4 _ (List.mem_of_getElem? (i := 1) rfl)) rfl⟩
noncomputable def fX4_letThrough (Z : Shp) (M : Mem) (a0 : Nat) (x1 : Int32) (a2 : Nat) (a3 : Nat) : Option (Int32 × Mem) := (if tg Z a0 = (5, 7) then (pu (wI M a0 5 ((rI M a0 5) + (1 : Int32))) (fun M2 => (if x1 = 0 then (if (rI M2 a0 3) = 0 then (Option.bind (fX4_fillFrom Z M2 a0 a2) (fun v5 => (Option.bind (fX4_drainInto Z v5 a0 a3) (fun v7 => some (v7.1, v7.2))))) else (Option.bind (fX4_drainInto Z M2 a0 a3) (fun v9 => some (v9.1, v9.2)))) else (if (rI M2 a0 3) = 0 then (Option.bind (fX4_fillFrom Z M2 a0 a2) (fun v12 => some ((0 : Int32), v12))) else (Option.bind (fX4_drainInto Z M2 a0 a3) (fun v14 => (Option.bind (fX4_fillFrom Z v14.2 a0 a2) (fun v16 => some (v14.1, v16))))))))) else none)
set_option maxRecDepth 20000 in
theorem kX4_letThrough (l : Launch) (Z : Shp) (M : Mem) (a0 : Nat) (x1 : Int32) (a2 : Nat) (a3 : Nat) (r : Int32 × Mem) (h : fX4_letThrough Z M a0 x1 a2 a3 = some r) : Ct l mX4_letThrough [vr a0, vi x1, vr a2, vr a3] Z M ((some (vi r.1)), Z, r.2) := by
  refine Ct.of rfl (Nat.le_of_ble_eq_true rfl) (fun X hM => ?_)
  have hX := hM.1
  refine r_top (mk := fun r => ((some (vi r.1)), Z, r.2)) h (fun K hK => ?_)
  unfold fX4_letThrough
  refine r_aload_n (i := 0) (x := a0) (q := 1) 0 hX dX4_letThrough_0 rfl rfl rfl ?_
  refine r_dup (q := 2) hX dX4_letThrough_1 rfl rfl ?_
  refine r_ck (fun hc1 => ?_)
  refine r_getI (a := a0) (ci := 4) (kf := 5) (q := 5) hX hc1 flX4_36 rfl rfl dX4_letThrough_2 rfl ?_
  refine r_iconst (v := (1 : Int32)) (q := 6) hX dX4_letThrough_5 rfl rfl ?_
  refine r_iadd (q := 7) hX dX4_letThrough_6 rfl ?_
  refine r_putI (a := a0) (ci := 4) (kf := 5) (q := 10) hX hc1 flX4_36 rfl rfl (Or.inl rfl) rfl rfl dX4_letThrough_7 rfl (fun M2 => ?_)
  refine r_iload_n (i := 1) (x := x1) (q := 11) 1 hX dX4_letThrough_10 rfl rfl rfl ?_
  refine r_if_eq (tgt := 40) (q := 14) hX dX4_letThrough_11 (by decide) rfl (fun hb3 => ?_) (fun hb3 => ?_)
  · refine r_aload_n (i := 0) (x := a0) (q := 41) 0 hX dX4_letThrough_40 rfl rfl rfl ?_
    refine r_getI (a := a0) (ci := 4) (kf := 3) (q := 44) hX hc1 flX4_30 rfl rfl dX4_letThrough_41 rfl ?_
    refine r_if_ne (tgt := 52) (q := 47) hX dX4_letThrough_44 (by decide) rfl (fun hb4 => ?_) (fun hb4 => ?_)
    · refine r_aload_n (i := 0) (x := a0) (q := 48) 0 hX dX4_letThrough_47 rfl rfl rfl ?_
      refine r_aload_n (i := 2) (x := a2) (q := 49) 2 hX dX4_letThrough_48 rfl rfl rfl ?_
      refine r_bind (fun v5 h6 => ?_)
      refine r_cv (a := a0) (As := [vr a2]) (st := []) (r := none) (Z1 := Z) (M1 := v5) (k1 := 0) (n1 := 0) (st1 := []) (q := 52) hX (fun l => kX4_fillFrom l Z M2 a0 a2 v5 h6) hc1 ivX4_fillFrom ccX4_fillFrom (Or.inl lkX4_56) rfl rfl rfl ⟨Nat.le_of_ble_eq_true rfl, Nat.le_of_ble_eq_true rfl, rfl, rfl, Nat.le_of_ble_eq_true rfl, Nat.le_of_ble_eq_true rfl⟩ (Nat.le_of_ble_eq_true rfl) dX4_letThrough_49 rfl ?_
      refine r_aload_n (i := 0) (x := a0) (q := 53) 0 hX dX4_letThrough_52 rfl rfl rfl ?_
      refine r_aload_n (i := 3) (x := a3) (q := 54) 3 hX dX4_letThrough_53 rfl rfl rfl ?_
      refine r_bind (fun v7 h8 => ?_)
      refine r_cv (a := a0) (As := [vr a3]) (st := []) (r := (some (vi v7.1))) (Z1 := Z) (M1 := v7.2) (k1 := 0) (n1 := 0) (st1 := [vi v7.1]) (q := 57) hX (fun l => kX4_drainInto l Z v5 a0 a3 v7 h8) hc1 ivX4_drainInto ccX4_drainInto (Or.inl lkX4_52) rfl rfl rfl ⟨Nat.le_of_ble_eq_true rfl, Nat.le_of_ble_eq_true rfl, rfl, rfl, Nat.le_of_ble_eq_true rfl, Nat.le_of_ble_eq_true rfl⟩ (Nat.le_of_ble_eq_true rfl) dX4_letThrough_54 rfl ?_
      refine r_lf (hK _) ?_
      exact r_iret hM rfl (Nat.le_of_ble_eq_true rfl) (Nat.le_of_ble_eq_true rfl) dX4_letThrough_57
    · refine r_aload_n (i := 0) (x := a0) (q := 53) 0 hX dX4_letThrough_52 rfl rfl rfl ?_
      refine r_aload_n (i := 3) (x := a3) (q := 54) 3 hX dX4_letThrough_53 rfl rfl rfl ?_
      refine r_bind (fun v9 h10 => ?_)
      refine r_cv (a := a0) (As := [vr a3]) (st := []) (r := (some (vi v9.1))) (Z1 := Z) (M1 := v9.2) (k1 := 0) (n1 := 0) (st1 := [vi v9.1]) (q := 57) hX (fun l => kX4_drainInto l Z M2 a0 a3 v9 h10) hc1 ivX4_drainInto ccX4_drainInto (Or.inl lkX4_52) rfl rfl rfl ⟨Nat.le_of_ble_eq_true rfl, Nat.le_of_ble_eq_true rfl, rfl, rfl, Nat.le_of_ble_eq_true rfl, Nat.le_of_ble_eq_true rfl⟩ (Nat.le_of_ble_eq_true rfl) dX4_letThrough_54 rfl ?_
      refine r_lf (hK _) ?_
      exact r_iret hM rfl (Nat.le_of_ble_eq_true rfl) (Nat.le_of_ble_eq_true rfl) dX4_letThrough_57
  · refine r_aload_n (i := 0) (x := a0) (q := 15) 0 hX dX4_letThrough_14 rfl rfl rfl ?_
    refine r_getI (a := a0) (ci := 4) (kf := 3) (q := 18) hX hc1 flX4_30 rfl rfl dX4_letThrough_15 rfl ?_
    refine r_if_eq (tgt := 29) (q := 21) hX dX4_letThrough_18 (by decide) rfl (fun hb11 => ?_) (fun hb11 => ?_)
    · refine r_iconst (v := (0 : Int32)) (q := 30) hX dX4_letThrough_29 rfl rfl ?_
      refine r_istore (x := (0 : Int32)) (q := 32) 4 [1, 2, 3, 4, 0] (L1 := [(0, vr a0), (1, vi x1), (2, vr a2), (3, vr a3), (4, vi (0 : Int32))]) hX dX4_letThrough_30 (Nat.le_of_ble_eq_true rfl) rfl rfl ?_
      refine r_aload_n (i := 0) (x := a0) (q := 33) 0 hX dX4_letThrough_32 rfl rfl rfl ?_
      refine r_aload_n (i := 2) (x := a2) (q := 34) 2 hX dX4_letThrough_33 rfl rfl rfl ?_
      refine r_bind (fun v12 h13 => ?_)
      refine r_cv (a := a0) (As := [vr a2]) (st := []) (r := none) (Z1 := Z) (M1 := v12) (k1 := 0) (n1 := 0) (st1 := []) (q := 37) hX (fun l => kX4_fillFrom l Z M2 a0 a2 v12 h13) hc1 ivX4_fillFrom ccX4_fillFrom (Or.inl lkX4_56) rfl rfl rfl ⟨Nat.le_of_ble_eq_true rfl, Nat.le_of_ble_eq_true rfl, rfl, rfl, Nat.le_of_ble_eq_true rfl, Nat.le_of_ble_eq_true rfl⟩ (Nat.le_of_ble_eq_true rfl) dX4_letThrough_34 rfl ?_
      refine r_iload (i := 4) (x := (0 : Int32)) (q := 39) 4 hX dX4_letThrough_37 rfl rfl ?_
      refine r_lf (hK _) ?_
      exact r_iret hM rfl (Nat.le_of_ble_eq_true rfl) (Nat.le_of_ble_eq_true rfl) dX4_letThrough_39
    · refine r_aload_n (i := 0) (x := a0) (q := 22) 0 hX dX4_letThrough_21 rfl rfl rfl ?_
      refine r_aload_n (i := 3) (x := a3) (q := 23) 3 hX dX4_letThrough_22 rfl rfl rfl ?_
      refine r_bind (fun v14 h15 => ?_)
      refine r_cv (a := a0) (As := [vr a3]) (st := []) (r := (some (vi v14.1))) (Z1 := Z) (M1 := v14.2) (k1 := 0) (n1 := 0) (st1 := [vi v14.1]) (q := 26) hX (fun l => kX4_drainInto l Z M2 a0 a3 v14 h15) hc1 ivX4_drainInto ccX4_drainInto (Or.inl lkX4_52) rfl rfl rfl ⟨Nat.le_of_ble_eq_true rfl, Nat.le_of_ble_eq_true rfl, rfl, rfl, Nat.le_of_ble_eq_true rfl, Nat.le_of_ble_eq_true rfl⟩ (Nat.le_of_ble_eq_true rfl) dX4_letThrough_23 rfl ?_
      refine r_goto (q := 30) hX dX4_letThrough_26 (by decide) ?_
      refine r_istore (x := v14.1) (q := 32) 4 [1, 2, 3, 4, 0] (L1 := [(0, vr a0), (1, vi x1), (2, vr a2), (3, vr a3), (4, vi v14.1)]) hX dX4_letThrough_30 (Nat.le_of_ble_eq_true rfl) rfl rfl ?_
      refine r_aload_n (i := 0) (x := a0) (q := 33) 0 hX dX4_letThrough_32 rfl rfl rfl ?_
      refine r_aload_n (i := 2) (x := a2) (q := 34) 2 hX dX4_letThrough_33 rfl rfl rfl ?_
      refine r_bind (fun v16 h17 => ?_)
      refine r_cv (a := a0) (As := [vr a2]) (st := []) (r := none) (Z1 := Z) (M1 := v16) (k1 := 0) (n1 := 0) (st1 := []) (q := 37) hX (fun l => kX4_fillFrom l Z v14.2 a0 a2 v16 h17) hc1 ivX4_fillFrom ccX4_fillFrom (Or.inl lkX4_56) rfl rfl rfl ⟨Nat.le_of_ble_eq_true rfl, Nat.le_of_ble_eq_true rfl, rfl, rfl, Nat.le_of_ble_eq_true rfl, Nat.le_of_ble_eq_true rfl⟩ (Nat.le_of_ble_eq_true rfl) dX4_letThrough_34 rfl ?_
      refine r_iload (i := 4) (x := v14.1) (q := 39) 4 hX dX4_letThrough_37 rfl rfl ?_
      refine r_lf (hK _) ?_
      exact r_iret hM rfl (Nat.le_of_ble_eq_true rfl) (Nat.le_of_ble_eq_true rfl) dX4_letThrough_39
theorem lkX3_114 : Lk RX3 114 yX3_firstAt := gd (hcw3_2 _ (List.mem_of_getElem? (i := 2) rfl)) rfl
theorem lkX3_121 : Lk RX3 121 yX1_nextPlace := gd (hcw3_3 _ (List.mem_of_getElem? (i := 6) rfl)) rfl
theorem lkX3_124 : Lk RX3 124 yX4_draws := gd (hcw3_3 _ (List.mem_of_getElem? (i := 10) rfl)) rfl
theorem flX3_128 : FL RX3 128 6 2 := ⟨Nat.le_of_ble_eq_true rfl, Nat.le_of_ble_eq_true rfl, gd (hcw1_2 _ (List.mem_of_getElem? (i := 12) rfl)) rfl⟩
theorem lkX3_134 : Lk RX3 134 yX4_letThrough := gd (hcw3_3 _ (List.mem_of_getElem? (i := 19) rfl)) rfl
def mX3_workLock : MD := (yX3_workLock, cX3_workLock, 7, (some .boolean), 4, 80, 0, 0)
theorem ccX3_workLock : Cc mX3_workLock 1 := ⟨gd (hcw1_0 _ (List.mem_of_getElem? (i := 2) rfl)) rfl, gd (hcw3_2 _ (List.mem_of_getElem? (i := 1) rfl)) rfl, by decide +kernel, by decide +kernel, by decide +kernel⟩
theorem ivX3_workLock : Iv mX3_workLock 3 := ⟨Nat.le_of_ble_eq_true rfl, rfl, gd (hcw3_2 _ (List.mem_of_getElem? (i := 0) rfl)) rfl, gd (hps1 _ (List.mem_of_getElem? (i := 2) rfl)) rfl⟩
noncomputable def fX3_workLock (Z : Shp) (M : Mem) (a0 : Nat) (x1 : Int32) : Option (Int32 × Mem) := (if tg Z a0 = (4, 11) then (Option.bind (fX3_firstAt Z M a0 x1) (fun v2 => (if v2 = 0 then some ((0 : Int32), M) else (if tg Z v2 = (2, 10) then (Option.bind (fX1_climbs Z M v2 (rI M a0 7)) (fun v6 => (Option.bind (fX1_nextPlace Z M v2) (fun v8 => (if aok Z (rR M a0 0) 110 v8 then (pu ((rR M (rR M a0 0) (ix v8))) (fun z11 => (if aok Z (rR M a0 0) 110 (rI M v2 6) then (pu ((rR M (rR M a0 0) (ix (rI M v2 6)))) (fun z13 => (Option.bind (if v6 = 0 then some z13 else some z11) (fun v17 : Nat => (if tg Z v17 = (7, 3) then (if aok Z (rR M a0 1) 111 x1 then (if tg Z (rR M (rR M a0 1) (ix x1)) = (5, 7) then (Option.bind (fX4_draws Z M (rR M (rR M a0 1) (ix x1)) v6) (fun v21 => (if (rI M v17 0) < v21 then some ((0 : Int32), M) else (if tg Z z11 = (7, 3) then (if ((rI M z11 2) + ((5 : Int32) * (rI M v2 1))) ≤ (rI M z11 0) then (Option.bind (if v6 = 0 then some z11 else some z13) (fun v29 : Nat => (Option.bind (fX4_letThrough Z M (rR M (rR M a0 1) (ix x1)) v6 v17 v29) (fun v30 => (pu (wJ v30.2 a0 10 ((rJ M a0 10) + (v30.1.toInt64))) (fun M32 => (Option.bind (fX1_nextPlace Z M32 v2) (fun v33 => (Option.bind (fX1_comeInto Z M32 v2 v33 (rI M32 a0 8)) (fun v35 => some ((1 : Int32), v35))))))))))) else some ((0 : Int32), M)) else none)))) else none) else none) else none))))) else none))) else none))))) else none)))) else none)
set_option maxRecDepth 20000 in
theorem kX3_workLock (l : Launch) (Z : Shp) (M : Mem) (a0 : Nat) (x1 : Int32) (r : Int32 × Mem) (h : fX3_workLock Z M a0 x1 = some r) : Ct l mX3_workLock [vr a0, vi x1] Z M ((some (vi r.1)), Z, r.2) := by
  refine Ct.of rfl (Nat.le_of_ble_eq_true rfl) (fun X hM => ?_)
  have hX := hM.1
  refine r_top (mk := fun r => ((some (vi r.1)), Z, r.2)) h (fun K hK => ?_)
  unfold fX3_workLock
  refine r_aload_n (i := 0) (x := a0) (q := 1) 0 hX dX3_workLock_0 rfl rfl rfl ?_
  refine r_iload_n (i := 1) (x := x1) (q := 2) 1 hX dX3_workLock_1 rfl rfl rfl ?_
  refine r_ck (fun hc1 => ?_)
  refine r_bind (fun v2 h3 => ?_)
  refine r_cv (a := a0) (As := [vi x1]) (st := []) (r := (some (vr v2))) (Z1 := Z) (M1 := M) (k1 := 0) (n1 := 0) (st1 := [vr v2]) (q := 5) hX (fun l => kX3_firstAt l Z M a0 x1 v2 h3) hc1 ivX3_firstAt ccX3_firstAt (Or.inl lkX3_114) rfl rfl rfl ⟨Nat.le_of_ble_eq_true rfl, Nat.le_of_ble_eq_true rfl, rfl, rfl, Nat.le_of_ble_eq_true rfl, Nat.le_of_ble_eq_true rfl⟩ (Nat.le_of_ble_eq_true rfl) dX3_workLock_2 rfl ?_
  refine r_astore_n (x := v2) (q := 6) 2 [1, 2, 0] (L1 := [(0, vr a0), (1, vi x1), (2, vr v2)]) hX dX3_workLock_5 rfl (Nat.le_of_ble_eq_true rfl) rfl rfl ?_
  refine r_aload_n (i := 2) (x := v2) (q := 7) 2 hX dX3_workLock_6 rfl rfl rfl ?_
  refine r_ifnonnull (tgt := 12) (q := 10) hX dX3_workLock_7 (by decide) rfl (fun hb4 => ?_) (fun hb4 => ?_)
  · refine r_iconst (v := (0 : Int32)) (q := 11) hX dX3_workLock_10 rfl rfl ?_
    refine r_lf (hK _) ?_
    exact r_zret hM rfl (Or.inl rfl) (Nat.le_of_ble_eq_true rfl) (Nat.le_of_ble_eq_true rfl) dX3_workLock_11
  · refine r_aload_n (i := 2) (x := v2) (q := 13) 2 hX dX3_workLock_12 rfl rfl rfl ?_
    refine r_aload_n (i := 0) (x := a0) (q := 14) 0 hX dX3_workLock_13 rfl rfl rfl ?_
    refine r_getI (a := a0) (ci := 3) (kf := 7) (q := 17) hX hc1 flX3_38 rfl rfl dX3_workLock_14 rfl ?_
    refine r_ck (fun hc5 => ?_)
    refine r_bind (fun v6 h7 => ?_)
    refine r_cv (a := v2) (As := [vi (rI M a0 7)]) (st := []) (r := (some (vi v6))) (Z1 := Z) (M1 := M) (k1 := 0) (n1 := 0) (st1 := [vi v6]) (q := 20) hX (fun l => kX1_climbs l Z M v2 (rI M a0 7) v6 h7) hc5 ivX1_climbs ccX1_climbs (Or.inl lkX3_118) rfl rfl rfl ⟨Nat.le_of_ble_eq_true rfl, Nat.le_of_ble_eq_true rfl, rfl, rfl, Nat.le_of_ble_eq_true rfl, Nat.le_of_ble_eq_true rfl⟩ (Nat.le_of_ble_eq_true rfl) dX3_workLock_17 rfl ?_
    refine r_istore_n (x := v6) (q := 21) 3 [1, 2, 3, 0] (L1 := [(0, vr a0), (1, vi x1), (2, vr v2), (3, vi v6)]) hX dX3_workLock_20 rfl (Nat.le_of_ble_eq_true rfl) rfl rfl ?_
    refine r_aload_n (i := 0) (x := a0) (q := 22) 0 hX dX3_workLock_21 rfl rfl rfl ?_
    refine r_getR (a := a0) (ci := 3) (kf := 0) (q := 25) hX hc1 flX3_11 rfl dX3_workLock_22 rfl ?_
    refine r_aload_n (i := 2) (x := v2) (q := 26) 2 hX dX3_workLock_25 rfl rfl rfl ?_
    refine r_bind (fun v8 h9 => ?_)
    refine r_cv (a := v2) (As := []) (st := [vr (rR M a0 0)]) (r := (some (vi v8))) (Z1 := Z) (M1 := M) (k1 := 0) (n1 := 0) (st1 := [vi v8, vr (rR M a0 0)]) (q := 29) hX (fun l => kX1_nextPlace l Z M v2 v8 h9) hc5 ivX1_nextPlace ccX1_nextPlace (Or.inl lkX3_121) rfl rfl rfl ⟨Nat.le_of_ble_eq_true rfl, Nat.le_of_ble_eq_true rfl, rfl, rfl, Nat.le_of_ble_eq_true rfl, Nat.le_of_ble_eq_true rfl⟩ (Nat.le_of_ble_eq_true rfl) dX3_workLock_26 rfl ?_
    refine r_ck (fun hc10 => ?_)
    refine r_aald (a := (rR M a0 0)) (i := v8) (q := 30) hX arT_110 hc10 dX3_workLock_29 rfl ?_
    refine r_astoreP (x := (rR M (rR M a0 0) (ix v8))) (q := 32) 4 [1, 2, 3, 4, 0] (fun z11 => [(0, vr a0), (1, vi x1), (2, vr v2), (3, vi v6), (4, vr z11)]) hX dX3_workLock_30 (Nat.le_of_ble_eq_true rfl) (fun _ => rfl) rfl (fun z11 => ?_)
    refine r_aload_n (i := 0) (x := a0) (q := 33) 0 hX dX3_workLock_32 rfl rfl rfl ?_
    refine r_getR (a := a0) (ci := 3) (kf := 0) (q := 36) hX hc1 flX3_11 rfl dX3_workLock_33 rfl ?_
    refine r_aload_n (i := 2) (x := v2) (q := 37) 2 hX dX3_workLock_36 rfl rfl rfl ?_
    refine r_getI (a := v2) (ci := 1) (kf := 6) (q := 40) hX hc5 flX3_57 rfl rfl dX3_workLock_37 rfl ?_
    refine r_ck (fun hc12 => ?_)
    refine r_aald (a := (rR M a0 0)) (i := (rI M v2 6)) (q := 41) hX arT_110 hc12 dX3_workLock_40 rfl ?_
    refine r_astoreP (x := (rR M (rR M a0 0) (ix (rI M v2 6)))) (q := 43) 5 [1, 2, 3, 4, 5, 0] (fun z13 => [(0, vr a0), (1, vi x1), (2, vr v2), (3, vi v6), (4, vr z11), (5, vr z13)]) hX dX3_workLock_41 (Nat.le_of_ble_eq_true rfl) (fun _ => rfl) rfl (fun z13 => ?_)
    refine r_iload_n (i := 3) (x := v6) (q := 44) 3 hX dX3_workLock_43 rfl rfl rfl ?_
    refine r_jn (J := fun (v17 : Nat) (P : Option Res) => Ref mX3_workLock X 0 0 Z M 54 [(0, vr a0), (1, vi x1), (2, vr v2), (3, vi v6), (4, vr z11), (5, vr z13)] [vr v17] P) (fun v17 => ?_) (fun K1 hj15 => ?_)
    · refine r_astore (x := v17) (q := 56) 6 [1, 2, 3, 4, 5, 6, 0] (L1 := [(0, vr a0), (1, vi x1), (2, vr v2), (3, vi v6), (4, vr z11), (5, vr z13), (6, vr v17)]) hX dX3_workLock_54 (Nat.le_of_ble_eq_true rfl) rfl rfl ?_
      refine r_aload (i := 6) (x := v17) (q := 58) 6 hX dX3_workLock_56 rfl rfl ?_
      refine r_ck (fun hc18 => ?_)
      refine r_getI (a := v17) (ci := 6) (kf := 0) (q := 61) hX hc18 flX3_87 rfl rfl dX3_workLock_58 rfl ?_
      refine r_aload_n (i := 0) (x := a0) (q := 62) 0 hX dX3_workLock_61 rfl rfl rfl ?_
      refine r_getR (a := a0) (ci := 3) (kf := 1) (q := 65) hX hc1 flX3_19 rfl dX3_workLock_62 rfl ?_
      refine r_iload_n (i := 1) (x := x1) (q := 66) 1 hX dX3_workLock_65 rfl rfl rfl ?_
      refine r_ck (fun hc19 => ?_)
      refine r_aald (a := (rR M a0 1)) (i := x1) (q := 67) hX arT_111 hc19 dX3_workLock_66 rfl ?_
      refine r_iload_n (i := 3) (x := v6) (q := 68) 3 hX dX3_workLock_67 rfl rfl rfl ?_
      refine r_ck (fun hc20 => ?_)
      refine r_bind (fun v21 h22 => ?_)
      refine r_cv (a := (rR M (rR M a0 1) (ix x1))) (As := [vi v6]) (st := [vi (rI M v17 0)]) (r := (some (vi v21))) (Z1 := Z) (M1 := M) (k1 := 0) (n1 := 0) (st1 := [vi v21, vi (rI M v17 0)]) (q := 71) hX (fun l => kX4_draws l Z M (rR M (rR M a0 1) (ix x1)) v6 v21 h22) hc20 ivX4_draws ccX4_draws (Or.inl lkX3_124) rfl rfl rfl ⟨Nat.le_of_ble_eq_true rfl, Nat.le_of_ble_eq_true rfl, rfl, rfl, Nat.le_of_ble_eq_true rfl, Nat.le_of_ble_eq_true rfl⟩ (Nat.le_of_ble_eq_true rfl) dX3_workLock_68 rfl ?_
      refine r_icmp_lt (tgt := 94) (q := 74) hX dX3_workLock_71 (by decide) rfl (fun hb23 => ?_) (fun hb23 => ?_)
      · refine r_iconst (v := (0 : Int32)) (q := 95) hX dX3_workLock_94 rfl rfl ?_
        refine r_lf (hK _) ?_
        exact r_zret hM rfl (Or.inl rfl) (Nat.le_of_ble_eq_true rfl) (Nat.le_of_ble_eq_true rfl) dX3_workLock_95
      · refine r_aload (i := 4) (x := z11) (q := 76) 4 hX dX3_workLock_74 rfl rfl ?_
        refine r_ck (fun hc24 => ?_)
        refine r_getI (a := z11) (ci := 6) (kf := 0) (q := 79) hX hc24 flX3_87 rfl rfl dX3_workLock_76 rfl ?_
        refine r_aload (i := 4) (x := z11) (q := 81) 4 hX dX3_workLock_79 rfl rfl ?_
        refine r_getI (a := z11) (ci := 6) (kf := 2) (q := 84) hX hc24 flX3_128 rfl rfl dX3_workLock_81 rfl ?_
        refine r_iconst (v := (5 : Int32)) (q := 85) hX dX3_workLock_84 rfl rfl ?_
        refine r_aload_n (i := 2) (x := v2) (q := 86) 2 hX dX3_workLock_85 rfl rfl rfl ?_
        refine r_getI (a := v2) (ci := 1) (kf := 1) (q := 89) hX hc5 flX3_131 rfl rfl dX3_workLock_86 rfl ?_
        refine r_imul (q := 90) hX dX3_workLock_89 rfl ?_
        refine r_iadd (q := 91) hX dX3_workLock_90 rfl ?_
        refine r_icmp_ge (tgt := 96) (q := 94) hX dX3_workLock_91 (by decide) rfl (fun hb25 => ?_) (fun hb25 => ?_)
        · refine r_aload_n (i := 0) (x := a0) (q := 97) 0 hX dX3_workLock_96 rfl rfl rfl ?_
          refine r_dup (q := 98) hX dX3_workLock_97 rfl rfl ?_
          refine r_getJ (a := a0) (ci := 3) (kf := 10) (q := 101) hX hc1 flX3_90 rfl rfl dX3_workLock_98 rfl ?_
          refine r_aload_n (i := 0) (x := a0) (q := 102) 0 hX dX3_workLock_101 rfl rfl rfl ?_
          refine r_getR (a := a0) (ci := 3) (kf := 1) (q := 105) hX hc1 flX3_19 rfl dX3_workLock_102 rfl ?_
          refine r_iload_n (i := 1) (x := x1) (q := 106) 1 hX dX3_workLock_105 rfl rfl rfl ?_
          refine r_aald (a := (rR M a0 1)) (i := x1) (q := 107) hX arT_111 hc19 dX3_workLock_106 rfl ?_
          refine r_iload_n (i := 3) (x := v6) (q := 108) 3 hX dX3_workLock_107 rfl rfl rfl ?_
          refine r_aload (i := 6) (x := v17) (q := 110) 6 hX dX3_workLock_108 rfl rfl ?_
          refine r_iload_n (i := 3) (x := v6) (q := 111) 3 hX dX3_workLock_110 rfl rfl rfl ?_
          refine r_jn (J := fun (v29 : Nat) (P : Option Res) => Ref mX3_workLock X 0 0 Z M 121 [(0, vr a0), (2, vr v2)] [vr v29, vr v17, vi v6, vr (rR M (rR M a0 1) (ix x1)), vj (rJ M a0 10), vr a0] P) (fun v29 => ?_) (fun K1 hj27 => ?_)
          · refine r_bind (fun v30 h31 => ?_)
            refine r_cv (a := (rR M (rR M a0 1) (ix x1))) (As := [vi v6, vr v17, vr v29]) (st := [vj (rJ M a0 10), vr a0]) (r := (some (vi v30.1))) (Z1 := Z) (M1 := v30.2) (k1 := 0) (n1 := 0) (st1 := [vi v30.1, vj (rJ M a0 10), vr a0]) (q := 124) hX (fun l => kX4_letThrough l Z M (rR M (rR M a0 1) (ix x1)) v6 v17 v29 v30 h31) hc20 ivX4_letThrough ccX4_letThrough (Or.inl lkX3_134) rfl rfl rfl ⟨Nat.le_of_ble_eq_true rfl, Nat.le_of_ble_eq_true rfl, rfl, rfl, Nat.le_of_ble_eq_true rfl, Nat.le_of_ble_eq_true rfl⟩ (Nat.le_of_ble_eq_true rfl) dX3_workLock_121 rfl ?_
            refine r_i2l (q := 125) hX dX3_workLock_124 rfl ?_
            refine r_ladd (q := 126) hX dX3_workLock_125 rfl ?_
            refine r_putJ (a := a0) (ci := 3) (kf := 10) (q := 129) hX hc1 flX3_90 rfl rfl (Or.inl rfl) rfl rfl dX3_workLock_126 rfl (fun M32 => ?_)
            refine r_aload_n (i := 2) (x := v2) (q := 130) 1 hX dX3_workLock_129 rfl rfl rfl ?_
            refine r_aload_n (i := 2) (x := v2) (q := 131) 1 hX dX3_workLock_130 rfl rfl rfl ?_
            refine r_bind (fun v33 h34 => ?_)
            refine r_cv (a := v2) (As := []) (st := [vr v2]) (r := (some (vi v33))) (Z1 := Z) (M1 := M32) (k1 := 0) (n1 := 0) (st1 := [vi v33, vr v2]) (q := 134) hX (fun l => kX1_nextPlace l Z M32 v2 v33 h34) hc5 ivX1_nextPlace ccX1_nextPlace (Or.inl lkX3_121) rfl rfl rfl ⟨Nat.le_of_ble_eq_true rfl, Nat.le_of_ble_eq_true rfl, rfl, rfl, Nat.le_of_ble_eq_true rfl, Nat.le_of_ble_eq_true rfl⟩ (Nat.le_of_ble_eq_true rfl) dX3_workLock_131 rfl ?_
            refine r_aload_n (i := 0) (x := a0) (q := 135) 0 hX dX3_workLock_134 rfl rfl rfl ?_
            refine r_getI (a := a0) (ci := 3) (kf := 8) (q := 138) hX hc1 flX3_60 rfl rfl dX3_workLock_135 rfl ?_
            refine r_bind (fun v35 h36 => ?_)
            refine r_cv (a := v2) (As := [vi v33, vi (rI M32 a0 8)]) (st := []) (r := none) (Z1 := Z) (M1 := v35) (k1 := 0) (n1 := 0) (st1 := []) (q := 141) hX (fun l => kX1_comeInto l Z M32 v2 v33 (rI M32 a0 8) v35 h36) hc5 ivX1_comeInto ccX1_comeInto (Or.inl lkX3_63) rfl rfl rfl ⟨Nat.le_of_ble_eq_true rfl, Nat.le_of_ble_eq_true rfl, rfl, rfl, Nat.le_of_ble_eq_true rfl, Nat.le_of_ble_eq_true rfl⟩ (Nat.le_of_ble_eq_true rfl) dX3_workLock_138 rfl ?_
            refine r_iconst (v := (1 : Int32)) (q := 142) hX dX3_workLock_141 rfl rfl ?_
            refine r_lf (hK _) ?_
            exact r_zret hM rfl (Or.inr rfl) (Nat.le_of_ble_eq_true rfl) (Nat.le_of_ble_eq_true rfl) dX3_workLock_142
          · refine r_if_eq (tgt := 119) (q := 114) hX dX3_workLock_111 (by decide) rfl (fun hb26 => ?_) (fun hb26 => ?_)
            · refine r_aload (i := 4) (x := z11) (q := 121) 4 hX dX3_workLock_119 rfl rfl ?_
              refine r_l0 ?_
              refine r_sub [0, 2] rfl ?_
              exact hj27 z11
            · refine r_aload (i := 5) (x := z13) (q := 116) 5 hX dX3_workLock_114 rfl rfl ?_
              refine r_goto (q := 121) hX dX3_workLock_116 (by decide) ?_
              refine r_l0 ?_
              refine r_sub [0, 2] rfl ?_
              exact hj27 z13
        · refine r_iconst (v := (0 : Int32)) (q := 95) hX dX3_workLock_94 rfl rfl ?_
          refine r_lf (hK _) ?_
          exact r_zret hM rfl (Or.inl rfl) (Nat.le_of_ble_eq_true rfl) (Nat.le_of_ble_eq_true rfl) dX3_workLock_95
    · refine r_if_eq (tgt := 52) (q := 47) hX dX3_workLock_44 (by decide) rfl (fun hb14 => ?_) (fun hb14 => ?_)
      · refine r_aload (i := 5) (x := z13) (q := 54) 5 hX dX3_workLock_52 rfl rfl ?_
        refine r_l0 ?_
        exact hj15 z13
      · refine r_aload (i := 4) (x := z11) (q := 49) 4 hX dX3_workLock_47 rfl rfl ?_
        refine r_goto (q := 54) hX dX3_workLock_49 (by decide) ?_
        refine r_l0 ?_
        exact hj15 z11
theorem flX3_155 : FL RX3 155 1 8 := ⟨Nat.le_of_ble_eq_true rfl, Nat.le_of_ble_eq_true rfl, gd (hcw2_10 _ (List.mem_of_getElem? (i := 19) rfl)) rfl⟩
def mX3_countWaiting : MD := (yX3_countWaiting, cX3_countWaiting, 2, none, 2, 41, 0, 0)
theorem ccX3_countWaiting : Cc mX3_countWaiting 0 := ⟨gd (hcw1_0 _ (List.mem_of_getElem? (i := 2) rfl)) rfl, gd (hcw3_4 _ (List.mem_of_getElem? (i := 15) rfl)) rfl, by decide +kernel, by decide +kernel, by decide +kernel⟩
theorem ivX3_countWaiting : Iv mX3_countWaiting 3 := ⟨Nat.le_of_ble_eq_true rfl, rfl, gd (hcw3_4 _ (List.mem_of_getElem? (i := 14) rfl)) rfl, gd (hps1 _ (List.mem_of_getElem? (i := 8) rfl)) rfl⟩
noncomputable def fX3_countWaiting (Z : Shp) (M : Mem) (a0 : Nat) : Option (Mem) := (loop (fun s1 : Int32 × Mem => (if tg Z a0 = (4, 11) then (if (rI s1.2 a0 6) ≤ s1.1 then some (Sum.inr s1.2) else (if aok Z (rR s1.2 a0 4) 113 s1.1 then (if tg Z (rR s1.2 (rR s1.2 a0 4) (ix s1.1)) = (2, 10) then (Option.bind (fX1_isReady Z s1.2 (rR s1.2 (rR s1.2 a0 4) (ix s1.1)) (rI s1.2 a0 8)) (fun v8 => (if v8 = 0 then some (Sum.inl ((s1.1 + (1 : Int32)), s1.2)) else (pu (wI s1.2 (rR s1.2 (rR s1.2 a0 4) (ix s1.1)) 8 ((rI s1.2 (rR s1.2 (rR s1.2 a0 4) (ix s1.1)) 8) + (1 : Int32))) (fun M11 => some (Sum.inl ((s1.1 + (1 : Int32)), M11))))))) else none) else none)) else none)) ((0 : Int32), M))
set_option maxRecDepth 20000 in
theorem kX3_countWaiting (l : Launch) (Z : Shp) (M : Mem) (a0 : Nat) (r : Mem) (h : fX3_countWaiting Z M a0 = some r) : Ct l mX3_countWaiting [vr a0] Z M (none, Z, r) := by
  refine Ct.of rfl (Nat.le_of_ble_eq_true rfl) (fun X hM => ?_)
  have hX := hM.1
  refine r_top (mk := fun r => (none, Z, r)) h (fun K hK => ?_)
  unfold fX3_countWaiting
  refine r_iconst (v := (0 : Int32)) (q := 1) hX dX3_countWaiting_0 rfl rfl ?_
  refine r_istore_n (x := (0 : Int32)) (q := 2) 1 [1, 0] (L1 := [(0, vr a0), (1, vi (0 : Int32))]) hX dX3_countWaiting_1 rfl (Nat.le_of_ble_eq_true rfl) rfl rfl ?_
  refine r_loop (Hd := fun (s1 : Int32 × Mem) (P : Option Res) => Ref mX3_countWaiting X 0 0 Z s1.2 2 [(0, vr a0), (1, vi s1.1)] [] P) (fun _ => r_none) (fun s1 K1 hn2 hx3 => ?_) ((0 : Int32), M)
  refine r_iload_n (i := 1) (x := s1.1) (q := 3) 1 hX dX3_countWaiting_2 rfl rfl rfl ?_
  refine r_aload_n (i := 0) (x := a0) (q := 4) 0 hX dX3_countWaiting_3 rfl rfl rfl ?_
  refine r_ck (fun hc4 => ?_)
  refine r_getI (a := a0) (ci := 3) (kf := 6) (q := 7) hX hc4 flX3_51 rfl rfl dX3_countWaiting_4 rfl ?_
  refine r_icmp_ge (tgt := 47) (q := 10) hX dX3_countWaiting_7 (by decide) rfl (fun hb5 => ?_) (fun hb5 => ?_)
  · refine r_lf ((hx3 _).trans (hK _)) ?_
    exact r_vret hM rfl (Nat.le_of_ble_eq_true rfl) (Nat.le_of_ble_eq_true rfl) dX3_countWaiting_47
  · refine r_aload_n (i := 0) (x := a0) (q := 11) 0 hX dX3_countWaiting_10 rfl rfl rfl ?_
    refine r_getR (a := a0) (ci := 3) (kf := 4) (q := 14) hX hc4 flX3_34 rfl dX3_countWaiting_11 rfl ?_
    refine r_iload_n (i := 1) (x := s1.1) (q := 15) 1 hX dX3_countWaiting_14 rfl rfl rfl ?_
    refine r_ck (fun hc6 => ?_)
    refine r_aald (a := (rR s1.2 a0 4)) (i := s1.1) (q := 16) hX arT_113 hc6 dX3_countWaiting_15 rfl ?_
    refine r_aload_n (i := 0) (x := a0) (q := 17) 0 hX dX3_countWaiting_16 rfl rfl rfl ?_
    refine r_getI (a := a0) (ci := 3) (kf := 8) (q := 20) hX hc4 flX3_60 rfl rfl dX3_countWaiting_17 rfl ?_
    refine r_ck (fun hc7 => ?_)
    refine r_bind (fun v8 h9 => ?_)
    refine r_cv (a := (rR s1.2 (rR s1.2 a0 4) (ix s1.1))) (As := [vi (rI s1.2 a0 8)]) (st := []) (r := (some (vi v8))) (Z1 := Z) (M1 := s1.2) (k1 := 0) (n1 := 0) (st1 := [vi v8]) (q := 23) hX (fun l => kX1_isReady l Z s1.2 (rR s1.2 (rR s1.2 a0 4) (ix s1.1)) (rI s1.2 a0 8) v8 h9) hc7 ivX1_isReady ccX1_isReady (Or.inl lkX3_138) rfl rfl rfl ⟨Nat.le_of_ble_eq_true rfl, Nat.le_of_ble_eq_true rfl, rfl, rfl, Nat.le_of_ble_eq_true rfl, Nat.le_of_ble_eq_true rfl⟩ (Nat.le_of_ble_eq_true rfl) dX3_countWaiting_20 rfl ?_
    refine r_if_eq (tgt := 41) (q := 26) hX dX3_countWaiting_23 (by decide) rfl (fun hb10 => ?_) (fun hb10 => ?_)
    · refine r_iinc (x := s1.1) (v := (s1.1 + (1 : Int32))) (q := 44) 1 1 [1, 0] (L1 := [(0, vr a0), (1, vi (s1.1 + (1 : Int32)))]) hX dX3_countWaiting_41 rfl rfl (Nat.le_of_ble_eq_true rfl) rfl rfl ?_
      refine r_goto (q := 2) hX dX3_countWaiting_44 (by decide) ?_
      refine r_l0 ?_
      exact hn2 ((s1.1 + (1 : Int32)), s1.2)
    · refine r_aload_n (i := 0) (x := a0) (q := 27) 0 hX dX3_countWaiting_26 rfl rfl rfl ?_
      refine r_getR (a := a0) (ci := 3) (kf := 4) (q := 30) hX hc4 flX3_34 rfl dX3_countWaiting_27 rfl ?_
      refine r_iload_n (i := 1) (x := s1.1) (q := 31) 1 hX dX3_countWaiting_30 rfl rfl rfl ?_
      refine r_aald (a := (rR s1.2 a0 4)) (i := s1.1) (q := 32) hX arT_113 hc6 dX3_countWaiting_31 rfl ?_
      refine r_dup (q := 33) hX dX3_countWaiting_32 rfl rfl ?_
      refine r_getI (a := (rR s1.2 (rR s1.2 a0 4) (ix s1.1))) (ci := 1) (kf := 8) (q := 36) hX hc7 flX3_155 rfl rfl dX3_countWaiting_33 rfl ?_
      refine r_iconst (v := (1 : Int32)) (q := 37) hX dX3_countWaiting_36 rfl rfl ?_
      refine r_iadd (q := 38) hX dX3_countWaiting_37 rfl ?_
      refine r_putI (a := (rR s1.2 (rR s1.2 a0 4) (ix s1.1))) (ci := 1) (kf := 8) (q := 41) hX hc7 flX3_155 rfl rfl (Or.inl rfl) rfl rfl dX3_countWaiting_38 rfl (fun M11 => ?_)
      refine r_iinc (x := s1.1) (v := (s1.1 + (1 : Int32))) (q := 44) 1 1 [1, 0] (L1 := [(0, vr a0), (1, vi (s1.1 + (1 : Int32)))]) hX dX3_countWaiting_41 rfl rfl (Nat.le_of_ble_eq_true rfl) rfl rfl ?_
      refine r_goto (q := 2) hX dX3_countWaiting_44 (by decide) ?_
      refine r_l0 ?_
      exact hn2 ((s1.1 + (1 : Int32)), M11)
theorem lkX3_72 : Lk RX3 72 yX3_rainOn := gd (hcw3_1 _ (List.mem_of_getElem? (i := 2) rfl)) rfl
theorem flX3_29 : FL RX3 29 3 3 := ⟨Nat.le_of_ble_eq_true rfl, Nat.le_of_ble_eq_true rfl, gd (hcw1_4 _ (List.mem_of_getElem? (i := 13) rfl)) rfl⟩
theorem lkX3_76 : Lk RX3 76 yX3_serve := gd (hcw3_1 _ (List.mem_of_getElem? (i := 10) rfl)) rfl
theorem lkX3_80 : Lk RX3 80 yX3_workLock := gd (hcw3_1 _ (List.mem_of_getElem? (i := 18) rfl)) rfl
theorem lkX3_84 : Lk RX3 84 yX3_countWaiting := gd (hcw3_4 _ (List.mem_of_getElem? (i := 12) rfl)) rfl
def mX3_goByAnHour : MD := (yX3_goByAnHour, cX3_goByAnHour, 4, (some .int), 5, 106, 0, 0)
theorem ccX3_goByAnHour : Cc mX3_goByAnHour 1 := ⟨gd (hcw1_0 _ (List.mem_of_getElem? (i := 2) rfl)) rfl, gd (hcw3_1 _ (List.mem_of_getElem? (i := 1) rfl)) rfl, by decide +kernel, by decide +kernel, by decide +kernel⟩
theorem ivX3_goByAnHour : Iv mX3_goByAnHour 3 := ⟨Nat.le_of_ble_eq_true rfl, rfl, gd (hcw3_0 _ (List.mem_of_getElem? (i := 19) rfl)) rfl, gd (hcw3_1 _ (List.mem_of_getElem? (i := 0) rfl)) rfl⟩
noncomputable def fX3_goByAnHour (Z : Shp) (M : Mem) (a0 : Nat) (x1 : Int32) : Option (Int32 × Mem) := (if tg Z a0 = (4, 11) then (Option.bind (fX3_rainOn Z M a0 x1) (fun v2 => (Option.bind (loop (fun s7 : Int32 × Mem => (if (rI s7.2 a0 5) ≤ s7.1 then some (Sum.inr s7.2) else (if aok Z (rR s7.2 a0 3) 112 s7.1 then (Option.bind (fX3_serve Z s7.2 a0 (rR s7.2 (rR s7.2 a0 3) (ix s7.1))) (fun v12 => some (Sum.inl ((s7.1 + (1 : Int32)), v12)))) else none))) ((0 : Int32), v2)) (fun v6 : Mem => (Option.bind (loop (fun s17 : Int32 × Int32 × Mem => (if (7 : Int32) ≤ s17.2.1 then some (Sum.inr (s17.1, s17.2.2)) else (Option.bind (fX3_workLock Z s17.2.2 a0 s17.2.1) (fun v21 => (if v21.1 = 0 then (pu ((s17.1 + (0 : Int32))) (fun z24 => some (Sum.inl (z24, (s17.2.1 + (1 : Int32)), v21.2)))) else (pu ((s17.1 + (1 : Int32))) (fun z25 => some (Sum.inl (z25, (s17.2.1 + (1 : Int32)), v21.2))))))))) ((0 : Int32), (0 : Int32), v6)) (fun v16 : Int32 × Mem => (Option.bind (fX3_countWaiting Z v16.2 a0) (fun v26 => (pu (wI v26 a0 8 ((rI v26 a0 8) + (1 : Int32))) (fun M28 => some (v16.1, M28))))))))))) else none)
set_option maxRecDepth 20000 in
theorem kX3_goByAnHour (l : Launch) (Z : Shp) (M : Mem) (a0 : Nat) (x1 : Int32) (r : Int32 × Mem) (h : fX3_goByAnHour Z M a0 x1 = some r) : Ct l mX3_goByAnHour [vr a0, vi x1] Z M ((some (vi r.1)), Z, r.2) := by
  refine Ct.of rfl (Nat.le_of_ble_eq_true rfl) (fun X hM => ?_)
  have hX := hM.1
  refine r_top (mk := fun r => ((some (vi r.1)), Z, r.2)) h (fun K hK => ?_)
  unfold fX3_goByAnHour
  refine r_aload_n (i := 0) (x := a0) (q := 1) 0 hX dX3_goByAnHour_0 rfl rfl rfl ?_
  refine r_iload_n (i := 1) (x := x1) (q := 2) 1 hX dX3_goByAnHour_1 rfl rfl rfl ?_
  refine r_ck (fun hc1 => ?_)
  refine r_bind (fun v2 h3 => ?_)
  refine r_cv (a := a0) (As := [vi x1]) (st := []) (r := none) (Z1 := Z) (M1 := v2) (k1 := 0) (n1 := 0) (st1 := []) (q := 5) hX (fun l => kX3_rainOn l Z M a0 x1 v2 h3) hc1 ivX3_rainOn ccX3_rainOn (Or.inl lkX3_72) rfl rfl rfl ⟨Nat.le_of_ble_eq_true rfl, Nat.le_of_ble_eq_true rfl, rfl, rfl, Nat.le_of_ble_eq_true rfl, Nat.le_of_ble_eq_true rfl⟩ (Nat.le_of_ble_eq_true rfl) dX3_goByAnHour_2 rfl ?_
  refine r_iconst (v := (0 : Int32)) (q := 6) hX dX3_goByAnHour_5 rfl rfl ?_
  refine r_istore_n (x := (0 : Int32)) (q := 7) 2 [1, 2, 0] (L1 := [(0, vr a0), (1, vi x1), (2, vi (0 : Int32))]) hX dX3_goByAnHour_6 rfl (Nat.le_of_ble_eq_true rfl) rfl rfl ?_
  refine r_jn (J := fun (v6 : Mem) (P : Option Res) => Ref mX3_goByAnHour X 0 0 Z v6 31 [(0, vr a0)] [] P) (fun v6 => ?_) (fun K1 hj4 => ?_)
  · refine r_iconst (v := (0 : Int32)) (q := 32) hX dX3_goByAnHour_31 rfl rfl ?_
    refine r_istore_n (x := (0 : Int32)) (q := 33) 2 [1, 0] (L1 := [(0, vr a0), (2, vi (0 : Int32))]) hX dX3_goByAnHour_32 rfl (Nat.le_of_ble_eq_true rfl) rfl rfl ?_
    refine r_iconst (v := (0 : Int32)) (q := 34) hX dX3_goByAnHour_33 rfl rfl ?_
    refine r_istore_n (x := (0 : Int32)) (q := 35) 3 [1, 2, 0] (L1 := [(0, vr a0), (2, vi (0 : Int32)), (3, vi (0 : Int32))]) hX dX3_goByAnHour_34 rfl (Nat.le_of_ble_eq_true rfl) rfl rfl ?_
    refine r_jn (J := fun (v16 : Int32 × Mem) (P : Option Res) => Ref mX3_goByAnHour X 0 0 Z v16.2 63 [(0, vr a0), (2, vi v16.1)] [] P) (fun v16 => ?_) (fun K1 hj14 => ?_)
    · refine r_aload_n (i := 0) (x := a0) (q := 64) 0 hX dX3_goByAnHour_63 rfl rfl rfl ?_
      refine r_bind (fun v26 h27 => ?_)
      refine r_cv (a := a0) (As := []) (st := []) (r := none) (Z1 := Z) (M1 := v26) (k1 := 0) (n1 := 0) (st1 := []) (q := 67) hX (fun l => kX3_countWaiting l Z v16.2 a0 v26 h27) hc1 ivX3_countWaiting ccX3_countWaiting (Or.inl lkX3_84) rfl rfl rfl ⟨Nat.le_of_ble_eq_true rfl, Nat.le_of_ble_eq_true rfl, rfl, rfl, Nat.le_of_ble_eq_true rfl, Nat.le_of_ble_eq_true rfl⟩ (Nat.le_of_ble_eq_true rfl) dX3_goByAnHour_64 rfl ?_
      refine r_aload_n (i := 0) (x := a0) (q := 68) 0 hX dX3_goByAnHour_67 rfl rfl rfl ?_
      refine r_dup (q := 69) hX dX3_goByAnHour_68 rfl rfl ?_
      refine r_getI (a := a0) (ci := 3) (kf := 8) (q := 72) hX hc1 flX3_60 rfl rfl dX3_goByAnHour_69 rfl ?_
      refine r_iconst (v := (1 : Int32)) (q := 73) hX dX3_goByAnHour_72 rfl rfl ?_
      refine r_iadd (q := 74) hX dX3_goByAnHour_73 rfl ?_
      refine r_putI (a := a0) (ci := 3) (kf := 8) (q := 77) hX hc1 flX3_60 rfl rfl (Or.inl rfl) rfl rfl dX3_goByAnHour_74 rfl (fun M28 => ?_)
      refine r_iload_n (i := 2) (x := v16.1) (q := 78) 1 hX dX3_goByAnHour_77 rfl rfl rfl ?_
      refine r_lf (hK _) ?_
      exact r_iret hM rfl (Nat.le_of_ble_eq_true rfl) (Nat.le_of_ble_eq_true rfl) dX3_goByAnHour_78
    · refine r_loop (Hd := fun (s17 : Int32 × Int32 × Mem) (P : Option Res) => Ref mX3_goByAnHour X 0 0 Z s17.2.2 35 [(0, vr a0), (2, vi s17.1), (3, vi s17.2.1)] [] P) (fun _ => r_none) (fun s17 K1 hn18 hx19 => ?_) ((0 : Int32), (0 : Int32), v6)
      refine r_iload_n (i := 3) (x := s17.2.1) (q := 36) 2 hX dX3_goByAnHour_35 rfl rfl rfl ?_
      refine r_bipush (v := (7 : Int32)) (q := 38) hX dX3_goByAnHour_36 rfl rfl ?_
      refine r_icmp_ge (tgt := 63) (q := 41) hX dX3_goByAnHour_38 (by decide) rfl (fun hb20 => ?_) (fun hb20 => ?_)
      · refine r_lf (hx19 _) ?_
        refine r_sub [0, 1] rfl ?_
        exact hj14 (s17.1, s17.2.2)
      · refine r_iload_n (i := 2) (x := s17.1) (q := 42) 1 hX dX3_goByAnHour_41 rfl rfl rfl ?_
        refine r_aload_n (i := 0) (x := a0) (q := 43) 0 hX dX3_goByAnHour_42 rfl rfl rfl ?_
        refine r_iload_n (i := 3) (x := s17.2.1) (q := 44) 2 hX dX3_goByAnHour_43 rfl rfl rfl ?_
        refine r_bind (fun v21 h22 => ?_)
        refine r_cv (a := a0) (As := [vi s17.2.1]) (st := [vi s17.1]) (r := (some (vi v21.1))) (Z1 := Z) (M1 := v21.2) (k1 := 0) (n1 := 0) (st1 := [vi v21.1, vi s17.1]) (q := 47) hX (fun l => kX3_workLock l Z s17.2.2 a0 s17.2.1 v21 h22) hc1 ivX3_workLock ccX3_workLock (Or.inl lkX3_80) rfl rfl rfl ⟨Nat.le_of_ble_eq_true rfl, Nat.le_of_ble_eq_true rfl, rfl, rfl, Nat.le_of_ble_eq_true rfl, Nat.le_of_ble_eq_true rfl⟩ (Nat.le_of_ble_eq_true rfl) dX3_goByAnHour_44 rfl ?_
        refine r_if_eq (tgt := 54) (q := 50) hX dX3_goByAnHour_47 (by decide) rfl (fun hb23 => ?_) (fun hb23 => ?_)
        · refine r_iconst (v := (0 : Int32)) (q := 55) hX dX3_goByAnHour_54 rfl rfl ?_
          refine r_iadd (q := 56) hX dX3_goByAnHour_55 rfl ?_
          refine r_istore_nP (x := (s17.1 + (0 : Int32))) (q := 57) 2 [1, 0, 3] (fun z24 => [(0, vr a0), (2, vi z24), (3, vi s17.2.1)]) hX dX3_goByAnHour_56 rfl (Nat.le_of_ble_eq_true rfl) (fun _ => rfl) rfl (fun z24 => ?_)
          refine r_iinc (x := s17.2.1) (v := (s17.2.1 + (1 : Int32))) (q := 60) 3 2 [1, 2, 0] (L1 := [(0, vr a0), (2, vi z24), (3, vi (s17.2.1 + (1 : Int32)))]) hX dX3_goByAnHour_57 rfl rfl (Nat.le_of_ble_eq_true rfl) rfl rfl ?_
          refine r_goto (q := 35) hX dX3_goByAnHour_60 (by decide) ?_
          refine r_l0 ?_
          exact hn18 (z24, (s17.2.1 + (1 : Int32)), v21.2)
        · refine r_iconst (v := (1 : Int32)) (q := 51) hX dX3_goByAnHour_50 rfl rfl ?_
          refine r_goto (q := 55) hX dX3_goByAnHour_51 (by decide) ?_
          refine r_iadd (q := 56) hX dX3_goByAnHour_55 rfl ?_
          refine r_istore_nP (x := (s17.1 + (1 : Int32))) (q := 57) 2 [1, 0, 3] (fun z25 => [(0, vr a0), (2, vi z25), (3, vi s17.2.1)]) hX dX3_goByAnHour_56 rfl (Nat.le_of_ble_eq_true rfl) (fun _ => rfl) rfl (fun z25 => ?_)
          refine r_iinc (x := s17.2.1) (v := (s17.2.1 + (1 : Int32))) (q := 60) 3 2 [1, 2, 0] (L1 := [(0, vr a0), (2, vi z25), (3, vi (s17.2.1 + (1 : Int32)))]) hX dX3_goByAnHour_57 rfl rfl (Nat.le_of_ble_eq_true rfl) rfl rfl ?_
          refine r_goto (q := 35) hX dX3_goByAnHour_60 (by decide) ?_
          refine r_l0 ?_
          exact hn18 (z25, (s17.2.1 + (1 : Int32)), v21.2)
  · refine r_sub [0, 2] rfl ?_
    refine r_loop (Hd := fun (s7 : Int32 × Mem) (P : Option Res) => Ref mX3_goByAnHour X 0 0 Z s7.2 7 [(0, vr a0), (2, vi s7.1)] [] P) (fun _ => r_none) (fun s7 K1 hn8 hx9 => ?_) ((0 : Int32), v2)
    refine r_iload_n (i := 2) (x := s7.1) (q := 8) 1 hX dX3_goByAnHour_7 rfl rfl rfl ?_
    refine r_aload_n (i := 0) (x := a0) (q := 9) 0 hX dX3_goByAnHour_8 rfl rfl rfl ?_
    refine r_getI (a := a0) (ci := 3) (kf := 5) (q := 12) hX hc1 flX3_48 rfl rfl dX3_goByAnHour_9 rfl ?_
    refine r_icmp_ge (tgt := 31) (q := 15) hX dX3_goByAnHour_12 (by decide) rfl (fun hb10 => ?_) (fun hb10 => ?_)
    · refine r_lf (hx9 _) ?_
      refine r_sub [0] rfl ?_
      exact hj4 s7.2
    · refine r_aload_n (i := 0) (x := a0) (q := 16) 0 hX dX3_goByAnHour_15 rfl rfl rfl ?_
      refine r_aload_n (i := 0) (x := a0) (q := 17) 0 hX dX3_goByAnHour_16 rfl rfl rfl ?_
      refine r_getR (a := a0) (ci := 3) (kf := 3) (q := 20) hX hc1 flX3_29 rfl dX3_goByAnHour_17 rfl ?_
      refine r_iload_n (i := 2) (x := s7.1) (q := 21) 1 hX dX3_goByAnHour_20 rfl rfl rfl ?_
      refine r_ck (fun hc11 => ?_)
      refine r_aald (a := (rR s7.2 a0 3)) (i := s7.1) (q := 22) hX arT_112 hc11 dX3_goByAnHour_21 rfl ?_
      refine r_bind (fun v12 h13 => ?_)
      refine r_cv (a := a0) (As := [vr (rR s7.2 (rR s7.2 a0 3) (ix s7.1))]) (st := []) (r := none) (Z1 := Z) (M1 := v12) (k1 := 0) (n1 := 0) (st1 := []) (q := 25) hX (fun l => kX3_serve l Z s7.2 a0 (rR s7.2 (rR s7.2 a0 3) (ix s7.1)) v12 h13) hc1 ivX3_serve ccX3_serve (Or.inl lkX3_76) rfl rfl rfl ⟨Nat.le_of_ble_eq_true rfl, Nat.le_of_ble_eq_true rfl, rfl, rfl, Nat.le_of_ble_eq_true rfl, Nat.le_of_ble_eq_true rfl⟩ (Nat.le_of_ble_eq_true rfl) dX3_goByAnHour_22 rfl ?_
      refine r_iinc (x := s7.1) (v := (s7.1 + (1 : Int32))) (q := 28) 2 1 [1, 0] (L1 := [(0, vr a0), (2, vi (s7.1 + (1 : Int32)))]) hX dX3_goByAnHour_25 rfl rfl (Nat.le_of_ble_eq_true rfl) rfl rfl ?_
      refine r_goto (q := 7) hX dX3_goByAnHour_28 (by decide) ?_
      refine r_l0 ?_
      exact hn8 ((s7.1 + (1 : Int32)), v12)
theorem lkX11_130 : Lk RX11 130 yX3_goByAnHour := gd (hcw3_0 _ (List.mem_of_getElem? (i := 18) rfl)) rfl
def mX11_hours : MD := (yX11_hours, cX11_hours, 5, (some .int), 6, 129, 0, 0)
theorem ccX11_hours : Cc mX11_hours 2 := ⟨gd (hcw1_0 _ (List.mem_of_getElem? (i := 1) rfl)) rfl, gd (hcw3_0 _ (List.mem_of_getElem? (i := 17) rfl)) rfl, by decide +kernel, by decide +kernel, by decide +kernel⟩
theorem ivX11_hours : Iv mX11_hours 11 := ⟨Nat.le_of_ble_eq_true rfl, rfl, gd (hcw3_0 _ (List.mem_of_getElem? (i := 15) rfl)) rfl, gd (hcw3_0 _ (List.mem_of_getElem? (i := 16) rfl)) rfl⟩
noncomputable def fX11_hours (Z : Shp) (M : Mem) (a0 : Nat) (x1 : Int32) (x2 : Int32) : Option (Int32 × Mem) := (if (fX11_within x1 (1 : Int32) (100 : Int32)) = 0 then some ((-102 : Int32), M) else (if (fX11_within x2 (0 : Int32) (50 : Int32)) = 0 then some ((-102 : Int32), M) else (if tg Z a0 = (12, 6) then (if tg Z (rR M a0 0) = (4, 11) then (if ((rI M (rR M a0 0) 8) + x1) ≤ (600 : Int32) then (loop (fun s6 : Int32 × Int32 × Mem => (if x1 ≤ s6.2.1 then some (Sum.inr (s6.1, s6.2.2)) else (if tg Z (rR s6.2.2 a0 0) = (4, 11) then (Option.bind (fX3_goByAnHour Z s6.2.2 (rR s6.2.2 a0 0) x2) (fun v11 => (pu ((s6.1 + v11.1)) (fun z13 => some (Sum.inl (z13, (s6.2.1 + (1 : Int32)), v11.2)))))) else none))) ((0 : Int32), (0 : Int32), M)) else some ((-103 : Int32), M)) else none) else none)))
set_option maxRecDepth 20000 in
theorem kX11_hours (l : Launch) (Z : Shp) (M : Mem) (a0 : Nat) (x1 : Int32) (x2 : Int32) (r : Int32 × Mem) (h : fX11_hours Z M a0 x1 x2 = some r) : Ct l mX11_hours [vr a0, vi x1, vi x2] Z M ((some (vi r.1)), Z, r.2) := by
  refine Ct.of rfl (Nat.le_of_ble_eq_true rfl) (fun X hM => ?_)
  have hX := hM.1
  refine r_top (mk := fun r => ((some (vi r.1)), Z, r.2)) h (fun K hK => ?_)
  unfold fX11_hours
  refine r_iload_n (i := 1) (x := x1) (q := 1) 1 hX dX11_hours_0 rfl rfl rfl ?_
  refine r_iconst (v := (1 : Int32)) (q := 2) hX dX11_hours_1 rfl rfl ?_
  refine r_bipush (v := (100 : Int32)) (q := 4) hX dX11_hours_2 rfl rfl ?_
  refine r_cs (As := [vi x1, vi (1 : Int32), vi (100 : Int32)]) (st := []) (r := (some (vi (fX11_within x1 (1 : Int32) (100 : Int32))))) (Z1 := Z) (M1 := M) (k1 := 0) (n1 := 0) (st1 := [vi (fX11_within x1 (1 : Int32) (100 : Int32))]) (q := 7) hX (fun l => kX11_within l Z M x1 (1 : Int32) (100 : Int32)) stX11_within ccX11_within (Or.inl lkX11_55) rfl rfl rfl ⟨Nat.le_of_ble_eq_true rfl, Nat.le_of_ble_eq_true rfl, rfl, rfl, Nat.le_of_ble_eq_true rfl, Nat.le_of_ble_eq_true rfl⟩ (Nat.le_of_ble_eq_true rfl) dX11_hours_4 rfl ?_
  refine r_if_eq (tgt := 20) (q := 10) hX dX11_hours_7 (by decide) rfl (fun hb1 => ?_) (fun hb1 => ?_)
  · refine r_bipush (v := (-102 : Int32)) (q := 22) hX dX11_hours_20 rfl rfl ?_
    refine r_lf (hK _) ?_
    exact r_iret hM rfl (Nat.le_of_ble_eq_true rfl) (Nat.le_of_ble_eq_true rfl) dX11_hours_22
  · refine r_iload_n (i := 2) (x := x2) (q := 11) 2 hX dX11_hours_10 rfl rfl rfl ?_
    refine r_iconst (v := (0 : Int32)) (q := 12) hX dX11_hours_11 rfl rfl ?_
    refine r_bipush (v := (50 : Int32)) (q := 14) hX dX11_hours_12 rfl rfl ?_
    refine r_cs (As := [vi x2, vi (0 : Int32), vi (50 : Int32)]) (st := []) (r := (some (vi (fX11_within x2 (0 : Int32) (50 : Int32))))) (Z1 := Z) (M1 := M) (k1 := 0) (n1 := 0) (st1 := [vi (fX11_within x2 (0 : Int32) (50 : Int32))]) (q := 17) hX (fun l => kX11_within l Z M x2 (0 : Int32) (50 : Int32)) stX11_within ccX11_within (Or.inl lkX11_55) rfl rfl rfl ⟨Nat.le_of_ble_eq_true rfl, Nat.le_of_ble_eq_true rfl, rfl, rfl, Nat.le_of_ble_eq_true rfl, Nat.le_of_ble_eq_true rfl⟩ (Nat.le_of_ble_eq_true rfl) dX11_hours_14 rfl ?_
    refine r_if_ne (tgt := 23) (q := 20) hX dX11_hours_17 (by decide) rfl (fun hb2 => ?_) (fun hb2 => ?_)
    · refine r_bipush (v := (-102 : Int32)) (q := 22) hX dX11_hours_20 rfl rfl ?_
      refine r_lf (hK _) ?_
      exact r_iret hM rfl (Nat.le_of_ble_eq_true rfl) (Nat.le_of_ble_eq_true rfl) dX11_hours_22
    · refine r_aload_n (i := 0) (x := a0) (q := 24) 0 hX dX11_hours_23 rfl rfl rfl ?_
      refine r_ck (fun hc3 => ?_)
      refine r_getR (a := a0) (ci := 11) (kf := 0) (q := 27) hX hc3 flX11_12 rfl dX11_hours_24 rfl ?_
      refine r_ck (fun hc4 => ?_)
      refine r_getI (a := (rR M a0 0)) (ci := 3) (kf := 8) (q := 30) hX hc4 flX11_69 rfl rfl dX11_hours_27 rfl ?_
      refine r_iload_n (i := 1) (x := x1) (q := 31) 1 hX dX11_hours_30 rfl rfl rfl ?_
      refine r_iadd (q := 32) hX dX11_hours_31 rfl ?_
      refine r_sipush (v := (600 : Int32)) (q := 35) hX dX11_hours_32 rfl rfl ?_
      refine r_icmp_le (tgt := 41) (q := 38) hX dX11_hours_35 (by decide) rfl (fun hb5 => ?_) (fun hb5 => ?_)
      · refine r_iconst (v := (0 : Int32)) (q := 42) hX dX11_hours_41 rfl rfl ?_
        refine r_istore_n (x := (0 : Int32)) (q := 43) 3 [1, 2, 3, 0] (L1 := [(0, vr a0), (1, vi x1), (2, vi x2), (3, vi (0 : Int32))]) hX dX11_hours_42 rfl (Nat.le_of_ble_eq_true rfl) rfl rfl ?_
        refine r_iconst (v := (0 : Int32)) (q := 44) hX dX11_hours_43 rfl rfl ?_
        refine r_istore (x := (0 : Int32)) (q := 46) 4 [1, 2, 3, 4, 0] (L1 := [(0, vr a0), (1, vi x1), (2, vi x2), (3, vi (0 : Int32)), (4, vi (0 : Int32))]) hX dX11_hours_44 (Nat.le_of_ble_eq_true rfl) rfl rfl ?_
        refine r_loop (Hd := fun (s6 : Int32 × Int32 × Mem) (P : Option Res) => Ref mX11_hours X 0 0 Z s6.2.2 46 [(0, vr a0), (1, vi x1), (2, vi x2), (3, vi s6.1), (4, vi s6.2.1)] [] P) (fun _ => r_none) (fun s6 K1 hn7 hx8 => ?_) ((0 : Int32), (0 : Int32), M)
        refine r_iload (i := 4) (x := s6.2.1) (q := 48) 4 hX dX11_hours_46 rfl rfl ?_
        refine r_iload_n (i := 1) (x := x1) (q := 49) 1 hX dX11_hours_48 rfl rfl rfl ?_
        refine r_icmp_ge (tgt := 69) (q := 52) hX dX11_hours_49 (by decide) rfl (fun hb9 => ?_) (fun hb9 => ?_)
        · refine r_iload_n (i := 3) (x := s6.1) (q := 70) 3 hX dX11_hours_69 rfl rfl rfl ?_
          refine r_lf ((hx8 _).trans (hK _)) ?_
          exact r_iret hM rfl (Nat.le_of_ble_eq_true rfl) (Nat.le_of_ble_eq_true rfl) dX11_hours_70
        · refine r_iload_n (i := 3) (x := s6.1) (q := 53) 3 hX dX11_hours_52 rfl rfl rfl ?_
          refine r_aload_n (i := 0) (x := a0) (q := 54) 0 hX dX11_hours_53 rfl rfl rfl ?_
          refine r_getR (a := a0) (ci := 11) (kf := 0) (q := 57) hX hc3 flX11_12 rfl dX11_hours_54 rfl ?_
          refine r_iload_n (i := 2) (x := x2) (q := 58) 2 hX dX11_hours_57 rfl rfl rfl ?_
          refine r_ck (fun hc10 => ?_)
          refine r_bind (fun v11 h12 => ?_)
          refine r_cv (a := (rR s6.2.2 a0 0)) (As := [vi x2]) (st := [vi s6.1]) (r := (some (vi v11.1))) (Z1 := Z) (M1 := v11.2) (k1 := 0) (n1 := 0) (st1 := [vi v11.1, vi s6.1]) (q := 61) hX (fun l => kX3_goByAnHour l Z s6.2.2 (rR s6.2.2 a0 0) x2 v11 h12) hc10 ivX3_goByAnHour ccX3_goByAnHour (Or.inl lkX11_130) rfl rfl rfl ⟨Nat.le_of_ble_eq_true rfl, Nat.le_of_ble_eq_true rfl, rfl, rfl, Nat.le_of_ble_eq_true rfl, Nat.le_of_ble_eq_true rfl⟩ (Nat.le_of_ble_eq_true rfl) dX11_hours_58 rfl ?_
          refine r_iadd (q := 62) hX dX11_hours_61 rfl ?_
          refine r_istore_nP (x := (s6.1 + v11.1)) (q := 63) 3 [1, 2, 3, 0, 5] (fun z13 => [(0, vr a0), (1, vi x1), (2, vi x2), (3, vi z13), (4, vi s6.2.1)]) hX dX11_hours_62 rfl (Nat.le_of_ble_eq_true rfl) (fun _ => rfl) rfl (fun z13 => ?_)
          refine r_iinc (x := s6.2.1) (v := (s6.2.1 + (1 : Int32))) (q := 66) 4 4 [1, 2, 3, 4, 0] (L1 := [(0, vr a0), (1, vi x1), (2, vi x2), (3, vi z13), (4, vi (s6.2.1 + (1 : Int32)))]) hX dX11_hours_63 rfl rfl (Nat.le_of_ble_eq_true rfl) rfl rfl ?_
          refine r_goto (q := 46) hX dX11_hours_66 (by decide) ?_
          refine r_l0 ?_
          exact hn7 (z13, (s6.2.1 + (1 : Int32)), v11.2)
      · refine r_bipush (v := (-103 : Int32)) (q := 40) hX dX11_hours_38 rfl rfl ?_
        refine r_lf (hK _) ?_
        exact r_iret hM rfl (Nat.le_of_ble_eq_true rfl) (Nat.le_of_ble_eq_true rfl) dX11_hours_40
theorem lkX11_127 : Lk RX11 127 yX11_hours := gd (hcw3_0 _ (List.mem_of_getElem? (i := 14) rfl)) rfl
def mX11_hour : MD := (yX11_hour, cX11_hour, 2, (some .int), 7, 153, 0, 0)
theorem ccX11_hour : Cc mX11_hour 1 := ⟨gd (hcw1_0 _ (List.mem_of_getElem? (i := 1) rfl)) rfl, gd (hcw3_0 _ (List.mem_of_getElem? (i := 13) rfl)) rfl, by decide +kernel, by decide +kernel, by decide +kernel⟩
theorem ivX11_hour : Iv mX11_hour 11 := ⟨Nat.le_of_ble_eq_true rfl, rfl, gd (hcw3_0 _ (List.mem_of_getElem? (i := 11) rfl)) rfl, gd (hcw3_0 _ (List.mem_of_getElem? (i := 12) rfl)) rfl⟩
noncomputable def fX11_hour (Z : Shp) (M : Mem) (a0 : Nat) (x1 : Int32) : Option (Int32 × Mem) := (if tg Z a0 = (12, 6) then (Option.bind (fX11_hours Z M a0 (1 : Int32) x1) (fun v2 => some (v2.1, v2.2))) else none)
set_option maxRecDepth 20000 in
theorem kX11_hour (l : Launch) (Z : Shp) (M : Mem) (a0 : Nat) (x1 : Int32) (r : Int32 × Mem) (h : fX11_hour Z M a0 x1 = some r) : Ct l mX11_hour [vr a0, vi x1] Z M ((some (vi r.1)), Z, r.2) := by
  refine Ct.of rfl (Nat.le_of_ble_eq_true rfl) (fun X hM => ?_)
  have hX := hM.1
  refine r_top (mk := fun r => ((some (vi r.1)), Z, r.2)) h (fun K hK => ?_)
  unfold fX11_hour
  refine r_aload_n (i := 0) (x := a0) (q := 1) 0 hX dX11_hour_0 rfl rfl rfl ?_
  refine r_iconst (v := (1 : Int32)) (q := 2) hX dX11_hour_1 rfl rfl ?_
  refine r_iload_n (i := 1) (x := x1) (q := 3) 1 hX dX11_hour_2 rfl rfl rfl ?_
  refine r_ck (fun hc1 => ?_)
  refine r_bind (fun v2 h3 => ?_)
  refine r_cv (a := a0) (As := [vi (1 : Int32), vi x1]) (st := []) (r := (some (vi v2.1))) (Z1 := Z) (M1 := v2.2) (k1 := 0) (n1 := 0) (st1 := [vi v2.1]) (q := 6) hX (fun l => kX11_hours l Z M a0 (1 : Int32) x1 v2 h3) hc1 ivX11_hours ccX11_hours (Or.inl lkX11_127) rfl rfl rfl ⟨Nat.le_of_ble_eq_true rfl, Nat.le_of_ble_eq_true rfl, rfl, rfl, Nat.le_of_ble_eq_true rfl, Nat.le_of_ble_eq_true rfl⟩ (Nat.le_of_ble_eq_true rfl) dX11_hour_3 rfl ?_
  refine r_lf (hK _) ?_
  exact r_iret hM rfl (Nat.le_of_ble_eq_true rfl) (Nat.le_of_ble_eq_true rfl) dX11_hour_6
def mX6_init : MD := (yX6_init, cX6_init, 1, none, 1, 12, 0, 0)
theorem ccX6_init : Cc mX6_init 0 := ⟨gd (hcw1_0 _ (List.mem_of_getElem? (i := 3) rfl)) rfl, gd (hcw1_2 _ (List.mem_of_getElem? (i := 3) rfl)) rfl, by decide +kernel, by decide +kernel, by decide +kernel⟩
theorem imX6_init : Cond.instanceMethod (yN mX6_init) ∈ lw_gd := gd (hcw1_2 _ (List.mem_of_getElem? (i := 2) rfl)) rfl
def fX6_init (Z : Shp) (M : Mem) (a0 : Nat) : Option (Mem) := (if tg Z a0 = (7, 3) then (pu (wI M a0 0 (1000 : Int32)) (fun M2 => (pu (wI M2 a0 1 (1000 : Int32)) (fun M3 => (pu (wI M3 a0 2 (500 : Int32)) (fun M4 => some M4)))))) else none)
set_option maxRecDepth 20000 in
theorem kX6_init (l : Launch) (Z : Shp) (M : Mem) (a0 : Nat) (r : Mem) (h : fX6_init Z M a0 = some r) : Ct l mX6_init [vr a0] Z M (none, Z, r) := by
  refine Ct.of rfl (Nat.le_of_ble_eq_true rfl) (fun X hM => ?_)
  have hX := hM.1
  refine r_top (mk := fun r => (none, Z, r)) h (fun K hK => ?_)
  unfold fX6_init
  refine r_aload_n (i := 0) (x := a0) (q := 1) 0 hX dX6_init_0 rfl rfl rfl ?_
  refine r_ck (fun hc1 => ?_)
  refine r_objI (ci := 6) (q := 4) hX (gd (hcw1_2 _ (List.mem_of_getElem? (i := 4) rfl)) rfl) hc1 (Nat.le_of_ble_eq_true rfl) (Nat.le_of_ble_eq_true rfl) dX6_init_1 rfl ?_
  refine r_aload_n (i := 0) (x := a0) (q := 5) 0 hX dX6_init_4 rfl rfl rfl ?_
  refine r_sipush (v := (1000 : Int32)) (q := 8) hX dX6_init_5 rfl rfl ?_
  refine r_putI (a := a0) (ci := 6) (kf := 0) (q := 11) hX hc1 flX6_9 rfl rfl (Or.inl rfl) rfl rfl dX6_init_8 rfl (fun M2 => ?_)
  refine r_aload_n (i := 0) (x := a0) (q := 12) 0 hX dX6_init_11 rfl rfl rfl ?_
  refine r_sipush (v := (1000 : Int32)) (q := 15) hX dX6_init_12 rfl rfl ?_
  refine r_putI (a := a0) (ci := 6) (kf := 1) (q := 18) hX hc1 flX6_15 rfl rfl (Or.inl rfl) rfl rfl dX6_init_15 rfl (fun M3 => ?_)
  refine r_aload_n (i := 0) (x := a0) (q := 19) 0 hX dX6_init_18 rfl rfl rfl ?_
  refine r_sipush (v := (500 : Int32)) (q := 22) hX dX6_init_19 rfl rfl ?_
  refine r_putI (a := a0) (ci := 6) (kf := 2) (q := 25) hX hc1 flX6_18 rfl rfl (Or.inl rfl) rfl rfl dX6_init_22 rfl (fun M4 => ?_)
  refine r_lf (hK _) ?_
  exact r_vret hM rfl (Nat.le_of_ble_eq_true rfl) (Nat.le_of_ble_eq_true rfl) dX6_init_25
def mX4_init : MD := (yX4_init, cX4_init, 1, none, 1, 12, 0, 0)
theorem ccX4_init : Cc mX4_init 0 := ⟨gd (hcw1_0 _ (List.mem_of_getElem? (i := 4) rfl)) rfl, gd (hcw1_3 _ (List.mem_of_getElem? (i := 3) rfl)) rfl, by decide +kernel, by decide +kernel, by decide +kernel⟩
theorem imX4_init : Cond.instanceMethod (yN mX4_init) ∈ lw_gd := gd (hcw1_3 _ (List.mem_of_getElem? (i := 2) rfl)) rfl
def fX4_init (Z : Shp) (M : Mem) (a0 : Nat) : Option (Mem) := (if tg Z a0 = (5, 7) then (pu (wI M a0 0 (100 : Int32)) (fun M2 => some M2)) else none)
set_option maxRecDepth 20000 in
theorem kX4_init (l : Launch) (Z : Shp) (M : Mem) (a0 : Nat) (r : Mem) (h : fX4_init Z M a0 = some r) : Ct l mX4_init [vr a0] Z M (none, Z, r) := by
  refine Ct.of rfl (Nat.le_of_ble_eq_true rfl) (fun X hM => ?_)
  have hX := hM.1
  refine r_top (mk := fun r => (none, Z, r)) h (fun K hK => ?_)
  unfold fX4_init
  refine r_aload_n (i := 0) (x := a0) (q := 1) 0 hX dX4_init_0 rfl rfl rfl ?_
  refine r_ck (fun hc1 => ?_)
  refine r_objI (ci := 4) (q := 4) hX (gd (hcw1_3 _ (List.mem_of_getElem? (i := 4) rfl)) rfl) hc1 (Nat.le_of_ble_eq_true rfl) (Nat.le_of_ble_eq_true rfl) dX4_init_1 rfl ?_
  refine r_aload_n (i := 0) (x := a0) (q := 5) 0 hX dX4_init_4 rfl rfl rfl ?_
  refine r_bipush (v := (100 : Int32)) (q := 7) hX dX4_init_5 rfl rfl ?_
  refine r_putI (a := a0) (ci := 4) (kf := 0) (q := 10) hX hc1 flX4_7 rfl rfl (Or.inl rfl) rfl rfl dX4_init_7 rfl (fun M2 => ?_)
  refine r_lf (hK _) ?_
  exact r_vret hM rfl (Nat.le_of_ble_eq_true rfl) (Nat.le_of_ble_eq_true rfl) dX4_init_10
theorem lkX3_42 : LkN RX3 42 yX6_init "CanalCompany" := bd (hcw1_2 _ (List.mem_of_getElem? (i := 1) rfl)) rfl
theorem lkX3_43 : LkN RX3 43 yX4_init "CanalCompany" := bd (hcw1_3 _ (List.mem_of_getElem? (i := 1) rfl)) rfl
def mX3_init : MD := (yX3_init, cX3_init, 2, none, 2, 32, 20, 124)
theorem ccX3_init : Cc mX3_init 0 := ⟨gd (hcw1_0 _ (List.mem_of_getElem? (i := 2) rfl)) rfl, gd (hcw1_1 _ (List.mem_of_getElem? (i := 10) rfl)) rfl, by decide +kernel, by decide +kernel, by decide +kernel⟩
theorem imX3_init : Cond.instanceMethod (yN mX3_init) ∈ lw_gd := gd (hcw1_1 _ (List.mem_of_getElem? (i := 9) rfl)) rfl
set_option maxRecDepth 20000 in
noncomputable def fX3_init (Z : Shp) (M : Mem) (a0 : Nat) : Option (Shp × Mem) := (if tg Z a0 = (4, 11) then (pu2 (Z ++ [(110, ix (8 : Int32))]) (nw M (Z.length + 2)) (fun Z2 M3 => (pu (wR M3 a0 0 (Z.length + 2)) (fun M6 => (pu2 (Z2 ++ [(111, ix (7 : Int32))]) (nw M6 (Z2.length + 2)) (fun Z7 M8 => (pu (wR M8 a0 1 (Z2.length + 2)) (fun M11 => (pu2 (Z7 ++ [(112, ix (12 : Int32))]) (nw M11 (Z7.length + 2)) (fun Z12 M13 => (pu (wR M13 a0 2 (Z7.length + 2)) (fun M16 => (pu2 (Z12 ++ [(112, ix (12 : Int32))]) (nw M16 (Z12.length + 2)) (fun Z17 M18 => (pu (wR M18 a0 3 (Z12.length + 2)) (fun M21 => (pu2 (Z17 ++ [(113, ix (12 : Int32))]) (nw M21 (Z17.length + 2)) (fun Z22 M23 => (pu (wR M23 a0 4 (Z17.length + 2)) (fun M26 => (pu (wI M26 a0 7 (3 : Int32)) (fun M27 => (pu2 (Z22 ++ [(7, 3)]) (nw M27 (Z22.length + 2)) (fun Z29 M30 => (Option.bind (fX6_init Z29 M30 (Z22.length + 2)) (fun v33 => (if aok Z29 (rR M27 a0 0) 110 (0 : Int32) then (pu (wR v33 (rR M27 a0 0) (ix (0 : Int32)) (Z22.length + 2)) (fun M36 => (pu2 (Z29 ++ [(7, 3)]) (nw M36 (Z29.length + 2)) (fun Z38 M39 => (Option.bind (fX6_init Z38 M39 (Z29.length + 2)) (fun v42 => (if aok Z38 (rR M36 a0 0) 110 (1 : Int32) then (pu (wR v42 (rR M36 a0 0) (ix (1 : Int32)) (Z29.length + 2)) (fun M45 => (pu2 (Z38 ++ [(7, 3)]) (nw M45 (Z38.length + 2)) (fun Z47 M48 => (Option.bind (fX6_init Z47 M48 (Z38.length + 2)) (fun v51 => (if aok Z47 (rR M45 a0 0) 110 (2 : Int32) then (pu (wR v51 (rR M45 a0 0) (ix (2 : Int32)) (Z38.length + 2)) (fun M54 => (pu2 (Z47 ++ [(7, 3)]) (nw M54 (Z47.length + 2)) (fun Z56 M57 => (Option.bind (fX6_init Z56 M57 (Z47.length + 2)) (fun v60 => (if aok Z56 (rR M54 a0 0) 110 (3 : Int32) then (pu (wR v60 (rR M54 a0 0) (ix (3 : Int32)) (Z47.length + 2)) (fun M63 => (pu2 (Z56 ++ [(7, 3)]) (nw M63 (Z56.length + 2)) (fun Z65 M66 => (Option.bind (fX6_init Z65 M66 (Z56.length + 2)) (fun v69 => (if aok Z65 (rR M63 a0 0) 110 (4 : Int32) then (pu (wR v69 (rR M63 a0 0) (ix (4 : Int32)) (Z56.length + 2)) (fun M72 => (pu2 (Z65 ++ [(7, 3)]) (nw M72 (Z65.length + 2)) (fun Z74 M75 => (Option.bind (fX6_init Z74 M75 (Z65.length + 2)) (fun v78 => (if aok Z74 (rR M72 a0 0) 110 (5 : Int32) then (pu (wR v78 (rR M72 a0 0) (ix (5 : Int32)) (Z65.length + 2)) (fun M81 => (pu2 (Z74 ++ [(7, 3)]) (nw M81 (Z74.length + 2)) (fun Z83 M84 => (Option.bind (fX6_init Z83 M84 (Z74.length + 2)) (fun v87 => (if aok Z83 (rR M81 a0 0) 110 (6 : Int32) then (pu (wR v87 (rR M81 a0 0) (ix (6 : Int32)) (Z74.length + 2)) (fun M90 => (pu2 (Z83 ++ [(7, 3)]) (nw M90 (Z83.length + 2)) (fun Z92 M93 => (Option.bind (fX6_init Z92 M93 (Z83.length + 2)) (fun v96 => (if aok Z92 (rR M90 a0 0) 110 (7 : Int32) then (pu (wR v96 (rR M90 a0 0) (ix (7 : Int32)) (Z83.length + 2)) (fun M99 => (pu2 (Z92 ++ [(5, 7)]) (nw M99 (Z92.length + 2)) (fun Z102 M103 => (Option.bind (fX4_init Z102 M103 (Z92.length + 2)) (fun v106 => (if aok Z102 (rR M99 a0 1) 111 (0 : Int32) then (pu (wR v106 (rR M99 a0 1) (ix (0 : Int32)) (Z92.length + 2)) (fun M109 => (pu2 (Z102 ++ [(5, 7)]) (nw M109 (Z102.length + 2)) (fun Z111 M112 => (Option.bind (fX4_init Z111 M112 (Z102.length + 2)) (fun v115 => (if aok Z111 (rR M109 a0 1) 111 (1 : Int32) then (pu (wR v115 (rR M109 a0 1) (ix (1 : Int32)) (Z102.length + 2)) (fun M118 => (pu2 (Z111 ++ [(5, 7)]) (nw M118 (Z111.length + 2)) (fun Z120 M121 => (Option.bind (fX4_init Z120 M121 (Z111.length + 2)) (fun v124 => (if aok Z120 (rR M118 a0 1) 111 (2 : Int32) then (pu (wR v124 (rR M118 a0 1) (ix (2 : Int32)) (Z111.length + 2)) (fun M127 => (pu2 (Z120 ++ [(5, 7)]) (nw M127 (Z120.length + 2)) (fun Z129 M130 => (Option.bind (fX4_init Z129 M130 (Z120.length + 2)) (fun v133 => (if aok Z129 (rR M127 a0 1) 111 (3 : Int32) then (pu (wR v133 (rR M127 a0 1) (ix (3 : Int32)) (Z120.length + 2)) (fun M136 => (pu2 (Z129 ++ [(5, 7)]) (nw M136 (Z129.length + 2)) (fun Z138 M139 => (Option.bind (fX4_init Z138 M139 (Z129.length + 2)) (fun v142 => (if aok Z138 (rR M136 a0 1) 111 (4 : Int32) then (pu (wR v142 (rR M136 a0 1) (ix (4 : Int32)) (Z129.length + 2)) (fun M145 => (pu2 (Z138 ++ [(5, 7)]) (nw M145 (Z138.length + 2)) (fun Z147 M148 => (Option.bind (fX4_init Z147 M148 (Z138.length + 2)) (fun v151 => (if aok Z147 (rR M145 a0 1) 111 (5 : Int32) then (pu (wR v151 (rR M145 a0 1) (ix (5 : Int32)) (Z138.length + 2)) (fun M154 => (pu2 (Z147 ++ [(5, 7)]) (nw M154 (Z147.length + 2)) (fun Z156 M157 => (Option.bind (fX4_init Z156 M157 (Z147.length + 2)) (fun v160 => (if aok Z156 (rR M154 a0 1) 111 (6 : Int32) then (pu (wR v160 (rR M154 a0 1) (ix (6 : Int32)) (Z147.length + 2)) (fun M163 => some (Z156, M163))) else none))))))) else none))))))) else none))))))) else none))))))) else none))))))) else none))))))) else none))))))) else none))))))) else none))))))) else none))))))) else none))))))) else none))))))) else none))))))) else none))))))) else none))))))))))))))))))))))))))) else none)
set_option maxRecDepth 20000 in
theorem kX3_init (l : Launch) (Z : Shp) (M : Mem) (a0 : Nat) (r : Shp × Mem) (h : fX3_init Z M a0 = some r) : Ct l mX3_init [vr a0] Z M (none, r.1, r.2) := by
  refine Ct.of rfl (Nat.le_of_ble_eq_true rfl) (fun X hM => ?_)
  have hX := hM.1
  refine r_top (mk := fun r => (none, r.1, r.2)) h (fun K hK => ?_)
  unfold fX3_init
  refine r_aload_n (i := 0) (x := a0) (q := 1) 0 hX dX3_init_0 rfl rfl rfl ?_
  refine r_ck (fun hc1 => ?_)
  refine r_objI (ci := 3) (q := 4) hX (gd (hcw1_1 _ (List.mem_of_getElem? (i := 11) rfl)) rfl) hc1 (Nat.le_of_ble_eq_true rfl) (Nat.le_of_ble_eq_true rfl) dX3_init_1 rfl ?_
  refine r_aload_n (i := 0) (x := a0) (q := 5) 0 hX dX3_init_4 rfl rfl rfl ?_
  refine r_bipush (v := (8 : Int32)) (q := 7) hX dX3_init_5 rfl rfl ?_
  refine r_newq (cap := 8) (k1 := 1) (n1 := 8) (q := 10) hX arT_110 (gd (hcw1_1 _ (List.mem_of_getElem? (i := 12) rfl)) rfl) (bd (hcw1_1 _ (List.mem_of_getElem? (i := 13) rfl)) rfl) ⟨by decide, by decide⟩ rfl (Nat.le_of_ble_eq_true rfl) rfl (Nat.le_of_ble_eq_true rfl) (Nat.le_of_ble_eq_true rfl) dX3_init_7 rfl (fun Z2 M3 hc4 he5 => ?_)
  refine r_putR (a := a0) (ci := 3) (kf := 0) (q := 13) hX (he5 _ _ _ (Nat.succ_pos _) hc1) flX3_11 rfl (Or.inr ⟨rfl, rfl, rfl⟩) nf_arr dX3_init_10 rfl (fun M6 => ?_)
  refine r_aload_n (i := 0) (x := a0) (q := 14) 0 hX dX3_init_13 rfl rfl rfl ?_
  refine r_bipush (v := (7 : Int32)) (q := 16) hX dX3_init_14 rfl rfl ?_
  refine r_newq (cap := 7) (k1 := 2) (n1 := 15) (q := 19) hX arT_111 (gd (hcw1_1 _ (List.mem_of_getElem? (i := 14) rfl)) rfl) (bd (hcw1_1 _ (List.mem_of_getElem? (i := 15) rfl)) rfl) ⟨by decide, by decide⟩ rfl (Nat.le_of_ble_eq_true rfl) rfl (Nat.le_of_ble_eq_true rfl) (Nat.le_of_ble_eq_true rfl) dX3_init_16 rfl (fun Z7 M8 hc9 he10 => ?_)
  refine r_putR (a := a0) (ci := 3) (kf := 1) (q := 22) hX (he10 _ _ _ (Nat.succ_pos _) (he5 _ _ _ (Nat.succ_pos _) hc1)) flX3_19 rfl (Or.inr ⟨rfl, rfl, rfl⟩) nf_arr dX3_init_19 rfl (fun M11 => ?_)
  refine r_aload_n (i := 0) (x := a0) (q := 23) 0 hX dX3_init_22 rfl rfl rfl ?_
  refine r_bipush (v := (12 : Int32)) (q := 25) hX dX3_init_23 rfl rfl ?_
  refine r_newq (cap := 12) (k1 := 3) (n1 := 27) (q := 28) hX arT_112 (gd (hcw1_1 _ (List.mem_of_getElem? (i := 16) rfl)) rfl) (bd (hcw1_1 _ (List.mem_of_getElem? (i := 17) rfl)) rfl) ⟨by decide, by decide⟩ rfl (Nat.le_of_ble_eq_true rfl) rfl (Nat.le_of_ble_eq_true rfl) (Nat.le_of_ble_eq_true rfl) dX3_init_25 rfl (fun Z12 M13 hc14 he15 => ?_)
  refine r_putR (a := a0) (ci := 3) (kf := 2) (q := 31) hX (he15 _ _ _ (Nat.succ_pos _) (he10 _ _ _ (Nat.succ_pos _) (he5 _ _ _ (Nat.succ_pos _) hc1))) flX3_25 rfl (Or.inr ⟨rfl, rfl, rfl⟩) nf_arr dX3_init_28 rfl (fun M16 => ?_)
  refine r_aload_n (i := 0) (x := a0) (q := 32) 0 hX dX3_init_31 rfl rfl rfl ?_
  refine r_bipush (v := (12 : Int32)) (q := 34) hX dX3_init_32 rfl rfl ?_
  refine r_newq (cap := 12) (k1 := 4) (n1 := 39) (q := 37) hX arT_112 (gd (hcw1_1 _ (List.mem_of_getElem? (i := 16) rfl)) rfl) (bd (hcw1_1 _ (List.mem_of_getElem? (i := 17) rfl)) rfl) ⟨by decide, by decide⟩ rfl (Nat.le_of_ble_eq_true rfl) rfl (Nat.le_of_ble_eq_true rfl) (Nat.le_of_ble_eq_true rfl) dX3_init_34 rfl (fun Z17 M18 hc19 he20 => ?_)
  refine r_putR (a := a0) (ci := 3) (kf := 3) (q := 40) hX (he20 _ _ _ (Nat.succ_pos _) (he15 _ _ _ (Nat.succ_pos _) (he10 _ _ _ (Nat.succ_pos _) (he5 _ _ _ (Nat.succ_pos _) hc1)))) flX3_29 rfl (Or.inr ⟨rfl, rfl, rfl⟩) nf_arr dX3_init_37 rfl (fun M21 => ?_)
  refine r_aload_n (i := 0) (x := a0) (q := 41) 0 hX dX3_init_40 rfl rfl rfl ?_
  refine r_bipush (v := (12 : Int32)) (q := 43) hX dX3_init_41 rfl rfl ?_
  refine r_newq (cap := 12) (k1 := 5) (n1 := 51) (q := 46) hX arT_113 (gd (hcw1_1 _ (List.mem_of_getElem? (i := 18) rfl)) rfl) (bd (hcw1_1 _ (List.mem_of_getElem? (i := 19) rfl)) rfl) ⟨by decide, by decide⟩ rfl (Nat.le_of_ble_eq_true rfl) rfl (Nat.le_of_ble_eq_true rfl) (Nat.le_of_ble_eq_true rfl) dX3_init_43 rfl (fun Z22 M23 hc24 he25 => ?_)
  refine r_putR (a := a0) (ci := 3) (kf := 4) (q := 49) hX (he25 _ _ _ (Nat.succ_pos _) (he20 _ _ _ (Nat.succ_pos _) (he15 _ _ _ (Nat.succ_pos _) (he10 _ _ _ (Nat.succ_pos _) (he5 _ _ _ (Nat.succ_pos _) hc1))))) flX3_34 rfl (Or.inr ⟨rfl, rfl, rfl⟩) nf_arr dX3_init_46 rfl (fun M26 => ?_)
  refine r_aload_n (i := 0) (x := a0) (q := 50) 0 hX dX3_init_49 rfl rfl rfl ?_
  refine r_iconst (v := (3 : Int32)) (q := 51) hX dX3_init_50 rfl rfl ?_
  refine r_putI (a := a0) (ci := 3) (kf := 7) (q := 54) hX (he25 _ _ _ (Nat.succ_pos _) (he20 _ _ _ (Nat.succ_pos _) (he15 _ _ _ (Nat.succ_pos _) (he10 _ _ _ (Nat.succ_pos _) (he5 _ _ _ (Nat.succ_pos _) hc1))))) flX3_38 rfl rfl (Or.inl rfl) rfl rfl dX3_init_51 rfl (fun M27 => ?_)
  refine r_iconst (v := (0 : Int32)) (q := 55) hX dX3_init_54 rfl rfl ?_
  refine r_istore_n (x := (0 : Int32)) (q := 56) 1 [1, 0] (L1 := [(0, vr a0), (1, vi (0 : Int32))]) hX dX3_init_55 rfl (Nat.le_of_ble_eq_true rfl) rfl rfl ?_
  refine r_iload_n (i := 1) (x := (0 : Int32)) (q := 57) 1 hX dX3_init_56 rfl rfl rfl ?_
  refine r_bipush (v := (8 : Int32)) (q := 59) hX dX3_init_57 rfl rfl ?_
  refine r_icmp_geF (tgt := 81) (q := 62) hX dX3_init_59 (by decide) rfl (by decide) ?_
  refine r_aload_n (i := 0) (x := a0) (q := 63) 0 hX dX3_init_62 rfl rfl rfl ?_
  refine r_getR (a := a0) (ci := 3) (kf := 0) (q := 66) hX (he25 _ _ _ (Nat.succ_pos _) (he20 _ _ _ (Nat.succ_pos _) (he15 _ _ _ (Nat.succ_pos _) (he10 _ _ _ (Nat.succ_pos _) (he5 _ _ _ (Nat.succ_pos _) hc1))))) flX3_11 rfl dX3_init_63 rfl ?_
  refine r_iload_n (i := 1) (x := (0 : Int32)) (q := 67) 1 hX dX3_init_66 rfl rfl rfl ?_
  refine r_new (ci := 6) (k1 := 6) (n1 := 54) (q := 70) hX (Nat.le_of_ble_eq_true rfl) (gd (hcw1_1 _ (List.mem_of_getElem? (i := 12) rfl)) rfl) (gd (hcw1_2 _ (List.mem_of_getElem? (i := 0) rfl)) rfl) (gd (hcw1_0 _ (List.mem_of_getElem? (i := 3) rfl)) rfl) rfl (Nat.le_of_ble_eq_true rfl) rfl (Nat.le_of_ble_eq_true rfl) dX3_init_67 rfl (fun Z29 M30 hc31 he32 => ?_)
  refine r_dup (q := 71) hX dX3_init_70 rfl rfl ?_
  refine r_bind (fun v33 h34 => ?_)
  refine r_ci (a := (Z22.length + 2)) (As := []) (st := [vr (Z22.length + 2), vi (0 : Int32), vr (rR M27 a0 0)]) (r := none) (Z1 := Z29) (M1 := v33) (k1 := 6) (n1 := 54) (st1 := [vr (Z22.length + 2), vi (0 : Int32), vr (rR M27 a0 0)]) (q := 74) hX (fun l => kX6_init l Z29 M30 (Z22.length + 2) v33 h34) hc31 imX6_init rfl rfl ccX6_init (Or.inr ⟨_, lkX3_42⟩) rfl rfl rfl ⟨Nat.le_of_ble_eq_true rfl, Nat.le_of_ble_eq_true rfl, rfl, rfl, Nat.le_of_ble_eq_true rfl, Nat.le_of_ble_eq_true rfl⟩ (Nat.le_of_ble_eq_true rfl) dX3_init_71 rfl ?_
  refine r_ck (fun hc35 => ?_)
  refine r_aast (a := (rR M27 a0 0)) (v := (Z22.length + 2)) (i := (0 : Int32)) (q := 75) hX arT_110 hc35 hc31 dX3_init_74 rfl (fun M36 => ?_)
  refine r_iinc (x := (0 : Int32)) (v := (1 : Int32)) (q := 78) 1 1 [1, 0] (L1 := [(0, vr a0), (1, vi (1 : Int32))]) hX dX3_init_75 rfl rfl (Nat.le_of_ble_eq_true rfl) rfl rfl ?_
  refine r_goto (q := 56) hX dX3_init_78 (by decide) ?_
  refine r_iload_n (i := 1) (x := (1 : Int32)) (q := 57) 1 hX dX3_init_56 rfl rfl rfl ?_
  refine r_bipush (v := (8 : Int32)) (q := 59) hX dX3_init_57 rfl rfl ?_
  refine r_icmp_geF (tgt := 81) (q := 62) hX dX3_init_59 (by decide) rfl (by decide) ?_
  refine r_aload_n (i := 0) (x := a0) (q := 63) 0 hX dX3_init_62 rfl rfl rfl ?_
  refine r_getR (a := a0) (ci := 3) (kf := 0) (q := 66) hX (he32 _ _ _ (Nat.succ_pos _) (he25 _ _ _ (Nat.succ_pos _) (he20 _ _ _ (Nat.succ_pos _) (he15 _ _ _ (Nat.succ_pos _) (he10 _ _ _ (Nat.succ_pos _) (he5 _ _ _ (Nat.succ_pos _) hc1)))))) flX3_11 rfl dX3_init_63 rfl ?_
  refine r_iload_n (i := 1) (x := (1 : Int32)) (q := 67) 1 hX dX3_init_66 rfl rfl rfl ?_
  refine r_new (ci := 6) (k1 := 7) (n1 := 57) (q := 70) hX (Nat.le_of_ble_eq_true rfl) (gd (hcw1_1 _ (List.mem_of_getElem? (i := 12) rfl)) rfl) (gd (hcw1_2 _ (List.mem_of_getElem? (i := 0) rfl)) rfl) (gd (hcw1_0 _ (List.mem_of_getElem? (i := 3) rfl)) rfl) rfl (Nat.le_of_ble_eq_true rfl) rfl (Nat.le_of_ble_eq_true rfl) dX3_init_67 rfl (fun Z38 M39 hc40 he41 => ?_)
  refine r_dup (q := 71) hX dX3_init_70 rfl rfl ?_
  refine r_bind (fun v42 h43 => ?_)
  refine r_ci (a := (Z29.length + 2)) (As := []) (st := [vr (Z29.length + 2), vi (1 : Int32), vr (rR M36 a0 0)]) (r := none) (Z1 := Z38) (M1 := v42) (k1 := 7) (n1 := 57) (st1 := [vr (Z29.length + 2), vi (1 : Int32), vr (rR M36 a0 0)]) (q := 74) hX (fun l => kX6_init l Z38 M39 (Z29.length + 2) v42 h43) hc40 imX6_init rfl rfl ccX6_init (Or.inr ⟨_, lkX3_42⟩) rfl rfl rfl ⟨Nat.le_of_ble_eq_true rfl, Nat.le_of_ble_eq_true rfl, rfl, rfl, Nat.le_of_ble_eq_true rfl, Nat.le_of_ble_eq_true rfl⟩ (Nat.le_of_ble_eq_true rfl) dX3_init_71 rfl ?_
  refine r_ck (fun hc44 => ?_)
  refine r_aast (a := (rR M36 a0 0)) (v := (Z29.length + 2)) (i := (1 : Int32)) (q := 75) hX arT_110 hc44 hc40 dX3_init_74 rfl (fun M45 => ?_)
  refine r_iinc (x := (1 : Int32)) (v := (2 : Int32)) (q := 78) 1 1 [1, 0] (L1 := [(0, vr a0), (1, vi (2 : Int32))]) hX dX3_init_75 rfl rfl (Nat.le_of_ble_eq_true rfl) rfl rfl ?_
  refine r_goto (q := 56) hX dX3_init_78 (by decide) ?_
  refine r_iload_n (i := 1) (x := (2 : Int32)) (q := 57) 1 hX dX3_init_56 rfl rfl rfl ?_
  refine r_bipush (v := (8 : Int32)) (q := 59) hX dX3_init_57 rfl rfl ?_
  refine r_icmp_geF (tgt := 81) (q := 62) hX dX3_init_59 (by decide) rfl (by decide) ?_
  refine r_aload_n (i := 0) (x := a0) (q := 63) 0 hX dX3_init_62 rfl rfl rfl ?_
  refine r_getR (a := a0) (ci := 3) (kf := 0) (q := 66) hX (he41 _ _ _ (Nat.succ_pos _) (he32 _ _ _ (Nat.succ_pos _) (he25 _ _ _ (Nat.succ_pos _) (he20 _ _ _ (Nat.succ_pos _) (he15 _ _ _ (Nat.succ_pos _) (he10 _ _ _ (Nat.succ_pos _) (he5 _ _ _ (Nat.succ_pos _) hc1))))))) flX3_11 rfl dX3_init_63 rfl ?_
  refine r_iload_n (i := 1) (x := (2 : Int32)) (q := 67) 1 hX dX3_init_66 rfl rfl rfl ?_
  refine r_new (ci := 6) (k1 := 8) (n1 := 60) (q := 70) hX (Nat.le_of_ble_eq_true rfl) (gd (hcw1_1 _ (List.mem_of_getElem? (i := 12) rfl)) rfl) (gd (hcw1_2 _ (List.mem_of_getElem? (i := 0) rfl)) rfl) (gd (hcw1_0 _ (List.mem_of_getElem? (i := 3) rfl)) rfl) rfl (Nat.le_of_ble_eq_true rfl) rfl (Nat.le_of_ble_eq_true rfl) dX3_init_67 rfl (fun Z47 M48 hc49 he50 => ?_)
  refine r_dup (q := 71) hX dX3_init_70 rfl rfl ?_
  refine r_bind (fun v51 h52 => ?_)
  refine r_ci (a := (Z38.length + 2)) (As := []) (st := [vr (Z38.length + 2), vi (2 : Int32), vr (rR M45 a0 0)]) (r := none) (Z1 := Z47) (M1 := v51) (k1 := 8) (n1 := 60) (st1 := [vr (Z38.length + 2), vi (2 : Int32), vr (rR M45 a0 0)]) (q := 74) hX (fun l => kX6_init l Z47 M48 (Z38.length + 2) v51 h52) hc49 imX6_init rfl rfl ccX6_init (Or.inr ⟨_, lkX3_42⟩) rfl rfl rfl ⟨Nat.le_of_ble_eq_true rfl, Nat.le_of_ble_eq_true rfl, rfl, rfl, Nat.le_of_ble_eq_true rfl, Nat.le_of_ble_eq_true rfl⟩ (Nat.le_of_ble_eq_true rfl) dX3_init_71 rfl ?_
  refine r_ck (fun hc53 => ?_)
  refine r_aast (a := (rR M45 a0 0)) (v := (Z38.length + 2)) (i := (2 : Int32)) (q := 75) hX arT_110 hc53 hc49 dX3_init_74 rfl (fun M54 => ?_)
  refine r_iinc (x := (2 : Int32)) (v := (3 : Int32)) (q := 78) 1 1 [1, 0] (L1 := [(0, vr a0), (1, vi (3 : Int32))]) hX dX3_init_75 rfl rfl (Nat.le_of_ble_eq_true rfl) rfl rfl ?_
  refine r_goto (q := 56) hX dX3_init_78 (by decide) ?_
  refine r_iload_n (i := 1) (x := (3 : Int32)) (q := 57) 1 hX dX3_init_56 rfl rfl rfl ?_
  refine r_bipush (v := (8 : Int32)) (q := 59) hX dX3_init_57 rfl rfl ?_
  refine r_icmp_geF (tgt := 81) (q := 62) hX dX3_init_59 (by decide) rfl (by decide) ?_
  refine r_aload_n (i := 0) (x := a0) (q := 63) 0 hX dX3_init_62 rfl rfl rfl ?_
  refine r_getR (a := a0) (ci := 3) (kf := 0) (q := 66) hX (he50 _ _ _ (Nat.succ_pos _) (he41 _ _ _ (Nat.succ_pos _) (he32 _ _ _ (Nat.succ_pos _) (he25 _ _ _ (Nat.succ_pos _) (he20 _ _ _ (Nat.succ_pos _) (he15 _ _ _ (Nat.succ_pos _) (he10 _ _ _ (Nat.succ_pos _) (he5 _ _ _ (Nat.succ_pos _) hc1)))))))) flX3_11 rfl dX3_init_63 rfl ?_
  refine r_iload_n (i := 1) (x := (3 : Int32)) (q := 67) 1 hX dX3_init_66 rfl rfl rfl ?_
  refine r_new (ci := 6) (k1 := 9) (n1 := 63) (q := 70) hX (Nat.le_of_ble_eq_true rfl) (gd (hcw1_1 _ (List.mem_of_getElem? (i := 12) rfl)) rfl) (gd (hcw1_2 _ (List.mem_of_getElem? (i := 0) rfl)) rfl) (gd (hcw1_0 _ (List.mem_of_getElem? (i := 3) rfl)) rfl) rfl (Nat.le_of_ble_eq_true rfl) rfl (Nat.le_of_ble_eq_true rfl) dX3_init_67 rfl (fun Z56 M57 hc58 he59 => ?_)
  refine r_dup (q := 71) hX dX3_init_70 rfl rfl ?_
  refine r_bind (fun v60 h61 => ?_)
  refine r_ci (a := (Z47.length + 2)) (As := []) (st := [vr (Z47.length + 2), vi (3 : Int32), vr (rR M54 a0 0)]) (r := none) (Z1 := Z56) (M1 := v60) (k1 := 9) (n1 := 63) (st1 := [vr (Z47.length + 2), vi (3 : Int32), vr (rR M54 a0 0)]) (q := 74) hX (fun l => kX6_init l Z56 M57 (Z47.length + 2) v60 h61) hc58 imX6_init rfl rfl ccX6_init (Or.inr ⟨_, lkX3_42⟩) rfl rfl rfl ⟨Nat.le_of_ble_eq_true rfl, Nat.le_of_ble_eq_true rfl, rfl, rfl, Nat.le_of_ble_eq_true rfl, Nat.le_of_ble_eq_true rfl⟩ (Nat.le_of_ble_eq_true rfl) dX3_init_71 rfl ?_
  refine r_ck (fun hc62 => ?_)
  refine r_aast (a := (rR M54 a0 0)) (v := (Z47.length + 2)) (i := (3 : Int32)) (q := 75) hX arT_110 hc62 hc58 dX3_init_74 rfl (fun M63 => ?_)
  refine r_iinc (x := (3 : Int32)) (v := (4 : Int32)) (q := 78) 1 1 [1, 0] (L1 := [(0, vr a0), (1, vi (4 : Int32))]) hX dX3_init_75 rfl rfl (Nat.le_of_ble_eq_true rfl) rfl rfl ?_
  refine r_goto (q := 56) hX dX3_init_78 (by decide) ?_
  refine r_iload_n (i := 1) (x := (4 : Int32)) (q := 57) 1 hX dX3_init_56 rfl rfl rfl ?_
  refine r_bipush (v := (8 : Int32)) (q := 59) hX dX3_init_57 rfl rfl ?_
  refine r_icmp_geF (tgt := 81) (q := 62) hX dX3_init_59 (by decide) rfl (by decide) ?_
  refine r_aload_n (i := 0) (x := a0) (q := 63) 0 hX dX3_init_62 rfl rfl rfl ?_
  refine r_getR (a := a0) (ci := 3) (kf := 0) (q := 66) hX (he59 _ _ _ (Nat.succ_pos _) (he50 _ _ _ (Nat.succ_pos _) (he41 _ _ _ (Nat.succ_pos _) (he32 _ _ _ (Nat.succ_pos _) (he25 _ _ _ (Nat.succ_pos _) (he20 _ _ _ (Nat.succ_pos _) (he15 _ _ _ (Nat.succ_pos _) (he10 _ _ _ (Nat.succ_pos _) (he5 _ _ _ (Nat.succ_pos _) hc1))))))))) flX3_11 rfl dX3_init_63 rfl ?_
  refine r_iload_n (i := 1) (x := (4 : Int32)) (q := 67) 1 hX dX3_init_66 rfl rfl rfl ?_
  refine r_new (ci := 6) (k1 := 10) (n1 := 66) (q := 70) hX (Nat.le_of_ble_eq_true rfl) (gd (hcw1_1 _ (List.mem_of_getElem? (i := 12) rfl)) rfl) (gd (hcw1_2 _ (List.mem_of_getElem? (i := 0) rfl)) rfl) (gd (hcw1_0 _ (List.mem_of_getElem? (i := 3) rfl)) rfl) rfl (Nat.le_of_ble_eq_true rfl) rfl (Nat.le_of_ble_eq_true rfl) dX3_init_67 rfl (fun Z65 M66 hc67 he68 => ?_)
  refine r_dup (q := 71) hX dX3_init_70 rfl rfl ?_
  refine r_bind (fun v69 h70 => ?_)
  refine r_ci (a := (Z56.length + 2)) (As := []) (st := [vr (Z56.length + 2), vi (4 : Int32), vr (rR M63 a0 0)]) (r := none) (Z1 := Z65) (M1 := v69) (k1 := 10) (n1 := 66) (st1 := [vr (Z56.length + 2), vi (4 : Int32), vr (rR M63 a0 0)]) (q := 74) hX (fun l => kX6_init l Z65 M66 (Z56.length + 2) v69 h70) hc67 imX6_init rfl rfl ccX6_init (Or.inr ⟨_, lkX3_42⟩) rfl rfl rfl ⟨Nat.le_of_ble_eq_true rfl, Nat.le_of_ble_eq_true rfl, rfl, rfl, Nat.le_of_ble_eq_true rfl, Nat.le_of_ble_eq_true rfl⟩ (Nat.le_of_ble_eq_true rfl) dX3_init_71 rfl ?_
  refine r_ck (fun hc71 => ?_)
  refine r_aast (a := (rR M63 a0 0)) (v := (Z56.length + 2)) (i := (4 : Int32)) (q := 75) hX arT_110 hc71 hc67 dX3_init_74 rfl (fun M72 => ?_)
  refine r_iinc (x := (4 : Int32)) (v := (5 : Int32)) (q := 78) 1 1 [1, 0] (L1 := [(0, vr a0), (1, vi (5 : Int32))]) hX dX3_init_75 rfl rfl (Nat.le_of_ble_eq_true rfl) rfl rfl ?_
  refine r_goto (q := 56) hX dX3_init_78 (by decide) ?_
  refine r_iload_n (i := 1) (x := (5 : Int32)) (q := 57) 1 hX dX3_init_56 rfl rfl rfl ?_
  refine r_bipush (v := (8 : Int32)) (q := 59) hX dX3_init_57 rfl rfl ?_
  refine r_icmp_geF (tgt := 81) (q := 62) hX dX3_init_59 (by decide) rfl (by decide) ?_
  refine r_aload_n (i := 0) (x := a0) (q := 63) 0 hX dX3_init_62 rfl rfl rfl ?_
  refine r_getR (a := a0) (ci := 3) (kf := 0) (q := 66) hX (he68 _ _ _ (Nat.succ_pos _) (he59 _ _ _ (Nat.succ_pos _) (he50 _ _ _ (Nat.succ_pos _) (he41 _ _ _ (Nat.succ_pos _) (he32 _ _ _ (Nat.succ_pos _) (he25 _ _ _ (Nat.succ_pos _) (he20 _ _ _ (Nat.succ_pos _) (he15 _ _ _ (Nat.succ_pos _) (he10 _ _ _ (Nat.succ_pos _) (he5 _ _ _ (Nat.succ_pos _) hc1)))))))))) flX3_11 rfl dX3_init_63 rfl ?_
  refine r_iload_n (i := 1) (x := (5 : Int32)) (q := 67) 1 hX dX3_init_66 rfl rfl rfl ?_
  refine r_new (ci := 6) (k1 := 11) (n1 := 69) (q := 70) hX (Nat.le_of_ble_eq_true rfl) (gd (hcw1_1 _ (List.mem_of_getElem? (i := 12) rfl)) rfl) (gd (hcw1_2 _ (List.mem_of_getElem? (i := 0) rfl)) rfl) (gd (hcw1_0 _ (List.mem_of_getElem? (i := 3) rfl)) rfl) rfl (Nat.le_of_ble_eq_true rfl) rfl (Nat.le_of_ble_eq_true rfl) dX3_init_67 rfl (fun Z74 M75 hc76 he77 => ?_)
  refine r_dup (q := 71) hX dX3_init_70 rfl rfl ?_
  refine r_bind (fun v78 h79 => ?_)
  refine r_ci (a := (Z65.length + 2)) (As := []) (st := [vr (Z65.length + 2), vi (5 : Int32), vr (rR M72 a0 0)]) (r := none) (Z1 := Z74) (M1 := v78) (k1 := 11) (n1 := 69) (st1 := [vr (Z65.length + 2), vi (5 : Int32), vr (rR M72 a0 0)]) (q := 74) hX (fun l => kX6_init l Z74 M75 (Z65.length + 2) v78 h79) hc76 imX6_init rfl rfl ccX6_init (Or.inr ⟨_, lkX3_42⟩) rfl rfl rfl ⟨Nat.le_of_ble_eq_true rfl, Nat.le_of_ble_eq_true rfl, rfl, rfl, Nat.le_of_ble_eq_true rfl, Nat.le_of_ble_eq_true rfl⟩ (Nat.le_of_ble_eq_true rfl) dX3_init_71 rfl ?_
  refine r_ck (fun hc80 => ?_)
  refine r_aast (a := (rR M72 a0 0)) (v := (Z65.length + 2)) (i := (5 : Int32)) (q := 75) hX arT_110 hc80 hc76 dX3_init_74 rfl (fun M81 => ?_)
  refine r_iinc (x := (5 : Int32)) (v := (6 : Int32)) (q := 78) 1 1 [1, 0] (L1 := [(0, vr a0), (1, vi (6 : Int32))]) hX dX3_init_75 rfl rfl (Nat.le_of_ble_eq_true rfl) rfl rfl ?_
  refine r_goto (q := 56) hX dX3_init_78 (by decide) ?_
  refine r_iload_n (i := 1) (x := (6 : Int32)) (q := 57) 1 hX dX3_init_56 rfl rfl rfl ?_
  refine r_bipush (v := (8 : Int32)) (q := 59) hX dX3_init_57 rfl rfl ?_
  refine r_icmp_geF (tgt := 81) (q := 62) hX dX3_init_59 (by decide) rfl (by decide) ?_
  refine r_aload_n (i := 0) (x := a0) (q := 63) 0 hX dX3_init_62 rfl rfl rfl ?_
  refine r_getR (a := a0) (ci := 3) (kf := 0) (q := 66) hX (he77 _ _ _ (Nat.succ_pos _) (he68 _ _ _ (Nat.succ_pos _) (he59 _ _ _ (Nat.succ_pos _) (he50 _ _ _ (Nat.succ_pos _) (he41 _ _ _ (Nat.succ_pos _) (he32 _ _ _ (Nat.succ_pos _) (he25 _ _ _ (Nat.succ_pos _) (he20 _ _ _ (Nat.succ_pos _) (he15 _ _ _ (Nat.succ_pos _) (he10 _ _ _ (Nat.succ_pos _) (he5 _ _ _ (Nat.succ_pos _) hc1))))))))))) flX3_11 rfl dX3_init_63 rfl ?_
  refine r_iload_n (i := 1) (x := (6 : Int32)) (q := 67) 1 hX dX3_init_66 rfl rfl rfl ?_
  refine r_new (ci := 6) (k1 := 12) (n1 := 72) (q := 70) hX (Nat.le_of_ble_eq_true rfl) (gd (hcw1_1 _ (List.mem_of_getElem? (i := 12) rfl)) rfl) (gd (hcw1_2 _ (List.mem_of_getElem? (i := 0) rfl)) rfl) (gd (hcw1_0 _ (List.mem_of_getElem? (i := 3) rfl)) rfl) rfl (Nat.le_of_ble_eq_true rfl) rfl (Nat.le_of_ble_eq_true rfl) dX3_init_67 rfl (fun Z83 M84 hc85 he86 => ?_)
  refine r_dup (q := 71) hX dX3_init_70 rfl rfl ?_
  refine r_bind (fun v87 h88 => ?_)
  refine r_ci (a := (Z74.length + 2)) (As := []) (st := [vr (Z74.length + 2), vi (6 : Int32), vr (rR M81 a0 0)]) (r := none) (Z1 := Z83) (M1 := v87) (k1 := 12) (n1 := 72) (st1 := [vr (Z74.length + 2), vi (6 : Int32), vr (rR M81 a0 0)]) (q := 74) hX (fun l => kX6_init l Z83 M84 (Z74.length + 2) v87 h88) hc85 imX6_init rfl rfl ccX6_init (Or.inr ⟨_, lkX3_42⟩) rfl rfl rfl ⟨Nat.le_of_ble_eq_true rfl, Nat.le_of_ble_eq_true rfl, rfl, rfl, Nat.le_of_ble_eq_true rfl, Nat.le_of_ble_eq_true rfl⟩ (Nat.le_of_ble_eq_true rfl) dX3_init_71 rfl ?_
  refine r_ck (fun hc89 => ?_)
  refine r_aast (a := (rR M81 a0 0)) (v := (Z74.length + 2)) (i := (6 : Int32)) (q := 75) hX arT_110 hc89 hc85 dX3_init_74 rfl (fun M90 => ?_)
  refine r_iinc (x := (6 : Int32)) (v := (7 : Int32)) (q := 78) 1 1 [1, 0] (L1 := [(0, vr a0), (1, vi (7 : Int32))]) hX dX3_init_75 rfl rfl (Nat.le_of_ble_eq_true rfl) rfl rfl ?_
  refine r_goto (q := 56) hX dX3_init_78 (by decide) ?_
  refine r_iload_n (i := 1) (x := (7 : Int32)) (q := 57) 1 hX dX3_init_56 rfl rfl rfl ?_
  refine r_bipush (v := (8 : Int32)) (q := 59) hX dX3_init_57 rfl rfl ?_
  refine r_icmp_geF (tgt := 81) (q := 62) hX dX3_init_59 (by decide) rfl (by decide) ?_
  refine r_aload_n (i := 0) (x := a0) (q := 63) 0 hX dX3_init_62 rfl rfl rfl ?_
  refine r_getR (a := a0) (ci := 3) (kf := 0) (q := 66) hX (he86 _ _ _ (Nat.succ_pos _) (he77 _ _ _ (Nat.succ_pos _) (he68 _ _ _ (Nat.succ_pos _) (he59 _ _ _ (Nat.succ_pos _) (he50 _ _ _ (Nat.succ_pos _) (he41 _ _ _ (Nat.succ_pos _) (he32 _ _ _ (Nat.succ_pos _) (he25 _ _ _ (Nat.succ_pos _) (he20 _ _ _ (Nat.succ_pos _) (he15 _ _ _ (Nat.succ_pos _) (he10 _ _ _ (Nat.succ_pos _) (he5 _ _ _ (Nat.succ_pos _) hc1)))))))))))) flX3_11 rfl dX3_init_63 rfl ?_
  refine r_iload_n (i := 1) (x := (7 : Int32)) (q := 67) 1 hX dX3_init_66 rfl rfl rfl ?_
  refine r_new (ci := 6) (k1 := 13) (n1 := 75) (q := 70) hX (Nat.le_of_ble_eq_true rfl) (gd (hcw1_1 _ (List.mem_of_getElem? (i := 12) rfl)) rfl) (gd (hcw1_2 _ (List.mem_of_getElem? (i := 0) rfl)) rfl) (gd (hcw1_0 _ (List.mem_of_getElem? (i := 3) rfl)) rfl) rfl (Nat.le_of_ble_eq_true rfl) rfl (Nat.le_of_ble_eq_true rfl) dX3_init_67 rfl (fun Z92 M93 hc94 he95 => ?_)
  refine r_dup (q := 71) hX dX3_init_70 rfl rfl ?_
  refine r_bind (fun v96 h97 => ?_)
  refine r_ci (a := (Z83.length + 2)) (As := []) (st := [vr (Z83.length + 2), vi (7 : Int32), vr (rR M90 a0 0)]) (r := none) (Z1 := Z92) (M1 := v96) (k1 := 13) (n1 := 75) (st1 := [vr (Z83.length + 2), vi (7 : Int32), vr (rR M90 a0 0)]) (q := 74) hX (fun l => kX6_init l Z92 M93 (Z83.length + 2) v96 h97) hc94 imX6_init rfl rfl ccX6_init (Or.inr ⟨_, lkX3_42⟩) rfl rfl rfl ⟨Nat.le_of_ble_eq_true rfl, Nat.le_of_ble_eq_true rfl, rfl, rfl, Nat.le_of_ble_eq_true rfl, Nat.le_of_ble_eq_true rfl⟩ (Nat.le_of_ble_eq_true rfl) dX3_init_71 rfl ?_
  refine r_ck (fun hc98 => ?_)
  refine r_aast (a := (rR M90 a0 0)) (v := (Z83.length + 2)) (i := (7 : Int32)) (q := 75) hX arT_110 hc98 hc94 dX3_init_74 rfl (fun M99 => ?_)
  refine r_iinc (x := (7 : Int32)) (v := (8 : Int32)) (q := 78) 1 1 [1, 0] (L1 := [(0, vr a0), (1, vi (8 : Int32))]) hX dX3_init_75 rfl rfl (Nat.le_of_ble_eq_true rfl) rfl rfl ?_
  refine r_goto (q := 56) hX dX3_init_78 (by decide) ?_
  refine r_iload_n (i := 1) (x := (8 : Int32)) (q := 57) 1 hX dX3_init_56 rfl rfl rfl ?_
  refine r_bipush (v := (8 : Int32)) (q := 59) hX dX3_init_57 rfl rfl ?_
  refine r_icmp_geT (tgt := 81) hX dX3_init_59 (by decide) (by decide) ?_
  refine r_iconst (v := (0 : Int32)) (q := 82) hX dX3_init_81 rfl rfl ?_
  refine r_istore_n (x := (0 : Int32)) (q := 83) 1 [1, 0] (L1 := [(0, vr a0), (1, vi (0 : Int32))]) hX dX3_init_82 rfl (Nat.le_of_ble_eq_true rfl) rfl rfl ?_
  refine r_iload_n (i := 1) (x := (0 : Int32)) (q := 84) 1 hX dX3_init_83 rfl rfl rfl ?_
  refine r_bipush (v := (7 : Int32)) (q := 86) hX dX3_init_84 rfl rfl ?_
  refine r_icmp_geF (tgt := 108) (q := 89) hX dX3_init_86 (by decide) rfl (by decide) ?_
  refine r_aload_n (i := 0) (x := a0) (q := 90) 0 hX dX3_init_89 rfl rfl rfl ?_
  refine r_getR (a := a0) (ci := 3) (kf := 1) (q := 93) hX (he95 _ _ _ (Nat.succ_pos _) (he86 _ _ _ (Nat.succ_pos _) (he77 _ _ _ (Nat.succ_pos _) (he68 _ _ _ (Nat.succ_pos _) (he59 _ _ _ (Nat.succ_pos _) (he50 _ _ _ (Nat.succ_pos _) (he41 _ _ _ (Nat.succ_pos _) (he32 _ _ _ (Nat.succ_pos _) (he25 _ _ _ (Nat.succ_pos _) (he20 _ _ _ (Nat.succ_pos _) (he15 _ _ _ (Nat.succ_pos _) (he10 _ _ _ (Nat.succ_pos _) (he5 _ _ _ (Nat.succ_pos _) hc1))))))))))))) flX3_19 rfl dX3_init_90 rfl ?_
  refine r_iload_n (i := 1) (x := (0 : Int32)) (q := 94) 1 hX dX3_init_93 rfl rfl rfl ?_
  refine r_new (ci := 4) (k1 := 14) (n1 := 82) (q := 97) hX (Nat.le_of_ble_eq_true rfl) (gd (hcw1_1 _ (List.mem_of_getElem? (i := 14) rfl)) rfl) (gd (hcw1_3 _ (List.mem_of_getElem? (i := 0) rfl)) rfl) (gd (hcw1_0 _ (List.mem_of_getElem? (i := 4) rfl)) rfl) rfl (Nat.le_of_ble_eq_true rfl) rfl (Nat.le_of_ble_eq_true rfl) dX3_init_94 rfl (fun Z102 M103 hc104 he105 => ?_)
  refine r_dup (q := 98) hX dX3_init_97 rfl rfl ?_
  refine r_bind (fun v106 h107 => ?_)
  refine r_ci (a := (Z92.length + 2)) (As := []) (st := [vr (Z92.length + 2), vi (0 : Int32), vr (rR M99 a0 1)]) (r := none) (Z1 := Z102) (M1 := v106) (k1 := 14) (n1 := 82) (st1 := [vr (Z92.length + 2), vi (0 : Int32), vr (rR M99 a0 1)]) (q := 101) hX (fun l => kX4_init l Z102 M103 (Z92.length + 2) v106 h107) hc104 imX4_init rfl rfl ccX4_init (Or.inr ⟨_, lkX3_43⟩) rfl rfl rfl ⟨Nat.le_of_ble_eq_true rfl, Nat.le_of_ble_eq_true rfl, rfl, rfl, Nat.le_of_ble_eq_true rfl, Nat.le_of_ble_eq_true rfl⟩ (Nat.le_of_ble_eq_true rfl) dX3_init_98 rfl ?_
  refine r_ck (fun hc108 => ?_)
  refine r_aast (a := (rR M99 a0 1)) (v := (Z92.length + 2)) (i := (0 : Int32)) (q := 102) hX arT_111 hc108 hc104 dX3_init_101 rfl (fun M109 => ?_)
  refine r_iinc (x := (0 : Int32)) (v := (1 : Int32)) (q := 105) 1 1 [1, 0] (L1 := [(0, vr a0), (1, vi (1 : Int32))]) hX dX3_init_102 rfl rfl (Nat.le_of_ble_eq_true rfl) rfl rfl ?_
  refine r_goto (q := 83) hX dX3_init_105 (by decide) ?_
  refine r_iload_n (i := 1) (x := (1 : Int32)) (q := 84) 1 hX dX3_init_83 rfl rfl rfl ?_
  refine r_bipush (v := (7 : Int32)) (q := 86) hX dX3_init_84 rfl rfl ?_
  refine r_icmp_geF (tgt := 108) (q := 89) hX dX3_init_86 (by decide) rfl (by decide) ?_
  refine r_aload_n (i := 0) (x := a0) (q := 90) 0 hX dX3_init_89 rfl rfl rfl ?_
  refine r_getR (a := a0) (ci := 3) (kf := 1) (q := 93) hX (he105 _ _ _ (Nat.succ_pos _) (he95 _ _ _ (Nat.succ_pos _) (he86 _ _ _ (Nat.succ_pos _) (he77 _ _ _ (Nat.succ_pos _) (he68 _ _ _ (Nat.succ_pos _) (he59 _ _ _ (Nat.succ_pos _) (he50 _ _ _ (Nat.succ_pos _) (he41 _ _ _ (Nat.succ_pos _) (he32 _ _ _ (Nat.succ_pos _) (he25 _ _ _ (Nat.succ_pos _) (he20 _ _ _ (Nat.succ_pos _) (he15 _ _ _ (Nat.succ_pos _) (he10 _ _ _ (Nat.succ_pos _) (he5 _ _ _ (Nat.succ_pos _) hc1)))))))))))))) flX3_19 rfl dX3_init_90 rfl ?_
  refine r_iload_n (i := 1) (x := (1 : Int32)) (q := 94) 1 hX dX3_init_93 rfl rfl rfl ?_
  refine r_new (ci := 4) (k1 := 15) (n1 := 89) (q := 97) hX (Nat.le_of_ble_eq_true rfl) (gd (hcw1_1 _ (List.mem_of_getElem? (i := 14) rfl)) rfl) (gd (hcw1_3 _ (List.mem_of_getElem? (i := 0) rfl)) rfl) (gd (hcw1_0 _ (List.mem_of_getElem? (i := 4) rfl)) rfl) rfl (Nat.le_of_ble_eq_true rfl) rfl (Nat.le_of_ble_eq_true rfl) dX3_init_94 rfl (fun Z111 M112 hc113 he114 => ?_)
  refine r_dup (q := 98) hX dX3_init_97 rfl rfl ?_
  refine r_bind (fun v115 h116 => ?_)
  refine r_ci (a := (Z102.length + 2)) (As := []) (st := [vr (Z102.length + 2), vi (1 : Int32), vr (rR M109 a0 1)]) (r := none) (Z1 := Z111) (M1 := v115) (k1 := 15) (n1 := 89) (st1 := [vr (Z102.length + 2), vi (1 : Int32), vr (rR M109 a0 1)]) (q := 101) hX (fun l => kX4_init l Z111 M112 (Z102.length + 2) v115 h116) hc113 imX4_init rfl rfl ccX4_init (Or.inr ⟨_, lkX3_43⟩) rfl rfl rfl ⟨Nat.le_of_ble_eq_true rfl, Nat.le_of_ble_eq_true rfl, rfl, rfl, Nat.le_of_ble_eq_true rfl, Nat.le_of_ble_eq_true rfl⟩ (Nat.le_of_ble_eq_true rfl) dX3_init_98 rfl ?_
  refine r_ck (fun hc117 => ?_)
  refine r_aast (a := (rR M109 a0 1)) (v := (Z102.length + 2)) (i := (1 : Int32)) (q := 102) hX arT_111 hc117 hc113 dX3_init_101 rfl (fun M118 => ?_)
  refine r_iinc (x := (1 : Int32)) (v := (2 : Int32)) (q := 105) 1 1 [1, 0] (L1 := [(0, vr a0), (1, vi (2 : Int32))]) hX dX3_init_102 rfl rfl (Nat.le_of_ble_eq_true rfl) rfl rfl ?_
  refine r_goto (q := 83) hX dX3_init_105 (by decide) ?_
  refine r_iload_n (i := 1) (x := (2 : Int32)) (q := 84) 1 hX dX3_init_83 rfl rfl rfl ?_
  refine r_bipush (v := (7 : Int32)) (q := 86) hX dX3_init_84 rfl rfl ?_
  refine r_icmp_geF (tgt := 108) (q := 89) hX dX3_init_86 (by decide) rfl (by decide) ?_
  refine r_aload_n (i := 0) (x := a0) (q := 90) 0 hX dX3_init_89 rfl rfl rfl ?_
  refine r_getR (a := a0) (ci := 3) (kf := 1) (q := 93) hX (he114 _ _ _ (Nat.succ_pos _) (he105 _ _ _ (Nat.succ_pos _) (he95 _ _ _ (Nat.succ_pos _) (he86 _ _ _ (Nat.succ_pos _) (he77 _ _ _ (Nat.succ_pos _) (he68 _ _ _ (Nat.succ_pos _) (he59 _ _ _ (Nat.succ_pos _) (he50 _ _ _ (Nat.succ_pos _) (he41 _ _ _ (Nat.succ_pos _) (he32 _ _ _ (Nat.succ_pos _) (he25 _ _ _ (Nat.succ_pos _) (he20 _ _ _ (Nat.succ_pos _) (he15 _ _ _ (Nat.succ_pos _) (he10 _ _ _ (Nat.succ_pos _) (he5 _ _ _ (Nat.succ_pos _) hc1))))))))))))))) flX3_19 rfl dX3_init_90 rfl ?_
  refine r_iload_n (i := 1) (x := (2 : Int32)) (q := 94) 1 hX dX3_init_93 rfl rfl rfl ?_
  refine r_new (ci := 4) (k1 := 16) (n1 := 96) (q := 97) hX (Nat.le_of_ble_eq_true rfl) (gd (hcw1_1 _ (List.mem_of_getElem? (i := 14) rfl)) rfl) (gd (hcw1_3 _ (List.mem_of_getElem? (i := 0) rfl)) rfl) (gd (hcw1_0 _ (List.mem_of_getElem? (i := 4) rfl)) rfl) rfl (Nat.le_of_ble_eq_true rfl) rfl (Nat.le_of_ble_eq_true rfl) dX3_init_94 rfl (fun Z120 M121 hc122 he123 => ?_)
  refine r_dup (q := 98) hX dX3_init_97 rfl rfl ?_
  refine r_bind (fun v124 h125 => ?_)
  refine r_ci (a := (Z111.length + 2)) (As := []) (st := [vr (Z111.length + 2), vi (2 : Int32), vr (rR M118 a0 1)]) (r := none) (Z1 := Z120) (M1 := v124) (k1 := 16) (n1 := 96) (st1 := [vr (Z111.length + 2), vi (2 : Int32), vr (rR M118 a0 1)]) (q := 101) hX (fun l => kX4_init l Z120 M121 (Z111.length + 2) v124 h125) hc122 imX4_init rfl rfl ccX4_init (Or.inr ⟨_, lkX3_43⟩) rfl rfl rfl ⟨Nat.le_of_ble_eq_true rfl, Nat.le_of_ble_eq_true rfl, rfl, rfl, Nat.le_of_ble_eq_true rfl, Nat.le_of_ble_eq_true rfl⟩ (Nat.le_of_ble_eq_true rfl) dX3_init_98 rfl ?_
  refine r_ck (fun hc126 => ?_)
  refine r_aast (a := (rR M118 a0 1)) (v := (Z111.length + 2)) (i := (2 : Int32)) (q := 102) hX arT_111 hc126 hc122 dX3_init_101 rfl (fun M127 => ?_)
  refine r_iinc (x := (2 : Int32)) (v := (3 : Int32)) (q := 105) 1 1 [1, 0] (L1 := [(0, vr a0), (1, vi (3 : Int32))]) hX dX3_init_102 rfl rfl (Nat.le_of_ble_eq_true rfl) rfl rfl ?_
  refine r_goto (q := 83) hX dX3_init_105 (by decide) ?_
  refine r_iload_n (i := 1) (x := (3 : Int32)) (q := 84) 1 hX dX3_init_83 rfl rfl rfl ?_
  refine r_bipush (v := (7 : Int32)) (q := 86) hX dX3_init_84 rfl rfl ?_
  refine r_icmp_geF (tgt := 108) (q := 89) hX dX3_init_86 (by decide) rfl (by decide) ?_
  refine r_aload_n (i := 0) (x := a0) (q := 90) 0 hX dX3_init_89 rfl rfl rfl ?_
  refine r_getR (a := a0) (ci := 3) (kf := 1) (q := 93) hX (he123 _ _ _ (Nat.succ_pos _) (he114 _ _ _ (Nat.succ_pos _) (he105 _ _ _ (Nat.succ_pos _) (he95 _ _ _ (Nat.succ_pos _) (he86 _ _ _ (Nat.succ_pos _) (he77 _ _ _ (Nat.succ_pos _) (he68 _ _ _ (Nat.succ_pos _) (he59 _ _ _ (Nat.succ_pos _) (he50 _ _ _ (Nat.succ_pos _) (he41 _ _ _ (Nat.succ_pos _) (he32 _ _ _ (Nat.succ_pos _) (he25 _ _ _ (Nat.succ_pos _) (he20 _ _ _ (Nat.succ_pos _) (he15 _ _ _ (Nat.succ_pos _) (he10 _ _ _ (Nat.succ_pos _) (he5 _ _ _ (Nat.succ_pos _) hc1)))))))))))))))) flX3_19 rfl dX3_init_90 rfl ?_
  refine r_iload_n (i := 1) (x := (3 : Int32)) (q := 94) 1 hX dX3_init_93 rfl rfl rfl ?_
  refine r_new (ci := 4) (k1 := 17) (n1 := 103) (q := 97) hX (Nat.le_of_ble_eq_true rfl) (gd (hcw1_1 _ (List.mem_of_getElem? (i := 14) rfl)) rfl) (gd (hcw1_3 _ (List.mem_of_getElem? (i := 0) rfl)) rfl) (gd (hcw1_0 _ (List.mem_of_getElem? (i := 4) rfl)) rfl) rfl (Nat.le_of_ble_eq_true rfl) rfl (Nat.le_of_ble_eq_true rfl) dX3_init_94 rfl (fun Z129 M130 hc131 he132 => ?_)
  refine r_dup (q := 98) hX dX3_init_97 rfl rfl ?_
  refine r_bind (fun v133 h134 => ?_)
  refine r_ci (a := (Z120.length + 2)) (As := []) (st := [vr (Z120.length + 2), vi (3 : Int32), vr (rR M127 a0 1)]) (r := none) (Z1 := Z129) (M1 := v133) (k1 := 17) (n1 := 103) (st1 := [vr (Z120.length + 2), vi (3 : Int32), vr (rR M127 a0 1)]) (q := 101) hX (fun l => kX4_init l Z129 M130 (Z120.length + 2) v133 h134) hc131 imX4_init rfl rfl ccX4_init (Or.inr ⟨_, lkX3_43⟩) rfl rfl rfl ⟨Nat.le_of_ble_eq_true rfl, Nat.le_of_ble_eq_true rfl, rfl, rfl, Nat.le_of_ble_eq_true rfl, Nat.le_of_ble_eq_true rfl⟩ (Nat.le_of_ble_eq_true rfl) dX3_init_98 rfl ?_
  refine r_ck (fun hc135 => ?_)
  refine r_aast (a := (rR M127 a0 1)) (v := (Z120.length + 2)) (i := (3 : Int32)) (q := 102) hX arT_111 hc135 hc131 dX3_init_101 rfl (fun M136 => ?_)
  refine r_iinc (x := (3 : Int32)) (v := (4 : Int32)) (q := 105) 1 1 [1, 0] (L1 := [(0, vr a0), (1, vi (4 : Int32))]) hX dX3_init_102 rfl rfl (Nat.le_of_ble_eq_true rfl) rfl rfl ?_
  refine r_goto (q := 83) hX dX3_init_105 (by decide) ?_
  refine r_iload_n (i := 1) (x := (4 : Int32)) (q := 84) 1 hX dX3_init_83 rfl rfl rfl ?_
  refine r_bipush (v := (7 : Int32)) (q := 86) hX dX3_init_84 rfl rfl ?_
  refine r_icmp_geF (tgt := 108) (q := 89) hX dX3_init_86 (by decide) rfl (by decide) ?_
  refine r_aload_n (i := 0) (x := a0) (q := 90) 0 hX dX3_init_89 rfl rfl rfl ?_
  refine r_getR (a := a0) (ci := 3) (kf := 1) (q := 93) hX (he132 _ _ _ (Nat.succ_pos _) (he123 _ _ _ (Nat.succ_pos _) (he114 _ _ _ (Nat.succ_pos _) (he105 _ _ _ (Nat.succ_pos _) (he95 _ _ _ (Nat.succ_pos _) (he86 _ _ _ (Nat.succ_pos _) (he77 _ _ _ (Nat.succ_pos _) (he68 _ _ _ (Nat.succ_pos _) (he59 _ _ _ (Nat.succ_pos _) (he50 _ _ _ (Nat.succ_pos _) (he41 _ _ _ (Nat.succ_pos _) (he32 _ _ _ (Nat.succ_pos _) (he25 _ _ _ (Nat.succ_pos _) (he20 _ _ _ (Nat.succ_pos _) (he15 _ _ _ (Nat.succ_pos _) (he10 _ _ _ (Nat.succ_pos _) (he5 _ _ _ (Nat.succ_pos _) hc1))))))))))))))))) flX3_19 rfl dX3_init_90 rfl ?_
  refine r_iload_n (i := 1) (x := (4 : Int32)) (q := 94) 1 hX dX3_init_93 rfl rfl rfl ?_
  refine r_new (ci := 4) (k1 := 18) (n1 := 110) (q := 97) hX (Nat.le_of_ble_eq_true rfl) (gd (hcw1_1 _ (List.mem_of_getElem? (i := 14) rfl)) rfl) (gd (hcw1_3 _ (List.mem_of_getElem? (i := 0) rfl)) rfl) (gd (hcw1_0 _ (List.mem_of_getElem? (i := 4) rfl)) rfl) rfl (Nat.le_of_ble_eq_true rfl) rfl (Nat.le_of_ble_eq_true rfl) dX3_init_94 rfl (fun Z138 M139 hc140 he141 => ?_)
  refine r_dup (q := 98) hX dX3_init_97 rfl rfl ?_
  refine r_bind (fun v142 h143 => ?_)
  refine r_ci (a := (Z129.length + 2)) (As := []) (st := [vr (Z129.length + 2), vi (4 : Int32), vr (rR M136 a0 1)]) (r := none) (Z1 := Z138) (M1 := v142) (k1 := 18) (n1 := 110) (st1 := [vr (Z129.length + 2), vi (4 : Int32), vr (rR M136 a0 1)]) (q := 101) hX (fun l => kX4_init l Z138 M139 (Z129.length + 2) v142 h143) hc140 imX4_init rfl rfl ccX4_init (Or.inr ⟨_, lkX3_43⟩) rfl rfl rfl ⟨Nat.le_of_ble_eq_true rfl, Nat.le_of_ble_eq_true rfl, rfl, rfl, Nat.le_of_ble_eq_true rfl, Nat.le_of_ble_eq_true rfl⟩ (Nat.le_of_ble_eq_true rfl) dX3_init_98 rfl ?_
  refine r_ck (fun hc144 => ?_)
  refine r_aast (a := (rR M136 a0 1)) (v := (Z129.length + 2)) (i := (4 : Int32)) (q := 102) hX arT_111 hc144 hc140 dX3_init_101 rfl (fun M145 => ?_)
  refine r_iinc (x := (4 : Int32)) (v := (5 : Int32)) (q := 105) 1 1 [1, 0] (L1 := [(0, vr a0), (1, vi (5 : Int32))]) hX dX3_init_102 rfl rfl (Nat.le_of_ble_eq_true rfl) rfl rfl ?_
  refine r_goto (q := 83) hX dX3_init_105 (by decide) ?_
  refine r_iload_n (i := 1) (x := (5 : Int32)) (q := 84) 1 hX dX3_init_83 rfl rfl rfl ?_
  refine r_bipush (v := (7 : Int32)) (q := 86) hX dX3_init_84 rfl rfl ?_
  refine r_icmp_geF (tgt := 108) (q := 89) hX dX3_init_86 (by decide) rfl (by decide) ?_
  refine r_aload_n (i := 0) (x := a0) (q := 90) 0 hX dX3_init_89 rfl rfl rfl ?_
  refine r_getR (a := a0) (ci := 3) (kf := 1) (q := 93) hX (he141 _ _ _ (Nat.succ_pos _) (he132 _ _ _ (Nat.succ_pos _) (he123 _ _ _ (Nat.succ_pos _) (he114 _ _ _ (Nat.succ_pos _) (he105 _ _ _ (Nat.succ_pos _) (he95 _ _ _ (Nat.succ_pos _) (he86 _ _ _ (Nat.succ_pos _) (he77 _ _ _ (Nat.succ_pos _) (he68 _ _ _ (Nat.succ_pos _) (he59 _ _ _ (Nat.succ_pos _) (he50 _ _ _ (Nat.succ_pos _) (he41 _ _ _ (Nat.succ_pos _) (he32 _ _ _ (Nat.succ_pos _) (he25 _ _ _ (Nat.succ_pos _) (he20 _ _ _ (Nat.succ_pos _) (he15 _ _ _ (Nat.succ_pos _) (he10 _ _ _ (Nat.succ_pos _) (he5 _ _ _ (Nat.succ_pos _) hc1)))))))))))))))))) flX3_19 rfl dX3_init_90 rfl ?_
  refine r_iload_n (i := 1) (x := (5 : Int32)) (q := 94) 1 hX dX3_init_93 rfl rfl rfl ?_
  refine r_new (ci := 4) (k1 := 19) (n1 := 117) (q := 97) hX (Nat.le_of_ble_eq_true rfl) (gd (hcw1_1 _ (List.mem_of_getElem? (i := 14) rfl)) rfl) (gd (hcw1_3 _ (List.mem_of_getElem? (i := 0) rfl)) rfl) (gd (hcw1_0 _ (List.mem_of_getElem? (i := 4) rfl)) rfl) rfl (Nat.le_of_ble_eq_true rfl) rfl (Nat.le_of_ble_eq_true rfl) dX3_init_94 rfl (fun Z147 M148 hc149 he150 => ?_)
  refine r_dup (q := 98) hX dX3_init_97 rfl rfl ?_
  refine r_bind (fun v151 h152 => ?_)
  refine r_ci (a := (Z138.length + 2)) (As := []) (st := [vr (Z138.length + 2), vi (5 : Int32), vr (rR M145 a0 1)]) (r := none) (Z1 := Z147) (M1 := v151) (k1 := 19) (n1 := 117) (st1 := [vr (Z138.length + 2), vi (5 : Int32), vr (rR M145 a0 1)]) (q := 101) hX (fun l => kX4_init l Z147 M148 (Z138.length + 2) v151 h152) hc149 imX4_init rfl rfl ccX4_init (Or.inr ⟨_, lkX3_43⟩) rfl rfl rfl ⟨Nat.le_of_ble_eq_true rfl, Nat.le_of_ble_eq_true rfl, rfl, rfl, Nat.le_of_ble_eq_true rfl, Nat.le_of_ble_eq_true rfl⟩ (Nat.le_of_ble_eq_true rfl) dX3_init_98 rfl ?_
  refine r_ck (fun hc153 => ?_)
  refine r_aast (a := (rR M145 a0 1)) (v := (Z138.length + 2)) (i := (5 : Int32)) (q := 102) hX arT_111 hc153 hc149 dX3_init_101 rfl (fun M154 => ?_)
  refine r_iinc (x := (5 : Int32)) (v := (6 : Int32)) (q := 105) 1 1 [1, 0] (L1 := [(0, vr a0), (1, vi (6 : Int32))]) hX dX3_init_102 rfl rfl (Nat.le_of_ble_eq_true rfl) rfl rfl ?_
  refine r_goto (q := 83) hX dX3_init_105 (by decide) ?_
  refine r_iload_n (i := 1) (x := (6 : Int32)) (q := 84) 1 hX dX3_init_83 rfl rfl rfl ?_
  refine r_bipush (v := (7 : Int32)) (q := 86) hX dX3_init_84 rfl rfl ?_
  refine r_icmp_geF (tgt := 108) (q := 89) hX dX3_init_86 (by decide) rfl (by decide) ?_
  refine r_aload_n (i := 0) (x := a0) (q := 90) 0 hX dX3_init_89 rfl rfl rfl ?_
  refine r_getR (a := a0) (ci := 3) (kf := 1) (q := 93) hX (he150 _ _ _ (Nat.succ_pos _) (he141 _ _ _ (Nat.succ_pos _) (he132 _ _ _ (Nat.succ_pos _) (he123 _ _ _ (Nat.succ_pos _) (he114 _ _ _ (Nat.succ_pos _) (he105 _ _ _ (Nat.succ_pos _) (he95 _ _ _ (Nat.succ_pos _) (he86 _ _ _ (Nat.succ_pos _) (he77 _ _ _ (Nat.succ_pos _) (he68 _ _ _ (Nat.succ_pos _) (he59 _ _ _ (Nat.succ_pos _) (he50 _ _ _ (Nat.succ_pos _) (he41 _ _ _ (Nat.succ_pos _) (he32 _ _ _ (Nat.succ_pos _) (he25 _ _ _ (Nat.succ_pos _) (he20 _ _ _ (Nat.succ_pos _) (he15 _ _ _ (Nat.succ_pos _) (he10 _ _ _ (Nat.succ_pos _) (he5 _ _ _ (Nat.succ_pos _) hc1))))))))))))))))))) flX3_19 rfl dX3_init_90 rfl ?_
  refine r_iload_n (i := 1) (x := (6 : Int32)) (q := 94) 1 hX dX3_init_93 rfl rfl rfl ?_
  refine r_new (ci := 4) (k1 := 20) (n1 := 124) (q := 97) hX (Nat.le_of_ble_eq_true rfl) (gd (hcw1_1 _ (List.mem_of_getElem? (i := 14) rfl)) rfl) (gd (hcw1_3 _ (List.mem_of_getElem? (i := 0) rfl)) rfl) (gd (hcw1_0 _ (List.mem_of_getElem? (i := 4) rfl)) rfl) rfl (Nat.le_of_ble_eq_true rfl) rfl (Nat.le_of_ble_eq_true rfl) dX3_init_94 rfl (fun Z156 M157 hc158 he159 => ?_)
  refine r_dup (q := 98) hX dX3_init_97 rfl rfl ?_
  refine r_bind (fun v160 h161 => ?_)
  refine r_ci (a := (Z147.length + 2)) (As := []) (st := [vr (Z147.length + 2), vi (6 : Int32), vr (rR M154 a0 1)]) (r := none) (Z1 := Z156) (M1 := v160) (k1 := 20) (n1 := 124) (st1 := [vr (Z147.length + 2), vi (6 : Int32), vr (rR M154 a0 1)]) (q := 101) hX (fun l => kX4_init l Z156 M157 (Z147.length + 2) v160 h161) hc158 imX4_init rfl rfl ccX4_init (Or.inr ⟨_, lkX3_43⟩) rfl rfl rfl ⟨Nat.le_of_ble_eq_true rfl, Nat.le_of_ble_eq_true rfl, rfl, rfl, Nat.le_of_ble_eq_true rfl, Nat.le_of_ble_eq_true rfl⟩ (Nat.le_of_ble_eq_true rfl) dX3_init_98 rfl ?_
  refine r_ck (fun hc162 => ?_)
  refine r_aast (a := (rR M154 a0 1)) (v := (Z147.length + 2)) (i := (6 : Int32)) (q := 102) hX arT_111 hc162 hc158 dX3_init_101 rfl (fun M163 => ?_)
  refine r_iinc (x := (6 : Int32)) (v := (7 : Int32)) (q := 105) 1 1 [1, 0] (L1 := [(0, vr a0), (1, vi (7 : Int32))]) hX dX3_init_102 rfl rfl (Nat.le_of_ble_eq_true rfl) rfl rfl ?_
  refine r_goto (q := 83) hX dX3_init_105 (by decide) ?_
  refine r_iload_n (i := 1) (x := (7 : Int32)) (q := 84) 1 hX dX3_init_83 rfl rfl rfl ?_
  refine r_bipush (v := (7 : Int32)) (q := 86) hX dX3_init_84 rfl rfl ?_
  refine r_icmp_geT (tgt := 108) hX dX3_init_86 (by decide) (by decide) ?_
  refine r_lf (hK _) ?_
  exact r_vret hM rfl (Nat.le_of_ble_eq_true rfl) (Nat.le_of_ble_eq_true rfl) dX3_init_108
def mX2_init : MD := (yX2_init, cX2_init, 1, none, 1, 12, 2, 76)
theorem ccX2_init : Cc mX2_init 0 := ⟨gd (hcw1_0 _ (List.mem_of_getElem? (i := 5) rfl)) rfl, gd (hcw1_6 _ (List.mem_of_getElem? (i := 15) rfl)) rfl, by decide +kernel, by decide +kernel, by decide +kernel⟩
theorem imX2_init : Cond.instanceMethod (yN mX2_init) ∈ lw_gd := gd (hcw1_6 _ (List.mem_of_getElem? (i := 14) rfl)) rfl
def fX2_init (Z : Shp) (M : Mem) (a0 : Nat) : Option (Shp × Mem) := (if tg Z a0 = (3, 4) then (pu2 (Z ++ [(102, ix (60 : Int32))]) (nw M (Z.length + 2)) (fun Z2 M3 => (pu (wR M3 a0 0 (Z.length + 2)) (fun M6 => (pu2 (Z2 ++ [(114, ix (16 : Int32))]) (nw M6 (Z2.length + 2)) (fun Z7 M8 => (pu (wR M8 a0 2 (Z2.length + 2)) (fun M11 => some (Z7, M11))))))))) else none)
set_option maxRecDepth 20000 in
theorem kX2_init (l : Launch) (Z : Shp) (M : Mem) (a0 : Nat) (r : Shp × Mem) (h : fX2_init Z M a0 = some r) : Ct l mX2_init [vr a0] Z M (none, r.1, r.2) := by
  refine Ct.of rfl (Nat.le_of_ble_eq_true rfl) (fun X hM => ?_)
  have hX := hM.1
  refine r_top (mk := fun r => (none, r.1, r.2)) h (fun K hK => ?_)
  unfold fX2_init
  refine r_aload_n (i := 0) (x := a0) (q := 1) 0 hX dX2_init_0 rfl rfl rfl ?_
  refine r_ck (fun hc1 => ?_)
  refine r_objI (ci := 2) (q := 4) hX (gd (hcw1_6 _ (List.mem_of_getElem? (i := 16) rfl)) rfl) hc1 (Nat.le_of_ble_eq_true rfl) (Nat.le_of_ble_eq_true rfl) dX2_init_1 rfl ?_
  refine r_aload_n (i := 0) (x := a0) (q := 5) 0 hX dX2_init_4 rfl rfl rfl ?_
  refine r_bipush (v := (60 : Int32)) (q := 7) hX dX2_init_5 rfl rfl ?_
  refine r_newa (cap := 60) (k1 := 1) (n1 := 60) (q := 9) hX arP_b ⟨by decide, by decide⟩ rfl (Nat.le_of_ble_eq_true rfl) rfl (Nat.le_of_ble_eq_true rfl) (Nat.le_of_ble_eq_true rfl) dX2_init_7 rfl (fun Z2 M3 hc4 he5 => ?_)
  refine r_putR (a := a0) (ci := 2) (kf := 0) (q := 12) hX (he5 _ _ _ (Nat.succ_pos _) hc1) flX2_11 rfl (Or.inr ⟨rfl, rfl, rfl⟩) nf_arr dX2_init_9 rfl (fun M6 => ?_)
  refine r_aload_n (i := 0) (x := a0) (q := 13) 0 hX dX2_init_12 rfl rfl rfl ?_
  refine r_bipush (v := (16 : Int32)) (q := 15) hX dX2_init_13 rfl rfl ?_
  refine r_newq (cap := 16) (k1 := 2) (n1 := 76) (q := 18) hX arT_114 (gd (hcw1_6 _ (List.mem_of_getElem? (i := 17) rfl)) rfl) (bd (hcw1_6 _ (List.mem_of_getElem? (i := 18) rfl)) rfl) ⟨by decide, by decide⟩ rfl (Nat.le_of_ble_eq_true rfl) rfl (Nat.le_of_ble_eq_true rfl) (Nat.le_of_ble_eq_true rfl) dX2_init_15 rfl (fun Z7 M8 hc9 he10 => ?_)
  refine r_putR (a := a0) (ci := 2) (kf := 2) (q := 21) hX (he10 _ _ _ (Nat.succ_pos _) (he5 _ _ _ (Nat.succ_pos _) hc1)) flX2_17 rfl (Or.inr ⟨rfl, rfl, rfl⟩) nf_arr dX2_init_18 rfl (fun M11 => ?_)
  refine r_lf (hK _) ?_
  exact r_vret hM rfl (Nat.le_of_ble_eq_true rfl) (Nat.le_of_ble_eq_true rfl) dX2_init_21
theorem flX9_22 : FL RX9 22 9 8 := ⟨Nat.le_of_ble_eq_true rfl, Nat.le_of_ble_eq_true rfl, gd (hcw1_8 _ (List.mem_of_getElem? (i := 12) rfl)) rfl⟩
def mX9_init : MD := (yX9_init, cX9_init, 1, none, 1, 12, 4, 32)
theorem ccX9_init : Cc mX9_init 0 := ⟨gd (hcw1_0 _ (List.mem_of_getElem? (i := 6) rfl)) rfl, gd (hcw1_7 _ (List.mem_of_getElem? (i := 19) rfl)) rfl, by decide +kernel, by decide +kernel, by decide +kernel⟩
theorem imX9_init : Cond.instanceMethod (yN mX9_init) ∈ lw_gd := gd (hcw1_7 _ (List.mem_of_getElem? (i := 18) rfl)) rfl
def fX9_init (Z : Shp) (M : Mem) (a0 : Nat) : Option (Shp × Mem) := (if tg Z a0 = (10, 10) then (pu2 (Z ++ [(101, ix (8 : Int32))]) (nw M (Z.length + 2)) (fun Z2 M3 => (pu (wR M3 a0 0 (Z.length + 2)) (fun M6 => (pu2 (Z2 ++ [(100, ix (8 : Int32))]) (nw M6 (Z2.length + 2)) (fun Z7 M8 => (pu (wR M8 a0 1 (Z2.length + 2)) (fun M11 => (pu2 (Z7 ++ [(100, ix (8 : Int32))]) (nw M11 (Z7.length + 2)) (fun Z12 M13 => (pu (wR M13 a0 2 (Z7.length + 2)) (fun M16 => (pu2 (Z12 ++ [(100, ix (8 : Int32))]) (nw M16 (Z12.length + 2)) (fun Z17 M18 => (pu (wR M18 a0 8 (Z12.length + 2)) (fun M21 => some (Z17, M21))))))))))))))))) else none)
set_option maxRecDepth 20000 in
theorem kX9_init (l : Launch) (Z : Shp) (M : Mem) (a0 : Nat) (r : Shp × Mem) (h : fX9_init Z M a0 = some r) : Ct l mX9_init [vr a0] Z M (none, r.1, r.2) := by
  refine Ct.of rfl (Nat.le_of_ble_eq_true rfl) (fun X hM => ?_)
  have hX := hM.1
  refine r_top (mk := fun r => (none, r.1, r.2)) h (fun K hK => ?_)
  unfold fX9_init
  refine r_aload_n (i := 0) (x := a0) (q := 1) 0 hX dX9_init_0 rfl rfl rfl ?_
  refine r_ck (fun hc1 => ?_)
  refine r_objI (ci := 9) (q := 4) hX (gd (hcw1_8 _ (List.mem_of_getElem? (i := 0) rfl)) rfl) hc1 (Nat.le_of_ble_eq_true rfl) (Nat.le_of_ble_eq_true rfl) dX9_init_1 rfl ?_
  refine r_aload_n (i := 0) (x := a0) (q := 5) 0 hX dX9_init_4 rfl rfl rfl ?_
  refine r_bipush (v := (8 : Int32)) (q := 7) hX dX9_init_5 rfl rfl ?_
  refine r_newa (cap := 8) (k1 := 1) (n1 := 8) (q := 9) hX arP_z ⟨by decide, by decide⟩ rfl (Nat.le_of_ble_eq_true rfl) rfl (Nat.le_of_ble_eq_true rfl) (Nat.le_of_ble_eq_true rfl) dX9_init_7 rfl (fun Z2 M3 hc4 he5 => ?_)
  refine r_putR (a := a0) (ci := 9) (kf := 0) (q := 12) hX (he5 _ _ _ (Nat.succ_pos _) hc1) flX9_11 rfl (Or.inr ⟨rfl, rfl, rfl⟩) nf_arr dX9_init_9 rfl (fun M6 => ?_)
  refine r_aload_n (i := 0) (x := a0) (q := 13) 0 hX dX9_init_12 rfl rfl rfl ?_
  refine r_bipush (v := (8 : Int32)) (q := 15) hX dX9_init_13 rfl rfl ?_
  refine r_newa (cap := 8) (k1 := 2) (n1 := 16) (q := 17) hX arP_i ⟨by decide, by decide⟩ rfl (Nat.le_of_ble_eq_true rfl) rfl (Nat.le_of_ble_eq_true rfl) (Nat.le_of_ble_eq_true rfl) dX9_init_15 rfl (fun Z7 M8 hc9 he10 => ?_)
  refine r_putR (a := a0) (ci := 9) (kf := 1) (q := 20) hX (he10 _ _ _ (Nat.succ_pos _) (he5 _ _ _ (Nat.succ_pos _) hc1)) flX9_15 rfl (Or.inr ⟨rfl, rfl, rfl⟩) nf_arr dX9_init_17 rfl (fun M11 => ?_)
  refine r_aload_n (i := 0) (x := a0) (q := 21) 0 hX dX9_init_20 rfl rfl rfl ?_
  refine r_bipush (v := (8 : Int32)) (q := 23) hX dX9_init_21 rfl rfl ?_
  refine r_newa (cap := 8) (k1 := 3) (n1 := 24) (q := 25) hX arP_i ⟨by decide, by decide⟩ rfl (Nat.le_of_ble_eq_true rfl) rfl (Nat.le_of_ble_eq_true rfl) (Nat.le_of_ble_eq_true rfl) dX9_init_23 rfl (fun Z12 M13 hc14 he15 => ?_)
  refine r_putR (a := a0) (ci := 9) (kf := 2) (q := 28) hX (he15 _ _ _ (Nat.succ_pos _) (he10 _ _ _ (Nat.succ_pos _) (he5 _ _ _ (Nat.succ_pos _) hc1))) flX9_19 rfl (Or.inr ⟨rfl, rfl, rfl⟩) nf_arr dX9_init_25 rfl (fun M16 => ?_)
  refine r_aload_n (i := 0) (x := a0) (q := 29) 0 hX dX9_init_28 rfl rfl rfl ?_
  refine r_bipush (v := (8 : Int32)) (q := 31) hX dX9_init_29 rfl rfl ?_
  refine r_newa (cap := 8) (k1 := 4) (n1 := 32) (q := 33) hX arP_i ⟨by decide, by decide⟩ rfl (Nat.le_of_ble_eq_true rfl) rfl (Nat.le_of_ble_eq_true rfl) (Nat.le_of_ble_eq_true rfl) dX9_init_31 rfl (fun Z17 M18 hc19 he20 => ?_)
  refine r_putR (a := a0) (ci := 9) (kf := 8) (q := 36) hX (he20 _ _ _ (Nat.succ_pos _) (he15 _ _ _ (Nat.succ_pos _) (he10 _ _ _ (Nat.succ_pos _) (he5 _ _ _ (Nat.succ_pos _) hc1)))) flX9_22 rfl (Or.inr ⟨rfl, rfl, rfl⟩) nf_arr dX9_init_33 rfl (fun M21 => ?_)
  refine r_lf (hK _) ?_
  exact r_vret hM rfl (Nat.le_of_ble_eq_true rfl) (Nat.le_of_ble_eq_true rfl) dX9_init_36
def mX5_init : MD := (yX5_init, cX5_init, 1, none, 1, 12, 7, 118)
theorem ccX5_init : Cc mX5_init 0 := ⟨gd (hcw1_0 _ (List.mem_of_getElem? (i := 8) rfl)) rfl, gd (hcw1_11 _ (List.mem_of_getElem? (i := 18) rfl)) rfl, by decide +kernel, by decide +kernel, by decide +kernel⟩
theorem imX5_init : Cond.instanceMethod (yN mX5_init) ∈ lw_gd := gd (hcw1_11 _ (List.mem_of_getElem? (i := 17) rfl)) rfl
def fX5_init (Z : Shp) (M : Mem) (a0 : Nat) : Option (Shp × Mem) := (if tg Z a0 = (6, 9) then (pu2 (Z ++ [(100, ix (4 : Int32))]) (nw M (Z.length + 2)) (fun Z2 M3 => (pu (wR M3 a0 0 (Z.length + 2)) (fun M6 => (pu2 (Z2 ++ [(100, ix (12 : Int32))]) (nw M6 (Z2.length + 2)) (fun Z7 M8 => (pu (wR M8 a0 1 (Z2.length + 2)) (fun M11 => (pu2 (Z7 ++ [(100, ix (6 : Int32))]) (nw M11 (Z7.length + 2)) (fun Z12 M13 => (pu (wR M13 a0 2 (Z7.length + 2)) (fun M16 => (pu2 (Z12 ++ [(100, ix (24 : Int32))]) (nw M16 (Z12.length + 2)) (fun Z17 M18 => (pu (wR M18 a0 3 (Z12.length + 2)) (fun M21 => (pu2 (Z17 ++ [(100, ix (24 : Int32))]) (nw M21 (Z17.length + 2)) (fun Z22 M23 => (pu (wR M23 a0 4 (Z17.length + 2)) (fun M26 => (pu2 (Z22 ++ [(100, ix (24 : Int32))]) (nw M26 (Z22.length + 2)) (fun Z27 M28 => (pu (wR M28 a0 5 (Z22.length + 2)) (fun M31 => (pu2 (Z27 ++ [(100, ix (24 : Int32))]) (nw M31 (Z27.length + 2)) (fun Z32 M33 => (pu (wR M33 a0 6 (Z27.length + 2)) (fun M36 => (pu (wI M36 a0 8 (9 : Int32)) (fun M37 => some (Z32, M37))))))))))))))))))))))))))))))) else none)
set_option maxRecDepth 20000 in
theorem kX5_init (l : Launch) (Z : Shp) (M : Mem) (a0 : Nat) (r : Shp × Mem) (h : fX5_init Z M a0 = some r) : Ct l mX5_init [vr a0] Z M (none, r.1, r.2) := by
  refine Ct.of rfl (Nat.le_of_ble_eq_true rfl) (fun X hM => ?_)
  have hX := hM.1
  refine r_top (mk := fun r => (none, r.1, r.2)) h (fun K hK => ?_)
  unfold fX5_init
  refine r_aload_n (i := 0) (x := a0) (q := 1) 0 hX dX5_init_0 rfl rfl rfl ?_
  refine r_ck (fun hc1 => ?_)
  refine r_objI (ci := 5) (q := 4) hX (gd (hcw1_11 _ (List.mem_of_getElem? (i := 19) rfl)) rfl) hc1 (Nat.le_of_ble_eq_true rfl) (Nat.le_of_ble_eq_true rfl) dX5_init_1 rfl ?_
  refine r_aload_n (i := 0) (x := a0) (q := 5) 0 hX dX5_init_4 rfl rfl rfl ?_
  refine r_iconst (v := (4 : Int32)) (q := 6) hX dX5_init_5 rfl rfl ?_
  refine r_newa (cap := 4) (k1 := 1) (n1 := 4) (q := 8) hX arP_i ⟨by decide, by decide⟩ rfl (Nat.le_of_ble_eq_true rfl) rfl (Nat.le_of_ble_eq_true rfl) (Nat.le_of_ble_eq_true rfl) dX5_init_6 rfl (fun Z2 M3 hc4 he5 => ?_)
  refine r_putR (a := a0) (ci := 5) (kf := 0) (q := 11) hX (he5 _ _ _ (Nat.succ_pos _) hc1) flX5_9 rfl (Or.inr ⟨rfl, rfl, rfl⟩) nf_arr dX5_init_8 rfl (fun M6 => ?_)
  refine r_aload_n (i := 0) (x := a0) (q := 12) 0 hX dX5_init_11 rfl rfl rfl ?_
  refine r_bipush (v := (12 : Int32)) (q := 14) hX dX5_init_12 rfl rfl ?_
  refine r_newa (cap := 12) (k1 := 2) (n1 := 16) (q := 16) hX arP_i ⟨by decide, by decide⟩ rfl (Nat.le_of_ble_eq_true rfl) rfl (Nat.le_of_ble_eq_true rfl) (Nat.le_of_ble_eq_true rfl) dX5_init_14 rfl (fun Z7 M8 hc9 he10 => ?_)
  refine r_putR (a := a0) (ci := 5) (kf := 1) (q := 19) hX (he10 _ _ _ (Nat.succ_pos _) (he5 _ _ _ (Nat.succ_pos _) hc1)) flX5_15 rfl (Or.inr ⟨rfl, rfl, rfl⟩) nf_arr dX5_init_16 rfl (fun M11 => ?_)
  refine r_aload_n (i := 0) (x := a0) (q := 20) 0 hX dX5_init_19 rfl rfl rfl ?_
  refine r_bipush (v := (6 : Int32)) (q := 22) hX dX5_init_20 rfl rfl ?_
  refine r_newa (cap := 6) (k1 := 3) (n1 := 22) (q := 24) hX arP_i ⟨by decide, by decide⟩ rfl (Nat.le_of_ble_eq_true rfl) rfl (Nat.le_of_ble_eq_true rfl) (Nat.le_of_ble_eq_true rfl) dX5_init_22 rfl (fun Z12 M13 hc14 he15 => ?_)
  refine r_putR (a := a0) (ci := 5) (kf := 2) (q := 27) hX (he15 _ _ _ (Nat.succ_pos _) (he10 _ _ _ (Nat.succ_pos _) (he5 _ _ _ (Nat.succ_pos _) hc1))) flX5_18 rfl (Or.inr ⟨rfl, rfl, rfl⟩) nf_arr dX5_init_24 rfl (fun M16 => ?_)
  refine r_aload_n (i := 0) (x := a0) (q := 28) 0 hX dX5_init_27 rfl rfl rfl ?_
  refine r_bipush (v := (24 : Int32)) (q := 30) hX dX5_init_28 rfl rfl ?_
  refine r_newa (cap := 24) (k1 := 4) (n1 := 46) (q := 32) hX arP_i ⟨by decide, by decide⟩ rfl (Nat.le_of_ble_eq_true rfl) rfl (Nat.le_of_ble_eq_true rfl) (Nat.le_of_ble_eq_true rfl) dX5_init_30 rfl (fun Z17 M18 hc19 he20 => ?_)
  refine r_putR (a := a0) (ci := 5) (kf := 3) (q := 35) hX (he20 _ _ _ (Nat.succ_pos _) (he15 _ _ _ (Nat.succ_pos _) (he10 _ _ _ (Nat.succ_pos _) (he5 _ _ _ (Nat.succ_pos _) hc1)))) flX5_21 rfl (Or.inr ⟨rfl, rfl, rfl⟩) nf_arr dX5_init_32 rfl (fun M21 => ?_)
  refine r_aload_n (i := 0) (x := a0) (q := 36) 0 hX dX5_init_35 rfl rfl rfl ?_
  refine r_bipush (v := (24 : Int32)) (q := 38) hX dX5_init_36 rfl rfl ?_
  refine r_newa (cap := 24) (k1 := 5) (n1 := 70) (q := 40) hX arP_i ⟨by decide, by decide⟩ rfl (Nat.le_of_ble_eq_true rfl) rfl (Nat.le_of_ble_eq_true rfl) (Nat.le_of_ble_eq_true rfl) dX5_init_38 rfl (fun Z22 M23 hc24 he25 => ?_)
  refine r_putR (a := a0) (ci := 5) (kf := 4) (q := 43) hX (he25 _ _ _ (Nat.succ_pos _) (he20 _ _ _ (Nat.succ_pos _) (he15 _ _ _ (Nat.succ_pos _) (he10 _ _ _ (Nat.succ_pos _) (he5 _ _ _ (Nat.succ_pos _) hc1))))) flX5_24 rfl (Or.inr ⟨rfl, rfl, rfl⟩) nf_arr dX5_init_40 rfl (fun M26 => ?_)
  refine r_aload_n (i := 0) (x := a0) (q := 44) 0 hX dX5_init_43 rfl rfl rfl ?_
  refine r_bipush (v := (24 : Int32)) (q := 46) hX dX5_init_44 rfl rfl ?_
  refine r_newa (cap := 24) (k1 := 6) (n1 := 94) (q := 48) hX arP_i ⟨by decide, by decide⟩ rfl (Nat.le_of_ble_eq_true rfl) rfl (Nat.le_of_ble_eq_true rfl) (Nat.le_of_ble_eq_true rfl) dX5_init_46 rfl (fun Z27 M28 hc29 he30 => ?_)
  refine r_putR (a := a0) (ci := 5) (kf := 5) (q := 51) hX (he30 _ _ _ (Nat.succ_pos _) (he25 _ _ _ (Nat.succ_pos _) (he20 _ _ _ (Nat.succ_pos _) (he15 _ _ _ (Nat.succ_pos _) (he10 _ _ _ (Nat.succ_pos _) (he5 _ _ _ (Nat.succ_pos _) hc1)))))) flX5_27 rfl (Or.inr ⟨rfl, rfl, rfl⟩) nf_arr dX5_init_48 rfl (fun M31 => ?_)
  refine r_aload_n (i := 0) (x := a0) (q := 52) 0 hX dX5_init_51 rfl rfl rfl ?_
  refine r_bipush (v := (24 : Int32)) (q := 54) hX dX5_init_52 rfl rfl ?_
  refine r_newa (cap := 24) (k1 := 7) (n1 := 118) (q := 56) hX arP_i ⟨by decide, by decide⟩ rfl (Nat.le_of_ble_eq_true rfl) rfl (Nat.le_of_ble_eq_true rfl) (Nat.le_of_ble_eq_true rfl) dX5_init_54 rfl (fun Z32 M33 hc34 he35 => ?_)
  refine r_putR (a := a0) (ci := 5) (kf := 6) (q := 59) hX (he35 _ _ _ (Nat.succ_pos _) (he30 _ _ _ (Nat.succ_pos _) (he25 _ _ _ (Nat.succ_pos _) (he20 _ _ _ (Nat.succ_pos _) (he15 _ _ _ (Nat.succ_pos _) (he10 _ _ _ (Nat.succ_pos _) (he5 _ _ _ (Nat.succ_pos _) hc1))))))) flX5_30 rfl (Or.inr ⟨rfl, rfl, rfl⟩) nf_arr dX5_init_56 rfl (fun M36 => ?_)
  refine r_aload_n (i := 0) (x := a0) (q := 60) 0 hX dX5_init_59 rfl rfl rfl ?_
  refine r_bipush (v := (9 : Int32)) (q := 62) hX dX5_init_60 rfl rfl ?_
  refine r_putI (a := a0) (ci := 5) (kf := 8) (q := 65) hX (he35 _ _ _ (Nat.succ_pos _) (he30 _ _ _ (Nat.succ_pos _) (he25 _ _ _ (Nat.succ_pos _) (he20 _ _ _ (Nat.succ_pos _) (he15 _ _ _ (Nat.succ_pos _) (he10 _ _ _ (Nat.succ_pos _) (he5 _ _ _ (Nat.succ_pos _) hc1))))))) flX5_33 rfl rfl (Or.inl rfl) rfl rfl dX5_init_62 rfl (fun M37 => ?_)
  refine r_lf (hK _) ?_
  exact r_vret hM rfl (Nat.le_of_ble_eq_true rfl) (Nat.le_of_ble_eq_true rfl) dX5_init_65
theorem lkX11_11 : Lk RX11 11 yX3_init := gd (hcw1_1 _ (List.mem_of_getElem? (i := 8) rfl)) rfl
theorem lkX11_18 : LkN RX11 18 yX2_init "CanalCompany" := bd (hcw1_6 _ (List.mem_of_getElem? (i := 13) rfl)) rfl
theorem lkX11_25 : LkN RX11 25 yX9_init "CanalCompany" := bd (hcw1_7 _ (List.mem_of_getElem? (i := 17) rfl)) rfl
theorem lkX11_32 : LkN RX11 32 yX0_init "CanalCompany" := bd (hcw1_9 _ (List.mem_of_getElem? (i := 19) rfl)) rfl
theorem lkX11_39 : LkN RX11 39 yX5_init "CanalCompany" := bd (hcw1_11 _ (List.mem_of_getElem? (i := 16) rfl)) rfl
theorem lkX11_46 : LkN RX11 46 yX10_init "CanalCompany" := bd (hcw2_1 _ (List.mem_of_getElem? (i := 14) rfl)) rfl
def mX11_init : MD := (yX11_init, cX11_init, 1, none, 3, 53, 48, 473)
theorem ccX11_init : Cc mX11_init 0 := ⟨gd (hcw1_0 _ (List.mem_of_getElem? (i := 1) rfl)) rfl, gd (hcw1_1 _ (List.mem_of_getElem? (i := 2) rfl)) rfl, by decide +kernel, by decide +kernel, by decide +kernel⟩
theorem imX11_init : Cond.instanceMethod (yN mX11_init) ∈ lw_gd := gd (hcw1_1 _ (List.mem_of_getElem? (i := 1) rfl)) rfl
noncomputable def fX11_init (Z : Shp) (M : Mem) (a0 : Nat) : Option (Shp × Mem) := (if tg Z a0 = (12, 6) then (pu2 (Z ++ [(4, 11)]) (nw M (Z.length + 2)) (fun Z2 M3 => (Option.bind (fX3_init Z2 M3 (Z.length + 2)) (fun v6 => (if tg v6.1 a0 = (12, 6) then (pu (wR v6.2 a0 0 (Z.length + 2)) (fun M9 => (pu2 (v6.1 ++ [(3, 4)]) (nw M9 (v6.1.length + 2)) (fun Z10 M11 => (Option.bind (fX2_init Z10 M11 (v6.1.length + 2)) (fun v14 => (if tg v14.1 a0 = (12, 6) then (pu (wR v14.2 a0 1 (v6.1.length + 2)) (fun M17 => (pu2 (v14.1 ++ [(10, 10)]) (nw M17 (v14.1.length + 2)) (fun Z18 M19 => (Option.bind (fX9_init Z18 M19 (v14.1.length + 2)) (fun v22 => (if tg v22.1 a0 = (12, 6) then (pu (wR v22.2 a0 2 (v14.1.length + 2)) (fun M25 => (pu2 (v22.1 ++ [(1, 9)]) (nw M25 (v22.1.length + 2)) (fun Z26 M27 => (Option.bind (fX0_init Z26 M27 (v22.1.length + 2)) (fun v30 => (if tg v30.1 a0 = (12, 6) then (pu (wR v30.2 a0 3 (v22.1.length + 2)) (fun M33 => (pu2 (v30.1 ++ [(6, 9)]) (nw M33 (v30.1.length + 2)) (fun Z34 M35 => (Option.bind (fX5_init Z34 M35 (v30.1.length + 2)) (fun v38 => (if tg v38.1 a0 = (12, 6) then (pu (wR v38.2 a0 4 (v30.1.length + 2)) (fun M41 => (pu2 (v38.1 ++ [(11, 4)]) (nw M41 (v38.1.length + 2)) (fun Z42 M43 => (Option.bind (fX10_init Z42 M43 (v38.1.length + 2)) (fun v46 => (if tg v46.1 a0 = (12, 6) then (pu (wR v46.2 a0 5 (v38.1.length + 2)) (fun M49 => some (v46.1, M49))) else none))))))) else none))))))) else none))))))) else none))))))) else none))))))) else none))))) else none)
set_option maxRecDepth 20000 in
theorem kX11_init (l : Launch) (Z : Shp) (M : Mem) (a0 : Nat) (r : Shp × Mem) (h : fX11_init Z M a0 = some r) : Ct l mX11_init [vr a0] Z M (none, r.1, r.2) := by
  refine Ct.of rfl (Nat.le_of_ble_eq_true rfl) (fun X hM => ?_)
  have hX := hM.1
  refine r_top (mk := fun r => (none, r.1, r.2)) h (fun K hK => ?_)
  unfold fX11_init
  refine r_aload_n (i := 0) (x := a0) (q := 1) 0 hX dX11_init_0 rfl rfl rfl ?_
  refine r_ck (fun hc1 => ?_)
  refine r_objI (ci := 11) (q := 4) hX (gd (hcw1_1 _ (List.mem_of_getElem? (i := 3) rfl)) rfl) hc1 (Nat.le_of_ble_eq_true rfl) (Nat.le_of_ble_eq_true rfl) dX11_init_1 rfl ?_
  refine r_aload_n (i := 0) (x := a0) (q := 5) 0 hX dX11_init_4 rfl rfl rfl ?_
  refine r_new (ci := 3) (k1 := 1) (n1 := 11) (q := 8) hX (Nat.le_of_ble_eq_true rfl) (gd (hcw1_1 _ (List.mem_of_getElem? (i := 6) rfl)) rfl) (gd (hcw1_1 _ (List.mem_of_getElem? (i := 7) rfl)) rfl) (gd (hcw1_0 _ (List.mem_of_getElem? (i := 2) rfl)) rfl) rfl (Nat.le_of_ble_eq_true rfl) rfl (Nat.le_of_ble_eq_true rfl) dX11_init_5 rfl (fun Z2 M3 hc4 he5 => ?_)
  refine r_dup (q := 9) hX dX11_init_8 rfl rfl ?_
  refine r_bind (fun v6 h7 => ?_)
  refine r_ci (a := (Z.length + 2)) (As := []) (st := [vr (Z.length + 2), vr a0]) (r := none) (Z1 := v6.1) (M1 := v6.2) (k1 := 21) (n1 := 135) (st1 := [vr (Z.length + 2), vr a0]) (q := 12) hX (fun l => kX3_init l Z2 M3 (Z.length + 2) v6 h7) hc4 imX3_init rfl rfl ccX3_init (Or.inl lkX11_11) rfl rfl rfl ⟨Nat.le_of_ble_eq_true rfl, Nat.le_of_ble_eq_true rfl, rfl, rfl, Nat.le_of_ble_eq_true rfl, Nat.le_of_ble_eq_true rfl⟩ (Nat.le_of_ble_eq_true rfl) dX11_init_9 rfl ?_
  refine r_ck (fun hc8 => ?_)
  refine r_putR (a := a0) (ci := 11) (kf := 0) (q := 15) hX hc8 flX11_12 rfl (Or.inr ⟨rfl, rfl, rfl⟩) nf_obj dX11_init_12 rfl (fun M9 => ?_)
  refine r_aload_n (i := 0) (x := a0) (q := 16) 0 hX dX11_init_15 rfl rfl rfl ?_
  refine r_new (ci := 2) (k1 := 22) (n1 := 139) (q := 19) hX (Nat.le_of_ble_eq_true rfl) (gd (hcw1_6 _ (List.mem_of_getElem? (i := 11) rfl)) rfl) (gd (hcw1_6 _ (List.mem_of_getElem? (i := 12) rfl)) rfl) (gd (hcw1_0 _ (List.mem_of_getElem? (i := 5) rfl)) rfl) rfl (Nat.le_of_ble_eq_true rfl) rfl (Nat.le_of_ble_eq_true rfl) dX11_init_16 rfl (fun Z10 M11 hc12 he13 => ?_)
  refine r_dup (q := 20) hX dX11_init_19 rfl rfl ?_
  refine r_bind (fun v14 h15 => ?_)
  refine r_ci (a := (v6.1.length + 2)) (As := []) (st := [vr (v6.1.length + 2), vr a0]) (r := none) (Z1 := v14.1) (M1 := v14.2) (k1 := 24) (n1 := 215) (st1 := [vr (v6.1.length + 2), vr a0]) (q := 23) hX (fun l => kX2_init l Z10 M11 (v6.1.length + 2) v14 h15) hc12 imX2_init rfl rfl ccX2_init (Or.inr ⟨_, lkX11_18⟩) rfl rfl rfl ⟨Nat.le_of_ble_eq_true rfl, Nat.le_of_ble_eq_true rfl, rfl, rfl, Nat.le_of_ble_eq_true rfl, Nat.le_of_ble_eq_true rfl⟩ (Nat.le_of_ble_eq_true rfl) dX11_init_20 rfl ?_
  refine r_ck (fun hc16 => ?_)
  refine r_putR (a := a0) (ci := 11) (kf := 1) (q := 26) hX hc16 flX11_19 rfl (Or.inr ⟨rfl, rfl, rfl⟩) nf_obj dX11_init_23 rfl (fun M17 => ?_)
  refine r_aload_n (i := 0) (x := a0) (q := 27) 0 hX dX11_init_26 rfl rfl rfl ?_
  refine r_new (ci := 9) (k1 := 25) (n1 := 225) (q := 30) hX (Nat.le_of_ble_eq_true rfl) (gd (hcw1_7 _ (List.mem_of_getElem? (i := 15) rfl)) rfl) (gd (hcw1_7 _ (List.mem_of_getElem? (i := 16) rfl)) rfl) (gd (hcw1_0 _ (List.mem_of_getElem? (i := 6) rfl)) rfl) rfl (Nat.le_of_ble_eq_true rfl) rfl (Nat.le_of_ble_eq_true rfl) dX11_init_27 rfl (fun Z18 M19 hc20 he21 => ?_)
  refine r_dup (q := 31) hX dX11_init_30 rfl rfl ?_
  refine r_bind (fun v22 h23 => ?_)
  refine r_ci (a := (v14.1.length + 2)) (As := []) (st := [vr (v14.1.length + 2), vr a0]) (r := none) (Z1 := v22.1) (M1 := v22.2) (k1 := 29) (n1 := 257) (st1 := [vr (v14.1.length + 2), vr a0]) (q := 34) hX (fun l => kX9_init l Z18 M19 (v14.1.length + 2) v22 h23) hc20 imX9_init rfl rfl ccX9_init (Or.inr ⟨_, lkX11_25⟩) rfl rfl rfl ⟨Nat.le_of_ble_eq_true rfl, Nat.le_of_ble_eq_true rfl, rfl, rfl, Nat.le_of_ble_eq_true rfl, Nat.le_of_ble_eq_true rfl⟩ (Nat.le_of_ble_eq_true rfl) dX11_init_31 rfl ?_
  refine r_ck (fun hc24 => ?_)
  refine r_putR (a := a0) (ci := 11) (kf := 2) (q := 37) hX hc24 flX11_26 rfl (Or.inr ⟨rfl, rfl, rfl⟩) nf_obj dX11_init_34 rfl (fun M25 => ?_)
  refine r_aload_n (i := 0) (x := a0) (q := 38) 0 hX dX11_init_37 rfl rfl rfl ?_
  refine r_new (ci := 0) (k1 := 30) (n1 := 266) (q := 41) hX (Nat.le_of_ble_eq_true rfl) (gd (hcw1_9 _ (List.mem_of_getElem? (i := 17) rfl)) rfl) (gd (hcw1_9 _ (List.mem_of_getElem? (i := 18) rfl)) rfl) (gd (hcw1_0 _ (List.mem_of_getElem? (i := 7) rfl)) rfl) rfl (Nat.le_of_ble_eq_true rfl) rfl (Nat.le_of_ble_eq_true rfl) dX11_init_38 rfl (fun Z26 M27 hc28 he29 => ?_)
  refine r_dup (q := 42) hX dX11_init_41 rfl rfl ?_
  refine r_bind (fun v30 h31 => ?_)
  refine r_ci (a := (v22.1.length + 2)) (As := []) (st := [vr (v22.1.length + 2), vr a0]) (r := none) (Z1 := v30.1) (M1 := v30.2) (k1 := 36) (n1 := 318) (st1 := [vr (v22.1.length + 2), vr a0]) (q := 45) hX (fun l => kX0_init l Z26 M27 (v22.1.length + 2) v30 h31) hc28 imX0_init rfl rfl ccX0_init (Or.inr ⟨_, lkX11_32⟩) rfl rfl rfl ⟨Nat.le_of_ble_eq_true rfl, Nat.le_of_ble_eq_true rfl, rfl, rfl, Nat.le_of_ble_eq_true rfl, Nat.le_of_ble_eq_true rfl⟩ (Nat.le_of_ble_eq_true rfl) dX11_init_42 rfl ?_
  refine r_ck (fun hc32 => ?_)
  refine r_putR (a := a0) (ci := 11) (kf := 3) (q := 48) hX hc32 flX11_33 rfl (Or.inr ⟨rfl, rfl, rfl⟩) nf_obj dX11_init_45 rfl (fun M33 => ?_)
  refine r_aload_n (i := 0) (x := a0) (q := 49) 0 hX dX11_init_48 rfl rfl rfl ?_
  refine r_new (ci := 5) (k1 := 37) (n1 := 327) (q := 52) hX (Nat.le_of_ble_eq_true rfl) (gd (hcw1_11 _ (List.mem_of_getElem? (i := 14) rfl)) rfl) (gd (hcw1_11 _ (List.mem_of_getElem? (i := 15) rfl)) rfl) (gd (hcw1_0 _ (List.mem_of_getElem? (i := 8) rfl)) rfl) rfl (Nat.le_of_ble_eq_true rfl) rfl (Nat.le_of_ble_eq_true rfl) dX11_init_49 rfl (fun Z34 M35 hc36 he37 => ?_)
  refine r_dup (q := 53) hX dX11_init_52 rfl rfl ?_
  refine r_bind (fun v38 h39 => ?_)
  refine r_ci (a := (v30.1.length + 2)) (As := []) (st := [vr (v30.1.length + 2), vr a0]) (r := none) (Z1 := v38.1) (M1 := v38.2) (k1 := 44) (n1 := 445) (st1 := [vr (v30.1.length + 2), vr a0]) (q := 56) hX (fun l => kX5_init l Z34 M35 (v30.1.length + 2) v38 h39) hc36 imX5_init rfl rfl ccX5_init (Or.inr ⟨_, lkX11_39⟩) rfl rfl rfl ⟨Nat.le_of_ble_eq_true rfl, Nat.le_of_ble_eq_true rfl, rfl, rfl, Nat.le_of_ble_eq_true rfl, Nat.le_of_ble_eq_true rfl⟩ (Nat.le_of_ble_eq_true rfl) dX11_init_53 rfl ?_
  refine r_ck (fun hc40 => ?_)
  refine r_putR (a := a0) (ci := 11) (kf := 4) (q := 59) hX hc40 flX11_40 rfl (Or.inr ⟨rfl, rfl, rfl⟩) nf_obj dX11_init_56 rfl (fun M41 => ?_)
  refine r_aload_n (i := 0) (x := a0) (q := 60) 0 hX dX11_init_59 rfl rfl rfl ?_
  refine r_new (ci := 10) (k1 := 45) (n1 := 449) (q := 63) hX (Nat.le_of_ble_eq_true rfl) (gd (hcw2_1 _ (List.mem_of_getElem? (i := 12) rfl)) rfl) (gd (hcw2_1 _ (List.mem_of_getElem? (i := 13) rfl)) rfl) (gd (hcw1_0 _ (List.mem_of_getElem? (i := 9) rfl)) rfl) rfl (Nat.le_of_ble_eq_true rfl) rfl (Nat.le_of_ble_eq_true rfl) dX11_init_60 rfl (fun Z42 M43 hc44 he45 => ?_)
  refine r_dup (q := 64) hX dX11_init_63 rfl rfl ?_
  refine r_bind (fun v46 h47 => ?_)
  refine r_ci (a := (v38.1.length + 2)) (As := []) (st := [vr (v38.1.length + 2), vr a0]) (r := none) (Z1 := v46.1) (M1 := v46.2) (k1 := 48) (n1 := 473) (st1 := [vr (v38.1.length + 2), vr a0]) (q := 67) hX (fun l => kX10_init l Z42 M43 (v38.1.length + 2) v46 h47) hc44 imX10_init rfl rfl ccX10_init (Or.inr ⟨_, lkX11_46⟩) rfl rfl rfl ⟨Nat.le_of_ble_eq_true rfl, Nat.le_of_ble_eq_true rfl, rfl, rfl, Nat.le_of_ble_eq_true rfl, Nat.le_of_ble_eq_true rfl⟩ (Nat.le_of_ble_eq_true rfl) dX11_init_64 rfl ?_
  refine r_ck (fun hc48 => ?_)
  refine r_putR (a := a0) (ci := 11) (kf := 5) (q := 70) hX hc48 flX11_47 rfl (Or.inr ⟨rfl, rfl, rfl⟩) nf_obj dX11_init_67 rfl (fun M49 => ?_)
  refine r_lf (hK _) ?_
  exact r_vret hM rfl (Nat.le_of_ble_eq_true rfl) (Nat.le_of_ble_eq_true rfl) dX11_init_70
def mX9_comerAt : MD := (yX9_comerAt, cX9_comerAt, 3, (some .int), 0, 0, 0, 0)
theorem ccX9_comerAt : Cc mX9_comerAt 2 := ⟨gd (hcw1_0 _ (List.mem_of_getElem? (i := 6) rfl)) rfl, gd (hcw4_7 _ (List.mem_of_getElem? (i := 19) rfl)) rfl, by decide +kernel, by decide +kernel, by decide +kernel⟩
theorem ivX9_comerAt : Iv mX9_comerAt 9 := ⟨Nat.le_of_ble_eq_true rfl, rfl, gd (hcw4_7 _ (List.mem_of_getElem? (i := 18) rfl)) rfl, gd (hps2 _ (List.mem_of_getElem? (i := 6) rfl)) rfl⟩
def fX9_comerAt (Z : Shp) (M : Mem) (a0 : Nat) (x1 : Int32) (x2 : Int32) : Option (Int32) := (if tg Z a0 = (10, 10) then some ((x1 >>> (((3 : Int32) * (((rI M a0 3) - (1 : Int32)) - x2)) &&& 31)) &&& (7 : Int32)) else none)
set_option maxRecDepth 20000 in
theorem kX9_comerAt (l : Launch) (Z : Shp) (M : Mem) (a0 : Nat) (x1 : Int32) (x2 : Int32) (r : Int32) (h : fX9_comerAt Z M a0 x1 x2 = some r) : Ct l mX9_comerAt [vr a0, vi x1, vi x2] Z M ((some (vi r)), Z, M) := by
  refine Ct.of rfl (Nat.le_of_ble_eq_true rfl) (fun X hM => ?_)
  have hX := hM.1
  refine r_top (mk := fun r => ((some (vi r)), Z, M)) h (fun K hK => ?_)
  unfold fX9_comerAt
  refine r_iload_n (i := 1) (x := x1) (q := 1) 1 hX dX9_comerAt_0 rfl rfl rfl ?_
  refine r_iconst (v := (3 : Int32)) (q := 2) hX dX9_comerAt_1 rfl rfl ?_
  refine r_aload_n (i := 0) (x := a0) (q := 3) 0 hX dX9_comerAt_2 rfl rfl rfl ?_
  refine r_ck (fun hc1 => ?_)
  refine r_getI (a := a0) (ci := 9) (kf := 3) (q := 6) hX hc1 flX9_25 rfl rfl dX9_comerAt_3 rfl ?_
  refine r_iconst (v := (1 : Int32)) (q := 7) hX dX9_comerAt_6 rfl rfl ?_
  refine r_isub (q := 8) hX dX9_comerAt_7 rfl ?_
  refine r_iload_n (i := 2) (x := x2) (q := 9) 2 hX dX9_comerAt_8 rfl rfl rfl ?_
  refine r_isub (q := 10) hX dX9_comerAt_9 rfl ?_
  refine r_imul (q := 11) hX dX9_comerAt_10 rfl ?_
  refine r_ishr (q := 12) hX dX9_comerAt_11 rfl ?_
  refine r_bipush (v := (7 : Int32)) (q := 14) hX dX9_comerAt_12 rfl rfl ?_
  refine r_iand (q := 15) hX dX9_comerAt_14 rfl ?_
  refine r_lf (hK _) ?_
  exact r_iret hM rfl (Nat.le_of_ble_eq_true rfl) (Nat.le_of_ble_eq_true rfl) dX9_comerAt_15
theorem lkX9_36 : LkN RX9 36 yX11_within "CanalCompany" := bd (hcw4_7 _ (List.mem_of_getElem? (i := 7) rfl)) rfl
theorem lkX9_40 : Lk RX9 40 yX9_comerAt := gd (hcw4_7 _ (List.mem_of_getElem? (i := 16) rfl)) rfl
def mX9_isOrder : MD := (yX9_isOrder, cX9_isOrder, 4, (some .boolean), 1, 22, 0, 0)
theorem ccX9_isOrder : Cc mX9_isOrder 1 := ⟨gd (hcw1_0 _ (List.mem_of_getElem? (i := 6) rfl)) rfl, gd (hcw4_7 _ (List.mem_of_getElem? (i := 15) rfl)) rfl, by decide +kernel, by decide +kernel, by decide +kernel⟩
theorem ivX9_isOrder : Iv mX9_isOrder 9 := ⟨Nat.le_of_ble_eq_true rfl, rfl, gd (hcw4_7 _ (List.mem_of_getElem? (i := 13) rfl)) rfl, gd (hcw4_7 _ (List.mem_of_getElem? (i := 14) rfl)) rfl⟩
noncomputable def fX9_isOrder (Z : Shp) (M : Mem) (a0 : Nat) (x1 : Int32) : Option (Int32) := (if tg Z a0 = (10, 10) then (if (fX11_within x1 (0 : Int32) (((1 : Int32) <<< (((3 : Int32) * (rI M a0 3)) &&& 31)) - (1 : Int32))) = 0 then some (0 : Int32) else (Option.bind (loop (fun s6 : Int32 × Int32 => (if (rI M a0 3) ≤ s6.2 then some (Sum.inr s6.1) else (Option.bind (fX9_comerAt Z M a0 x1 s6.2) (fun v10 => (pu ((s6.1 ||| ((1 : Int32) <<< (v10 &&& 31)))) (fun z12 => some (Sum.inl (z12, (s6.2 + (1 : Int32)))))))))) ((0 : Int32), (0 : Int32))) (fun v5 : Int32 => (if v5 = (((1 : Int32) <<< ((rI M a0 3) &&& 31)) - (1 : Int32)) then some (1 : Int32) else some (0 : Int32))))) else none)
set_option maxRecDepth 20000 in
theorem kX9_isOrder (l : Launch) (Z : Shp) (M : Mem) (a0 : Nat) (x1 : Int32) (r : Int32) (h : fX9_isOrder Z M a0 x1 = some r) : Ct l mX9_isOrder [vr a0, vi x1] Z M ((some (vi r)), Z, M) := by
  refine Ct.of rfl (Nat.le_of_ble_eq_true rfl) (fun X hM => ?_)
  have hX := hM.1
  refine r_top (mk := fun r => ((some (vi r)), Z, M)) h (fun K hK => ?_)
  unfold fX9_isOrder
  refine r_iload_n (i := 1) (x := x1) (q := 1) 1 hX dX9_isOrder_0 rfl rfl rfl ?_
  refine r_iconst (v := (0 : Int32)) (q := 2) hX dX9_isOrder_1 rfl rfl ?_
  refine r_iconst (v := (1 : Int32)) (q := 3) hX dX9_isOrder_2 rfl rfl ?_
  refine r_iconst (v := (3 : Int32)) (q := 4) hX dX9_isOrder_3 rfl rfl ?_
  refine r_aload_n (i := 0) (x := a0) (q := 5) 0 hX dX9_isOrder_4 rfl rfl rfl ?_
  refine r_ck (fun hc1 => ?_)
  refine r_getI (a := a0) (ci := 9) (kf := 3) (q := 8) hX hc1 flX9_25 rfl rfl dX9_isOrder_5 rfl ?_
  refine r_imul (q := 9) hX dX9_isOrder_8 rfl ?_
  refine r_ishl (q := 10) hX dX9_isOrder_9 rfl ?_
  refine r_iconst (v := (1 : Int32)) (q := 11) hX dX9_isOrder_10 rfl rfl ?_
  refine r_isub (q := 12) hX dX9_isOrder_11 rfl ?_
  refine r_cs (As := [vi x1, vi (0 : Int32), vi (((1 : Int32) <<< (((3 : Int32) * (rI M a0 3)) &&& 31)) - (1 : Int32))]) (st := []) (r := (some (vi (fX11_within x1 (0 : Int32) (((1 : Int32) <<< (((3 : Int32) * (rI M a0 3)) &&& 31)) - (1 : Int32)))))) (Z1 := Z) (M1 := M) (k1 := 0) (n1 := 0) (st1 := [vi (fX11_within x1 (0 : Int32) (((1 : Int32) <<< (((3 : Int32) * (rI M a0 3)) &&& 31)) - (1 : Int32)))]) (q := 15) hX (fun l => kX11_within l Z M x1 (0 : Int32) (((1 : Int32) <<< (((3 : Int32) * (rI M a0 3)) &&& 31)) - (1 : Int32))) stX11_within ccX11_within (Or.inr ⟨_, lkX9_36⟩) rfl rfl rfl ⟨Nat.le_of_ble_eq_true rfl, Nat.le_of_ble_eq_true rfl, rfl, rfl, Nat.le_of_ble_eq_true rfl, Nat.le_of_ble_eq_true rfl⟩ (Nat.le_of_ble_eq_true rfl) dX9_isOrder_12 rfl ?_
  refine r_if_ne (tgt := 20) (q := 18) hX dX9_isOrder_15 (by decide) rfl (fun hb2 => ?_) (fun hb2 => ?_)
  · refine r_iconst (v := (0 : Int32)) (q := 19) hX dX9_isOrder_18 rfl rfl ?_
    refine r_lf (hK _) ?_
    exact r_zret hM rfl (Or.inl rfl) (Nat.le_of_ble_eq_true rfl) (Nat.le_of_ble_eq_true rfl) dX9_isOrder_19
  · refine r_iconst (v := (0 : Int32)) (q := 21) hX dX9_isOrder_20 rfl rfl ?_
    refine r_istore_n (x := (0 : Int32)) (q := 22) 2 [1, 2, 0] (L1 := [(0, vr a0), (1, vi x1), (2, vi (0 : Int32))]) hX dX9_isOrder_21 rfl (Nat.le_of_ble_eq_true rfl) rfl rfl ?_
    refine r_iconst (v := (0 : Int32)) (q := 23) hX dX9_isOrder_22 rfl rfl ?_
    refine r_istore_n (x := (0 : Int32)) (q := 24) 3 [1, 2, 3, 0] (L1 := [(0, vr a0), (1, vi x1), (2, vi (0 : Int32)), (3, vi (0 : Int32))]) hX dX9_isOrder_23 rfl (Nat.le_of_ble_eq_true rfl) rfl rfl ?_
    refine r_jn (J := fun (v5 : Int32) (P : Option Res) => Ref mX9_isOrder X 0 0 Z M 49 [(0, vr a0), (2, vi v5)] [] P) (fun v5 => ?_) (fun K1 hj3 => ?_)
    · refine r_iload_n (i := 2) (x := v5) (q := 50) 1 hX dX9_isOrder_49 rfl rfl rfl ?_
      refine r_iconst (v := (1 : Int32)) (q := 51) hX dX9_isOrder_50 rfl rfl ?_
      refine r_aload_n (i := 0) (x := a0) (q := 52) 0 hX dX9_isOrder_51 rfl rfl rfl ?_
      refine r_getI (a := a0) (ci := 9) (kf := 3) (q := 55) hX hc1 flX9_25 rfl rfl dX9_isOrder_52 rfl ?_
      refine r_ishl (q := 56) hX dX9_isOrder_55 rfl ?_
      refine r_iconst (v := (1 : Int32)) (q := 57) hX dX9_isOrder_56 rfl rfl ?_
      refine r_isub (q := 58) hX dX9_isOrder_57 rfl ?_
      refine r_icmp_ne (tgt := 65) (q := 61) hX dX9_isOrder_58 (by decide) rfl (fun hb13 => ?_) (fun hb13 => ?_)
      · refine r_iconst (v := (1 : Int32)) (q := 62) hX dX9_isOrder_61 rfl rfl ?_
        refine r_goto (q := 66) hX dX9_isOrder_62 (by decide) ?_
        refine r_lf (hK _) ?_
        exact r_zret hM rfl (Or.inr rfl) (Nat.le_of_ble_eq_true rfl) (Nat.le_of_ble_eq_true rfl) dX9_isOrder_66
      · refine r_iconst (v := (0 : Int32)) (q := 66) hX dX9_isOrder_65 rfl rfl ?_
        refine r_lf (hK _) ?_
        exact r_zret hM rfl (Or.inl rfl) (Nat.le_of_ble_eq_true rfl) (Nat.le_of_ble_eq_true rfl) dX9_isOrder_66
    · refine r_loop (Hd := fun (s6 : Int32 × Int32) (P : Option Res) => Ref mX9_isOrder X 0 0 Z M 24 [(0, vr a0), (1, vi x1), (2, vi s6.1), (3, vi s6.2)] [] P) (fun _ => r_none) (fun s6 K1 hn7 hx8 => ?_) ((0 : Int32), (0 : Int32))
      refine r_iload_n (i := 3) (x := s6.2) (q := 25) 3 hX dX9_isOrder_24 rfl rfl rfl ?_
      refine r_aload_n (i := 0) (x := a0) (q := 26) 0 hX dX9_isOrder_25 rfl rfl rfl ?_
      refine r_getI (a := a0) (ci := 9) (kf := 3) (q := 29) hX hc1 flX9_25 rfl rfl dX9_isOrder_26 rfl ?_
      refine r_icmp_ge (tgt := 49) (q := 32) hX dX9_isOrder_29 (by decide) rfl (fun hb9 => ?_) (fun hb9 => ?_)
      · refine r_lf (hx8 _) ?_
        refine r_sub [0, 2] rfl ?_
        exact hj3 s6.1
      · refine r_iload_n (i := 2) (x := s6.1) (q := 33) 2 hX dX9_isOrder_32 rfl rfl rfl ?_
        refine r_iconst (v := (1 : Int32)) (q := 34) hX dX9_isOrder_33 rfl rfl ?_
        refine r_aload_n (i := 0) (x := a0) (q := 35) 0 hX dX9_isOrder_34 rfl rfl rfl ?_
        refine r_iload_n (i := 1) (x := x1) (q := 36) 1 hX dX9_isOrder_35 rfl rfl rfl ?_
        refine r_iload_n (i := 3) (x := s6.2) (q := 37) 3 hX dX9_isOrder_36 rfl rfl rfl ?_
        refine r_bind (fun v10 h11 => ?_)
        refine r_cv (a := a0) (As := [vi x1, vi s6.2]) (st := [vi (1 : Int32), vi s6.1]) (r := (some (vi v10))) (Z1 := Z) (M1 := M) (k1 := 0) (n1 := 0) (st1 := [vi v10, vi (1 : Int32), vi s6.1]) (q := 40) hX (fun l => kX9_comerAt l Z M a0 x1 s6.2 v10 h11) hc1 ivX9_comerAt ccX9_comerAt (Or.inl lkX9_40) rfl rfl rfl ⟨Nat.le_of_ble_eq_true rfl, Nat.le_of_ble_eq_true rfl, rfl, rfl, Nat.le_of_ble_eq_true rfl, Nat.le_of_ble_eq_true rfl⟩ (Nat.le_of_ble_eq_true rfl) dX9_isOrder_37 rfl ?_
        refine r_ishl (q := 41) hX dX9_isOrder_40 rfl ?_
        refine r_ior (q := 42) hX dX9_isOrder_41 rfl ?_
        refine r_istore_nP (x := (s6.1 ||| ((1 : Int32) <<< (v10 &&& 31)))) (q := 43) 2 [1, 2, 0, 4] (fun z12 => [(0, vr a0), (1, vi x1), (2, vi z12), (3, vi s6.2)]) hX dX9_isOrder_42 rfl (Nat.le_of_ble_eq_true rfl) (fun _ => rfl) rfl (fun z12 => ?_)
        refine r_iinc (x := s6.2) (v := (s6.2 + (1 : Int32))) (q := 46) 3 3 [1, 2, 3, 0] (L1 := [(0, vr a0), (1, vi x1), (2, vi z12), (3, vi (s6.2 + (1 : Int32)))]) hX dX9_isOrder_43 rfl rfl (Nat.le_of_ble_eq_true rfl) rfl rfl ?_
        refine r_goto (q := 24) hX dX9_isOrder_46 (by decide) ?_
        refine r_l0 ?_
        exact hn7 (z12, (s6.2 + (1 : Int32)))
def mX9_hourOf : MD := (yX9_hourOf, cX9_hourOf, 3, (some .int), 1, 13, 0, 0)
theorem ccX9_hourOf : Cc mX9_hourOf 2 := ⟨gd (hcw1_0 _ (List.mem_of_getElem? (i := 6) rfl)) rfl, gd (hcw4_5 _ (List.mem_of_getElem? (i := 5) rfl)) rfl, by decide +kernel, by decide +kernel, by decide +kernel⟩
theorem ivX9_hourOf : Iv mX9_hourOf 9 := ⟨Nat.le_of_ble_eq_true rfl, rfl, gd (hcw4_5 _ (List.mem_of_getElem? (i := 4) rfl)) rfl, gd (hps1 _ (List.mem_of_getElem? (i := 13) rfl)) rfl⟩
def fX9_hourOf (Z : Shp) (M : Mem) (a0 : Nat) (x1 : Int32) (x2 : Int32) : Option (Int32) := (if tg Z a0 = (10, 10) then (if aok Z (rR M a0 1) 100 x1 then some (mxI (x2 + (1 : Int32)) (rI M (rR M a0 1) (ix x1))) else none) else none)
set_option maxRecDepth 20000 in
theorem kX9_hourOf (l : Launch) (Z : Shp) (M : Mem) (a0 : Nat) (x1 : Int32) (x2 : Int32) (r : Int32) (h : fX9_hourOf Z M a0 x1 x2 = some r) : Ct l mX9_hourOf [vr a0, vi x1, vi x2] Z M ((some (vi r)), Z, M) := by
  refine Ct.of rfl (Nat.le_of_ble_eq_true rfl) (fun X hM => ?_)
  have hX := hM.1
  refine r_top (mk := fun r => ((some (vi r)), Z, M)) h (fun K hK => ?_)
  unfold fX9_hourOf
  refine r_iload_n (i := 2) (x := x2) (q := 1) 2 hX dX9_hourOf_0 rfl rfl rfl ?_
  refine r_iconst (v := (1 : Int32)) (q := 2) hX dX9_hourOf_1 rfl rfl ?_
  refine r_iadd (q := 3) hX dX9_hourOf_2 rfl ?_
  refine r_aload_n (i := 0) (x := a0) (q := 4) 0 hX dX9_hourOf_3 rfl rfl rfl ?_
  refine r_ck (fun hc1 => ?_)
  refine r_getR (a := a0) (ci := 9) (kf := 1) (q := 7) hX hc1 flX9_15 rfl dX9_hourOf_4 rfl ?_
  refine r_iload_n (i := 1) (x := x1) (q := 8) 1 hX dX9_hourOf_7 rfl rfl rfl ?_
  refine r_ck (fun hc2 => ?_)
  refine r_iald (a := (rR M a0 1)) (i := x1) (q := 9) hX hc2 dX9_hourOf_8 rfl ?_
  refine r_mmax (q := 12) hX (gd (hcw4_5 _ (List.mem_of_getElem? (i := 6) rfl)) rfl) (Nat.le_of_ble_eq_true rfl) (Nat.le_of_ble_eq_true rfl) (Nat.le_of_ble_eq_true rfl) (Nat.le_of_ble_eq_true rfl) dX9_hourOf_9 rfl ?_
  refine r_lf (hK _) ?_
  exact r_iret hM rfl (Nat.le_of_ble_eq_true rfl) (Nat.le_of_ble_eq_true rfl) dX9_hourOf_12
def mX9_spends : MD := (yX9_spends, cX9_spends, 3, (some .int), 0, 0, 0, 0)
theorem ccX9_spends : Cc mX9_spends 2 := ⟨gd (hcw1_0 _ (List.mem_of_getElem? (i := 6) rfl)) rfl, gd (hcw4_5 _ (List.mem_of_getElem? (i := 17) rfl)) rfl, by decide +kernel, by decide +kernel, by decide +kernel⟩
theorem ivX9_spends : Iv mX9_spends 9 := ⟨Nat.le_of_ble_eq_true rfl, rfl, gd (hcw4_5 _ (List.mem_of_getElem? (i := 16) rfl)) rfl, gd (hps1 _ (List.mem_of_getElem? (i := 15) rfl)) rfl⟩
def fX9_spends (Z : Shp) (M : Mem) (a0 : Nat) (x1 : Int32) (x2 : Int32) : Option (Int32) := (if tg Z a0 = (10, 10) then (if aok Z (rR M a0 0) 101 x1 then (if (rI M (rR M a0 0) (ix x1)) = 0 then (if x2 = 0 then some (1 : Int32) else some (0 : Int32)) else some (1 : Int32)) else none) else none)
set_option maxRecDepth 20000 in
theorem kX9_spends (l : Launch) (Z : Shp) (M : Mem) (a0 : Nat) (x1 : Int32) (x2 : Int32) (r : Int32) (h : fX9_spends Z M a0 x1 x2 = some r) : Ct l mX9_spends [vr a0, vi x1, vi x2] Z M ((some (vi r)), Z, M) := by
  refine Ct.of rfl (Nat.le_of_ble_eq_true rfl) (fun X hM => ?_)
  have hX := hM.1
  refine r_top (mk := fun r => ((some (vi r)), Z, M)) h (fun K hK => ?_)
  unfold fX9_spends
  refine r_aload_n (i := 0) (x := a0) (q := 1) 0 hX dX9_spends_0 rfl rfl rfl ?_
  refine r_ck (fun hc1 => ?_)
  refine r_getR (a := a0) (ci := 9) (kf := 0) (q := 4) hX hc1 flX9_11 rfl dX9_spends_1 rfl ?_
  refine r_iload_n (i := 1) (x := x1) (q := 5) 1 hX dX9_spends_4 rfl rfl rfl ?_
  refine r_ck (fun hc2 => ?_)
  refine r_zald (a := (rR M a0 0)) (i := x1) (q := 6) hX hc2 dX9_spends_5 rfl ?_
  refine r_if_ne (tgt := 13) (q := 9) hX dX9_spends_6 (by decide) rfl (fun hb3 => ?_) (fun hb3 => ?_)
  · refine r_iload_n (i := 2) (x := x2) (q := 10) 2 hX dX9_spends_9 rfl rfl rfl ?_
    refine r_if_ne (tgt := 17) (q := 13) hX dX9_spends_10 (by decide) rfl (fun hb4 => ?_) (fun hb4 => ?_)
    · refine r_iconst (v := (1 : Int32)) (q := 14) hX dX9_spends_13 rfl rfl ?_
      refine r_goto (q := 18) hX dX9_spends_14 (by decide) ?_
      refine r_lf (hK _) ?_
      exact r_iret hM rfl (Nat.le_of_ble_eq_true rfl) (Nat.le_of_ble_eq_true rfl) dX9_spends_18
    · refine r_iconst (v := (0 : Int32)) (q := 18) hX dX9_spends_17 rfl rfl ?_
      refine r_lf (hK _) ?_
      exact r_iret hM rfl (Nat.le_of_ble_eq_true rfl) (Nat.le_of_ble_eq_true rfl) dX9_spends_18
  · refine r_iconst (v := (1 : Int32)) (q := 14) hX dX9_spends_13 rfl rfl ?_
    refine r_goto (q := 18) hX dX9_spends_14 (by decide) ?_
    refine r_lf (hK _) ?_
    exact r_iret hM rfl (Nat.le_of_ble_eq_true rfl) (Nat.le_of_ble_eq_true rfl) dX9_spends_18
def mX9_stateBehind : MD := (yX9_stateBehind, cX9_stateBehind, 2, (some .int), 0, 0, 0, 0)
theorem ccX9_stateBehind : Cc mX9_stateBehind 1 := ⟨gd (hcw1_0 _ (List.mem_of_getElem? (i := 6) rfl)) rfl, gd (hcw4_5 _ (List.mem_of_getElem? (i := 13) rfl)) rfl, by decide +kernel, by decide +kernel, by decide +kernel⟩
theorem ivX9_stateBehind : Iv mX9_stateBehind 9 := ⟨Nat.le_of_ble_eq_true rfl, rfl, gd (hcw4_5 _ (List.mem_of_getElem? (i := 12) rfl)) rfl, gd (hps1 _ (List.mem_of_getElem? (i := 14) rfl)) rfl⟩
def fX9_stateBehind (Z : Shp) (M : Mem) (a0 : Nat) (x1 : Int32) : Option (Int32) := (if tg Z a0 = (10, 10) then (if aok Z (rR M a0 0) 101 x1 then (if (rI M (rR M a0 0) (ix x1)) = 0 then some (0 : Int32) else some (1 : Int32)) else none) else none)
set_option maxRecDepth 20000 in
theorem kX9_stateBehind (l : Launch) (Z : Shp) (M : Mem) (a0 : Nat) (x1 : Int32) (r : Int32) (h : fX9_stateBehind Z M a0 x1 = some r) : Ct l mX9_stateBehind [vr a0, vi x1] Z M ((some (vi r)), Z, M) := by
  refine Ct.of rfl (Nat.le_of_ble_eq_true rfl) (fun X hM => ?_)
  have hX := hM.1
  refine r_top (mk := fun r => ((some (vi r)), Z, M)) h (fun K hK => ?_)
  unfold fX9_stateBehind
  refine r_aload_n (i := 0) (x := a0) (q := 1) 0 hX dX9_stateBehind_0 rfl rfl rfl ?_
  refine r_ck (fun hc1 => ?_)
  refine r_getR (a := a0) (ci := 9) (kf := 0) (q := 4) hX hc1 flX9_11 rfl dX9_stateBehind_1 rfl ?_
  refine r_iload_n (i := 1) (x := x1) (q := 5) 1 hX dX9_stateBehind_4 rfl rfl rfl ?_
  refine r_ck (fun hc2 => ?_)
  refine r_zald (a := (rR M a0 0)) (i := x1) (q := 6) hX hc2 dX9_stateBehind_5 rfl ?_
  refine r_if_eq (tgt := 13) (q := 9) hX dX9_stateBehind_6 (by decide) rfl (fun hb3 => ?_) (fun hb3 => ?_)
  · refine r_iconst (v := (0 : Int32)) (q := 14) hX dX9_stateBehind_13 rfl rfl ?_
    refine r_lf (hK _) ?_
    exact r_iret hM rfl (Nat.le_of_ble_eq_true rfl) (Nat.le_of_ble_eq_true rfl) dX9_stateBehind_14
  · refine r_iconst (v := (1 : Int32)) (q := 10) hX dX9_stateBehind_9 rfl rfl ?_
    refine r_goto (q := 14) hX dX9_stateBehind_10 (by decide) ?_
    refine r_lf (hK _) ?_
    exact r_iret hM rfl (Nat.le_of_ble_eq_true rfl) (Nat.le_of_ble_eq_true rfl) dX9_stateBehind_14
theorem lkX9_44 : Lk RX9 44 yX9_hourOf := gd (hcw4_5 _ (List.mem_of_getElem? (i := 2) rfl)) rfl
theorem lkX9_47 : Lk RX9 47 yX9_spends := gd (hcw4_5 _ (List.mem_of_getElem? (i := 14) rfl)) rfl
theorem lkX9_50 : Lk RX9 50 yX9_stateBehind := gd (hcw4_5 _ (List.mem_of_getElem? (i := 10) rfl)) rfl
def mX9_fillingsOf : MD := (yX9_fillingsOf, cX9_fillingsOf, 7, (some .int), 2, 35, 0, 0)
theorem ccX9_fillingsOf : Cc mX9_fillingsOf 1 := ⟨gd (hcw1_0 _ (List.mem_of_getElem? (i := 6) rfl)) rfl, gd (hcw4_8 _ (List.mem_of_getElem? (i := 3) rfl)) rfl, by decide +kernel, by decide +kernel, by decide +kernel⟩
theorem ivX9_fillingsOf : Iv mX9_fillingsOf 9 := ⟨Nat.le_of_ble_eq_true rfl, rfl, gd (hcw4_8 _ (List.mem_of_getElem? (i := 1) rfl)) rfl, gd (hcw4_8 _ (List.mem_of_getElem? (i := 2) rfl)) rfl⟩
noncomputable def fX9_fillingsOf (Z : Shp) (M : Mem) (a0 : Nat) (x1 : Int32) : Option (Int32) := (loop (fun s1 : Int32 × Int32 × Int32 × Int32 => (if tg Z a0 = (10, 10) then (if (rI M a0 3) ≤ s1.2.2.2 then some (Sum.inr s1.2.2.1) else (Option.bind (fX9_comerAt Z M a0 x1 s1.2.2.2) (fun v6 => (Option.bind (fX9_hourOf Z M a0 v6 s1.1) (fun v8 => (if aok Z (rR M a0 2) 100 v6 then (if v8 ≤ (rI M (rR M a0 2) (ix v6)) then (Option.bind (fX9_spends Z M a0 v6 s1.2.1) (fun v12 => (pu ((s1.2.2.1 + v12)) (fun z14 => (Option.bind (fX9_stateBehind Z M a0 v6) (fun v15 => some (Sum.inl (v8, v15, z14, (s1.2.2.2 + (1 : Int32)))))))))) else some (Sum.inr ((-1000 : Int32) - s1.2.2.2))) else none)))))) else none)) ((-1 : Int32), (0 : Int32), (0 : Int32), (0 : Int32)))
set_option maxRecDepth 20000 in
theorem kX9_fillingsOf (l : Launch) (Z : Shp) (M : Mem) (a0 : Nat) (x1 : Int32) (r : Int32) (h : fX9_fillingsOf Z M a0 x1 = some r) : Ct l mX9_fillingsOf [vr a0, vi x1] Z M ((some (vi r)), Z, M) := by
  refine Ct.of rfl (Nat.le_of_ble_eq_true rfl) (fun X hM => ?_)
  have hX := hM.1
  refine r_top (mk := fun r => ((some (vi r)), Z, M)) h (fun K hK => ?_)
  unfold fX9_fillingsOf
  refine r_iconst (v := (-1 : Int32)) (q := 1) hX dX9_fillingsOf_0 rfl rfl ?_
  refine r_istore_n (x := (-1 : Int32)) (q := 2) 2 [1, 2, 0] (L1 := [(0, vr a0), (1, vi x1), (2, vi (-1 : Int32))]) hX dX9_fillingsOf_1 rfl (Nat.le_of_ble_eq_true rfl) rfl rfl ?_
  refine r_iconst (v := (0 : Int32)) (q := 3) hX dX9_fillingsOf_2 rfl rfl ?_
  refine r_istore_n (x := (0 : Int32)) (q := 4) 3 [1, 2, 3, 0] (L1 := [(0, vr a0), (1, vi x1), (2, vi (-1 : Int32)), (3, vi (0 : Int32))]) hX dX9_fillingsOf_3 rfl (Nat.le_of_ble_eq_true rfl) rfl rfl ?_
  refine r_iconst (v := (0 : Int32)) (q := 5) hX dX9_fillingsOf_4 rfl rfl ?_
  refine r_istore (x := (0 : Int32)) (q := 7) 4 [1, 2, 3, 4, 0] (L1 := [(0, vr a0), (1, vi x1), (2, vi (-1 : Int32)), (3, vi (0 : Int32)), (4, vi (0 : Int32))]) hX dX9_fillingsOf_5 (Nat.le_of_ble_eq_true rfl) rfl rfl ?_
  refine r_iconst (v := (0 : Int32)) (q := 8) hX dX9_fillingsOf_7 rfl rfl ?_
  refine r_istore (x := (0 : Int32)) (q := 10) 5 [1, 2, 3, 4, 5, 0] (L1 := [(0, vr a0), (1, vi x1), (2, vi (-1 : Int32)), (3, vi (0 : Int32)), (4, vi (0 : Int32)), (5, vi (0 : Int32))]) hX dX9_fillingsOf_8 (Nat.le_of_ble_eq_true rfl) rfl rfl ?_
  refine r_loop (Hd := fun (s1 : Int32 × Int32 × Int32 × Int32) (P : Option Res) => Ref mX9_fillingsOf X 0 0 Z M 10 [(0, vr a0), (1, vi x1), (2, vi s1.1), (3, vi s1.2.1), (4, vi s1.2.2.1), (5, vi s1.2.2.2)] [] P) (fun _ => r_none) (fun s1 K1 hn2 hx3 => ?_) ((-1 : Int32), (0 : Int32), (0 : Int32), (0 : Int32))
  refine r_iload (i := 5) (x := s1.2.2.2) (q := 12) 5 hX dX9_fillingsOf_10 rfl rfl ?_
  refine r_aload_n (i := 0) (x := a0) (q := 13) 0 hX dX9_fillingsOf_12 rfl rfl rfl ?_
  refine r_ck (fun hc4 => ?_)
  refine r_getI (a := a0) (ci := 9) (kf := 3) (q := 16) hX hc4 flX9_25 rfl rfl dX9_fillingsOf_13 rfl ?_
  refine r_icmp_ge (tgt := 79) (q := 19) hX dX9_fillingsOf_16 (by decide) rfl (fun hb5 => ?_) (fun hb5 => ?_)
  · refine r_iload (i := 4) (x := s1.2.2.1) (q := 81) 4 hX dX9_fillingsOf_79 rfl rfl ?_
    refine r_lf ((hx3 _).trans (hK _)) ?_
    exact r_iret hM rfl (Nat.le_of_ble_eq_true rfl) (Nat.le_of_ble_eq_true rfl) dX9_fillingsOf_81
  · refine r_aload_n (i := 0) (x := a0) (q := 20) 0 hX dX9_fillingsOf_19 rfl rfl rfl ?_
    refine r_iload_n (i := 1) (x := x1) (q := 21) 1 hX dX9_fillingsOf_20 rfl rfl rfl ?_
    refine r_iload (i := 5) (x := s1.2.2.2) (q := 23) 5 hX dX9_fillingsOf_21 rfl rfl ?_
    refine r_bind (fun v6 h7 => ?_)
    refine r_cv (a := a0) (As := [vi x1, vi s1.2.2.2]) (st := []) (r := (some (vi v6))) (Z1 := Z) (M1 := M) (k1 := 0) (n1 := 0) (st1 := [vi v6]) (q := 26) hX (fun l => kX9_comerAt l Z M a0 x1 s1.2.2.2 v6 h7) hc4 ivX9_comerAt ccX9_comerAt (Or.inl lkX9_40) rfl rfl rfl ⟨Nat.le_of_ble_eq_true rfl, Nat.le_of_ble_eq_true rfl, rfl, rfl, Nat.le_of_ble_eq_true rfl, Nat.le_of_ble_eq_true rfl⟩ (Nat.le_of_ble_eq_true rfl) dX9_fillingsOf_23 rfl ?_
    refine r_istore (x := v6) (q := 28) 6 [1, 2, 3, 4, 5, 6, 0] (L1 := [(0, vr a0), (1, vi x1), (2, vi s1.1), (3, vi s1.2.1), (4, vi s1.2.2.1), (5, vi s1.2.2.2), (6, vi v6)]) hX dX9_fillingsOf_26 (Nat.le_of_ble_eq_true rfl) rfl rfl ?_
    refine r_aload_n (i := 0) (x := a0) (q := 29) 0 hX dX9_fillingsOf_28 rfl rfl rfl ?_
    refine r_iload (i := 6) (x := v6) (q := 31) 6 hX dX9_fillingsOf_29 rfl rfl ?_
    refine r_iload_n (i := 2) (x := s1.1) (q := 32) 2 hX dX9_fillingsOf_31 rfl rfl rfl ?_
    refine r_bind (fun v8 h9 => ?_)
    refine r_cv (a := a0) (As := [vi v6, vi s1.1]) (st := []) (r := (some (vi v8))) (Z1 := Z) (M1 := M) (k1 := 0) (n1 := 0) (st1 := [vi v8]) (q := 35) hX (fun l => kX9_hourOf l Z M a0 v6 s1.1 v8 h9) hc4 ivX9_hourOf ccX9_hourOf (Or.inl lkX9_44) rfl rfl rfl ⟨Nat.le_of_ble_eq_true rfl, Nat.le_of_ble_eq_true rfl, rfl, rfl, Nat.le_of_ble_eq_true rfl, Nat.le_of_ble_eq_true rfl⟩ (Nat.le_of_ble_eq_true rfl) dX9_fillingsOf_32 rfl ?_
    refine r_istore_n (x := v8) (q := 36) 2 [1, 2, 0, 4, 5, 6, 7] (L1 := [(0, vr a0), (1, vi x1), (2, vi v8), (3, vi s1.2.1), (4, vi s1.2.2.1), (5, vi s1.2.2.2), (6, vi v6)]) hX dX9_fillingsOf_35 rfl (Nat.le_of_ble_eq_true rfl) rfl rfl ?_
    refine r_iload_n (i := 2) (x := v8) (q := 37) 2 hX dX9_fillingsOf_36 rfl rfl rfl ?_
    refine r_aload_n (i := 0) (x := a0) (q := 38) 0 hX dX9_fillingsOf_37 rfl rfl rfl ?_
    refine r_getR (a := a0) (ci := 9) (kf := 2) (q := 41) hX hc4 flX9_19 rfl dX9_fillingsOf_38 rfl ?_
    refine r_iload (i := 6) (x := v6) (q := 43) 6 hX dX9_fillingsOf_41 rfl rfl ?_
    refine r_ck (fun hc10 => ?_)
    refine r_iald (a := (rR M a0 2)) (i := v6) (q := 44) hX hc10 dX9_fillingsOf_43 rfl ?_
    refine r_icmp_le (tgt := 54) (q := 47) hX dX9_fillingsOf_44 (by decide) rfl (fun hb11 => ?_) (fun hb11 => ?_)
    · refine r_iload (i := 4) (x := s1.2.2.1) (q := 56) 4 hX dX9_fillingsOf_54 rfl rfl ?_
      refine r_aload_n (i := 0) (x := a0) (q := 57) 0 hX dX9_fillingsOf_56 rfl rfl rfl ?_
      refine r_iload (i := 6) (x := v6) (q := 59) 6 hX dX9_fillingsOf_57 rfl rfl ?_
      refine r_iload_n (i := 3) (x := s1.2.1) (q := 60) 3 hX dX9_fillingsOf_59 rfl rfl rfl ?_
      refine r_bind (fun v12 h13 => ?_)
      refine r_cv (a := a0) (As := [vi v6, vi s1.2.1]) (st := [vi s1.2.2.1]) (r := (some (vi v12))) (Z1 := Z) (M1 := M) (k1 := 0) (n1 := 0) (st1 := [vi v12, vi s1.2.2.1]) (q := 63) hX (fun l => kX9_spends l Z M a0 v6 s1.2.1 v12 h13) hc4 ivX9_spends ccX9_spends (Or.inl lkX9_47) rfl rfl rfl ⟨Nat.le_of_ble_eq_true rfl, Nat.le_of_ble_eq_true rfl, rfl, rfl, Nat.le_of_ble_eq_true rfl, Nat.le_of_ble_eq_true rfl⟩ (Nat.le_of_ble_eq_true rfl) dX9_fillingsOf_60 rfl ?_
      refine r_iadd (q := 64) hX dX9_fillingsOf_63 rfl ?_
      refine r_istoreP (x := (s1.2.2.1 + v12)) (q := 66) 4 [1, 2, 3, 4, 0, 6, 7] (fun z14 => [(0, vr a0), (1, vi x1), (2, vi v8), (3, vi s1.2.1), (4, vi z14), (5, vi s1.2.2.2), (6, vi v6)]) hX dX9_fillingsOf_64 (Nat.le_of_ble_eq_true rfl) (fun _ => rfl) rfl (fun z14 => ?_)
      refine r_aload_n (i := 0) (x := a0) (q := 67) 0 hX dX9_fillingsOf_66 rfl rfl rfl ?_
      refine r_iload (i := 6) (x := v6) (q := 69) 6 hX dX9_fillingsOf_67 rfl rfl ?_
      refine r_bind (fun v15 h16 => ?_)
      refine r_cv (a := a0) (As := [vi v6]) (st := []) (r := (some (vi v15))) (Z1 := Z) (M1 := M) (k1 := 0) (n1 := 0) (st1 := [vi v15]) (q := 72) hX (fun l => kX9_stateBehind l Z M a0 v6 v15 h16) hc4 ivX9_stateBehind ccX9_stateBehind (Or.inl lkX9_50) rfl rfl rfl ⟨Nat.le_of_ble_eq_true rfl, Nat.le_of_ble_eq_true rfl, rfl, rfl, Nat.le_of_ble_eq_true rfl, Nat.le_of_ble_eq_true rfl⟩ (Nat.le_of_ble_eq_true rfl) dX9_fillingsOf_69 rfl ?_
      refine r_istore_n (x := v15) (q := 73) 3 [1, 2, 3, 0, 5, 6, 7] (L1 := [(0, vr a0), (1, vi x1), (2, vi v8), (3, vi v15), (4, vi z14), (5, vi s1.2.2.2), (6, vi v6)]) hX dX9_fillingsOf_72 rfl (Nat.le_of_ble_eq_true rfl) rfl rfl ?_
      refine r_iinc (x := s1.2.2.2) (v := (s1.2.2.2 + (1 : Int32))) (q := 76) 5 5 [1, 2, 3, 4, 5, 0, 7] (L1 := [(0, vr a0), (1, vi x1), (2, vi v8), (3, vi v15), (4, vi z14), (5, vi (s1.2.2.2 + (1 : Int32))), (6, vi v6)]) hX dX9_fillingsOf_73 rfl rfl (Nat.le_of_ble_eq_true rfl) rfl rfl ?_
      refine r_goto (q := 10) hX dX9_fillingsOf_76 (by decide) ?_
      refine r_l0 ?_
      refine r_sub [0, 1, 2, 3, 4, 5] rfl ?_
      exact hn2 (v8, v15, z14, (s1.2.2.2 + (1 : Int32)))
    · refine r_sipush (v := (-1000 : Int32)) (q := 50) hX dX9_fillingsOf_47 rfl rfl ?_
      refine r_iload (i := 5) (x := s1.2.2.2) (q := 52) 5 hX dX9_fillingsOf_50 rfl rfl ?_
      refine r_isub (q := 53) hX dX9_fillingsOf_52 rfl ?_
      refine r_lf ((hx3 _).trans (hK _)) ?_
      exact r_iret hM rfl (Nat.le_of_ble_eq_true rfl) (Nat.le_of_ble_eq_true rfl) dX9_fillingsOf_53
theorem lkX11_237 : Lk RX11 237 yX9_isOrder := gd (hcw4_7 _ (List.mem_of_getElem? (i := 12) rfl)) rfl
theorem lkX11_240 : Lk RX11 240 yX9_fillingsOf := gd (hcw4_8 _ (List.mem_of_getElem? (i := 0) rfl)) rfl
def mX11_judge : MD := (yX11_judge, cX11_judge, 2, (some .int), 3, 61, 0, 0)
theorem ccX11_judge : Cc mX11_judge 1 := ⟨gd (hcw1_0 _ (List.mem_of_getElem? (i := 1) rfl)) rfl, gd (hcw4_7 _ (List.mem_of_getElem? (i := 11) rfl)) rfl, by decide +kernel, by decide +kernel, by decide +kernel⟩
theorem ivX11_judge : Iv mX11_judge 11 := ⟨Nat.le_of_ble_eq_true rfl, rfl, gd (hcw4_7 _ (List.mem_of_getElem? (i := 9) rfl)) rfl, gd (hcw4_7 _ (List.mem_of_getElem? (i := 10) rfl)) rfl⟩
noncomputable def fX11_judge (Z : Shp) (M : Mem) (a0 : Nat) (x1 : Int32) : Option (Int32) := (if tg Z a0 = (12, 6) then (if tg Z (rR M a0 2) = (10, 10) then (if (rI M (rR M a0 2) 3) = 0 then some (-103 : Int32) else (Option.bind (fX9_isOrder Z M (rR M a0 2) x1) (fun v4 => (if v4 = 0 then some (-102 : Int32) else (Option.bind (fX9_fillingsOf Z M (rR M a0 2) x1) (fun v7 => some v7)))))) else none) else none)
set_option maxRecDepth 20000 in
theorem kX11_judge (l : Launch) (Z : Shp) (M : Mem) (a0 : Nat) (x1 : Int32) (r : Int32) (h : fX11_judge Z M a0 x1 = some r) : Ct l mX11_judge [vr a0, vi x1] Z M ((some (vi r)), Z, M) := by
  refine Ct.of rfl (Nat.le_of_ble_eq_true rfl) (fun X hM => ?_)
  have hX := hM.1
  refine r_top (mk := fun r => ((some (vi r)), Z, M)) h (fun K hK => ?_)
  unfold fX11_judge
  refine r_aload_n (i := 0) (x := a0) (q := 1) 0 hX dX11_judge_0 rfl rfl rfl ?_
  refine r_ck (fun hc1 => ?_)
  refine r_getR (a := a0) (ci := 11) (kf := 2) (q := 4) hX hc1 flX11_26 rfl dX11_judge_1 rfl ?_
  refine r_ck (fun hc2 => ?_)
  refine r_getI (a := (rR M a0 2)) (ci := 9) (kf := 3) (q := 7) hX hc2 flX11_234 rfl rfl dX11_judge_4 rfl ?_
  refine r_if_ne (tgt := 13) (q := 10) hX dX11_judge_7 (by decide) rfl (fun hb3 => ?_) (fun hb3 => ?_)
  · refine r_bipush (v := (-103 : Int32)) (q := 12) hX dX11_judge_10 rfl rfl ?_
    refine r_lf (hK _) ?_
    exact r_iret hM rfl (Nat.le_of_ble_eq_true rfl) (Nat.le_of_ble_eq_true rfl) dX11_judge_12
  · refine r_aload_n (i := 0) (x := a0) (q := 14) 0 hX dX11_judge_13 rfl rfl rfl ?_
    refine r_getR (a := a0) (ci := 11) (kf := 2) (q := 17) hX hc1 flX11_26 rfl dX11_judge_14 rfl ?_
    refine r_iload_n (i := 1) (x := x1) (q := 18) 1 hX dX11_judge_17 rfl rfl rfl ?_
    refine r_bind (fun v4 h5 => ?_)
    refine r_cv (a := (rR M a0 2)) (As := [vi x1]) (st := []) (r := (some (vi v4))) (Z1 := Z) (M1 := M) (k1 := 0) (n1 := 0) (st1 := [vi v4]) (q := 21) hX (fun l => kX9_isOrder l Z M (rR M a0 2) x1 v4 h5) hc2 ivX9_isOrder ccX9_isOrder (Or.inl lkX11_237) rfl rfl rfl ⟨Nat.le_of_ble_eq_true rfl, Nat.le_of_ble_eq_true rfl, rfl, rfl, Nat.le_of_ble_eq_true rfl, Nat.le_of_ble_eq_true rfl⟩ (Nat.le_of_ble_eq_true rfl) dX11_judge_18 rfl ?_
    refine r_if_eq (tgt := 35) (q := 24) hX dX11_judge_21 (by decide) rfl (fun hb6 => ?_) (fun hb6 => ?_)
    · refine r_bipush (v := (-102 : Int32)) (q := 37) hX dX11_judge_35 rfl rfl ?_
      refine r_lf (hK _) ?_
      exact r_iret hM rfl (Nat.le_of_ble_eq_true rfl) (Nat.le_of_ble_eq_true rfl) dX11_judge_37
    · refine r_aload_n (i := 0) (x := a0) (q := 25) 0 hX dX11_judge_24 rfl rfl rfl ?_
      refine r_getR (a := a0) (ci := 11) (kf := 2) (q := 28) hX hc1 flX11_26 rfl dX11_judge_25 rfl ?_
      refine r_iload_n (i := 1) (x := x1) (q := 29) 1 hX dX11_judge_28 rfl rfl rfl ?_
      refine r_bind (fun v7 h8 => ?_)
      refine r_cv (a := (rR M a0 2)) (As := [vi x1]) (st := []) (r := (some (vi v7))) (Z1 := Z) (M1 := M) (k1 := 0) (n1 := 0) (st1 := [vi v7]) (q := 32) hX (fun l => kX9_fillingsOf l Z M (rR M a0 2) x1 v7 h8) hc2 ivX9_fillingsOf ccX9_fillingsOf (Or.inl lkX11_240) rfl rfl rfl ⟨Nat.le_of_ble_eq_true rfl, Nat.le_of_ble_eq_true rfl, rfl, rfl, Nat.le_of_ble_eq_true rfl, Nat.le_of_ble_eq_true rfl⟩ (Nat.le_of_ble_eq_true rfl) dX11_judge_29 rfl ?_
      refine r_goto (q := 37) hX dX11_judge_32 (by decide) ?_
      refine r_lf (hK _) ?_
      exact r_iret hM rfl (Nat.le_of_ble_eq_true rfl) (Nat.le_of_ble_eq_true rfl) dX11_judge_37
def mX2_letterOf : MD := (yX2_letterOf, cX2_letterOf, 3, (some .int), 0, 0, 0, 0)
theorem ccX2_letterOf : Cc mX2_letterOf 2 := ⟨gd (hcw1_0 _ (List.mem_of_getElem? (i := 5) rfl)) rfl, gd (hcw3_7 _ (List.mem_of_getElem? (i := 13) rfl)) rfl, by decide +kernel, by decide +kernel, by decide +kernel⟩
theorem stX2_letterOf : Cond.static (yN mX2_letterOf) ∈ lw_gd := gd (hcw3_7 _ (List.mem_of_getElem? (i := 12) rfl)) rfl
def fX2_letterOf (y0 : Int64) (x1 : Int32) : Int32 := ((((y0.toUInt64 >>> (((8 : Int32) * x1).toInt64.toUInt64 &&& Int64.toUInt64 63)).toInt64).toInt32) &&& (255 : Int32))
def gX2_letterOf (y0 : Int64) (x1 : Int32) : Option (Int32) := some ((((y0.toUInt64 >>> (((8 : Int32) * x1).toInt64.toUInt64 &&& Int64.toUInt64 63)).toInt64).toInt32) &&& (255 : Int32))
theorem eX2_letterOf (y0 : Int64) (x1 : Int32) : gX2_letterOf y0 x1 = some (fX2_letterOf y0 x1) := rfl
set_option maxRecDepth 20000 in
theorem kX2_letterOf (l : Launch) (Z : Shp) (M : Mem) (y0 : Int64) (x1 : Int32) : Ct l mX2_letterOf [vj y0, vi x1] Z M ((some (vi (fX2_letterOf y0 x1))), Z, M) := by
  refine Ct.of rfl (Nat.le_of_ble_eq_true rfl) (fun X hM => ?_)
  have hX := hM.1
  refine r_top (mk := fun r => ((some (vi r)), Z, M)) (eX2_letterOf y0 x1) (fun K hK => ?_)
  unfold gX2_letterOf
  refine r_lload_n (i := 0) (x := y0) (q := 1) 0 hX dX2_letterOf_0 rfl rfl rfl ?_
  refine r_bipush (v := (8 : Int32)) (q := 3) hX dX2_letterOf_1 rfl rfl ?_
  refine r_iload_n (i := 2) (x := x1) (q := 4) 1 hX dX2_letterOf_3 rfl rfl rfl ?_
  refine r_imul (q := 5) hX dX2_letterOf_4 rfl ?_
  refine r_lushr (q := 6) hX dX2_letterOf_5 rfl ?_
  refine r_l2i (q := 7) hX dX2_letterOf_6 rfl ?_
  refine r_sipush (v := (255 : Int32)) (q := 10) hX dX2_letterOf_7 rfl rfl ?_
  refine r_iand (q := 11) hX dX2_letterOf_10 rfl ?_
  refine r_lf (hK _) ?_
  exact r_iret hM rfl (Nat.le_of_ble_eq_true rfl) (Nat.le_of_ble_eq_true rfl) dX2_letterOf_11
theorem lkX2_29 : Lk RX2 29 yX2_letterOf := gd (hcw3_7 _ (List.mem_of_getElem? (i := 11) rfl)) rfl
def mX2_lettersIn : MD := (yX2_lettersIn, cX2_lettersIn, 6, (some .int), 1, 22, 0, 0)
theorem ccX2_lettersIn : Cc mX2_lettersIn 1 := ⟨gd (hcw1_0 _ (List.mem_of_getElem? (i := 5) rfl)) rfl, gd (hcw3_7 _ (List.mem_of_getElem? (i := 10) rfl)) rfl, by decide +kernel, by decide +kernel, by decide +kernel⟩
theorem stX2_lettersIn : Cond.static (yN mX2_lettersIn) ∈ lw_gd := gd (hcw3_7 _ (List.mem_of_getElem? (i := 9) rfl)) rfl
noncomputable def fX2_lettersIn (y0 : Int64) : Option (Int32) := (loop (fun s1 : Int32 × Int32 × Int32 => (if (8 : Int32) ≤ s1.2.2 then some (Sum.inr s1.1) else (pu ((fX2_letterOf y0 s1.2.2)) (fun z5 => (if (126 : Int32) < z5 then some (Sum.inr (-1 : Int32)) else (js (if s1.2.1 = 0 then some (Sum.inl ()) else (if z5 = 0 then some (Sum.inl ()) else some (Sum.inr (Sum.inr (-1 : Int32))))) (fun v10 : Unit => (Option.bind (if z5 = 0 then some (1 : Int32) else some (0 : Int32)) (fun v15 : Int32 => (if v15 = 0 then (pu ((s1.1 + (1 : Int32))) (fun z17 => some (Sum.inl (z17, v15, (s1.2.2 + (1 : Int32)))))) else (pu ((s1.1 + (0 : Int32))) (fun z18 => some (Sum.inl (z18, v15, (s1.2.2 + (1 : Int32)))))))))))))))) ((0 : Int32), (0 : Int32), (0 : Int32)))
set_option maxRecDepth 20000 in
theorem kX2_lettersIn (l : Launch) (Z : Shp) (M : Mem) (y0 : Int64) (r : Int32) (h : fX2_lettersIn y0 = some r) : Ct l mX2_lettersIn [vj y0] Z M ((some (vi r)), Z, M) := by
  refine Ct.of rfl (Nat.le_of_ble_eq_true rfl) (fun X hM => ?_)
  have hX := hM.1
  refine r_top (mk := fun r => ((some (vi r)), Z, M)) h (fun K hK => ?_)
  unfold fX2_lettersIn
  refine r_iconst (v := (0 : Int32)) (q := 1) hX dX2_lettersIn_0 rfl rfl ?_
  refine r_istore_n (x := (0 : Int32)) (q := 2) 2 [1, 0] (L1 := [(0, vj y0), (2, vi (0 : Int32))]) hX dX2_lettersIn_1 rfl (Nat.le_of_ble_eq_true rfl) rfl rfl ?_
  refine r_iconst (v := (0 : Int32)) (q := 3) hX dX2_lettersIn_2 rfl rfl ?_
  refine r_istore_n (x := (0 : Int32)) (q := 4) 3 [1, 2, 0] (L1 := [(0, vj y0), (2, vi (0 : Int32)), (3, vi (0 : Int32))]) hX dX2_lettersIn_3 rfl (Nat.le_of_ble_eq_true rfl) rfl rfl ?_
  refine r_iconst (v := (0 : Int32)) (q := 5) hX dX2_lettersIn_4 rfl rfl ?_
  refine r_istore (x := (0 : Int32)) (q := 7) 4 [1, 2, 3, 0] (L1 := [(0, vj y0), (2, vi (0 : Int32)), (3, vi (0 : Int32)), (4, vi (0 : Int32))]) hX dX2_lettersIn_5 (Nat.le_of_ble_eq_true rfl) rfl rfl ?_
  refine r_loop (Hd := fun (s1 : Int32 × Int32 × Int32) (P : Option Res) => Ref mX2_lettersIn X 0 0 Z M 7 [(0, vj y0), (2, vi s1.1), (3, vi s1.2.1), (4, vi s1.2.2)] [] P) (fun _ => r_none) (fun s1 K1 hn2 hx3 => ?_) ((0 : Int32), (0 : Int32), (0 : Int32))
  refine r_iload (i := 4) (x := s1.2.2) (q := 9) 3 hX dX2_lettersIn_7 rfl rfl ?_
  refine r_bipush (v := (8 : Int32)) (q := 11) hX dX2_lettersIn_9 rfl rfl ?_
  refine r_icmp_ge (tgt := 69) (q := 14) hX dX2_lettersIn_11 (by decide) rfl (fun hb4 => ?_) (fun hb4 => ?_)
  · refine r_iload_n (i := 2) (x := s1.1) (q := 70) 1 hX dX2_lettersIn_69 rfl rfl rfl ?_
    refine r_lf ((hx3 _).trans (hK _)) ?_
    exact r_iret hM rfl (Nat.le_of_ble_eq_true rfl) (Nat.le_of_ble_eq_true rfl) dX2_lettersIn_70
  · refine r_lload_n (i := 0) (x := y0) (q := 15) 0 hX dX2_lettersIn_14 rfl rfl rfl ?_
    refine r_iload (i := 4) (x := s1.2.2) (q := 17) 3 hX dX2_lettersIn_15 rfl rfl ?_
    refine r_cs (As := [vj y0, vi s1.2.2]) (st := []) (r := (some (vi (fX2_letterOf y0 s1.2.2)))) (Z1 := Z) (M1 := M) (k1 := 0) (n1 := 0) (st1 := [vi (fX2_letterOf y0 s1.2.2)]) (q := 20) hX (fun l => kX2_letterOf l Z M y0 s1.2.2) stX2_letterOf ccX2_letterOf (Or.inl lkX2_29) rfl rfl rfl ⟨Nat.le_of_ble_eq_true rfl, Nat.le_of_ble_eq_true rfl, rfl, rfl, Nat.le_of_ble_eq_true rfl, Nat.le_of_ble_eq_true rfl⟩ (Nat.le_of_ble_eq_true rfl) dX2_lettersIn_17 rfl ?_
    refine r_istoreP (x := (fX2_letterOf y0 s1.2.2)) (q := 22) 5 [1, 2, 3, 4, 0] (fun z5 => [(0, vj y0), (2, vi s1.1), (3, vi s1.2.1), (4, vi s1.2.2), (5, vi z5)]) hX dX2_lettersIn_20 (Nat.le_of_ble_eq_true rfl) (fun _ => rfl) rfl (fun z5 => ?_)
    refine r_iload (i := 5) (x := z5) (q := 24) 4 hX dX2_lettersIn_22 rfl rfl ?_
    refine r_bipush (v := (126 : Int32)) (q := 26) hX dX2_lettersIn_24 rfl rfl ?_
    refine r_icmp_gt (tgt := 38) (q := 29) hX dX2_lettersIn_26 (by decide) rfl (fun hb6 => ?_) (fun hb6 => ?_)
    · refine r_iconst (v := (-1 : Int32)) (q := 39) hX dX2_lettersIn_38 rfl rfl ?_
      refine r_lf ((hx3 _).trans (hK _)) ?_
      exact r_iret hM rfl (Nat.le_of_ble_eq_true rfl) (Nat.le_of_ble_eq_true rfl) dX2_lettersIn_39
    · refine r_iload_n (i := 3) (x := s1.2.1) (q := 30) 2 hX dX2_lettersIn_29 rfl rfl rfl ?_
      refine r_js (J := fun (v10 : Unit) (P : Option Res) => Ref mX2_lettersIn X 0 0 Z M 40 [(0, vj y0), (2, vi s1.1), (4, vi s1.2.2), (5, vi z5)] [] P) (fun v10 => ?_) (fun K1 hj8 ho9 => ?_)
      · refine r_iload (i := 5) (x := z5) (q := 42) 3 hX dX2_lettersIn_40 rfl rfl ?_
        refine r_jn (J := fun (v15 : Int32) (P : Option Res) => Ref mX2_lettersIn X 0 0 Z M 50 [(0, vj y0), (2, vi s1.1), (4, vi s1.2.2)] [vi v15] P) (fun v15 => ?_) (fun K1 hj13 => ?_)
        · refine r_istore_n (x := v15) (q := 51) 3 [1, 2, 0, 3] (L1 := [(0, vj y0), (2, vi s1.1), (3, vi v15), (4, vi s1.2.2)]) hX dX2_lettersIn_50 rfl (Nat.le_of_ble_eq_true rfl) rfl rfl ?_
          refine r_iload_n (i := 2) (x := s1.1) (q := 52) 1 hX dX2_lettersIn_51 rfl rfl rfl ?_
          refine r_iload_n (i := 3) (x := v15) (q := 53) 2 hX dX2_lettersIn_52 rfl rfl rfl ?_
          refine r_if_eq (tgt := 60) (q := 56) hX dX2_lettersIn_53 (by decide) rfl (fun hb16 => ?_) (fun hb16 => ?_)
          · refine r_iconst (v := (1 : Int32)) (q := 61) hX dX2_lettersIn_60 rfl rfl ?_
            refine r_iadd (q := 62) hX dX2_lettersIn_61 rfl ?_
            refine r_istore_nP (x := (s1.1 + (1 : Int32))) (q := 63) 2 [1, 0, 3, 4] (fun z17 => [(0, vj y0), (2, vi z17), (3, vi v15), (4, vi s1.2.2)]) hX dX2_lettersIn_62 rfl (Nat.le_of_ble_eq_true rfl) (fun _ => rfl) rfl (fun z17 => ?_)
            refine r_iinc (x := s1.2.2) (v := (s1.2.2 + (1 : Int32))) (q := 66) 4 3 [1, 2, 3, 0] (L1 := [(0, vj y0), (2, vi z17), (3, vi v15), (4, vi (s1.2.2 + (1 : Int32)))]) hX dX2_lettersIn_63 rfl rfl (Nat.le_of_ble_eq_true rfl) rfl rfl ?_
            refine r_goto (q := 7) hX dX2_lettersIn_66 (by decide) ?_
            refine r_l0 ?_
            exact hn2 (z17, v15, (s1.2.2 + (1 : Int32)))
          · refine r_iconst (v := (0 : Int32)) (q := 57) hX dX2_lettersIn_56 rfl rfl ?_
            refine r_goto (q := 61) hX dX2_lettersIn_57 (by decide) ?_
            refine r_iadd (q := 62) hX dX2_lettersIn_61 rfl ?_
            refine r_istore_nP (x := (s1.1 + (0 : Int32))) (q := 63) 2 [1, 0, 3, 4] (fun z18 => [(0, vj y0), (2, vi z18), (3, vi v15), (4, vi s1.2.2)]) hX dX2_lettersIn_62 rfl (Nat.le_of_ble_eq_true rfl) (fun _ => rfl) rfl (fun z18 => ?_)
            refine r_iinc (x := s1.2.2) (v := (s1.2.2 + (1 : Int32))) (q := 66) 4 3 [1, 2, 3, 0] (L1 := [(0, vj y0), (2, vi z18), (3, vi v15), (4, vi (s1.2.2 + (1 : Int32)))]) hX dX2_lettersIn_63 rfl rfl (Nat.le_of_ble_eq_true rfl) rfl rfl ?_
            refine r_goto (q := 7) hX dX2_lettersIn_66 (by decide) ?_
            refine r_l0 ?_
            exact hn2 (z18, v15, (s1.2.2 + (1 : Int32)))
        · refine r_if_ne (tgt := 49) (q := 45) hX dX2_lettersIn_42 (by decide) rfl (fun hb12 => ?_) (fun hb12 => ?_)
          · refine r_iconst (v := (1 : Int32)) (q := 46) hX dX2_lettersIn_45 rfl rfl ?_
            refine r_goto (q := 50) hX dX2_lettersIn_46 (by decide) ?_
            refine r_l0 ?_
            refine r_sub [0, 1, 2] rfl ?_
            exact hj13 (1 : Int32)
          · refine r_iconst (v := (0 : Int32)) (q := 50) hX dX2_lettersIn_49 rfl rfl ?_
            refine r_l0 ?_
            refine r_sub [0, 1, 2] rfl ?_
            exact hj13 (0 : Int32)
      · refine r_if_eq (tgt := 40) (q := 33) hX dX2_lettersIn_30 (by decide) rfl (fun hb7 => ?_) (fun hb7 => ?_)
        · refine r_l0 ?_
          refine r_sub [0, 1, 3, 4] rfl ?_
          exact hj8 ()
        · refine r_iload (i := 5) (x := z5) (q := 35) 4 hX dX2_lettersIn_33 rfl rfl ?_
          refine r_if_eq (tgt := 40) (q := 38) hX dX2_lettersIn_35 (by decide) rfl (fun hb11 => ?_) (fun hb11 => ?_)
          · refine r_l0 ?_
            refine r_sub [0, 1, 3, 4] rfl ?_
            exact hj8 ()
          · refine r_iconst (v := (-1 : Int32)) (q := 39) hX dX2_lettersIn_38 rfl rfl ?_
            refine r_lf (((ho9 _).trans (hx3 _)).trans (hK _)) ?_
            exact r_iret hM rfl (Nat.le_of_ble_eq_true rfl) (Nat.le_of_ble_eq_true rfl) dX2_lettersIn_39
def mX2_write : MD := (yX2_write, cX2_write, 5, none, 1, 22, 0, 0)
theorem ccX2_write : Cc mX2_write 2 := ⟨gd (hcw1_0 _ (List.mem_of_getElem? (i := 5) rfl)) rfl, gd (hcw3_7 _ (List.mem_of_getElem? (i := 17) rfl)) rfl, by decide +kernel, by decide +kernel, by decide +kernel⟩
theorem ivX2_write : Iv mX2_write 2 := ⟨Nat.le_of_ble_eq_true rfl, rfl, gd (hcw3_7 _ (List.mem_of_getElem? (i := 15) rfl)) rfl, gd (hcw3_7 _ (List.mem_of_getElem? (i := 16) rfl)) rfl⟩
noncomputable def fX2_write (Z : Shp) (M : Mem) (a0 : Nat) (y1 : Int64) (x2 : Int32) : Option (Mem) := (loop (fun s1 : Int32 × Mem => (if x2 ≤ s1.1 then some (Sum.inr s1.2) else (if tg Z a0 = (3, 4) then (if (60 : Int32) ≤ (rI s1.2 a0 1) then some (Sum.inr s1.2) else (if aok Z (rR s1.2 a0 0) 102 (rI s1.2 a0 1) then (pu (wI s1.2 (rR s1.2 a0 0) (ix (rI s1.2 a0 1)) ((fX2_letterOf y1 s1.1).toInt8.toInt32).toInt8.toInt32) (fun M8 => (pu (wI M8 a0 1 ((rI M8 a0 1) + (1 : Int32))) (fun M9 => some (Sum.inl ((s1.1 + (1 : Int32)), M9)))))) else none)) else none))) ((0 : Int32), M))
set_option maxRecDepth 20000 in
theorem kX2_write (l : Launch) (Z : Shp) (M : Mem) (a0 : Nat) (y1 : Int64) (x2 : Int32) (r : Mem) (h : fX2_write Z M a0 y1 x2 = some r) : Ct l mX2_write [vr a0, vj y1, vi x2] Z M (none, Z, r) := by
  refine Ct.of rfl (Nat.le_of_ble_eq_true rfl) (fun X hM => ?_)
  have hX := hM.1
  refine r_top (mk := fun r => (none, Z, r)) h (fun K hK => ?_)
  unfold fX2_write
  refine r_iconst (v := (0 : Int32)) (q := 1) hX dX2_write_0 rfl rfl ?_
  refine r_istore (x := (0 : Int32)) (q := 3) 4 [1, 2, 3, 0] (L1 := [(0, vr a0), (1, vj y1), (3, vi x2), (4, vi (0 : Int32))]) hX dX2_write_1 (Nat.le_of_ble_eq_true rfl) rfl rfl ?_
  refine r_loop (Hd := fun (s1 : Int32 × Mem) (P : Option Res) => Ref mX2_write X 0 0 Z s1.2 3 [(0, vr a0), (1, vj y1), (3, vi x2), (4, vi s1.1)] [] P) (fun _ => r_none) (fun s1 K1 hn2 hx3 => ?_) ((0 : Int32), M)
  refine r_iload (i := 4) (x := s1.1) (q := 5) 3 hX dX2_write_3 rfl rfl ?_
  refine r_iload_n (i := 3) (x := x2) (q := 6) 2 hX dX2_write_5 rfl rfl rfl ?_
  refine r_icmp_ge (tgt := 50) (q := 9) hX dX2_write_6 (by decide) rfl (fun hb4 => ?_) (fun hb4 => ?_)
  · refine r_lf ((hx3 _).trans (hK _)) ?_
    exact r_vret hM rfl (Nat.le_of_ble_eq_true rfl) (Nat.le_of_ble_eq_true rfl) dX2_write_50
  · refine r_aload_n (i := 0) (x := a0) (q := 10) 0 hX dX2_write_9 rfl rfl rfl ?_
    refine r_ck (fun hc5 => ?_)
    refine r_getI (a := a0) (ci := 2) (kf := 1) (q := 13) hX hc5 flX2_33 rfl rfl dX2_write_10 rfl ?_
    refine r_bipush (v := (60 : Int32)) (q := 15) hX dX2_write_13 rfl rfl ?_
    refine r_icmp_ge (tgt := 50) (q := 18) hX dX2_write_15 (by decide) rfl (fun hb6 => ?_) (fun hb6 => ?_)
    · refine r_lf ((hx3 _).trans (hK _)) ?_
      exact r_vret hM rfl (Nat.le_of_ble_eq_true rfl) (Nat.le_of_ble_eq_true rfl) dX2_write_50
    · refine r_aload_n (i := 0) (x := a0) (q := 19) 0 hX dX2_write_18 rfl rfl rfl ?_
      refine r_getR (a := a0) (ci := 2) (kf := 0) (q := 22) hX hc5 flX2_11 rfl dX2_write_19 rfl ?_
      refine r_aload_n (i := 0) (x := a0) (q := 23) 0 hX dX2_write_22 rfl rfl rfl ?_
      refine r_getI (a := a0) (ci := 2) (kf := 1) (q := 26) hX hc5 flX2_33 rfl rfl dX2_write_23 rfl ?_
      refine r_lload_n (i := 1) (x := y1) (q := 27) 1 hX dX2_write_26 rfl rfl rfl ?_
      refine r_iload (i := 4) (x := s1.1) (q := 29) 3 hX dX2_write_27 rfl rfl ?_
      refine r_cs (As := [vj y1, vi s1.1]) (st := [vi (rI s1.2 a0 1), vr (rR s1.2 a0 0)]) (r := (some (vi (fX2_letterOf y1 s1.1)))) (Z1 := Z) (M1 := s1.2) (k1 := 0) (n1 := 0) (st1 := [vi (fX2_letterOf y1 s1.1), vi (rI s1.2 a0 1), vr (rR s1.2 a0 0)]) (q := 32) hX (fun l => kX2_letterOf l Z s1.2 y1 s1.1) stX2_letterOf ccX2_letterOf (Or.inl lkX2_29) rfl rfl rfl ⟨Nat.le_of_ble_eq_true rfl, Nat.le_of_ble_eq_true rfl, rfl, rfl, Nat.le_of_ble_eq_true rfl, Nat.le_of_ble_eq_true rfl⟩ (Nat.le_of_ble_eq_true rfl) dX2_write_29 rfl ?_
      refine r_i2b (q := 33) hX dX2_write_32 rfl ?_
      refine r_ck (fun hc7 => ?_)
      refine r_bast (a := (rR s1.2 a0 0)) (i := (rI s1.2 a0 1)) (x := ((fX2_letterOf y1 s1.1).toInt8.toInt32)) (q := 34) hX hc7 dX2_write_33 rfl (fun M8 => ?_)
      refine r_aload_n (i := 0) (x := a0) (q := 35) 0 hX dX2_write_34 rfl rfl rfl ?_
      refine r_dup (q := 36) hX dX2_write_35 rfl rfl ?_
      refine r_getI (a := a0) (ci := 2) (kf := 1) (q := 39) hX hc5 flX2_33 rfl rfl dX2_write_36 rfl ?_
      refine r_iconst (v := (1 : Int32)) (q := 40) hX dX2_write_39 rfl rfl ?_
      refine r_iadd (q := 41) hX dX2_write_40 rfl ?_
      refine r_putI (a := a0) (ci := 2) (kf := 1) (q := 44) hX hc5 flX2_33 rfl rfl (Or.inl rfl) rfl rfl dX2_write_41 rfl (fun M9 => ?_)
      refine r_iinc (x := s1.1) (v := (s1.1 + (1 : Int32))) (q := 47) 4 3 [1, 2, 3, 0] (L1 := [(0, vr a0), (1, vj y1), (3, vi x2), (4, vi (s1.1 + (1 : Int32)))]) hX dX2_write_44 rfl rfl (Nat.le_of_ble_eq_true rfl) rfl rfl ?_
      refine r_goto (q := 3) hX dX2_write_47 (by decide) ?_
      refine r_l0 ?_
      exact hn2 ((s1.1 + (1 : Int32)), M9)
theorem lkX11_166 : Lk RX11 166 yX2_lettersIn := gd (hcw3_7 _ (List.mem_of_getElem? (i := 8) rfl)) rfl
theorem lkX11_173 : Lk RX11 173 yX2_write := gd (hcw3_7 _ (List.mem_of_getElem? (i := 14) rfl)) rfl
def mX11_letters : MD := (yX11_letters, cX11_letters, 4, (some .int), 2, 47, 0, 0)
theorem ccX11_letters : Cc mX11_letters 1 := ⟨gd (hcw1_0 _ (List.mem_of_getElem? (i := 1) rfl)) rfl, gd (hcw3_7 _ (List.mem_of_getElem? (i := 7) rfl)) rfl, by decide +kernel, by decide +kernel, by decide +kernel⟩
theorem ivX11_letters : Iv mX11_letters 11 := ⟨Nat.le_of_ble_eq_true rfl, rfl, gd (hcw3_7 _ (List.mem_of_getElem? (i := 5) rfl)) rfl, gd (hcw3_7 _ (List.mem_of_getElem? (i := 6) rfl)) rfl⟩
noncomputable def fX11_letters (Z : Shp) (M : Mem) (a0 : Nat) (y1 : Int64) : Option (Int32 × Mem) := (Option.bind (fX2_lettersIn y1) (fun v1 => (if 0 ≤ v1 then (if tg Z a0 = (12, 6) then (if tg Z (rR M a0 1) = (3, 4) then (if ((rI M (rR M a0 1) 1) + v1) ≤ (60 : Int32) then (Option.bind (fX2_write Z M (rR M a0 1) y1 v1) (fun v7 => (if tg Z (rR v7 a0 1) = (3, 4) then some ((rI v7 (rR v7 a0 1) 1), v7) else none))) else some ((-104 : Int32), M)) else none) else none) else some ((-102 : Int32), M))))
set_option maxRecDepth 20000 in
theorem kX11_letters (l : Launch) (Z : Shp) (M : Mem) (a0 : Nat) (y1 : Int64) (r : Int32 × Mem) (h : fX11_letters Z M a0 y1 = some r) : Ct l mX11_letters [vr a0, vj y1] Z M ((some (vi r.1)), Z, r.2) := by
  refine Ct.of rfl (Nat.le_of_ble_eq_true rfl) (fun X hM => ?_)
  have hX := hM.1
  refine r_top (mk := fun r => ((some (vi r.1)), Z, r.2)) h (fun K hK => ?_)
  unfold fX11_letters
  refine r_lload_n (i := 1) (x := y1) (q := 1) 1 hX dX11_letters_0 rfl rfl rfl ?_
  refine r_bind (fun v1 h2 => ?_)
  refine r_cs (As := [vj y1]) (st := []) (r := (some (vi v1))) (Z1 := Z) (M1 := M) (k1 := 0) (n1 := 0) (st1 := [vi v1]) (q := 4) hX (fun l => kX2_lettersIn l Z M y1 v1 h2) stX2_lettersIn ccX2_lettersIn (Or.inl lkX11_166) rfl rfl rfl ⟨Nat.le_of_ble_eq_true rfl, Nat.le_of_ble_eq_true rfl, rfl, rfl, Nat.le_of_ble_eq_true rfl, Nat.le_of_ble_eq_true rfl⟩ (Nat.le_of_ble_eq_true rfl) dX11_letters_1 rfl ?_
  refine r_istore_n (x := v1) (q := 5) 3 [1, 2, 0] (L1 := [(0, vr a0), (1, vj y1), (3, vi v1)]) hX dX11_letters_4 rfl (Nat.le_of_ble_eq_true rfl) rfl rfl ?_
  refine r_iload_n (i := 3) (x := v1) (q := 6) 2 hX dX11_letters_5 rfl rfl rfl ?_
  refine r_if_ge (tgt := 12) (q := 9) hX dX11_letters_6 (by decide) rfl (fun hb3 => ?_) (fun hb3 => ?_)
  · refine r_aload_n (i := 0) (x := a0) (q := 13) 0 hX dX11_letters_12 rfl rfl rfl ?_
    refine r_ck (fun hc4 => ?_)
    refine r_getR (a := a0) (ci := 11) (kf := 1) (q := 16) hX hc4 flX11_19 rfl dX11_letters_13 rfl ?_
    refine r_ck (fun hc5 => ?_)
    refine r_getI (a := (rR M a0 1)) (ci := 2) (kf := 1) (q := 19) hX hc5 flX11_170 rfl rfl dX11_letters_16 rfl ?_
    refine r_iload_n (i := 3) (x := v1) (q := 20) 2 hX dX11_letters_19 rfl rfl rfl ?_
    refine r_iadd (q := 21) hX dX11_letters_20 rfl ?_
    refine r_bipush (v := (60 : Int32)) (q := 23) hX dX11_letters_21 rfl rfl ?_
    refine r_icmp_le (tgt := 29) (q := 26) hX dX11_letters_23 (by decide) rfl (fun hb6 => ?_) (fun hb6 => ?_)
    · refine r_aload_n (i := 0) (x := a0) (q := 30) 0 hX dX11_letters_29 rfl rfl rfl ?_
      refine r_getR (a := a0) (ci := 11) (kf := 1) (q := 33) hX hc4 flX11_19 rfl dX11_letters_30 rfl ?_
      refine r_lload_n (i := 1) (x := y1) (q := 34) 1 hX dX11_letters_33 rfl rfl rfl ?_
      refine r_iload_n (i := 3) (x := v1) (q := 35) 2 hX dX11_letters_34 rfl rfl rfl ?_
      refine r_bind (fun v7 h8 => ?_)
      refine r_cv (a := (rR M a0 1)) (As := [vj y1, vi v1]) (st := []) (r := none) (Z1 := Z) (M1 := v7) (k1 := 0) (n1 := 0) (st1 := []) (q := 38) hX (fun l => kX2_write l Z M (rR M a0 1) y1 v1 v7 h8) hc5 ivX2_write ccX2_write (Or.inl lkX11_173) rfl rfl rfl ⟨Nat.le_of_ble_eq_true rfl, Nat.le_of_ble_eq_true rfl, rfl, rfl, Nat.le_of_ble_eq_true rfl, Nat.le_of_ble_eq_true rfl⟩ (Nat.le_of_ble_eq_true rfl) dX11_letters_35 rfl ?_
      refine r_aload_n (i := 0) (x := a0) (q := 39) 0 hX dX11_letters_38 rfl rfl rfl ?_
      refine r_getR (a := a0) (ci := 11) (kf := 1) (q := 42) hX hc4 flX11_19 rfl dX11_letters_39 rfl ?_
      refine r_ck (fun hc9 => ?_)
      refine r_getI (a := (rR v7 a0 1)) (ci := 2) (kf := 1) (q := 45) hX hc9 flX11_170 rfl rfl dX11_letters_42 rfl ?_
      refine r_lf (hK _) ?_
      exact r_iret hM rfl (Nat.le_of_ble_eq_true rfl) (Nat.le_of_ble_eq_true rfl) dX11_letters_45
    · refine r_bipush (v := (-104 : Int32)) (q := 28) hX dX11_letters_26 rfl rfl ?_
      refine r_lf (hK _) ?_
      exact r_iret hM rfl (Nat.le_of_ble_eq_true rfl) (Nat.le_of_ble_eq_true rfl) dX11_letters_28
  · refine r_bipush (v := (-102 : Int32)) (q := 11) hX dX11_letters_9 rfl rfl ?_
    refine r_lf (hK _) ?_
    exact r_iret hM rfl (Nat.le_of_ble_eq_true rfl) (Nat.le_of_ble_eq_true rfl) dX11_letters_11
def mX3_lockNumbered : MD := (yX3_lockNumbered, cX3_lockNumbered, 2, (some (.object "CanalCompany$Lock")), 1, 22, 0, 0)
theorem ccX3_lockNumbered : Cc mX3_lockNumbered 1 := ⟨gd (hcw1_0 _ (List.mem_of_getElem? (i := 2) rfl)) rfl, gd (hcw2_5 _ (List.mem_of_getElem? (i := 10) rfl)) rfl, by decide +kernel, by decide +kernel, by decide +kernel⟩
theorem ivX3_lockNumbered : Iv mX3_lockNumbered 3 := ⟨Nat.le_of_ble_eq_true rfl, rfl, gd (hcw2_5 _ (List.mem_of_getElem? (i := 8) rfl)) rfl, gd (hcw2_5 _ (List.mem_of_getElem? (i := 9) rfl)) rfl⟩
def fX3_lockNumbered (Z : Shp) (M : Mem) (a0 : Nat) (x1 : Int32) : Option (Nat) := (if (fX11_within x1 (0 : Int32) (6 : Int32)) = 0 then some 0 else (if tg Z a0 = (4, 11) then (if aok Z (rR M a0 1) 111 x1 then some (rR M (rR M a0 1) (ix x1)) else none) else none))
set_option maxRecDepth 20000 in
theorem kX3_lockNumbered (l : Launch) (Z : Shp) (M : Mem) (a0 : Nat) (x1 : Int32) (r : Nat) (h : fX3_lockNumbered Z M a0 x1 = some r) : Ct l mX3_lockNumbered [vr a0, vi x1] Z M ((some (vr r)), Z, M) := by
  refine Ct.of rfl (Nat.le_of_ble_eq_true rfl) (fun X hM => ?_)
  have hX := hM.1
  refine r_top (mk := fun r => ((some (vr r)), Z, M)) h (fun K hK => ?_)
  unfold fX3_lockNumbered
  refine r_iload_n (i := 1) (x := x1) (q := 1) 1 hX dX3_lockNumbered_0 rfl rfl rfl ?_
  refine r_iconst (v := (0 : Int32)) (q := 2) hX dX3_lockNumbered_1 rfl rfl ?_
  refine r_bipush (v := (6 : Int32)) (q := 4) hX dX3_lockNumbered_2 rfl rfl ?_
  refine r_cs (As := [vi x1, vi (0 : Int32), vi (6 : Int32)]) (st := []) (r := (some (vi (fX11_within x1 (0 : Int32) (6 : Int32))))) (Z1 := Z) (M1 := M) (k1 := 0) (n1 := 0) (st1 := [vi (fX11_within x1 (0 : Int32) (6 : Int32))]) (q := 7) hX (fun l => kX11_within l Z M x1 (0 : Int32) (6 : Int32)) stX11_within ccX11_within (Or.inr ⟨_, lkX3_44⟩) rfl rfl rfl ⟨Nat.le_of_ble_eq_true rfl, Nat.le_of_ble_eq_true rfl, rfl, rfl, Nat.le_of_ble_eq_true rfl, Nat.le_of_ble_eq_true rfl⟩ (Nat.le_of_ble_eq_true rfl) dX3_lockNumbered_4 rfl ?_
  refine r_if_eq (tgt := 19) (q := 10) hX dX3_lockNumbered_7 (by decide) rfl (fun hb1 => ?_) (fun hb1 => ?_)
  · refine r_null (q := 20) hX dX3_lockNumbered_19 rfl ?_
    refine r_lf (hK _) ?_
    exact r_aret hM rfl (Or.inl ⟨_, rfl⟩) (Nat.le_of_ble_eq_true rfl) (Nat.le_of_ble_eq_true rfl) dX3_lockNumbered_20
  · refine r_aload_n (i := 0) (x := a0) (q := 11) 0 hX dX3_lockNumbered_10 rfl rfl rfl ?_
    refine r_ck (fun hc2 => ?_)
    refine r_getR (a := a0) (ci := 3) (kf := 1) (q := 14) hX hc2 flX3_19 rfl dX3_lockNumbered_11 rfl ?_
    refine r_iload_n (i := 1) (x := x1) (q := 15) 1 hX dX3_lockNumbered_14 rfl rfl rfl ?_
    refine r_ck (fun hc3 => ?_)
    refine r_aald (a := (rR M a0 1)) (i := x1) (q := 16) hX arT_111 hc3 dX3_lockNumbered_15 rfl ?_
    refine r_goto (q := 20) hX dX3_lockNumbered_16 (by decide) ?_
    refine r_lf (hK _) ?_
    exact r_aret hM rfl (Or.inl ⟨_, rfl⟩) (Nat.le_of_ble_eq_true rfl) (Nat.le_of_ble_eq_true rfl) dX3_lockNumbered_20
theorem lkX4_13 : LkN RX4 13 yX11_within "CanalCompany" := bd (hcw2_5 _ (List.mem_of_getElem? (i := 15) rfl)) rfl
def mX4_allows : MD := (yX4_allows, cX4_allows, 3, (some .boolean), 1, 22, 0, 0)
theorem ccX4_allows : Cc mX4_allows 2 := ⟨gd (hcw1_0 _ (List.mem_of_getElem? (i := 4) rfl)) rfl, gd (hcw2_5 _ (List.mem_of_getElem? (i := 14) rfl)) rfl, by decide +kernel, by decide +kernel, by decide +kernel⟩
theorem ivX4_allows : Iv mX4_allows 4 := ⟨Nat.le_of_ble_eq_true rfl, rfl, gd (hcw2_5 _ (List.mem_of_getElem? (i := 12) rfl)) rfl, gd (hcw2_5 _ (List.mem_of_getElem? (i := 13) rfl)) rfl⟩
def fX4_allows (a0 : Nat) (x1 : Int32) (x2 : Int32) : Int32 := (if x1 = 0 then (fX11_within x2 (10 : Int32) (200 : Int32)) else (if x1 = (1 : Int32) then (fX11_within x2 (0 : Int32) (1 : Int32)) else (fX11_within x2 (0 : Int32) (2 : Int32))))
def gX4_allows (a0 : Nat) (x1 : Int32) (x2 : Int32) : Option (Int32) := (if x1 = 0 then some (fX11_within x2 (10 : Int32) (200 : Int32)) else (if x1 = (1 : Int32) then some (fX11_within x2 (0 : Int32) (1 : Int32)) else some (fX11_within x2 (0 : Int32) (2 : Int32))))
theorem eX4_allows (a0 : Nat) (x1 : Int32) (x2 : Int32) : gX4_allows a0 x1 x2 = some (fX4_allows a0 x1 x2) := by
  unfold gX4_allows fX4_allows
  try simp only [pu]
  (repeat' split) <;> rfl
theorem bX4_allows (a0 : Nat) (x1 : Int32) (x2 : Int32) : zb (fX4_allows a0 x1 x2) := by
  unfold fX4_allows
  try simp only [pu]
  (repeat' split) <;> first | exact Or.inl rfl | exact Or.inr rfl | exact bX11_within _ _ _
set_option maxRecDepth 20000 in
theorem kX4_allows (l : Launch) (Z : Shp) (M : Mem) (a0 : Nat) (x1 : Int32) (x2 : Int32) : Ct l mX4_allows [vr a0, vi x1, vi x2] Z M ((some (vi (fX4_allows a0 x1 x2))), Z, M) := by
  refine Ct.of rfl (Nat.le_of_ble_eq_true rfl) (fun X hM => ?_)
  have hX := hM.1
  refine r_top (mk := fun r => ((some (vi r)), Z, M)) (eX4_allows a0 x1 x2) (fun K hK => ?_)
  unfold gX4_allows
  refine r_iload_n (i := 1) (x := x1) (q := 1) 1 hX dX4_allows_0 rfl rfl rfl ?_
  refine r_if_ne (tgt := 14) (q := 4) hX dX4_allows_1 (by decide) rfl (fun hb1 => ?_) (fun hb1 => ?_)
  · refine r_iload_n (i := 2) (x := x2) (q := 5) 2 hX dX4_allows_4 rfl rfl rfl ?_
    refine r_bipush (v := (10 : Int32)) (q := 7) hX dX4_allows_5 rfl rfl ?_
    refine r_sipush (v := (200 : Int32)) (q := 10) hX dX4_allows_7 rfl rfl ?_
    refine r_cs (As := [vi x2, vi (10 : Int32), vi (200 : Int32)]) (st := []) (r := (some (vi (fX11_within x2 (10 : Int32) (200 : Int32))))) (Z1 := Z) (M1 := M) (k1 := 0) (n1 := 0) (st1 := [vi (fX11_within x2 (10 : Int32) (200 : Int32))]) (q := 13) hX (fun l => kX11_within l Z M x2 (10 : Int32) (200 : Int32)) stX11_within ccX11_within (Or.inr ⟨_, lkX4_13⟩) rfl rfl rfl ⟨Nat.le_of_ble_eq_true rfl, Nat.le_of_ble_eq_true rfl, rfl, rfl, Nat.le_of_ble_eq_true rfl, Nat.le_of_ble_eq_true rfl⟩ (Nat.le_of_ble_eq_true rfl) dX4_allows_10 rfl ?_
    refine r_lf (hK _) ?_
    exact r_zret hM rfl (bX11_within x2 (10 : Int32) (200 : Int32)) (Nat.le_of_ble_eq_true rfl) (Nat.le_of_ble_eq_true rfl) dX4_allows_13
  · refine r_iload_n (i := 2) (x := x2) (q := 15) 2 hX dX4_allows_14 rfl rfl rfl ?_
    refine r_iconst (v := (0 : Int32)) (q := 16) hX dX4_allows_15 rfl rfl ?_
    refine r_iload_n (i := 1) (x := x1) (q := 17) 1 hX dX4_allows_16 rfl rfl rfl ?_
    refine r_iconst (v := (1 : Int32)) (q := 18) hX dX4_allows_17 rfl rfl ?_
    refine r_icmp_ne (tgt := 25) (q := 21) hX dX4_allows_18 (by decide) rfl (fun hb2 => ?_) (fun hb2 => ?_)
    · refine r_iconst (v := (1 : Int32)) (q := 22) hX dX4_allows_21 rfl rfl ?_
      refine r_goto (q := 26) hX dX4_allows_22 (by decide) ?_
      refine r_cs (As := [vi x2, vi (0 : Int32), vi (1 : Int32)]) (st := []) (r := (some (vi (fX11_within x2 (0 : Int32) (1 : Int32))))) (Z1 := Z) (M1 := M) (k1 := 0) (n1 := 0) (st1 := [vi (fX11_within x2 (0 : Int32) (1 : Int32))]) (q := 29) hX (fun l => kX11_within l Z M x2 (0 : Int32) (1 : Int32)) stX11_within ccX11_within (Or.inr ⟨_, lkX4_13⟩) rfl rfl rfl ⟨Nat.le_of_ble_eq_true rfl, Nat.le_of_ble_eq_true rfl, rfl, rfl, Nat.le_of_ble_eq_true rfl, Nat.le_of_ble_eq_true rfl⟩ (Nat.le_of_ble_eq_true rfl) dX4_allows_26 rfl ?_
      refine r_lf (hK _) ?_
      exact r_zret hM rfl (bX11_within x2 (0 : Int32) (1 : Int32)) (Nat.le_of_ble_eq_true rfl) (Nat.le_of_ble_eq_true rfl) dX4_allows_29
    · refine r_iconst (v := (2 : Int32)) (q := 26) hX dX4_allows_25 rfl rfl ?_
      refine r_cs (As := [vi x2, vi (0 : Int32), vi (2 : Int32)]) (st := []) (r := (some (vi (fX11_within x2 (0 : Int32) (2 : Int32))))) (Z1 := Z) (M1 := M) (k1 := 0) (n1 := 0) (st1 := [vi (fX11_within x2 (0 : Int32) (2 : Int32))]) (q := 29) hX (fun l => kX11_within l Z M x2 (0 : Int32) (2 : Int32)) stX11_within ccX11_within (Or.inr ⟨_, lkX4_13⟩) rfl rfl rfl ⟨Nat.le_of_ble_eq_true rfl, Nat.le_of_ble_eq_true rfl, rfl, rfl, Nat.le_of_ble_eq_true rfl, Nat.le_of_ble_eq_true rfl⟩ (Nat.le_of_ble_eq_true rfl) dX4_allows_26 rfl ?_
      refine r_lf (hK _) ?_
      exact r_zret hM rfl (bX11_within x2 (0 : Int32) (2 : Int32)) (Nat.le_of_ble_eq_true rfl) (Nat.le_of_ble_eq_true rfl) dX4_allows_29
theorem lkX4_26 : Lk RX4 26 yX4_tell := gd (hcw2_6 _ (List.mem_of_getElem? (i := 0) rfl)) rfl
def mX4_replace : MD := (yX4_replace, cX4_replace, 4, (some .int), 1, 21, 0, 0)
theorem ccX4_replace : Cc mX4_replace 2 := ⟨gd (hcw1_0 _ (List.mem_of_getElem? (i := 4) rfl)) rfl, gd (hcw2_5 _ (List.mem_of_getElem? (i := 19) rfl)) rfl, by decide +kernel, by decide +kernel, by decide +kernel⟩
theorem ivX4_replace : Iv mX4_replace 4 := ⟨Nat.le_of_ble_eq_true rfl, rfl, gd (hcw2_5 _ (List.mem_of_getElem? (i := 17) rfl)) rfl, gd (hcw2_5 _ (List.mem_of_getElem? (i := 18) rfl)) rfl⟩
noncomputable def fX4_replace (Z : Shp) (M : Mem) (a0 : Nat) (x1 : Int32) (x2 : Int32) : Option (Int32 × Mem) := (if tg Z a0 = (5, 7) then (Option.bind (fX4_tell Z M a0 x1) (fun v2 => (if x1 = 0 then (pu (wI M a0 0 x2) (fun M5 => some (v2, M5))) else (if x1 = (1 : Int32) then (if x2 = (1 : Int32) then (pu (wI M a0 1 (1 : Int32)) (fun M8 => some (v2, M8))) else (pu (wI M a0 1 (0 : Int32)) (fun M9 => some (v2, M9)))) else (pu (wI M a0 2 x2) (fun M10 => some (v2, M10))))))) else none)
set_option maxRecDepth 20000 in
theorem kX4_replace (l : Launch) (Z : Shp) (M : Mem) (a0 : Nat) (x1 : Int32) (x2 : Int32) (r : Int32 × Mem) (h : fX4_replace Z M a0 x1 x2 = some r) : Ct l mX4_replace [vr a0, vi x1, vi x2] Z M ((some (vi r.1)), Z, r.2) := by
  refine Ct.of rfl (Nat.le_of_ble_eq_true rfl) (fun X hM => ?_)
  have hX := hM.1
  refine r_top (mk := fun r => ((some (vi r.1)), Z, r.2)) h (fun K hK => ?_)
  unfold fX4_replace
  refine r_aload_n (i := 0) (x := a0) (q := 1) 0 hX dX4_replace_0 rfl rfl rfl ?_
  refine r_iload_n (i := 1) (x := x1) (q := 2) 1 hX dX4_replace_1 rfl rfl rfl ?_
  refine r_ck (fun hc1 => ?_)
  refine r_bind (fun v2 h3 => ?_)
  refine r_cv (a := a0) (As := [vi x1]) (st := []) (r := (some (vi v2))) (Z1 := Z) (M1 := M) (k1 := 0) (n1 := 0) (st1 := [vi v2]) (q := 5) hX (fun l => kX4_tell l Z M a0 x1 v2 h3) hc1 ivX4_tell ccX4_tell (Or.inl lkX4_26) rfl rfl rfl ⟨Nat.le_of_ble_eq_true rfl, Nat.le_of_ble_eq_true rfl, rfl, rfl, Nat.le_of_ble_eq_true rfl, Nat.le_of_ble_eq_true rfl⟩ (Nat.le_of_ble_eq_true rfl) dX4_replace_2 rfl ?_
  refine r_istore_n (x := v2) (q := 6) 3 [1, 2, 3, 0] (L1 := [(0, vr a0), (1, vi x1), (2, vi x2), (3, vi v2)]) hX dX4_replace_5 rfl (Nat.le_of_ble_eq_true rfl) rfl rfl ?_
  refine r_iload_n (i := 1) (x := x1) (q := 7) 1 hX dX4_replace_6 rfl rfl rfl ?_
  refine r_if_ne (tgt := 18) (q := 10) hX dX4_replace_7 (by decide) rfl (fun hb4 => ?_) (fun hb4 => ?_)
  · refine r_aload_n (i := 0) (x := a0) (q := 11) 0 hX dX4_replace_10 rfl rfl rfl ?_
    refine r_iload_n (i := 2) (x := x2) (q := 12) 2 hX dX4_replace_11 rfl rfl rfl ?_
    refine r_putI (a := a0) (ci := 4) (kf := 0) (q := 15) hX hc1 flX4_7 rfl rfl (Or.inl rfl) rfl rfl dX4_replace_12 rfl (fun M5 => ?_)
    refine r_goto (q := 45) hX dX4_replace_15 (by decide) ?_
    refine r_iload_n (i := 3) (x := v2) (q := 46) 3 hX dX4_replace_45 rfl rfl rfl ?_
    refine r_lf (hK _) ?_
    exact r_iret hM rfl (Nat.le_of_ble_eq_true rfl) (Nat.le_of_ble_eq_true rfl) dX4_replace_46
  · refine r_iload_n (i := 1) (x := x1) (q := 19) 1 hX dX4_replace_18 rfl rfl rfl ?_
    refine r_iconst (v := (1 : Int32)) (q := 20) hX dX4_replace_19 rfl rfl ?_
    refine r_icmp_ne (tgt := 40) (q := 23) hX dX4_replace_20 (by decide) rfl (fun hb6 => ?_) (fun hb6 => ?_)
    · refine r_aload_n (i := 0) (x := a0) (q := 24) 0 hX dX4_replace_23 rfl rfl rfl ?_
      refine r_iload_n (i := 2) (x := x2) (q := 25) 2 hX dX4_replace_24 rfl rfl rfl ?_
      refine r_iconst (v := (1 : Int32)) (q := 26) hX dX4_replace_25 rfl rfl ?_
      refine r_icmp_ne (tgt := 33) (q := 29) hX dX4_replace_26 (by decide) rfl (fun hb7 => ?_) (fun hb7 => ?_)
      · refine r_iconst (v := (1 : Int32)) (q := 30) hX dX4_replace_29 rfl rfl ?_
        refine r_goto (q := 34) hX dX4_replace_30 (by decide) ?_
        refine r_putI (a := a0) (ci := 4) (kf := 1) (q := 37) hX hc1 flX4_19 rfl rfl (Or.inl rfl) (zb_n (Or.inr rfl)) (zb_f (Or.inr rfl)) dX4_replace_34 rfl (fun M8 => ?_)
        refine r_goto (q := 45) hX dX4_replace_37 (by decide) ?_
        refine r_iload_n (i := 3) (x := v2) (q := 46) 3 hX dX4_replace_45 rfl rfl rfl ?_
        refine r_lf (hK _) ?_
        exact r_iret hM rfl (Nat.le_of_ble_eq_true rfl) (Nat.le_of_ble_eq_true rfl) dX4_replace_46
      · refine r_iconst (v := (0 : Int32)) (q := 34) hX dX4_replace_33 rfl rfl ?_
        refine r_putI (a := a0) (ci := 4) (kf := 1) (q := 37) hX hc1 flX4_19 rfl rfl (Or.inl rfl) (zb_n (Or.inl rfl)) (zb_f (Or.inl rfl)) dX4_replace_34 rfl (fun M9 => ?_)
        refine r_goto (q := 45) hX dX4_replace_37 (by decide) ?_
        refine r_iload_n (i := 3) (x := v2) (q := 46) 3 hX dX4_replace_45 rfl rfl rfl ?_
        refine r_lf (hK _) ?_
        exact r_iret hM rfl (Nat.le_of_ble_eq_true rfl) (Nat.le_of_ble_eq_true rfl) dX4_replace_46
    · refine r_aload_n (i := 0) (x := a0) (q := 41) 0 hX dX4_replace_40 rfl rfl rfl ?_
      refine r_iload_n (i := 2) (x := x2) (q := 42) 2 hX dX4_replace_41 rfl rfl rfl ?_
      refine r_putI (a := a0) (ci := 4) (kf := 2) (q := 45) hX hc1 flX4_23 rfl rfl (Or.inl rfl) rfl rfl dX4_replace_42 rfl (fun M10 => ?_)
      refine r_iload_n (i := 3) (x := v2) (q := 46) 3 hX dX4_replace_45 rfl rfl rfl ?_
      refine r_lf (hK _) ?_
      exact r_iret hM rfl (Nat.le_of_ble_eq_true rfl) (Nat.le_of_ble_eq_true rfl) dX4_replace_46
theorem lkX11_79 : Lk RX11 79 yX3_lockNumbered := gd (hcw2_5 _ (List.mem_of_getElem? (i := 7) rfl)) rfl
theorem lkX11_83 : Lk RX11 83 yX4_allows := gd (hcw2_5 _ (List.mem_of_getElem? (i := 11) rfl)) rfl
theorem lkX11_86 : Lk RX11 86 yX4_replace := gd (hcw2_5 _ (List.mem_of_getElem? (i := 16) rfl)) rfl
def mX11_lock : MD := (yX11_lock, cX11_lock, 5, (some .int), 2, 44, 0, 0)
theorem ccX11_lock : Cc mX11_lock 3 := ⟨gd (hcw1_0 _ (List.mem_of_getElem? (i := 1) rfl)) rfl, gd (hcw2_5 _ (List.mem_of_getElem? (i := 6) rfl)) rfl, by decide +kernel, by decide +kernel, by decide +kernel⟩
theorem ivX11_lock : Iv mX11_lock 11 := ⟨Nat.le_of_ble_eq_true rfl, rfl, gd (hcw2_5 _ (List.mem_of_getElem? (i := 4) rfl)) rfl, gd (hcw2_5 _ (List.mem_of_getElem? (i := 5) rfl)) rfl⟩
noncomputable def fX11_lock (Z : Shp) (M : Mem) (a0 : Nat) (x1 : Int32) (x2 : Int32) (x3 : Int32) : Option (Int32 × Mem) := (if tg Z a0 = (12, 6) then (if tg Z (rR M a0 0) = (4, 11) then (Option.bind (fX3_lockNumbered Z M (rR M a0 0) x1) (fun v3 => (if v3 = 0 then some ((-101 : Int32), M) else (if (fX11_within x2 (0 : Int32) (2 : Int32)) = 0 then some ((-101 : Int32), M) else (if tg Z v3 = (5, 7) then (if (fX4_allows v3 x2 x3) = 0 then some ((-102 : Int32), M) else (if x2 = (2 : Int32) then (Option.bind (fX4_replace Z M v3 x2 x3) (fun v10 => some (v10.1, v10.2))) else (if (rI M (rR M a0 0) 8) ≤ 0 then (Option.bind (fX4_replace Z M v3 x2 x3) (fun v13 => some (v13.1, v13.2))) else some ((-103 : Int32), M)))) else none))))) else none) else none)
set_option maxRecDepth 20000 in
theorem kX11_lock (l : Launch) (Z : Shp) (M : Mem) (a0 : Nat) (x1 : Int32) (x2 : Int32) (x3 : Int32) (r : Int32 × Mem) (h : fX11_lock Z M a0 x1 x2 x3 = some r) : Ct l mX11_lock [vr a0, vi x1, vi x2, vi x3] Z M ((some (vi r.1)), Z, r.2) := by
  refine Ct.of rfl (Nat.le_of_ble_eq_true rfl) (fun X hM => ?_)
  have hX := hM.1
  refine r_top (mk := fun r => ((some (vi r.1)), Z, r.2)) h (fun K hK => ?_)
  unfold fX11_lock
  refine r_aload_n (i := 0) (x := a0) (q := 1) 0 hX dX11_lock_0 rfl rfl rfl ?_
  refine r_ck (fun hc1 => ?_)
  refine r_getR (a := a0) (ci := 11) (kf := 0) (q := 4) hX hc1 flX11_12 rfl dX11_lock_1 rfl ?_
  refine r_iload_n (i := 1) (x := x1) (q := 5) 1 hX dX11_lock_4 rfl rfl rfl ?_
  refine r_ck (fun hc2 => ?_)
  refine r_bind (fun v3 h4 => ?_)
  refine r_cv (a := (rR M a0 0)) (As := [vi x1]) (st := []) (r := (some (vr v3))) (Z1 := Z) (M1 := M) (k1 := 0) (n1 := 0) (st1 := [vr v3]) (q := 8) hX (fun l => kX3_lockNumbered l Z M (rR M a0 0) x1 v3 h4) hc2 ivX3_lockNumbered ccX3_lockNumbered (Or.inl lkX11_79) rfl rfl rfl ⟨Nat.le_of_ble_eq_true rfl, Nat.le_of_ble_eq_true rfl, rfl, rfl, Nat.le_of_ble_eq_true rfl, Nat.le_of_ble_eq_true rfl⟩ (Nat.le_of_ble_eq_true rfl) dX11_lock_5 rfl ?_
  refine r_astore (x := v3) (q := 10) 4 [1, 2, 3, 4, 0] (L1 := [(0, vr a0), (1, vi x1), (2, vi x2), (3, vi x3), (4, vr v3)]) hX dX11_lock_8 (Nat.le_of_ble_eq_true rfl) rfl rfl ?_
  refine r_aload (i := 4) (x := v3) (q := 12) 4 hX dX11_lock_10 rfl rfl ?_
  refine r_ifnull (tgt := 24) (q := 15) hX dX11_lock_12 (by decide) rfl (fun hb5 => ?_) (fun hb5 => ?_)
  · refine r_bipush (v := (-101 : Int32)) (q := 26) hX dX11_lock_24 rfl rfl ?_
    refine r_lf (hK _) ?_
    exact r_iret hM rfl (Nat.le_of_ble_eq_true rfl) (Nat.le_of_ble_eq_true rfl) dX11_lock_26
  · refine r_iload_n (i := 2) (x := x2) (q := 16) 2 hX dX11_lock_15 rfl rfl rfl ?_
    refine r_iconst (v := (0 : Int32)) (q := 17) hX dX11_lock_16 rfl rfl ?_
    refine r_iconst (v := (2 : Int32)) (q := 18) hX dX11_lock_17 rfl rfl ?_
    refine r_cs (As := [vi x2, vi (0 : Int32), vi (2 : Int32)]) (st := []) (r := (some (vi (fX11_within x2 (0 : Int32) (2 : Int32))))) (Z1 := Z) (M1 := M) (k1 := 0) (n1 := 0) (st1 := [vi (fX11_within x2 (0 : Int32) (2 : Int32))]) (q := 21) hX (fun l => kX11_within l Z M x2 (0 : Int32) (2 : Int32)) stX11_within ccX11_within (Or.inl lkX11_55) rfl rfl rfl ⟨Nat.le_of_ble_eq_true rfl, Nat.le_of_ble_eq_true rfl, rfl, rfl, Nat.le_of_ble_eq_true rfl, Nat.le_of_ble_eq_true rfl⟩ (Nat.le_of_ble_eq_true rfl) dX11_lock_18 rfl ?_
    refine r_if_ne (tgt := 27) (q := 24) hX dX11_lock_21 (by decide) rfl (fun hb6 => ?_) (fun hb6 => ?_)
    · refine r_bipush (v := (-101 : Int32)) (q := 26) hX dX11_lock_24 rfl rfl ?_
      refine r_lf (hK _) ?_
      exact r_iret hM rfl (Nat.le_of_ble_eq_true rfl) (Nat.le_of_ble_eq_true rfl) dX11_lock_26
    · refine r_aload (i := 4) (x := v3) (q := 29) 4 hX dX11_lock_27 rfl rfl ?_
      refine r_iload_n (i := 2) (x := x2) (q := 30) 2 hX dX11_lock_29 rfl rfl rfl ?_
      refine r_iload_n (i := 3) (x := x3) (q := 31) 3 hX dX11_lock_30 rfl rfl rfl ?_
      refine r_ck (fun hc7 => ?_)
      refine r_cv (a := v3) (As := [vi x2, vi x3]) (st := []) (r := (some (vi (fX4_allows v3 x2 x3)))) (Z1 := Z) (M1 := M) (k1 := 0) (n1 := 0) (st1 := [vi (fX4_allows v3 x2 x3)]) (q := 34) hX (fun l => kX4_allows l Z M v3 x2 x3) hc7 ivX4_allows ccX4_allows (Or.inl lkX11_83) rfl rfl rfl ⟨Nat.le_of_ble_eq_true rfl, Nat.le_of_ble_eq_true rfl, rfl, rfl, Nat.le_of_ble_eq_true rfl, Nat.le_of_ble_eq_true rfl⟩ (Nat.le_of_ble_eq_true rfl) dX11_lock_31 rfl ?_
      refine r_if_ne (tgt := 40) (q := 37) hX dX11_lock_34 (by decide) rfl (fun hb8 => ?_) (fun hb8 => ?_)
      · refine r_bipush (v := (-102 : Int32)) (q := 39) hX dX11_lock_37 rfl rfl ?_
        refine r_lf (hK _) ?_
        exact r_iret hM rfl (Nat.le_of_ble_eq_true rfl) (Nat.le_of_ble_eq_true rfl) dX11_lock_39
      · refine r_iload_n (i := 2) (x := x2) (q := 41) 2 hX dX11_lock_40 rfl rfl rfl ?_
        refine r_iconst (v := (2 : Int32)) (q := 42) hX dX11_lock_41 rfl rfl ?_
        refine r_icmp_eq (tgt := 58) (q := 45) hX dX11_lock_42 (by decide) rfl (fun hb9 => ?_) (fun hb9 => ?_)
        · refine r_aload (i := 4) (x := v3) (q := 60) 4 hX dX11_lock_58 rfl rfl ?_
          refine r_iload_n (i := 2) (x := x2) (q := 61) 2 hX dX11_lock_60 rfl rfl rfl ?_
          refine r_iload_n (i := 3) (x := x3) (q := 62) 3 hX dX11_lock_61 rfl rfl rfl ?_
          refine r_bind (fun v10 h11 => ?_)
          refine r_cv (a := v3) (As := [vi x2, vi x3]) (st := []) (r := (some (vi v10.1))) (Z1 := Z) (M1 := v10.2) (k1 := 0) (n1 := 0) (st1 := [vi v10.1]) (q := 65) hX (fun l => kX4_replace l Z M v3 x2 x3 v10 h11) hc7 ivX4_replace ccX4_replace (Or.inl lkX11_86) rfl rfl rfl ⟨Nat.le_of_ble_eq_true rfl, Nat.le_of_ble_eq_true rfl, rfl, rfl, Nat.le_of_ble_eq_true rfl, Nat.le_of_ble_eq_true rfl⟩ (Nat.le_of_ble_eq_true rfl) dX11_lock_62 rfl ?_
          refine r_lf (hK _) ?_
          exact r_iret hM rfl (Nat.le_of_ble_eq_true rfl) (Nat.le_of_ble_eq_true rfl) dX11_lock_65
        · refine r_aload_n (i := 0) (x := a0) (q := 46) 0 hX dX11_lock_45 rfl rfl rfl ?_
          refine r_getR (a := a0) (ci := 11) (kf := 0) (q := 49) hX hc1 flX11_12 rfl dX11_lock_46 rfl ?_
          refine r_getI (a := (rR M a0 0)) (ci := 3) (kf := 8) (q := 52) hX hc2 flX11_69 rfl rfl dX11_lock_49 rfl ?_
          refine r_if_le (tgt := 58) (q := 55) hX dX11_lock_52 (by decide) rfl (fun hb12 => ?_) (fun hb12 => ?_)
          · refine r_aload (i := 4) (x := v3) (q := 60) 4 hX dX11_lock_58 rfl rfl ?_
            refine r_iload_n (i := 2) (x := x2) (q := 61) 2 hX dX11_lock_60 rfl rfl rfl ?_
            refine r_iload_n (i := 3) (x := x3) (q := 62) 3 hX dX11_lock_61 rfl rfl rfl ?_
            refine r_bind (fun v13 h14 => ?_)
            refine r_cv (a := v3) (As := [vi x2, vi x3]) (st := []) (r := (some (vi v13.1))) (Z1 := Z) (M1 := v13.2) (k1 := 0) (n1 := 0) (st1 := [vi v13.1]) (q := 65) hX (fun l => kX4_replace l Z M v3 x2 x3 v13 h14) hc7 ivX4_replace ccX4_replace (Or.inl lkX11_86) rfl rfl rfl ⟨Nat.le_of_ble_eq_true rfl, Nat.le_of_ble_eq_true rfl, rfl, rfl, Nat.le_of_ble_eq_true rfl, Nat.le_of_ble_eq_true rfl⟩ (Nat.le_of_ble_eq_true rfl) dX11_lock_62 rfl ?_
            refine r_lf (hK _) ?_
            exact r_iret hM rfl (Nat.le_of_ble_eq_true rfl) (Nat.le_of_ble_eq_true rfl) dX11_lock_65
          · refine r_bipush (v := (-103 : Int32)) (q := 57) hX dX11_lock_55 rfl rfl ?_
            refine r_lf (hK _) ?_
            exact r_iret hM rfl (Nat.le_of_ble_eq_true rfl) (Nat.le_of_ble_eq_true rfl) dX11_lock_57
theorem lkX11_141 : Lk RX11 141 yX4_standing := gd (hcw3_5 _ (List.mem_of_getElem? (i := 13) rfl)) rfl
def mX11_lockIs : MD := (yX11_lockIs, cX11_lockIs, 4, (some .int), 2, 43, 0, 0)
theorem ccX11_lockIs : Cc mX11_lockIs 2 := ⟨gd (hcw1_0 _ (List.mem_of_getElem? (i := 1) rfl)) rfl, gd (hcw3_5 _ (List.mem_of_getElem? (i := 12) rfl)) rfl, by decide +kernel, by decide +kernel, by decide +kernel⟩
theorem ivX11_lockIs : Iv mX11_lockIs 11 := ⟨Nat.le_of_ble_eq_true rfl, rfl, gd (hcw3_5 _ (List.mem_of_getElem? (i := 10) rfl)) rfl, gd (hcw3_5 _ (List.mem_of_getElem? (i := 11) rfl)) rfl⟩
noncomputable def fX11_lockIs (Z : Shp) (M : Mem) (a0 : Nat) (x1 : Int32) (x2 : Int32) : Option (Int32) := (if tg Z a0 = (12, 6) then (if tg Z (rR M a0 0) = (4, 11) then (Option.bind (fX3_lockNumbered Z M (rR M a0 0) x1) (fun v3 => (if v3 = 0 then some (-101 : Int32) else (if (fX11_within x2 (0 : Int32) (3 : Int32)) = 0 then some (-102 : Int32) else (if tg Z v3 = (5, 7) then (Option.bind (fX4_standing Z M v3 x2) (fun v8 => some v8)) else none))))) else none) else none)
set_option maxRecDepth 20000 in
theorem kX11_lockIs (l : Launch) (Z : Shp) (M : Mem) (a0 : Nat) (x1 : Int32) (x2 : Int32) (r : Int32) (h : fX11_lockIs Z M a0 x1 x2 = some r) : Ct l mX11_lockIs [vr a0, vi x1, vi x2] Z M ((some (vi r)), Z, M) := by
  refine Ct.of rfl (Nat.le_of_ble_eq_true rfl) (fun X hM => ?_)
  have hX := hM.1
  refine r_top (mk := fun r => ((some (vi r)), Z, M)) h (fun K hK => ?_)
  unfold fX11_lockIs
  refine r_aload_n (i := 0) (x := a0) (q := 1) 0 hX dX11_lockIs_0 rfl rfl rfl ?_
  refine r_ck (fun hc1 => ?_)
  refine r_getR (a := a0) (ci := 11) (kf := 0) (q := 4) hX hc1 flX11_12 rfl dX11_lockIs_1 rfl ?_
  refine r_iload_n (i := 1) (x := x1) (q := 5) 1 hX dX11_lockIs_4 rfl rfl rfl ?_
  refine r_ck (fun hc2 => ?_)
  refine r_bind (fun v3 h4 => ?_)
  refine r_cv (a := (rR M a0 0)) (As := [vi x1]) (st := []) (r := (some (vr v3))) (Z1 := Z) (M1 := M) (k1 := 0) (n1 := 0) (st1 := [vr v3]) (q := 8) hX (fun l => kX3_lockNumbered l Z M (rR M a0 0) x1 v3 h4) hc2 ivX3_lockNumbered ccX3_lockNumbered (Or.inl lkX11_79) rfl rfl rfl ⟨Nat.le_of_ble_eq_true rfl, Nat.le_of_ble_eq_true rfl, rfl, rfl, Nat.le_of_ble_eq_true rfl, Nat.le_of_ble_eq_true rfl⟩ (Nat.le_of_ble_eq_true rfl) dX11_lockIs_5 rfl ?_
  refine r_astore_n (x := v3) (q := 9) 3 [1, 2, 3, 0] (L1 := [(0, vr a0), (1, vi x1), (2, vi x2), (3, vr v3)]) hX dX11_lockIs_8 rfl (Nat.le_of_ble_eq_true rfl) rfl rfl ?_
  refine r_aload_n (i := 3) (x := v3) (q := 10) 3 hX dX11_lockIs_9 rfl rfl rfl ?_
  refine r_ifnonnull (tgt := 16) (q := 13) hX dX11_lockIs_10 (by decide) rfl (fun hb5 => ?_) (fun hb5 => ?_)
  · refine r_bipush (v := (-101 : Int32)) (q := 15) hX dX11_lockIs_13 rfl rfl ?_
    refine r_lf (hK _) ?_
    exact r_iret hM rfl (Nat.le_of_ble_eq_true rfl) (Nat.le_of_ble_eq_true rfl) dX11_lockIs_15
  · refine r_iload_n (i := 2) (x := x2) (q := 17) 2 hX dX11_lockIs_16 rfl rfl rfl ?_
    refine r_iconst (v := (0 : Int32)) (q := 18) hX dX11_lockIs_17 rfl rfl ?_
    refine r_iconst (v := (3 : Int32)) (q := 19) hX dX11_lockIs_18 rfl rfl ?_
    refine r_cs (As := [vi x2, vi (0 : Int32), vi (3 : Int32)]) (st := []) (r := (some (vi (fX11_within x2 (0 : Int32) (3 : Int32))))) (Z1 := Z) (M1 := M) (k1 := 0) (n1 := 0) (st1 := [vi (fX11_within x2 (0 : Int32) (3 : Int32))]) (q := 22) hX (fun l => kX11_within l Z M x2 (0 : Int32) (3 : Int32)) stX11_within ccX11_within (Or.inl lkX11_55) rfl rfl rfl ⟨Nat.le_of_ble_eq_true rfl, Nat.le_of_ble_eq_true rfl, rfl, rfl, Nat.le_of_ble_eq_true rfl, Nat.le_of_ble_eq_true rfl⟩ (Nat.le_of_ble_eq_true rfl) dX11_lockIs_19 rfl ?_
    refine r_if_eq (tgt := 33) (q := 25) hX dX11_lockIs_22 (by decide) rfl (fun hb6 => ?_) (fun hb6 => ?_)
    · refine r_bipush (v := (-102 : Int32)) (q := 35) hX dX11_lockIs_33 rfl rfl ?_
      refine r_lf (hK _) ?_
      exact r_iret hM rfl (Nat.le_of_ble_eq_true rfl) (Nat.le_of_ble_eq_true rfl) dX11_lockIs_35
    · refine r_aload_n (i := 3) (x := v3) (q := 26) 3 hX dX11_lockIs_25 rfl rfl rfl ?_
      refine r_iload_n (i := 2) (x := x2) (q := 27) 2 hX dX11_lockIs_26 rfl rfl rfl ?_
      refine r_ck (fun hc7 => ?_)
      refine r_bind (fun v8 h9 => ?_)
      refine r_cv (a := v3) (As := [vi x2]) (st := []) (r := (some (vi v8))) (Z1 := Z) (M1 := M) (k1 := 0) (n1 := 0) (st1 := [vi v8]) (q := 30) hX (fun l => kX4_standing l Z M v3 x2 v8 h9) hc7 ivX4_standing ccX4_standing (Or.inl lkX11_141) rfl rfl rfl ⟨Nat.le_of_ble_eq_true rfl, Nat.le_of_ble_eq_true rfl, rfl, rfl, Nat.le_of_ble_eq_true rfl, Nat.le_of_ble_eq_true rfl⟩ (Nat.le_of_ble_eq_true rfl) dX11_lockIs_27 rfl ?_
      refine r_goto (q := 35) hX dX11_lockIs_30 (by decide) ?_
      refine r_lf (hK _) ?_
      exact r_iret hM rfl (Nat.le_of_ble_eq_true rfl) (Nat.le_of_ble_eq_true rfl) dX11_lockIs_35
theorem lkX11_144 : Lk RX11 144 yX6_tell := gd (hcw3_6 _ (List.mem_of_getElem? (i := 1) rfl)) rfl
def mX11_now : MD := (yX11_now, cX11_now, 4, (some .int), 2, 43, 0, 0)
theorem ccX11_now : Cc mX11_now 2 := ⟨gd (hcw1_0 _ (List.mem_of_getElem? (i := 1) rfl)) rfl, gd (hcw3_6 _ (List.mem_of_getElem? (i := 0) rfl)) rfl, by decide +kernel, by decide +kernel, by decide +kernel⟩
theorem ivX11_now : Iv mX11_now 11 := ⟨Nat.le_of_ble_eq_true rfl, rfl, gd (hcw3_5 _ (List.mem_of_getElem? (i := 18) rfl)) rfl, gd (hcw3_5 _ (List.mem_of_getElem? (i := 19) rfl)) rfl⟩
noncomputable def fX11_now (Z : Shp) (M : Mem) (a0 : Nat) (x1 : Int32) (x2 : Int32) : Option (Int32) := (if tg Z a0 = (12, 6) then (if tg Z (rR M a0 0) = (4, 11) then (Option.bind (fX3_poundNumbered Z M (rR M a0 0) x1) (fun v3 => (if v3 = 0 then some (-101 : Int32) else (if (fX11_within x2 (0 : Int32) (2 : Int32)) = 0 then some (-102 : Int32) else (if tg Z v3 = (7, 3) then (Option.bind (fX6_tell Z M v3 x2) (fun v8 => some v8)) else none))))) else none) else none)
set_option maxRecDepth 20000 in
theorem kX11_now (l : Launch) (Z : Shp) (M : Mem) (a0 : Nat) (x1 : Int32) (x2 : Int32) (r : Int32) (h : fX11_now Z M a0 x1 x2 = some r) : Ct l mX11_now [vr a0, vi x1, vi x2] Z M ((some (vi r)), Z, M) := by
  refine Ct.of rfl (Nat.le_of_ble_eq_true rfl) (fun X hM => ?_)
  have hX := hM.1
  refine r_top (mk := fun r => ((some (vi r)), Z, M)) h (fun K hK => ?_)
  unfold fX11_now
  refine r_aload_n (i := 0) (x := a0) (q := 1) 0 hX dX11_now_0 rfl rfl rfl ?_
  refine r_ck (fun hc1 => ?_)
  refine r_getR (a := a0) (ci := 11) (kf := 0) (q := 4) hX hc1 flX11_12 rfl dX11_now_1 rfl ?_
  refine r_iload_n (i := 1) (x := x1) (q := 5) 1 hX dX11_now_4 rfl rfl rfl ?_
  refine r_ck (fun hc2 => ?_)
  refine r_bind (fun v3 h4 => ?_)
  refine r_cv (a := (rR M a0 0)) (As := [vi x1]) (st := []) (r := (some (vr v3))) (Z1 := Z) (M1 := M) (k1 := 0) (n1 := 0) (st1 := [vr v3]) (q := 8) hX (fun l => kX3_poundNumbered l Z M (rR M a0 0) x1 v3 h4) hc2 ivX3_poundNumbered ccX3_poundNumbered (Or.inl lkX11_51) rfl rfl rfl ⟨Nat.le_of_ble_eq_true rfl, Nat.le_of_ble_eq_true rfl, rfl, rfl, Nat.le_of_ble_eq_true rfl, Nat.le_of_ble_eq_true rfl⟩ (Nat.le_of_ble_eq_true rfl) dX11_now_5 rfl ?_
  refine r_astore_n (x := v3) (q := 9) 3 [1, 2, 3, 0] (L1 := [(0, vr a0), (1, vi x1), (2, vi x2), (3, vr v3)]) hX dX11_now_8 rfl (Nat.le_of_ble_eq_true rfl) rfl rfl ?_
  refine r_aload_n (i := 3) (x := v3) (q := 10) 3 hX dX11_now_9 rfl rfl rfl ?_
  refine r_ifnonnull (tgt := 16) (q := 13) hX dX11_now_10 (by decide) rfl (fun hb5 => ?_) (fun hb5 => ?_)
  · refine r_bipush (v := (-101 : Int32)) (q := 15) hX dX11_now_13 rfl rfl ?_
    refine r_lf (hK _) ?_
    exact r_iret hM rfl (Nat.le_of_ble_eq_true rfl) (Nat.le_of_ble_eq_true rfl) dX11_now_15
  · refine r_iload_n (i := 2) (x := x2) (q := 17) 2 hX dX11_now_16 rfl rfl rfl ?_
    refine r_iconst (v := (0 : Int32)) (q := 18) hX dX11_now_17 rfl rfl ?_
    refine r_iconst (v := (2 : Int32)) (q := 19) hX dX11_now_18 rfl rfl ?_
    refine r_cs (As := [vi x2, vi (0 : Int32), vi (2 : Int32)]) (st := []) (r := (some (vi (fX11_within x2 (0 : Int32) (2 : Int32))))) (Z1 := Z) (M1 := M) (k1 := 0) (n1 := 0) (st1 := [vi (fX11_within x2 (0 : Int32) (2 : Int32))]) (q := 22) hX (fun l => kX11_within l Z M x2 (0 : Int32) (2 : Int32)) stX11_within ccX11_within (Or.inl lkX11_55) rfl rfl rfl ⟨Nat.le_of_ble_eq_true rfl, Nat.le_of_ble_eq_true rfl, rfl, rfl, Nat.le_of_ble_eq_true rfl, Nat.le_of_ble_eq_true rfl⟩ (Nat.le_of_ble_eq_true rfl) dX11_now_19 rfl ?_
    refine r_if_eq (tgt := 33) (q := 25) hX dX11_now_22 (by decide) rfl (fun hb6 => ?_) (fun hb6 => ?_)
    · refine r_bipush (v := (-102 : Int32)) (q := 35) hX dX11_now_33 rfl rfl ?_
      refine r_lf (hK _) ?_
      exact r_iret hM rfl (Nat.le_of_ble_eq_true rfl) (Nat.le_of_ble_eq_true rfl) dX11_now_35
    · refine r_aload_n (i := 3) (x := v3) (q := 26) 3 hX dX11_now_25 rfl rfl rfl ?_
      refine r_iload_n (i := 2) (x := x2) (q := 27) 2 hX dX11_now_26 rfl rfl rfl ?_
      refine r_ck (fun hc7 => ?_)
      refine r_bind (fun v8 h9 => ?_)
      refine r_cv (a := v3) (As := [vi x2]) (st := []) (r := (some (vi v8))) (Z1 := Z) (M1 := M) (k1 := 0) (n1 := 0) (st1 := [vi v8]) (q := 30) hX (fun l => kX6_tell l Z M v3 x2 v8 h9) hc7 ivX6_tell ccX6_tell (Or.inl lkX11_144) rfl rfl rfl ⟨Nat.le_of_ble_eq_true rfl, Nat.le_of_ble_eq_true rfl, rfl, rfl, Nat.le_of_ble_eq_true rfl, Nat.le_of_ble_eq_true rfl⟩ (Nat.le_of_ble_eq_true rfl) dX11_now_27 rfl ?_
      refine r_goto (q := 35) hX dX11_now_30 (by decide) ?_
      refine r_lf (hK _) ?_
      exact r_iret hM rfl (Nat.le_of_ble_eq_true rfl) (Nat.le_of_ble_eq_true rfl) dX11_now_35
def mX11_over : MD := (yX11_over, cX11_over, 4, (some .int), 2, 42, 0, 0)
theorem ccX11_over : Cc mX11_over 1 := ⟨gd (hcw1_0 _ (List.mem_of_getElem? (i := 1) rfl)) rfl, gd (hcw5_3 _ (List.mem_of_getElem? (i := 10) rfl)) rfl, by decide +kernel, by decide +kernel, by decide +kernel⟩
theorem ivX11_over : Iv mX11_over 11 := ⟨Nat.le_of_ble_eq_true rfl, rfl, gd (hcw5_3 _ (List.mem_of_getElem? (i := 8) rfl)) rfl, gd (hcw5_3 _ (List.mem_of_getElem? (i := 9) rfl)) rfl⟩
noncomputable def fX11_over (Z : Shp) (M : Mem) (a0 : Nat) (x1 : Int32) : Option (Int32) := (if (fX11_within x1 (0 : Int32) (99 : Int32)) = 0 then some (-102 : Int32) else (loop (fun s2 : Int32 × Int32 => (if tg Z a0 = (12, 6) then (if tg Z (rR M a0 0) = (4, 11) then (if (rI M (rR M a0 0) 6) ≤ s2.2 then some (Sum.inr s2.1) else (if aok Z (rR M (rR M a0 0) 4) 113 s2.2 then (if tg Z (rR M a0 4) = (6, 9) then (Option.bind (fX5_goesOver Z M (rR M a0 4) (rR M (rR M (rR M a0 0) 4) (ix s2.2)) x1) (fun v10 => (if v10 = 0 then some (Sum.inl (s2.1, (s2.2 + (1 : Int32)))) else (pu ((s2.1 ||| ((1 : Int32) <<< (s2.2 &&& 31)))) (fun z13 => some (Sum.inl (z13, (s2.2 + (1 : Int32))))))))) else none) else none)) else none) else none)) ((0 : Int32), (0 : Int32))))
set_option maxRecDepth 20000 in
theorem kX11_over (l : Launch) (Z : Shp) (M : Mem) (a0 : Nat) (x1 : Int32) (r : Int32) (h : fX11_over Z M a0 x1 = some r) : Ct l mX11_over [vr a0, vi x1] Z M ((some (vi r)), Z, M) := by
  refine Ct.of rfl (Nat.le_of_ble_eq_true rfl) (fun X hM => ?_)
  have hX := hM.1
  refine r_top (mk := fun r => ((some (vi r)), Z, M)) h (fun K hK => ?_)
  unfold fX11_over
  refine r_iload_n (i := 1) (x := x1) (q := 1) 1 hX dX11_over_0 rfl rfl rfl ?_
  refine r_iconst (v := (0 : Int32)) (q := 2) hX dX11_over_1 rfl rfl ?_
  refine r_bipush (v := (99 : Int32)) (q := 4) hX dX11_over_2 rfl rfl ?_
  refine r_cs (As := [vi x1, vi (0 : Int32), vi (99 : Int32)]) (st := []) (r := (some (vi (fX11_within x1 (0 : Int32) (99 : Int32))))) (Z1 := Z) (M1 := M) (k1 := 0) (n1 := 0) (st1 := [vi (fX11_within x1 (0 : Int32) (99 : Int32))]) (q := 7) hX (fun l => kX11_within l Z M x1 (0 : Int32) (99 : Int32)) stX11_within ccX11_within (Or.inl lkX11_55) rfl rfl rfl ⟨Nat.le_of_ble_eq_true rfl, Nat.le_of_ble_eq_true rfl, rfl, rfl, Nat.le_of_ble_eq_true rfl, Nat.le_of_ble_eq_true rfl⟩ (Nat.le_of_ble_eq_true rfl) dX11_over_4 rfl ?_
  refine r_if_ne (tgt := 13) (q := 10) hX dX11_over_7 (by decide) rfl (fun hb1 => ?_) (fun hb1 => ?_)
  · refine r_bipush (v := (-102 : Int32)) (q := 12) hX dX11_over_10 rfl rfl ?_
    refine r_lf (hK _) ?_
    exact r_iret hM rfl (Nat.le_of_ble_eq_true rfl) (Nat.le_of_ble_eq_true rfl) dX11_over_12
  · refine r_iconst (v := (0 : Int32)) (q := 14) hX dX11_over_13 rfl rfl ?_
    refine r_istore_n (x := (0 : Int32)) (q := 15) 2 [1, 2, 0] (L1 := [(0, vr a0), (1, vi x1), (2, vi (0 : Int32))]) hX dX11_over_14 rfl (Nat.le_of_ble_eq_true rfl) rfl rfl ?_
    refine r_iconst (v := (0 : Int32)) (q := 16) hX dX11_over_15 rfl rfl ?_
    refine r_istore_n (x := (0 : Int32)) (q := 17) 3 [1, 2, 3, 0] (L1 := [(0, vr a0), (1, vi x1), (2, vi (0 : Int32)), (3, vi (0 : Int32))]) hX dX11_over_16 rfl (Nat.le_of_ble_eq_true rfl) rfl rfl ?_
    refine r_loop (Hd := fun (s2 : Int32 × Int32) (P : Option Res) => Ref mX11_over X 0 0 Z M 17 [(0, vr a0), (1, vi x1), (2, vi s2.1), (3, vi s2.2)] [] P) (fun _ => r_none) (fun s2 K1 hn3 hx4 => ?_) ((0 : Int32), (0 : Int32))
    refine r_iload_n (i := 3) (x := s2.2) (q := 18) 3 hX dX11_over_17 rfl rfl rfl ?_
    refine r_aload_n (i := 0) (x := a0) (q := 19) 0 hX dX11_over_18 rfl rfl rfl ?_
    refine r_ck (fun hc5 => ?_)
    refine r_getR (a := a0) (ci := 11) (kf := 0) (q := 22) hX hc5 flX11_12 rfl dX11_over_19 rfl ?_
    refine r_ck (fun hc6 => ?_)
    refine r_getI (a := (rR M a0 0)) (ci := 3) (kf := 6) (q := 25) hX hc6 flX11_73 rfl rfl dX11_over_22 rfl ?_
    refine r_icmp_ge (tgt := 60) (q := 28) hX dX11_over_25 (by decide) rfl (fun hb7 => ?_) (fun hb7 => ?_)
    · refine r_iload_n (i := 2) (x := s2.1) (q := 61) 2 hX dX11_over_60 rfl rfl rfl ?_
      refine r_lf ((hx4 _).trans (hK _)) ?_
      exact r_iret hM rfl (Nat.le_of_ble_eq_true rfl) (Nat.le_of_ble_eq_true rfl) dX11_over_61
    · refine r_aload_n (i := 0) (x := a0) (q := 29) 0 hX dX11_over_28 rfl rfl rfl ?_
      refine r_getR (a := a0) (ci := 11) (kf := 4) (q := 32) hX hc5 flX11_40 rfl dX11_over_29 rfl ?_
      refine r_aload_n (i := 0) (x := a0) (q := 33) 0 hX dX11_over_32 rfl rfl rfl ?_
      refine r_getR (a := a0) (ci := 11) (kf := 0) (q := 36) hX hc5 flX11_12 rfl dX11_over_33 rfl ?_
      refine r_getR (a := (rR M a0 0)) (ci := 3) (kf := 4) (q := 39) hX hc6 flX11_321 rfl dX11_over_36 rfl ?_
      refine r_iload_n (i := 3) (x := s2.2) (q := 40) 3 hX dX11_over_39 rfl rfl rfl ?_
      refine r_ck (fun hc8 => ?_)
      refine r_aald (a := (rR M (rR M a0 0) 4)) (i := s2.2) (q := 41) hX arT_113 hc8 dX11_over_40 rfl ?_
      refine r_iload_n (i := 1) (x := x1) (q := 42) 1 hX dX11_over_41 rfl rfl rfl ?_
      refine r_ck (fun hc9 => ?_)
      refine r_bind (fun v10 h11 => ?_)
      refine r_cv (a := (rR M a0 4)) (As := [vr (rR M (rR M (rR M a0 0) 4) (ix s2.2)), vi x1]) (st := []) (r := (some (vi v10))) (Z1 := Z) (M1 := M) (k1 := 0) (n1 := 0) (st1 := [vi v10]) (q := 45) hX (fun l => kX5_goesOver l Z M (rR M a0 4) (rR M (rR M (rR M a0 0) 4) (ix s2.2)) x1 v10 h11) hc9 ivX5_goesOver ccX5_goesOver (Or.inl lkX11_325) rfl rfl rfl ⟨Nat.le_of_ble_eq_true rfl, Nat.le_of_ble_eq_true rfl, rfl, rfl, Nat.le_of_ble_eq_true rfl, Nat.le_of_ble_eq_true rfl⟩ (Nat.le_of_ble_eq_true rfl) dX11_over_42 rfl ?_
      refine r_if_eq (tgt := 54) (q := 48) hX dX11_over_45 (by decide) rfl (fun hb12 => ?_) (fun hb12 => ?_)
      · refine r_iinc (x := s2.2) (v := (s2.2 + (1 : Int32))) (q := 57) 3 3 [1, 2, 3, 0] (L1 := [(0, vr a0), (1, vi x1), (2, vi s2.1), (3, vi (s2.2 + (1 : Int32)))]) hX dX11_over_54 rfl rfl (Nat.le_of_ble_eq_true rfl) rfl rfl ?_
        refine r_goto (q := 17) hX dX11_over_57 (by decide) ?_
        refine r_l0 ?_
        exact hn3 (s2.1, (s2.2 + (1 : Int32)))
      · refine r_iload_n (i := 2) (x := s2.1) (q := 49) 2 hX dX11_over_48 rfl rfl rfl ?_
        refine r_iconst (v := (1 : Int32)) (q := 50) hX dX11_over_49 rfl rfl ?_
        refine r_iload_n (i := 3) (x := s2.2) (q := 51) 3 hX dX11_over_50 rfl rfl rfl ?_
        refine r_ishl (q := 52) hX dX11_over_51 rfl ?_
        refine r_ior (q := 53) hX dX11_over_52 rfl ?_
        refine r_istore_nP (x := (s2.1 ||| ((1 : Int32) <<< (s2.2 &&& 31)))) (q := 54) 2 [1, 2, 0, 4] (fun z13 => [(0, vr a0), (1, vi x1), (2, vi z13), (3, vi s2.2)]) hX dX11_over_53 rfl (Nat.le_of_ble_eq_true rfl) (fun _ => rfl) rfl (fun z13 => ?_)
        refine r_iinc (x := s2.2) (v := (s2.2 + (1 : Int32))) (q := 57) 3 3 [1, 2, 3, 0] (L1 := [(0, vr a0), (1, vi x1), (2, vi z13), (3, vi (s2.2 + (1 : Int32)))]) hX dX11_over_54 rfl rfl (Nat.le_of_ble_eq_true rfl) rfl rfl ?_
        refine r_goto (q := 17) hX dX11_over_57 (by decide) ?_
        refine r_l0 ?_
        exact hn3 (z13, (s2.2 + (1 : Int32)))
