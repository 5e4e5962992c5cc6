def mX12_force : MD := (yX12_force, cX12_force, 4, (some .int), 2, 45, 0, 0)
theorem ccX12_force : Cc mX12_force 3 := ⟨gd (hcw1_0 _ (List.mem_of_getElem? (i := 10) rfl)) rfl, gd (hcw7_9 _ (List.mem_of_getElem? (i := 7) rfl)) rfl, by decide +kernel, by decide +kernel, by decide +kernel⟩
theorem ivX12_force : Iv mX12_force 12 := ⟨Nat.le_of_ble_eq_true rfl, rfl, gd (hcw7_9 _ (List.mem_of_getElem? (i := 5) rfl)) rfl, gd (hcw7_9 _ (List.mem_of_getElem? (i := 6) rfl)) rfl⟩
def fX12_force (Z : Shp) (M : Mem) (a0 : Nat) (x1 : Int32) (x2 : Int32) (x3 : Int32) : Option (Int32 × Mem) := (if tg Z a0 = (13, 86) then (if (fX12_in (x1.toInt64) (0 : Int64) (((rI M a0 35) - (1 : Int32)).toInt64)) = 0 then some ((-101 : Int32), M) else (if (fX12_isDay x2) = 0 then some ((-102 : Int32), M) else (if (fX12_in (x3.toInt64) (x2.toInt64) (99 : Int64)) = 0 then some ((-102 : Int32), M) else (if aok Z (rR M a0 38) 100 x1 then (pu (wI M (rR M a0 38) (ix x1) x2) (fun M6 => (if aok Z (rR M6 a0 39) 100 x1 then (pu (wI M6 (rR M6 a0 39) (ix x1) x3) (fun M8 => some ((1 : Int32), M8))) else none))) else none)))) else none)
set_option maxRecDepth 20000 in
theorem kX12_force (l : Launch) (Z : Shp) (M : Mem) (a0 : Nat) (x1 : Int32) (x2 : Int32) (x3 : Int32) (r : Int32 × Mem) (h : fX12_force Z M a0 x1 x2 x3 = some r) : Ct l mX12_force [vr a0, vi x1, vi x2, vi x3] Z M ((some (vi r.1)), Z, r.2) := by
  refine Ct.of rfl (Nat.le_of_ble_eq_true rfl) (fun X hM => ?_)
  have hX := hM.1
  refine r_top (mk := fun r => ((some (vi r.1)), Z, r.2)) h (fun K hK => ?_)
  unfold fX12_force
  refine r_iload_n (i := 1) (x := x1) (q := 1) 1 hX dX12_force_0 rfl rfl rfl ?_
  refine r_i2l (q := 2) hX dX12_force_1 rfl ?_
  refine r_lconst (v := (0 : Int64)) (q := 3) hX dX12_force_2 rfl rfl ?_
  refine r_aload_n (i := 0) (x := a0) (q := 4) 0 hX dX12_force_3 rfl rfl rfl ?_
  refine r_ck (fun hc1 => ?_)
  refine r_getI (a := a0) (ci := 12) (kf := 35) (q := 7) hX hc1 flX12_388 rfl rfl dX12_force_4 rfl ?_
  refine r_iconst (v := (1 : Int32)) (q := 8) hX dX12_force_7 rfl rfl ?_
  refine r_isub (q := 9) hX dX12_force_8 rfl ?_
  refine r_i2l (q := 10) hX dX12_force_9 rfl ?_
  refine r_cs (As := [vj (x1.toInt64), vj (0 : Int64), vj (((rI M a0 35) - (1 : Int32)).toInt64)]) (st := []) (r := (some (vi (fX12_in (x1.toInt64) (0 : Int64) (((rI M a0 35) - (1 : Int32)).toInt64))))) (Z1 := Z) (M1 := M) (k1 := 0) (n1 := 0) (st1 := [vi (fX12_in (x1.toInt64) (0 : Int64) (((rI M a0 35) - (1 : Int32)).toInt64))]) (q := 13) hX (fun l => kX12_in l Z M (x1.toInt64) (0 : Int64) (((rI M a0 35) - (1 : Int32)).toInt64)) stX12_in ccX12_in (Or.inl lkX12_194) rfl rfl rfl ⟨Nat.le_of_ble_eq_true rfl, Nat.le_of_ble_eq_true rfl, rfl, rfl, Nat.le_of_ble_eq_true rfl, Nat.le_of_ble_eq_true rfl⟩ (Nat.le_of_ble_eq_true rfl) dX12_force_10 rfl ?_
  refine r_if_ne (tgt := 19) (q := 16) hX dX12_force_13 (by decide) rfl (fun hb2 => ?_) (fun hb2 => ?_)
  · refine r_bipush (v := (-101 : Int32)) (q := 18) hX dX12_force_16 rfl rfl ?_
    refine r_lf (hK _) ?_
    exact r_iret hM rfl (Nat.le_of_ble_eq_true rfl) (Nat.le_of_ble_eq_true rfl) dX12_force_18
  · refine r_iload_n (i := 2) (x := x2) (q := 20) 2 hX dX12_force_19 rfl rfl rfl ?_
    refine r_cs (As := [vi x2]) (st := []) (r := (some (vi (fX12_isDay x2)))) (Z1 := Z) (M1 := M) (k1 := 0) (n1 := 0) (st1 := [vi (fX12_isDay x2)]) (q := 23) hX (fun l => kX12_isDay l Z M x2) stX12_isDay ccX12_isDay (Or.inl lkX12_393) rfl rfl rfl ⟨Nat.le_of_ble_eq_true rfl, Nat.le_of_ble_eq_true rfl, rfl, rfl, Nat.le_of_ble_eq_true rfl, Nat.le_of_ble_eq_true rfl⟩ (Nat.le_of_ble_eq_true rfl) dX12_force_20 rfl ?_
    refine r_if_eq (tgt := 39) (q := 26) hX dX12_force_23 (by decide) rfl (fun hb3 => ?_) (fun hb3 => ?_)
    · refine r_bipush (v := (-102 : Int32)) (q := 41) hX dX12_force_39 rfl rfl ?_
      refine r_lf (hK _) ?_
      exact r_iret hM rfl (Nat.le_of_ble_eq_true rfl) (Nat.le_of_ble_eq_true rfl) dX12_force_41
    · refine r_iload_n (i := 3) (x := x3) (q := 27) 3 hX dX12_force_26 rfl rfl rfl ?_
      refine r_i2l (q := 28) hX dX12_force_27 rfl ?_
      refine r_iload_n (i := 2) (x := x2) (q := 29) 2 hX dX12_force_28 rfl rfl rfl ?_
      refine r_i2l (q := 30) hX dX12_force_29 rfl ?_
      refine r_ldc2 (v := (99 : Int64)) (q := 33) hX dX12_force_30 (gd (hcw7_9 _ (List.mem_of_getElem? (i := 11) rfl)) rfl) rfl ?_
      refine r_cs (As := [vj (x3.toInt64), vj (x2.toInt64), vj (99 : Int64)]) (st := []) (r := (some (vi (fX12_in (x3.toInt64) (x2.toInt64) (99 : Int64))))) (Z1 := Z) (M1 := M) (k1 := 0) (n1 := 0) (st1 := [vi (fX12_in (x3.toInt64) (x2.toInt64) (99 : Int64))]) (q := 36) hX (fun l => kX12_in l Z M (x3.toInt64) (x2.toInt64) (99 : Int64)) stX12_in ccX12_in (Or.inl lkX12_194) rfl rfl rfl ⟨Nat.le_of_ble_eq_true rfl, Nat.le_of_ble_eq_true rfl, rfl, rfl, Nat.le_of_ble_eq_true rfl, Nat.le_of_ble_eq_true rfl⟩ (Nat.le_of_ble_eq_true rfl) dX12_force_33 rfl ?_
      refine r_if_ne (tgt := 42) (q := 39) hX dX12_force_36 (by decide) rfl (fun hb4 => ?_) (fun hb4 => ?_)
      · refine r_bipush (v := (-102 : Int32)) (q := 41) hX dX12_force_39 rfl rfl ?_
        refine r_lf (hK _) ?_
        exact r_iret hM rfl (Nat.le_of_ble_eq_true rfl) (Nat.le_of_ble_eq_true rfl) dX12_force_41
      · refine r_aload_n (i := 0) (x := a0) (q := 43) 0 hX dX12_force_42 rfl rfl rfl ?_
        refine r_getR (a := a0) (ci := 12) (kf := 38) (q := 46) hX hc1 flX12_98 rfl dX12_force_43 rfl ?_
        refine r_iload_n (i := 1) (x := x1) (q := 47) 1 hX dX12_force_46 rfl rfl rfl ?_
        refine r_iload_n (i := 2) (x := x2) (q := 48) 2 hX dX12_force_47 rfl rfl rfl ?_
        refine r_ck (fun hc5 => ?_)
        refine r_iast (a := (rR M a0 38)) (i := x1) (x := x2) (q := 49) hX hc5 dX12_force_48 rfl (fun M6 => ?_)
        refine r_aload_n (i := 0) (x := a0) (q := 50) 0 hX dX12_force_49 rfl rfl rfl ?_
        refine r_getR (a := a0) (ci := 12) (kf := 39) (q := 53) hX hc1 flX12_101 rfl dX12_force_50 rfl ?_
        refine r_iload_n (i := 1) (x := x1) (q := 54) 1 hX dX12_force_53 rfl rfl rfl ?_
        refine r_iload_n (i := 3) (x := x3) (q := 55) 3 hX dX12_force_54 rfl rfl rfl ?_
        refine r_ck (fun hc7 => ?_)
        refine r_iast (a := (rR M6 a0 39)) (i := x1) (x := x3) (q := 56) hX hc7 dX12_force_55 rfl (fun M8 => ?_)
        refine r_iconst (v := (1 : Int32)) (q := 57) hX dX12_force_56 rfl rfl ?_
        refine r_lf (hK _) ?_
        exact r_iret hM rfl (Nat.le_of_ble_eq_true rfl) (Nat.le_of_ble_eq_true rfl) dX12_force_57
def mX12_takeAll : MD := (yX12_takeAll, cX12_takeAll, 4, none, 2, 48, 0, 0)
theorem ccX12_takeAll : Cc mX12_takeAll 0 := ⟨gd (hcw1_0 _ (List.mem_of_getElem? (i := 10) rfl)) rfl, gd (hcw7_3 _ (List.mem_of_getElem? (i := 8) rfl)) rfl, by decide +kernel, by decide +kernel, by decide +kernel⟩
theorem ivX12_takeAll : Iv mX12_takeAll 12 := ⟨Nat.le_of_ble_eq_true rfl, rfl, gd (hcw7_3 _ (List.mem_of_getElem? (i := 7) rfl)) rfl, gd (hps3 _ (List.mem_of_getElem? (i := 10) rfl)) rfl⟩
noncomputable def fX12_takeAll (Z : Shp) (M : Mem) (a0 : Nat) : Option (Mem) := (loop (fun s1 : Int32 × Mem => (if (10 : Int32) ≤ s1.1 then some (Sum.inr s1.2) else (loop (fun s5 : Int32 × Mem => (if tg Z a0 = (13, 86) then (if (rI s5.2 a0 15) ≤ s5.1 then some (Sum.inr (Sum.inl ((s1.1 + (1 : Int32)), s5.2))) else (if aok Z (rR s5.2 a0 19) 100 s5.1 then (if (rI s5.2 (rR s5.2 a0 19) (ix s5.1)) = s1.1 then (Option.bind (fX12_takes Z s5.2 a0 s5.1 (rI s5.2 a0 11)) (fun v12 => (if aok Z (rR s5.2 a0 17) 100 s5.1 then (if aok Z (rR s5.2 a0 0) 100 (rI s5.2 (rR s5.2 a0 17) (ix s5.1)) then (pu ((fX12_least v12 (rI s5.2 (rR s5.2 a0 0) (ix (rI s5.2 (rR s5.2 a0 17) (ix s5.1)))))) (fun z16 => (pu (wJ s5.2 a0 13 ((rJ s5.2 a0 13) + (z16.toInt64))) (fun M17 => (if aok Z (rR M17 a0 20) 100 s5.1 then (pu (wI M17 (rR M17 a0 20) (ix s5.1) ((rI M17 (rR M17 a0 20) (ix s5.1)) + z16)) (fun M19 => (if aok Z (rR M19 a0 17) 100 s5.1 then (Option.bind (fX12_pour Z M19 a0 (rI M19 (rR M19 a0 17) (ix s5.1)) (-z16)) (fun v21 => some (Sum.inl ((s5.1 + (1 : Int32)), v21)))) else none))) else none))))) else none) else none))) else some (Sum.inl ((s5.1 + (1 : Int32)), s5.2))) else none)) else none)) ((0 : Int32), s1.2)))) ((0 : Int32), M))
set_option maxRecDepth 20000 in
theorem kX12_takeAll (l : Launch) (Z : Shp) (M : Mem) (a0 : Nat) (r : Mem) (h : fX12_takeAll Z M a0 = some r) : Ct l mX12_takeAll [vr a0] Z M (none, Z, r) := by
  refine Ct.of rfl (Nat.le_of_ble_eq_true rfl) (fun X hM => ?_)
  have hX := hM.1
  refine r_top (mk := fun r => (none, Z, r)) h (fun K hK => ?_)
  unfold fX12_takeAll
  refine r_iconst (v := (0 : Int32)) (q := 1) hX dX12_takeAll_0 rfl rfl ?_
  refine r_istore_n (x := (0 : Int32)) (q := 2) 1 [1, 0] (L1 := [(0, vr a0), (1, vi (0 : Int32))]) hX dX12_takeAll_1 rfl (Nat.le_of_ble_eq_true rfl) rfl rfl ?_
  refine r_loop (Hd := fun (s1 : Int32 × Mem) (P : Option Res) => Ref mX12_takeAll X 0 0 Z s1.2 2 [(0, vr a0), (1, vi s1.1)] [] P) (fun _ => r_none) (fun s1 K1 hn2 hx3 => ?_) ((0 : Int32), M)
  refine r_iload_n (i := 1) (x := s1.1) (q := 3) 1 hX dX12_takeAll_2 rfl rfl rfl ?_
  refine r_bipush (v := (10 : Int32)) (q := 5) hX dX12_takeAll_3 rfl rfl ?_
  refine r_icmp_ge (tgt := 99) (q := 8) hX dX12_takeAll_5 (by decide) rfl (fun hb4 => ?_) (fun hb4 => ?_)
  · refine r_lf ((hx3 _).trans (hK _)) ?_
    exact r_vret hM rfl (Nat.le_of_ble_eq_true rfl) (Nat.le_of_ble_eq_true rfl) dX12_takeAll_99
  · refine r_iconst (v := (0 : Int32)) (q := 9) hX dX12_takeAll_8 rfl rfl ?_
    refine r_istore_n (x := (0 : Int32)) (q := 10) 2 [1, 2, 0] (L1 := [(0, vr a0), (1, vi s1.1), (2, vi (0 : Int32))]) hX dX12_takeAll_9 rfl (Nat.le_of_ble_eq_true rfl) rfl rfl ?_
    refine r_loop (Hd := fun (s5 : Int32 × Mem) (P : Option Res) => Ref mX12_takeAll X 0 0 Z s5.2 10 [(0, vr a0), (1, vi s1.1), (2, vi s5.1)] [] P) (fun _ => r_none) (fun s5 K1 hn6 hx7 => ?_) ((0 : Int32), s1.2)
    refine r_iload_n (i := 2) (x := s5.1) (q := 11) 2 hX dX12_takeAll_10 rfl rfl rfl ?_
    refine r_aload_n (i := 0) (x := a0) (q := 12) 0 hX dX12_takeAll_11 rfl rfl rfl ?_
    refine r_ck (fun hc8 => ?_)
    refine r_getI (a := a0) (ci := 12) (kf := 15) (q := 15) hX hc8 flX12_230 rfl rfl dX12_takeAll_12 rfl ?_
    refine r_icmp_ge (tgt := 93) (q := 18) hX dX12_takeAll_15 (by decide) rfl (fun hb9 => ?_) (fun hb9 => ?_)
    · refine r_iinc (x := s1.1) (v := (s1.1 + (1 : Int32))) (q := 96) 1 1 [1, 0, 3] (L1 := [(0, vr a0), (1, vi (s1.1 + (1 : Int32))), (2, vi s5.1)]) hX dX12_takeAll_93 rfl rfl (Nat.le_of_ble_eq_true rfl) rfl rfl ?_
      refine r_goto (q := 2) hX dX12_takeAll_96 (by decide) ?_
      refine r_lf (hx7 _) ?_
      refine r_sub [0, 1] rfl ?_
      exact hn2 ((s1.1 + (1 : Int32)), s5.2)
    · refine r_aload_n (i := 0) (x := a0) (q := 19) 0 hX dX12_takeAll_18 rfl rfl rfl ?_
      refine r_getR (a := a0) (ci := 12) (kf := 19) (q := 22) hX hc8 flX12_50 rfl dX12_takeAll_19 rfl ?_
      refine r_iload_n (i := 2) (x := s5.1) (q := 23) 2 hX dX12_takeAll_22 rfl rfl rfl ?_
      refine r_ck (fun hc10 => ?_)
      refine r_iald (a := (rR s5.2 a0 19)) (i := s5.1) (q := 24) hX hc10 dX12_takeAll_23 rfl ?_
      refine r_iload_n (i := 1) (x := s1.1) (q := 25) 1 hX dX12_takeAll_24 rfl rfl rfl ?_
      refine r_icmp_ne (tgt := 87) (q := 28) hX dX12_takeAll_25 (by decide) rfl (fun hb11 => ?_) (fun hb11 => ?_)
      · refine r_aload_n (i := 0) (x := a0) (q := 29) 0 hX dX12_takeAll_28 rfl rfl rfl ?_
        refine r_iload_n (i := 2) (x := s5.1) (q := 30) 2 hX dX12_takeAll_29 rfl rfl rfl ?_
        refine r_aload_n (i := 0) (x := a0) (q := 31) 0 hX dX12_takeAll_30 rfl rfl rfl ?_
        refine r_getI (a := a0) (ci := 12) (kf := 11) (q := 34) hX hc8 flX12_212 rfl rfl dX12_takeAll_31 rfl ?_
        refine r_bind (fun v12 h13 => ?_)
        refine r_cv (a := a0) (As := [vi s5.1, vi (rI s5.2 a0 11)]) (st := []) (r := (some (vi v12))) (Z1 := Z) (M1 := s5.2) (k1 := 0) (n1 := 0) (st1 := [vi v12]) (q := 37) hX (fun l => kX12_takes l Z s5.2 a0 s5.1 (rI s5.2 a0 11) v12 h13) hc8 ivX12_takes ccX12_takes (Or.inl lkX12_240) rfl rfl rfl ⟨Nat.le_of_ble_eq_true rfl, Nat.le_of_ble_eq_true rfl, rfl, rfl, Nat.le_of_ble_eq_true rfl, Nat.le_of_ble_eq_true rfl⟩ (Nat.le_of_ble_eq_true rfl) dX12_takeAll_34 rfl ?_
        refine r_istore_n (x := v12) (q := 38) 3 [1, 2, 3, 0] (L1 := [(0, vr a0), (1, vi s1.1), (2, vi s5.1), (3, vi v12)]) hX dX12_takeAll_37 rfl (Nat.le_of_ble_eq_true rfl) rfl rfl ?_
        refine r_iload_n (i := 3) (x := v12) (q := 39) 3 hX dX12_takeAll_38 rfl rfl rfl ?_
        refine r_aload_n (i := 0) (x := a0) (q := 40) 0 hX dX12_takeAll_39 rfl rfl rfl ?_
        refine r_getR (a := a0) (ci := 12) (kf := 0) (q := 43) hX hc8 flX12_7 rfl dX12_takeAll_40 rfl ?_
        refine r_aload_n (i := 0) (x := a0) (q := 44) 0 hX dX12_takeAll_43 rfl rfl rfl ?_
        refine r_getR (a := a0) (ci := 12) (kf := 17) (q := 47) hX hc8 flX12_44 rfl dX12_takeAll_44 rfl ?_
        refine r_iload_n (i := 2) (x := s5.1) (q := 48) 2 hX dX12_takeAll_47 rfl rfl rfl ?_
        refine r_ck (fun hc14 => ?_)
        refine r_iald (a := (rR s5.2 a0 17)) (i := s5.1) (q := 49) hX hc14 dX12_takeAll_48 rfl ?_
        refine r_ck (fun hc15 => ?_)
        refine r_iald (a := (rR s5.2 a0 0)) (i := (rI s5.2 (rR s5.2 a0 17) (ix s5.1))) (q := 50) hX hc15 dX12_takeAll_49 rfl ?_
        refine r_cs (As := [vi v12, vi (rI s5.2 (rR s5.2 a0 0) (ix (rI s5.2 (rR s5.2 a0 17) (ix s5.1))))]) (st := []) (r := (some (vi (fX12_least v12 (rI s5.2 (rR s5.2 a0 0) (ix (rI s5.2 (rR s5.2 a0 17) (ix s5.1)))))))) (Z1 := Z) (M1 := s5.2) (k1 := 0) (n1 := 0) (st1 := [vi (fX12_least v12 (rI s5.2 (rR s5.2 a0 0) (ix (rI s5.2 (rR s5.2 a0 17) (ix s5.1)))))]) (q := 53) hX (fun l => kX12_least l Z s5.2 v12 (rI s5.2 (rR s5.2 a0 0) (ix (rI s5.2 (rR s5.2 a0 17) (ix s5.1))))) stX12_least ccX12_least (Or.inl lkX12_243) rfl rfl rfl ⟨Nat.le_of_ble_eq_true rfl, Nat.le_of_ble_eq_true rfl, rfl, rfl, Nat.le_of_ble_eq_true rfl, Nat.le_of_ble_eq_true rfl⟩ (Nat.le_of_ble_eq_true rfl) dX12_takeAll_50 rfl ?_
        refine r_istore_nP (x := (fX12_least v12 (rI s5.2 (rR s5.2 a0 0) (ix (rI s5.2 (rR s5.2 a0 17) (ix s5.1)))))) (q := 54) 3 [1, 2, 3, 0] (fun z16 => [(0, vr a0), (1, vi s1.1), (2, vi s5.1), (3, vi z16)]) hX dX12_takeAll_53 rfl (Nat.le_of_ble_eq_true rfl) (fun _ => rfl) rfl (fun z16 => ?_)
        refine r_aload_n (i := 0) (x := a0) (q := 55) 0 hX dX12_takeAll_54 rfl rfl rfl ?_
        refine r_dup (q := 56) hX dX12_takeAll_55 rfl rfl ?_
        refine r_getJ (a := a0) (ci := 12) (kf := 13) (q := 59) hX hc8 flX12_246 rfl rfl dX12_takeAll_56 rfl ?_
        refine r_iload_n (i := 3) (x := z16) (q := 60) 3 hX dX12_takeAll_59 rfl rfl rfl ?_
        refine r_i2l (q := 61) hX dX12_takeAll_60 rfl ?_
        refine r_ladd (q := 62) hX dX12_takeAll_61 rfl ?_
        refine r_putJ (a := a0) (ci := 12) (kf := 13) (q := 65) hX hc8 flX12_246 rfl rfl (Or.inl rfl) rfl rfl dX12_takeAll_62 rfl (fun M17 => ?_)
        refine r_aload_n (i := 0) (x := a0) (q := 66) 0 hX dX12_takeAll_65 rfl rfl rfl ?_
        refine r_getR (a := a0) (ci := 12) (kf := 20) (q := 69) hX hc8 flX12_53 rfl dX12_takeAll_66 rfl ?_
        refine r_iload_n (i := 2) (x := s5.1) (q := 70) 2 hX dX12_takeAll_69 rfl rfl rfl ?_
        refine r_dup2 (q := 71) hX dX12_takeAll_70 rfl rfl rfl ?_
        refine r_ck (fun hc18 => ?_)
        refine r_iald (a := (rR M17 a0 20)) (i := s5.1) (q := 72) hX hc18 dX12_takeAll_71 rfl ?_
        refine r_iload_n (i := 3) (x := z16) (q := 73) 3 hX dX12_takeAll_72 rfl rfl rfl ?_
        refine r_iadd (q := 74) hX dX12_takeAll_73 rfl ?_
        refine r_iast (a := (rR M17 a0 20)) (i := s5.1) (x := ((rI M17 (rR M17 a0 20) (ix s5.1)) + z16)) (q := 75) hX hc18 dX12_takeAll_74 rfl (fun M19 => ?_)
        refine r_aload_n (i := 0) (x := a0) (q := 76) 0 hX dX12_takeAll_75 rfl rfl rfl ?_
        refine r_aload_n (i := 0) (x := a0) (q := 77) 0 hX dX12_takeAll_76 rfl rfl rfl ?_
        refine r_getR (a := a0) (ci := 12) (kf := 17) (q := 80) hX hc8 flX12_44 rfl dX12_takeAll_77 rfl ?_
        refine r_iload_n (i := 2) (x := s5.1) (q := 81) 2 hX dX12_takeAll_80 rfl rfl rfl ?_
        refine r_ck (fun hc20 => ?_)
        refine r_iald (a := (rR M19 a0 17)) (i := s5.1) (q := 82) hX hc20 dX12_takeAll_81 rfl ?_
        refine r_iload_n (i := 3) (x := z16) (q := 83) 3 hX dX12_takeAll_82 rfl rfl rfl ?_
        refine r_ineg (q := 84) hX dX12_takeAll_83 rfl ?_
        refine r_bind (fun v21 h22 => ?_)
        refine r_cv (a := a0) (As := [vi (rI M19 (rR M19 a0 17) (ix s5.1)), vi (-z16)]) (st := []) (r := none) (Z1 := Z) (M1 := v21) (k1 := 0) (n1 := 0) (st1 := []) (q := 87) hX (fun l => kX12_pour l Z M19 a0 (rI M19 (rR M19 a0 17) (ix s5.1)) (-z16) v21 h22) hc8 ivX12_pour ccX12_pour (Or.inl lkX12_249) rfl rfl rfl ⟨Nat.le_of_ble_eq_true rfl, Nat.le_of_ble_eq_true rfl, rfl, rfl, Nat.le_of_ble_eq_true rfl, Nat.le_of_ble_eq_true rfl⟩ (Nat.le_of_ble_eq_true rfl) dX12_takeAll_84 rfl ?_
        refine r_iinc (x := s5.1) (v := (s5.1 + (1 : Int32))) (q := 90) 2 2 [1, 2, 0, 4] (L1 := [(0, vr a0), (1, vi s1.1), (2, vi (s5.1 + (1 : Int32))), (3, vi z16)]) hX dX12_takeAll_87 rfl rfl (Nat.le_of_ble_eq_true rfl) rfl rfl ?_
        refine r_goto (q := 10) hX dX12_takeAll_90 (by decide) ?_
        refine r_l0 ?_
        refine r_sub [0, 1, 2] rfl ?_
        exact hn6 ((s5.1 + (1 : Int32)), v21)
      · refine r_iinc (x := s5.1) (v := (s5.1 + (1 : Int32))) (q := 90) 2 2 [1, 2, 0] (L1 := [(0, vr a0), (1, vi s1.1), (2, vi (s5.1 + (1 : Int32)))]) hX dX12_takeAll_87 rfl rfl (Nat.le_of_ble_eq_true rfl) rfl rfl ?_
        refine r_goto (q := 10) hX dX12_takeAll_90 (by decide) ?_
        refine r_l0 ?_
        exact hn6 ((s5.1 + (1 : Int32)), s5.2)
def mX12_needs : MD := (yX12_needs, cX12_needs, 4, (some .int), 1, 21, 0, 0)
theorem ccX12_needs : Cc mX12_needs 2 := ⟨gd (hcw1_0 _ (List.mem_of_getElem? (i := 10) rfl)) rfl, gd (hcw7_4 _ (List.mem_of_getElem? (i := 19) rfl)) rfl, by decide +kernel, by decide +kernel, by decide +kernel⟩
theorem ivX12_needs : Iv mX12_needs 12 := ⟨Nat.le_of_ble_eq_true rfl, rfl, gd (hcw7_4 _ (List.mem_of_getElem? (i := 18) rfl)) rfl, gd (hps4 _ (List.mem_of_getElem? (i := 1) rfl)) rfl⟩
def fX12_needs (Z : Shp) (M : Mem) (a0 : Nat) (x1 : Int32) (x2 : Int32) : Option (Int32) := (js (if x2 = 0 then (if tg Z a0 = (13, 86) then (if aok Z (rR M a0 7) 101 x1 then (if (rI M (rR M a0 7) (ix x1)) = 0 then some (Sum.inl ()) else some (Sum.inr (0 : Int32))) else none) else none) else some (Sum.inl ())) (fun v4 : Unit => (Option.bind (if x2 = 0 then (if tg Z a0 = (13, 86) then (if aok Z (rR M a0 8) 100 x1 then some (rI M (rR M a0 8) (ix x1)) else none) else none) else (if tg Z a0 = (13, 86) then (if aok Z (rR M a0 7) 101 x1 then (if (rI M (rR M a0 7) (ix x1)) = 0 then (if aok Z (rR M a0 8) 100 x1 then some (rI M (rR M a0 8) (ix x1)) else none) else (if aok Z (rR M a0 5) 101 x1 then (if (rI M (rR M a0 5) (ix x1)) = 0 then (if aok Z (rR M a0 8) 100 x1 then some (rI M (rR M a0 8) (ix x1)) else none) else (if aok Z (rR M a0 4) 100 x1 then some ((rI M (rR M a0 4) (ix x1)) / (2 : Int32)) else none)) else none)) else none) else none)) (fun v11 : Int32 => (if tg Z a0 = (13, 86) then (if aok Z (rR M a0 4) 100 x1 then some ((rI M (rR M a0 4) (ix x1)) - (fX12_least v11 (rI M (rR M a0 4) (ix x1)))) else none) else none)))))
set_option maxRecDepth 20000 in
theorem kX12_needs (l : Launch) (Z : Shp) (M : Mem) (a0 : Nat) (x1 : Int32) (x2 : Int32) (r : Int32) (h : fX12_needs Z M a0 x1 x2 = some r) : Ct l mX12_needs [vr a0, vi x1, vi x2] Z M ((some (vi r)), Z, M) := by
  refine Ct.of rfl (Nat.le_of_ble_eq_true rfl) (fun X hM => ?_)
  have hX := hM.1
  refine r_top (mk := fun r => ((some (vi r)), Z, M)) h (fun K hK => ?_)
  unfold fX12_needs
  refine r_iload_n (i := 2) (x := x2) (q := 1) 2 hX dX12_needs_0 rfl rfl rfl ?_
  refine r_js (J := fun (v4 : Unit) (P : Option Res) => Ref mX12_needs X 0 0 Z M 15 [(0, vr a0), (1, vi x1), (2, vi x2)] [] P) (fun v4 => ?_) (fun K1 hj2 ho3 => ?_)
  · refine r_iload_n (i := 2) (x := x2) (q := 16) 2 hX dX12_needs_15 rfl rfl rfl ?_
    refine r_jn (J := fun (v11 : Int32) (P : Option Res) => Ref mX12_needs X 0 0 Z M 54 [(0, vr a0), (1, vi x1)] [vi v11] P) (fun v11 => ?_) (fun K1 hj9 => ?_)
    · refine r_istore_n (x := v11) (q := 55) 3 [1, 2, 0] (L1 := [(0, vr a0), (1, vi x1), (3, vi v11)]) hX dX12_needs_54 rfl (Nat.le_of_ble_eq_true rfl) rfl rfl ?_
      refine r_aload_n (i := 0) (x := a0) (q := 56) 0 hX dX12_needs_55 rfl rfl rfl ?_
      refine r_ck (fun hc22 => ?_)
      refine r_getR (a := a0) (ci := 12) (kf := 4) (q := 59) hX hc22 flX12_19 rfl dX12_needs_56 rfl ?_
      refine r_iload_n (i := 1) (x := x1) (q := 60) 1 hX dX12_needs_59 rfl rfl rfl ?_
      refine r_ck (fun hc23 => ?_)
      refine r_iald (a := (rR M a0 4)) (i := x1) (q := 61) hX hc23 dX12_needs_60 rfl ?_
      refine r_iload_n (i := 3) (x := v11) (q := 62) 2 hX dX12_needs_61 rfl rfl rfl ?_
      refine r_aload_n (i := 0) (x := a0) (q := 63) 0 hX dX12_needs_62 rfl rfl rfl ?_
      refine r_getR (a := a0) (ci := 12) (kf := 4) (q := 66) hX hc22 flX12_19 rfl dX12_needs_63 rfl ?_
      refine r_iload_n (i := 1) (x := x1) (q := 67) 1 hX dX12_needs_66 rfl rfl rfl ?_
      refine r_iald (a := (rR M a0 4)) (i := x1) (q := 68) hX hc23 dX12_needs_67 rfl ?_
      refine r_cs (As := [vi v11, vi (rI M (rR M a0 4) (ix x1))]) (st := [vi (rI M (rR M a0 4) (ix x1))]) (r := (some (vi (fX12_least v11 (rI M (rR M a0 4) (ix x1)))))) (Z1 := Z) (M1 := M) (k1 := 0) (n1 := 0) (st1 := [vi (fX12_least v11 (rI M (rR M a0 4) (ix x1))), vi (rI M (rR M a0 4) (ix x1))]) (q := 71) hX (fun l => kX12_least l Z M v11 (rI M (rR M a0 4) (ix x1))) stX12_least ccX12_least (Or.inl lkX12_243) rfl rfl rfl ⟨Nat.le_of_ble_eq_true rfl, Nat.le_of_ble_eq_true rfl, rfl, rfl, Nat.le_of_ble_eq_true rfl, Nat.le_of_ble_eq_true rfl⟩ (Nat.le_of_ble_eq_true rfl) dX12_needs_68 rfl ?_
      refine r_isub (q := 72) hX dX12_needs_71 rfl ?_
      refine r_lf (hK _) ?_
      exact r_iret hM rfl (Nat.le_of_ble_eq_true rfl) (Nat.le_of_ble_eq_true rfl) dX12_needs_72
    · refine r_if_eq (tgt := 48) (q := 19) hX dX12_needs_16 (by decide) rfl (fun hb8 => ?_) (fun hb8 => ?_)
      · refine r_aload_n (i := 0) (x := a0) (q := 49) 0 hX dX12_needs_48 rfl rfl rfl ?_
        refine r_ck (fun hc12 => ?_)
        refine r_getR (a := a0) (ci := 12) (kf := 8) (q := 52) hX hc12 flX12_32 rfl dX12_needs_49 rfl ?_
        refine r_iload_n (i := 1) (x := x1) (q := 53) 1 hX dX12_needs_52 rfl rfl rfl ?_
        refine r_ck (fun hc13 => ?_)
        refine r_iald (a := (rR M a0 8)) (i := x1) (q := 54) hX hc13 dX12_needs_53 rfl ?_
        refine r_l0 ?_
        refine r_sub [0, 1] rfl ?_
        exact hj9 (rI M (rR M a0 8) (ix x1))
      · refine r_aload_n (i := 0) (x := a0) (q := 20) 0 hX dX12_needs_19 rfl rfl rfl ?_
        refine r_ck (fun hc14 => ?_)
        refine r_getR (a := a0) (ci := 12) (kf := 7) (q := 23) hX hc14 flX12_29 rfl dX12_needs_20 rfl ?_
        refine r_iload_n (i := 1) (x := x1) (q := 24) 1 hX dX12_needs_23 rfl rfl rfl ?_
        refine r_ck (fun hc15 => ?_)
        refine r_zald (a := (rR M a0 7)) (i := x1) (q := 25) hX hc15 dX12_needs_24 rfl ?_
        refine r_if_eq (tgt := 48) (q := 28) hX dX12_needs_25 (by decide) rfl (fun hb16 => ?_) (fun hb16 => ?_)
        · refine r_aload_n (i := 0) (x := a0) (q := 49) 0 hX dX12_needs_48 rfl rfl rfl ?_
          refine r_getR (a := a0) (ci := 12) (kf := 8) (q := 52) hX hc14 flX12_32 rfl dX12_needs_49 rfl ?_
          refine r_iload_n (i := 1) (x := x1) (q := 53) 1 hX dX12_needs_52 rfl rfl rfl ?_
          refine r_ck (fun hc17 => ?_)
          refine r_iald (a := (rR M a0 8)) (i := x1) (q := 54) hX hc17 dX12_needs_53 rfl ?_
          refine r_l0 ?_
          refine r_sub [0, 1] rfl ?_
          exact hj9 (rI M (rR M a0 8) (ix x1))
        · refine r_aload_n (i := 0) (x := a0) (q := 29) 0 hX dX12_needs_28 rfl rfl rfl ?_
          refine r_getR (a := a0) (ci := 12) (kf := 5) (q := 32) hX hc14 flX12_22 rfl dX12_needs_29 rfl ?_
          refine r_iload_n (i := 1) (x := x1) (q := 33) 1 hX dX12_needs_32 rfl rfl rfl ?_
          refine r_ck (fun hc18 => ?_)
          refine r_zald (a := (rR M a0 5)) (i := x1) (q := 34) hX hc18 dX12_needs_33 rfl ?_
          refine r_if_eq (tgt := 48) (q := 37) hX dX12_needs_34 (by decide) rfl (fun hb19 => ?_) (fun hb19 => ?_)
          · refine r_aload_n (i := 0) (x := a0) (q := 49) 0 hX dX12_needs_48 rfl rfl rfl ?_
            refine r_getR (a := a0) (ci := 12) (kf := 8) (q := 52) hX hc14 flX12_32 rfl dX12_needs_49 rfl ?_
            refine r_iload_n (i := 1) (x := x1) (q := 53) 1 hX dX12_needs_52 rfl rfl rfl ?_
            refine r_ck (fun hc20 => ?_)
            refine r_iald (a := (rR M a0 8)) (i := x1) (q := 54) hX hc20 dX12_needs_53 rfl ?_
            refine r_l0 ?_
            refine r_sub [0, 1] rfl ?_
            exact hj9 (rI M (rR M a0 8) (ix x1))
          · refine r_aload_n (i := 0) (x := a0) (q := 38) 0 hX dX12_needs_37 rfl rfl rfl ?_
            refine r_getR (a := a0) (ci := 12) (kf := 4) (q := 41) hX hc14 flX12_19 rfl dX12_needs_38 rfl ?_
            refine r_iload_n (i := 1) (x := x1) (q := 42) 1 hX dX12_needs_41 rfl rfl rfl ?_
            refine r_ck (fun hc21 => ?_)
            refine r_iald (a := (rR M a0 4)) (i := x1) (q := 43) hX hc21 dX12_needs_42 rfl ?_
            refine r_iconst (v := (2 : Int32)) (q := 44) hX dX12_needs_43 rfl rfl ?_
            refine r_idiv (q := 45) hX dX12_needs_44 (by decide) rfl ?_
            refine r_goto (q := 54) hX dX12_needs_45 (by decide) ?_
            refine r_l0 ?_
            refine r_sub [0, 1] rfl ?_
            exact hj9 ((rI M (rR M a0 4) (ix x1)) / (2 : Int32))
  · refine r_if_ne (tgt := 15) (q := 4) hX dX12_needs_1 (by decide) rfl (fun hb1 => ?_) (fun hb1 => ?_)
    · refine r_aload_n (i := 0) (x := a0) (q := 5) 0 hX dX12_needs_4 rfl rfl rfl ?_
      refine r_ck (fun hc5 => ?_)
      refine r_getR (a := a0) (ci := 12) (kf := 7) (q := 8) hX hc5 flX12_29 rfl dX12_needs_5 rfl ?_
      refine r_iload_n (i := 1) (x := x1) (q := 9) 1 hX dX12_needs_8 rfl rfl rfl ?_
      refine r_ck (fun hc6 => ?_)
      refine r_zald (a := (rR M a0 7)) (i := x1) (q := 10) hX hc6 dX12_needs_9 rfl ?_
      refine r_if_eq (tgt := 15) (q := 13) hX dX12_needs_10 (by decide) rfl (fun hb7 => ?_) (fun hb7 => ?_)
      · refine r_l0 ?_
        exact hj2 ()
      · refine r_iconst (v := (0 : Int32)) (q := 14) hX dX12_needs_13 rfl rfl ?_
        refine r_lf ((ho3 _).trans (hK _)) ?_
        exact r_iret hM rfl (Nat.le_of_ble_eq_true rfl) (Nat.le_of_ble_eq_true rfl) dX12_needs_14
    · refine r_l0 ?_
      exact hj2 ()
theorem lkX12_280 : Lk RX12 280 yX12_chosenAt := gd (hcw7_4 _ (List.mem_of_getElem? (i := 0) rfl)) rfl
theorem lkX12_283 : Lk RX12 283 yX12_needs := gd (hcw7_4 _ (List.mem_of_getElem? (i := 16) rfl)) rfl
theorem lkX12_291 : Lk RX12 291 yX12_fill := gd (hcw7_5 _ (List.mem_of_getElem? (i := 4) rfl)) rfl
theorem lkX12_287 : Lk RX12 287 yX12_empty := gd (hcw7_5 _ (List.mem_of_getElem? (i := 0) rfl)) rfl
theorem flX12_83 : FL RX12 83 12 31 := ⟨Nat.le_of_ble_eq_true rfl, Nat.le_of_ble_eq_true rfl, gd (hcw5_11 _ (List.mem_of_getElem? (i := 6) rfl)) rfl⟩
def mX12_goThrough : MD := (yX12_goThrough, cX12_goThrough, 5, (some .int), 3, 68, 0, 0)
theorem ccX12_goThrough : Cc mX12_goThrough 1 := ⟨gd (hcw1_0 _ (List.mem_of_getElem? (i := 10) rfl)) rfl, gd (hcw7_3 _ (List.mem_of_getElem? (i := 19) rfl)) rfl, by decide +kernel, by decide +kernel, by decide +kernel⟩
theorem ivX12_goThrough : Iv mX12_goThrough 12 := ⟨Nat.le_of_ble_eq_true rfl, rfl, gd (hcw7_3 _ (List.mem_of_getElem? (i := 18) rfl)) rfl, gd (hps3 _ (List.mem_of_getElem? (i := 12) rfl)) rfl⟩
noncomputable def fX12_goThrough (Z : Shp) (M : Mem) (a0 : Nat) (x1 : Int32) : Option (Int32 × Mem) := (if tg Z a0 = (13, 86) then (Option.bind (fX12_chosenAt Z M a0 x1) (fun v2 => (if v2 = (-1 : Int32) then some ((0 : Int32), M) else (Option.bind (fX12_goesUp Z M a0 v2 x1) (fun v5 => (if aok Z (rR M a0 28) 100 v2 then (Option.bind (if (rI M (rR M a0 28) (ix v2)) = x1 then some (x1 + (1 : Int32)) else some x1) (fun v11 : Int32 => (Option.bind (fX12_upper Z M a0 x1) (fun v12 => (if aok Z (rR M a0 0) 100 v12 then (Option.bind (fX12_needs Z M a0 x1 v5) (fun v15 => (if (rI M (rR M a0 0) (ix v12)) < v15 then some ((0 : Int32), M) else (if aok Z (rR M a0 0) 100 v11 then (if aok Z (rR M a0 2) 100 v11 then (if aok Z (rR M a0 24) 100 v2 then (if ((rI M (rR M a0 2) (ix v11)) + ((5 : Int32) * (rI M (rR M a0 24) (ix v2)))) ≤ (rI M (rR M a0 0) (ix v11)) then (Option.bind (if v5 = 0 then (if aok Z (rR M a0 7) 101 x1 then (if (rI M (rR M a0 7) (ix x1)) = 0 then (Option.bind (fX12_fill Z M a0 x1) (fun v28 => (Option.bind (fX12_empty Z v28 a0 x1) (fun v30 => some v30)))) else (Option.bind (fX12_empty Z M a0 x1) (fun v32 => some v32))) else none) else (if aok Z (rR M a0 7) 101 x1 then (if (rI M (rR M a0 7) (ix x1)) = 0 then (Option.bind (fX12_fill Z M a0 x1) (fun v36 => some v36)) else (Option.bind (fX12_empty Z M a0 x1) (fun v38 => (Option.bind (fX12_fill Z v38 a0 x1) (fun v40 => some v40))))) else none)) (fun v25 : Mem => (if aok Z (rR v25 a0 28) 100 v2 then (pu (wI v25 (rR v25 a0 28) (ix v2) v11) (fun M43 => (if aok Z (rR M43 a0 23) 100 v2 then (Option.bind (if v11 = (rI M43 (rR M43 a0 23) (ix v2)) then some (-1 : Int32) else (if aok Z (rR M43 a0 25) 100 v2 then some ((rI M43 a0 11) + (rI M43 (rR M43 a0 25) (ix v2))) else none)) (fun v48 : Int32 => (if aok Z (rR M43 a0 29) 100 v2 then (pu (wI M43 (rR M43 a0 29) (ix v2) v48) (fun M51 => (if aok Z (rR M51 a0 31) 101 v2 then (pu (wI M51 (rR M51 a0 31) (ix v2) (1 : Int32)) (fun M53 => (if aok Z (rR M53 a0 9) 100 x1 then (pu (wI M53 (rR M53 a0 9) (ix x1) ((rI M53 (rR M53 a0 9) (ix x1)) + (1 : Int32))) (fun M55 => some ((1 : Int32), M55))) else none))) else none))) else none))) else none))) else none))) else some ((0 : Int32), M)) else none) else none) else none)))) else none))))) else none)))))) else none)
set_option maxRecDepth 20000 in
theorem kX12_goThrough (l : Launch) (Z : Shp) (M : Mem) (a0 : Nat) (x1 : Int32) (r : Int32 × Mem) (h : fX12_goThrough Z M a0 x1 = some r) : Ct l mX12_goThrough [vr a0, vi x1] Z M ((some (vi r.1)), Z, r.2) := by
  refine Ct.of rfl (Nat.le_of_ble_eq_true rfl) (fun X hM => ?_)
  have hX := hM.1
  refine r_top (mk := fun r => ((some (vi r.1)), Z, r.2)) h (fun K hK => ?_)
  unfold fX12_goThrough
  refine r_aload_n (i := 0) (x := a0) (q := 1) 0 hX dX12_goThrough_0 rfl rfl rfl ?_
  refine r_iload_n (i := 1) (x := x1) (q := 2) 1 hX dX12_goThrough_1 rfl rfl rfl ?_
  refine r_ck (fun hc1 => ?_)
  refine r_bind (fun v2 h3 => ?_)
  refine r_cv (a := a0) (As := [vi x1]) (st := []) (r := (some (vi v2))) (Z1 := Z) (M1 := M) (k1 := 0) (n1 := 0) (st1 := [vi v2]) (q := 5) hX (fun l => kX12_chosenAt l Z M a0 x1 v2 h3) hc1 ivX12_chosenAt ccX12_chosenAt (Or.inl lkX12_280) rfl rfl rfl ⟨Nat.le_of_ble_eq_true rfl, Nat.le_of_ble_eq_true rfl, rfl, rfl, Nat.le_of_ble_eq_true rfl, Nat.le_of_ble_eq_true rfl⟩ (Nat.le_of_ble_eq_true rfl) dX12_goThrough_2 rfl ?_
  refine r_istore_n (x := v2) (q := 6) 2 [1, 2, 0] (L1 := [(0, vr a0), (1, vi x1), (2, vi v2)]) hX dX12_goThrough_5 rfl (Nat.le_of_ble_eq_true rfl) rfl rfl ?_
  refine r_iload_n (i := 2) (x := v2) (q := 7) 2 hX dX12_goThrough_6 rfl rfl rfl ?_
  refine r_iconst (v := (-1 : Int32)) (q := 8) hX dX12_goThrough_7 rfl rfl ?_
  refine r_icmp_ne (tgt := 13) (q := 11) hX dX12_goThrough_8 (by decide) rfl (fun hb4 => ?_) (fun hb4 => ?_)
  · refine r_iconst (v := (0 : Int32)) (q := 12) hX dX12_goThrough_11 rfl rfl ?_
    refine r_lf (hK _) ?_
    exact r_iret hM rfl (Nat.le_of_ble_eq_true rfl) (Nat.le_of_ble_eq_true rfl) dX12_goThrough_12
  · refine r_aload_n (i := 0) (x := a0) (q := 14) 0 hX dX12_goThrough_13 rfl rfl rfl ?_
    refine r_iload_n (i := 2) (x := v2) (q := 15) 2 hX dX12_goThrough_14 rfl rfl rfl ?_
    refine r_iload_n (i := 1) (x := x1) (q := 16) 1 hX dX12_goThrough_15 rfl rfl rfl ?_
    refine r_bind (fun v5 h6 => ?_)
    refine r_cv (a := a0) (As := [vi v2, vi x1]) (st := []) (r := (some (vi v5))) (Z1 := Z) (M1 := M) (k1 := 0) (n1 := 0) (st1 := [vi v5]) (q := 19) hX (fun l => kX12_goesUp l Z M a0 v2 x1 v5 h6) hc1 ivX12_goesUp ccX12_goesUp (Or.inl lkX12_277) rfl rfl rfl ⟨Nat.le_of_ble_eq_true rfl, Nat.le_of_ble_eq_true rfl, rfl, rfl, Nat.le_of_ble_eq_true rfl, Nat.le_of_ble_eq_true rfl⟩ (Nat.le_of_ble_eq_true rfl) dX12_goThrough_16 rfl ?_
    refine r_istore_n (x := v5) (q := 20) 3 [1, 2, 3, 0] (L1 := [(0, vr a0), (1, vi x1), (2, vi v2), (3, vi v5)]) hX dX12_goThrough_19 rfl (Nat.le_of_ble_eq_true rfl) rfl rfl ?_
    refine r_aload_n (i := 0) (x := a0) (q := 21) 0 hX dX12_goThrough_20 rfl rfl rfl ?_
    refine r_getR (a := a0) (ci := 12) (kf := 28) (q := 24) hX hc1 flX12_74 rfl dX12_goThrough_21 rfl ?_
    refine r_iload_n (i := 2) (x := v2) (q := 25) 2 hX dX12_goThrough_24 rfl rfl rfl ?_
    refine r_ck (fun hc7 => ?_)
    refine r_iald (a := (rR M a0 28)) (i := v2) (q := 26) hX hc7 dX12_goThrough_25 rfl ?_
    refine r_iload_n (i := 1) (x := x1) (q := 27) 1 hX dX12_goThrough_26 rfl rfl rfl ?_
    refine r_jn (J := fun (v11 : Int32) (P : Option Res) => Ref mX12_goThrough X 0 0 Z M 37 [(0, vr a0), (1, vi x1), (2, vi v2), (3, vi v5)] [vi v11] P) (fun v11 => ?_) (fun K1 hj9 => ?_)
    · refine r_istore (x := v11) (q := 39) 4 [1, 2, 3, 4, 0] (L1 := [(0, vr a0), (1, vi x1), (2, vi v2), (3, vi v5), (4, vi v11)]) hX dX12_goThrough_37 (Nat.le_of_ble_eq_true rfl) rfl rfl ?_
      refine r_aload_n (i := 0) (x := a0) (q := 40) 0 hX dX12_goThrough_39 rfl rfl rfl ?_
      refine r_getR (a := a0) (ci := 12) (kf := 0) (q := 43) hX hc1 flX12_7 rfl dX12_goThrough_40 rfl ?_
      refine r_aload_n (i := 0) (x := a0) (q := 44) 0 hX dX12_goThrough_43 rfl rfl rfl ?_
      refine r_iload_n (i := 1) (x := x1) (q := 45) 1 hX dX12_goThrough_44 rfl rfl rfl ?_
      refine r_bind (fun v12 h13 => ?_)
      refine r_cv (a := a0) (As := [vi x1]) (st := [vr (rR M a0 0)]) (r := (some (vi v12))) (Z1 := Z) (M1 := M) (k1 := 0) (n1 := 0) (st1 := [vi v12, vr (rR M a0 0)]) (q := 48) hX (fun l => kX12_upper l Z M a0 x1 v12 h13) hc1 ivX12_upper ccX12_upper (Or.inl lkX12_270) rfl rfl rfl ⟨Nat.le_of_ble_eq_true rfl, Nat.le_of_ble_eq_true rfl, rfl, rfl, Nat.le_of_ble_eq_true rfl, Nat.le_of_ble_eq_true rfl⟩ (Nat.le_of_ble_eq_true rfl) dX12_goThrough_45 rfl ?_
      refine r_ck (fun hc14 => ?_)
      refine r_iald (a := (rR M a0 0)) (i := v12) (q := 49) hX hc14 dX12_goThrough_48 rfl ?_
      refine r_aload_n (i := 0) (x := a0) (q := 50) 0 hX dX12_goThrough_49 rfl rfl rfl ?_
      refine r_iload_n (i := 1) (x := x1) (q := 51) 1 hX dX12_goThrough_50 rfl rfl rfl ?_
      refine r_iload_n (i := 3) (x := v5) (q := 52) 3 hX dX12_goThrough_51 rfl rfl rfl ?_
      refine r_bind (fun v15 h16 => ?_)
      refine r_cv (a := a0) (As := [vi x1, vi v5]) (st := [vi (rI M (rR M a0 0) (ix v12))]) (r := (some (vi v15))) (Z1 := Z) (M1 := M) (k1 := 0) (n1 := 0) (st1 := [vi v15, vi (rI M (rR M a0 0) (ix v12))]) (q := 55) hX (fun l => kX12_needs l Z M a0 x1 v5 v15 h16) hc1 ivX12_needs ccX12_needs (Or.inl lkX12_283) rfl rfl rfl ⟨Nat.le_of_ble_eq_true rfl, Nat.le_of_ble_eq_true rfl, rfl, rfl, Nat.le_of_ble_eq_true rfl, Nat.le_of_ble_eq_true rfl⟩ (Nat.le_of_ble_eq_true rfl) dX12_goThrough_52 rfl ?_
      refine r_icmp_lt (tgt := 84) (q := 58) hX dX12_goThrough_55 (by decide) rfl (fun hb17 => ?_) (fun hb17 => ?_)
      · refine r_iconst (v := (0 : Int32)) (q := 85) hX dX12_goThrough_84 rfl rfl ?_
        refine r_lf (hK _) ?_
        exact r_iret hM rfl (Nat.le_of_ble_eq_true rfl) (Nat.le_of_ble_eq_true rfl) dX12_goThrough_85
      · refine r_aload_n (i := 0) (x := a0) (q := 59) 0 hX dX12_goThrough_58 rfl rfl rfl ?_
        refine r_getR (a := a0) (ci := 12) (kf := 0) (q := 62) hX hc1 flX12_7 rfl dX12_goThrough_59 rfl ?_
        refine r_iload (i := 4) (x := v11) (q := 64) 4 hX dX12_goThrough_62 rfl rfl ?_
        refine r_ck (fun hc18 => ?_)
        refine r_iald (a := (rR M a0 0)) (i := v11) (q := 65) hX hc18 dX12_goThrough_64 rfl ?_
        refine r_aload_n (i := 0) (x := a0) (q := 66) 0 hX dX12_goThrough_65 rfl rfl rfl ?_
        refine r_getR (a := a0) (ci := 12) (kf := 2) (q := 69) hX hc1 flX12_16 rfl dX12_goThrough_66 rfl ?_
        refine r_iload (i := 4) (x := v11) (q := 71) 4 hX dX12_goThrough_69 rfl rfl ?_
        refine r_ck (fun hc19 => ?_)
        refine r_iald (a := (rR M a0 2)) (i := v11) (q := 72) hX hc19 dX12_goThrough_71 rfl ?_
        refine r_iconst (v := (5 : Int32)) (q := 73) hX dX12_goThrough_72 rfl rfl ?_
        refine r_aload_n (i := 0) (x := a0) (q := 74) 0 hX dX12_goThrough_73 rfl rfl rfl ?_
        refine r_getR (a := a0) (ci := 12) (kf := 24) (q := 77) hX hc1 flX12_62 rfl dX12_goThrough_74 rfl ?_
        refine r_iload_n (i := 2) (x := v2) (q := 78) 2 hX dX12_goThrough_77 rfl rfl rfl ?_
        refine r_ck (fun hc20 => ?_)
        refine r_iald (a := (rR M a0 24)) (i := v2) (q := 79) hX hc20 dX12_goThrough_78 rfl ?_
        refine r_imul (q := 80) hX dX12_goThrough_79 rfl ?_
        refine r_iadd (q := 81) hX dX12_goThrough_80 rfl ?_
        refine r_icmp_ge (tgt := 86) (q := 84) hX dX12_goThrough_81 (by decide) rfl (fun hb21 => ?_) (fun hb21 => ?_)
        · refine r_iload_n (i := 3) (x := v5) (q := 87) 3 hX dX12_goThrough_86 rfl rfl rfl ?_
          refine r_jn (J := fun (v25 : Mem) (P : Option Res) => Ref mX12_goThrough X 0 0 Z v25 131 [(0, vr a0), (1, vi x1), (2, vi v2), (4, vi v11)] [] P) (fun v25 => ?_) (fun K1 hj23 => ?_)
          · refine r_aload_n (i := 0) (x := a0) (q := 132) 0 hX dX12_goThrough_131 rfl rfl rfl ?_
            refine r_getR (a := a0) (ci := 12) (kf := 28) (q := 135) hX hc1 flX12_74 rfl dX12_goThrough_132 rfl ?_
            refine r_iload_n (i := 2) (x := v2) (q := 136) 2 hX dX12_goThrough_135 rfl rfl rfl ?_
            refine r_iload (i := 4) (x := v11) (q := 138) 3 hX dX12_goThrough_136 rfl rfl ?_
            refine r_ck (fun hc42 => ?_)
            refine r_iast (a := (rR v25 a0 28)) (i := v2) (x := v11) (q := 139) hX hc42 dX12_goThrough_138 rfl (fun M43 => ?_)
            refine r_aload_n (i := 0) (x := a0) (q := 140) 0 hX dX12_goThrough_139 rfl rfl rfl ?_
            refine r_getR (a := a0) (ci := 12) (kf := 29) (q := 143) hX hc1 flX12_77 rfl dX12_goThrough_140 rfl ?_
            refine r_iload_n (i := 2) (x := v2) (q := 144) 2 hX dX12_goThrough_143 rfl rfl rfl ?_
            refine r_iload (i := 4) (x := v11) (q := 146) 3 hX dX12_goThrough_144 rfl rfl ?_
            refine r_aload_n (i := 0) (x := a0) (q := 147) 0 hX dX12_goThrough_146 rfl rfl rfl ?_
            refine r_getR (a := a0) (ci := 12) (kf := 23) (q := 150) hX hc1 flX12_59 rfl dX12_goThrough_147 rfl ?_
            refine r_iload_n (i := 2) (x := v2) (q := 151) 2 hX dX12_goThrough_150 rfl rfl rfl ?_
            refine r_ck (fun hc44 => ?_)
            refine r_iald (a := (rR M43 a0 23)) (i := v2) (q := 152) hX hc44 dX12_goThrough_151 rfl ?_
            refine r_jn (J := fun (v48 : Int32) (P : Option Res) => Ref mX12_goThrough X 0 0 Z M43 170 [(0, vr a0), (1, vi x1), (2, vi v2)] [vi v48, vi v2, vr (rR M43 a0 29)] P) (fun v48 => ?_) (fun K1 hj46 => ?_)
            · refine r_ck (fun hc50 => ?_)
              refine r_iast (a := (rR M43 a0 29)) (i := v2) (x := v48) (q := 171) hX hc50 dX12_goThrough_170 rfl (fun M51 => ?_)
              refine r_aload_n (i := 0) (x := a0) (q := 172) 0 hX dX12_goThrough_171 rfl rfl rfl ?_
              refine r_getR (a := a0) (ci := 12) (kf := 31) (q := 175) hX hc1 flX12_83 rfl dX12_goThrough_172 rfl ?_
              refine r_iload_n (i := 2) (x := v2) (q := 176) 2 hX dX12_goThrough_175 rfl rfl rfl ?_
              refine r_iconst (v := (1 : Int32)) (q := 177) hX dX12_goThrough_176 rfl rfl ?_
              refine r_ck (fun hc52 => ?_)
              refine r_zast (a := (rR M51 a0 31)) (i := v2) (x := (1 : Int32)) (q := 178) hX hc52 (Or.inr rfl) dX12_goThrough_177 rfl (fun M53 => ?_)
              refine r_aload_n (i := 0) (x := a0) (q := 179) 0 hX dX12_goThrough_178 rfl rfl rfl ?_
              refine r_getR (a := a0) (ci := 12) (kf := 9) (q := 182) hX hc1 flX12_35 rfl dX12_goThrough_179 rfl ?_
              refine r_iload_n (i := 1) (x := x1) (q := 183) 1 hX dX12_goThrough_182 rfl rfl rfl ?_
              refine r_dup2 (q := 184) hX dX12_goThrough_183 rfl rfl rfl ?_
              refine r_ck (fun hc54 => ?_)
              refine r_iald (a := (rR M53 a0 9)) (i := x1) (q := 185) hX hc54 dX12_goThrough_184 rfl ?_
              refine r_iconst (v := (1 : Int32)) (q := 186) hX dX12_goThrough_185 rfl rfl ?_
              refine r_iadd (q := 187) hX dX12_goThrough_186 rfl ?_
              refine r_iast (a := (rR M53 a0 9)) (i := x1) (x := ((rI M53 (rR M53 a0 9) (ix x1)) + (1 : Int32))) (q := 188) hX hc54 dX12_goThrough_187 rfl (fun M55 => ?_)
              refine r_iconst (v := (1 : Int32)) (q := 189) hX dX12_goThrough_188 rfl rfl ?_
              refine r_lf (hK _) ?_
              exact r_iret hM rfl (Nat.le_of_ble_eq_true rfl) (Nat.le_of_ble_eq_true rfl) dX12_goThrough_189
            · refine r_icmp_ne (tgt := 159) (q := 155) hX dX12_goThrough_152 (by decide) rfl (fun hb45 => ?_) (fun hb45 => ?_)
              · refine r_iconst (v := (-1 : Int32)) (q := 156) hX dX12_goThrough_155 rfl rfl ?_
                refine r_goto (q := 170) hX dX12_goThrough_156 (by decide) ?_
                refine r_l0 ?_
                refine r_sub [0, 1, 2] rfl ?_
                exact hj46 (-1 : Int32)
              · refine r_aload_n (i := 0) (x := a0) (q := 160) 0 hX dX12_goThrough_159 rfl rfl rfl ?_
                refine r_getI (a := a0) (ci := 12) (kf := 11) (q := 163) hX hc1 flX12_212 rfl rfl dX12_goThrough_160 rfl ?_
                refine r_aload_n (i := 0) (x := a0) (q := 164) 0 hX dX12_goThrough_163 rfl rfl rfl ?_
                refine r_getR (a := a0) (ci := 12) (kf := 25) (q := 167) hX hc1 flX12_65 rfl dX12_goThrough_164 rfl ?_
                refine r_iload_n (i := 2) (x := v2) (q := 168) 2 hX dX12_goThrough_167 rfl rfl rfl ?_
                refine r_ck (fun hc49 => ?_)
                refine r_iald (a := (rR M43 a0 25)) (i := v2) (q := 169) hX hc49 dX12_goThrough_168 rfl ?_
                refine r_iadd (q := 170) hX dX12_goThrough_169 rfl ?_
                refine r_l0 ?_
                refine r_sub [0, 1, 2] rfl ?_
                exact hj46 ((rI M43 a0 11) + (rI M43 (rR M43 a0 25) (ix v2)))
          · refine r_if_eq (tgt := 112) (q := 90) hX dX12_goThrough_87 (by decide) rfl (fun hb22 => ?_) (fun hb22 => ?_)
            · refine r_aload_n (i := 0) (x := a0) (q := 113) 0 hX dX12_goThrough_112 rfl rfl rfl ?_
              refine r_getR (a := a0) (ci := 12) (kf := 7) (q := 116) hX hc1 flX12_29 rfl dX12_goThrough_113 rfl ?_
              refine r_iload_n (i := 1) (x := x1) (q := 117) 1 hX dX12_goThrough_116 rfl rfl rfl ?_
              refine r_ck (fun hc26 => ?_)
              refine r_zald (a := (rR M a0 7)) (i := x1) (q := 118) hX hc26 dX12_goThrough_117 rfl ?_
              refine r_if_ne (tgt := 126) (q := 121) hX dX12_goThrough_118 (by decide) rfl (fun hb27 => ?_) (fun hb27 => ?_)
              · refine r_aload_n (i := 0) (x := a0) (q := 122) 0 hX dX12_goThrough_121 rfl rfl rfl ?_
                refine r_iload_n (i := 1) (x := x1) (q := 123) 1 hX dX12_goThrough_122 rfl rfl rfl ?_
                refine r_bind (fun v28 h29 => ?_)
                refine r_cv (a := a0) (As := [vi x1]) (st := []) (r := none) (Z1 := Z) (M1 := v28) (k1 := 0) (n1 := 0) (st1 := []) (q := 126) hX (fun l => kX12_fill l Z M a0 x1 v28 h29) hc1 ivX12_fill ccX12_fill (Or.inl lkX12_291) rfl rfl rfl ⟨Nat.le_of_ble_eq_true rfl, Nat.le_of_ble_eq_true rfl, rfl, rfl, Nat.le_of_ble_eq_true rfl, Nat.le_of_ble_eq_true rfl⟩ (Nat.le_of_ble_eq_true rfl) dX12_goThrough_123 rfl ?_
                refine r_aload_n (i := 0) (x := a0) (q := 127) 0 hX dX12_goThrough_126 rfl rfl rfl ?_
                refine r_iload_n (i := 1) (x := x1) (q := 128) 1 hX dX12_goThrough_127 rfl rfl rfl ?_
                refine r_bind (fun v30 h31 => ?_)
                refine r_cv (a := a0) (As := [vi x1]) (st := []) (r := none) (Z1 := Z) (M1 := v30) (k1 := 0) (n1 := 0) (st1 := []) (q := 131) hX (fun l => kX12_empty l Z v28 a0 x1 v30 h31) hc1 ivX12_empty ccX12_empty (Or.inl lkX12_287) rfl rfl rfl ⟨Nat.le_of_ble_eq_true rfl, Nat.le_of_ble_eq_true rfl, rfl, rfl, Nat.le_of_ble_eq_true rfl, Nat.le_of_ble_eq_true rfl⟩ (Nat.le_of_ble_eq_true rfl) dX12_goThrough_128 rfl ?_
                refine r_l0 ?_
                refine r_sub [0, 1, 2, 4] rfl ?_
                exact hj23 v30
              · refine r_aload_n (i := 0) (x := a0) (q := 127) 0 hX dX12_goThrough_126 rfl rfl rfl ?_
                refine r_iload_n (i := 1) (x := x1) (q := 128) 1 hX dX12_goThrough_127 rfl rfl rfl ?_
                refine r_bind (fun v32 h33 => ?_)
                refine r_cv (a := a0) (As := [vi x1]) (st := []) (r := none) (Z1 := Z) (M1 := v32) (k1 := 0) (n1 := 0) (st1 := []) (q := 131) hX (fun l => kX12_empty l Z M a0 x1 v32 h33) hc1 ivX12_empty ccX12_empty (Or.inl lkX12_287) rfl rfl rfl ⟨Nat.le_of_ble_eq_true rfl, Nat.le_of_ble_eq_true rfl, rfl, rfl, Nat.le_of_ble_eq_true rfl, Nat.le_of_ble_eq_true rfl⟩ (Nat.le_of_ble_eq_true rfl) dX12_goThrough_128 rfl ?_
                refine r_l0 ?_
                refine r_sub [0, 1, 2, 4] rfl ?_
                exact hj23 v32
            · refine r_aload_n (i := 0) (x := a0) (q := 91) 0 hX dX12_goThrough_90 rfl rfl rfl ?_
              refine r_getR (a := a0) (ci := 12) (kf := 7) (q := 94) hX hc1 flX12_29 rfl dX12_goThrough_91 rfl ?_
              refine r_iload_n (i := 1) (x := x1) (q := 95) 1 hX dX12_goThrough_94 rfl rfl rfl ?_
              refine r_ck (fun hc34 => ?_)
              refine r_zald (a := (rR M a0 7)) (i := x1) (q := 96) hX hc34 dX12_goThrough_95 rfl ?_
              refine r_if_eq (tgt := 104) (q := 99) hX dX12_goThrough_96 (by decide) rfl (fun hb35 => ?_) (fun hb35 => ?_)
              · refine r_aload_n (i := 0) (x := a0) (q := 105) 0 hX dX12_goThrough_104 rfl rfl rfl ?_
                refine r_iload_n (i := 1) (x := x1) (q := 106) 1 hX dX12_goThrough_105 rfl rfl rfl ?_
                refine r_bind (fun v36 h37 => ?_)
                refine r_cv (a := a0) (As := [vi x1]) (st := []) (r := none) (Z1 := Z) (M1 := v36) (k1 := 0) (n1 := 0) (st1 := []) (q := 109) hX (fun l => kX12_fill l Z M a0 x1 v36 h37) hc1 ivX12_fill ccX12_fill (Or.inl lkX12_291) rfl rfl rfl ⟨Nat.le_of_ble_eq_true rfl, Nat.le_of_ble_eq_true rfl, rfl, rfl, Nat.le_of_ble_eq_true rfl, Nat.le_of_ble_eq_true rfl⟩ (Nat.le_of_ble_eq_true rfl) dX12_goThrough_106 rfl ?_
                refine r_goto (q := 131) hX dX12_goThrough_109 (by decide) ?_
                refine r_l0 ?_
                refine r_sub [0, 1, 2, 4] rfl ?_
                exact hj23 v36
              · refine r_aload_n (i := 0) (x := a0) (q := 100) 0 hX dX12_goThrough_99 rfl rfl rfl ?_
                refine r_iload_n (i := 1) (x := x1) (q := 101) 1 hX dX12_goThrough_100 rfl rfl rfl ?_
                refine r_bind (fun v38 h39 => ?_)
                refine r_cv (a := a0) (As := [vi x1]) (st := []) (r := none) (Z1 := Z) (M1 := v38) (k1 := 0) (n1 := 0) (st1 := []) (q := 104) hX (fun l => kX12_empty l Z M a0 x1 v38 h39) hc1 ivX12_empty ccX12_empty (Or.inl lkX12_287) rfl rfl rfl ⟨Nat.le_of_ble_eq_true rfl, Nat.le_of_ble_eq_true rfl, rfl, rfl, Nat.le_of_ble_eq_true rfl, Nat.le_of_ble_eq_true rfl⟩ (Nat.le_of_ble_eq_true rfl) dX12_goThrough_101 rfl ?_
                refine r_aload_n (i := 0) (x := a0) (q := 105) 0 hX dX12_goThrough_104 rfl rfl rfl ?_
                refine r_iload_n (i := 1) (x := x1) (q := 106) 1 hX dX12_goThrough_105 rfl rfl rfl ?_
                refine r_bind (fun v40 h41 => ?_)
                refine r_cv (a := a0) (As := [vi x1]) (st := []) (r := none) (Z1 := Z) (M1 := v40) (k1 := 0) (n1 := 0) (st1 := []) (q := 109) hX (fun l => kX12_fill l Z v38 a0 x1 v40 h41) hc1 ivX12_fill ccX12_fill (Or.inl lkX12_291) rfl rfl rfl ⟨Nat.le_of_ble_eq_true rfl, Nat.le_of_ble_eq_true rfl, rfl, rfl, Nat.le_of_ble_eq_true rfl, Nat.le_of_ble_eq_true rfl⟩ (Nat.le_of_ble_eq_true rfl) dX12_goThrough_106 rfl ?_
                refine r_goto (q := 131) hX dX12_goThrough_109 (by decide) ?_
                refine r_l0 ?_
                refine r_sub [0, 1, 2, 4] rfl ?_
                exact hj23 v40
        · refine r_iconst (v := (0 : Int32)) (q := 85) hX dX12_goThrough_84 rfl rfl ?_
          refine r_lf (hK _) ?_
          exact r_iret hM rfl (Nat.le_of_ble_eq_true rfl) (Nat.le_of_ble_eq_true rfl) dX12_goThrough_85
    · refine r_icmp_ne (tgt := 36) (q := 30) hX dX12_goThrough_27 (by decide) rfl (fun hb8 => ?_) (fun hb8 => ?_)
      · refine r_iload_n (i := 1) (x := x1) (q := 31) 1 hX dX12_goThrough_30 rfl rfl rfl ?_
        refine r_iconst (v := (1 : Int32)) (q := 32) hX dX12_goThrough_31 rfl rfl ?_
        refine r_iadd (q := 33) hX dX12_goThrough_32 rfl ?_
        refine r_goto (q := 37) hX dX12_goThrough_33 (by decide) ?_
        refine r_l0 ?_
        exact hj9 (x1 + (1 : Int32))
      · refine r_iload_n (i := 1) (x := x1) (q := 37) 1 hX dX12_goThrough_36 rfl rfl rfl ?_
        refine r_l0 ?_
        exact hj9 x1
theorem lkX12_297 : Lk RX12 297 yX12_takeAll := gd (hcw7_3 _ (List.mem_of_getElem? (i := 5) rfl)) rfl
theorem flX12_86 : FL RX12 86 12 32 := ⟨Nat.le_of_ble_eq_true rfl, Nat.le_of_ble_eq_true rfl, gd (hcw5_11 _ (List.mem_of_getElem? (i := 7) rfl)) rfl⟩
theorem lkX12_300 : Lk RX12 300 yX12_goThrough := gd (hcw7_3 _ (List.mem_of_getElem? (i := 16) rfl)) rfl
def mX12_goHour : MD := (yX12_goHour, cX12_goHour, 4, (some .int), 4, 92, 0, 0)
theorem ccX12_goHour : Cc mX12_goHour 1 := ⟨gd (hcw1_0 _ (List.mem_of_getElem? (i := 10) rfl)) rfl, gd (hcw7_3 _ (List.mem_of_getElem? (i := 0) rfl)) rfl, by decide +kernel, by decide +kernel, by decide +kernel⟩
theorem ivX12_goHour : Iv mX12_goHour 12 := ⟨Nat.le_of_ble_eq_true rfl, rfl, gd (hcw7_2 _ (List.mem_of_getElem? (i := 19) rfl)) rfl, gd (hps3 _ (List.mem_of_getElem? (i := 8) rfl)) rfl⟩
noncomputable def fX12_goHour (Z : Shp) (M : Mem) (a0 : Nat) (x1 : Int32) : Option (Int32 × Mem) := (Option.bind (loop (fun s4 : Int32 × Mem => (if (8 : Int32) ≤ s4.1 then some (Sum.inr s4.2) else (if tg Z a0 = (13, 86) then (pu (wJ s4.2 a0 12 ((rJ s4.2 a0 12) + (x1.toInt64))) (fun M9 => (Option.bind (fX12_pour Z M9 a0 s4.1 x1) (fun v10 => some (Sum.inl ((s4.1 + (1 : Int32)), v10)))))) else none))) ((0 : Int32), M)) (fun v3 : Mem => (if tg Z a0 = (13, 86) then (Option.bind (fX12_takeAll Z v3 a0) (fun v13 => (Option.bind (loop (fun s18 : Int32 × Mem => (if (rI s18.2 a0 21) ≤ s18.1 then some (Sum.inr s18.2) else (if aok Z (rR s18.2 a0 31) 101 s18.1 then (pu (wI s18.2 (rR s18.2 a0 31) (ix s18.1) (0 : Int32)) (fun M23 => (Option.bind (fX12_isReady Z M23 a0 s18.1) (fun v24 => (if aok Z (rR M23 a0 32) 101 s18.1 then (if zb v24 then (pu (wI M23 (rR M23 a0 32) (ix s18.1) v24) (fun M27 => some (Sum.inl ((s18.1 + (1 : Int32)), M27)))) else none) else none))))) else none))) ((0 : Int32), v13)) (fun v17 : Mem => (Option.bind (loop (fun s32 : Int32 × Int32 × Mem => (if (7 : Int32) ≤ s32.2.1 then some (Sum.inr (s32.1, s32.2.2)) else (Option.bind (fX12_goThrough Z s32.2.2 a0 s32.2.1) (fun v36 => (pu ((s32.1 + v36.1)) (fun z38 => some (Sum.inl (z38, (s32.2.1 + (1 : Int32)), v36.2)))))))) ((0 : Int32), (0 : Int32), v17)) (fun v31 : Int32 × Mem => (loop (fun s39 : Int32 × Mem => (if (rI s39.2 a0 21) ≤ s39.1 then (pu (wI s39.2 a0 11 ((rI s39.2 a0 11) + (1 : Int32))) (fun M43 => some (Sum.inr (v31.1, M43)))) else (if aok Z (rR s39.2 a0 30) 100 s39.1 then (if aok Z (rR s39.2 a0 32) 101 s39.1 then (if (rI s39.2 (rR s39.2 a0 32) (ix s39.1)) = 0 then (pu (wI s39.2 (rR s39.2 a0 30) (ix s39.1) ((rI s39.2 (rR s39.2 a0 30) (ix s39.1)) + (0 : Int32))) (fun M47 => some (Sum.inl ((s39.1 + (1 : Int32)), M47)))) else (if aok Z (rR s39.2 a0 31) 101 s39.1 then (if (rI s39.2 (rR s39.2 a0 31) (ix s39.1)) = 0 then (pu (wI s39.2 (rR s39.2 a0 30) (ix s39.1) ((rI s39.2 (rR s39.2 a0 30) (ix s39.1)) + (1 : Int32))) (fun M50 => some (Sum.inl ((s39.1 + (1 : Int32)), M50)))) else (pu (wI s39.2 (rR s39.2 a0 30) (ix s39.1) ((rI s39.2 (rR s39.2 a0 30) (ix s39.1)) + (0 : Int32))) (fun M51 => some (Sum.inl ((s39.1 + (1 : Int32)), M51))))) else none)) else none) else none))) ((0 : Int32), v31.2)))))))) else none)))
set_option maxRecDepth 20000 in
theorem kX12_goHour (l : Launch) (Z : Shp) (M : Mem) (a0 : Nat) (x1 : Int32) (r : Int32 × Mem) (h : fX12_goHour Z M a0 x1 = some r) : Ct l mX12_goHour [vr a0, vi x1] Z M ((some (vi r.1)), Z, r.2) := by
  refine Ct.of rfl (Nat.le_of_ble_eq_true rfl) (fun X hM => ?_)
  have hX := hM.1
  refine r_top (mk := fun r => ((some (vi r.1)), Z, r.2)) h (fun K hK => ?_)
  unfold fX12_goHour
  refine r_iconst (v := (0 : Int32)) (q := 1) hX dX12_goHour_0 rfl rfl ?_
  refine r_istore_n (x := (0 : Int32)) (q := 2) 2 [1, 2, 0] (L1 := [(0, vr a0), (1, vi x1), (2, vi (0 : Int32))]) hX dX12_goHour_1 rfl (Nat.le_of_ble_eq_true rfl) rfl rfl ?_
  refine r_jn (J := fun (v3 : Mem) (P : Option Res) => Ref mX12_goHour X 0 0 Z v3 31 [(0, vr a0)] [] P) (fun v3 => ?_) (fun K1 hj1 => ?_)
  · refine r_aload_n (i := 0) (x := a0) (q := 32) 0 hX dX12_goHour_31 rfl rfl rfl ?_
    refine r_ck (fun hc12 => ?_)
    refine r_bind (fun v13 h14 => ?_)
    refine r_cv (a := a0) (As := []) (st := []) (r := none) (Z1 := Z) (M1 := v13) (k1 := 0) (n1 := 0) (st1 := []) (q := 35) hX (fun l => kX12_takeAll l Z v3 a0 v13 h14) hc12 ivX12_takeAll ccX12_takeAll (Or.inl lkX12_297) rfl rfl rfl ⟨Nat.le_of_ble_eq_true rfl, Nat.le_of_ble_eq_true rfl, rfl, rfl, Nat.le_of_ble_eq_true rfl, Nat.le_of_ble_eq_true rfl⟩ (Nat.le_of_ble_eq_true rfl) dX12_goHour_32 rfl ?_
    refine r_iconst (v := (0 : Int32)) (q := 36) hX dX12_goHour_35 rfl rfl ?_
    refine r_istore_n (x := (0 : Int32)) (q := 37) 2 [1, 0] (L1 := [(0, vr a0), (2, vi (0 : Int32))]) hX dX12_goHour_36 rfl (Nat.le_of_ble_eq_true rfl) rfl rfl ?_
    refine r_jn (J := fun (v17 : Mem) (P : Option Res) => Ref mX12_goHour X 0 0 Z v17 69 [(0, vr a0)] [] P) (fun v17 => ?_) (fun K1 hj15 => ?_)
    · refine r_iconst (v := (0 : Int32)) (q := 70) hX dX12_goHour_69 rfl rfl ?_
      refine r_istore_n (x := (0 : Int32)) (q := 71) 2 [1, 0] (L1 := [(0, vr a0), (2, vi (0 : Int32))]) hX dX12_goHour_70 rfl (Nat.le_of_ble_eq_true rfl) rfl rfl ?_
      refine r_iconst (v := (0 : Int32)) (q := 72) hX dX12_goHour_71 rfl rfl ?_
      refine r_istore_n (x := (0 : Int32)) (q := 73) 3 [1, 2, 0] (L1 := [(0, vr a0), (2, vi (0 : Int32)), (3, vi (0 : Int32))]) hX dX12_goHour_72 rfl (Nat.le_of_ble_eq_true rfl) rfl rfl ?_
      refine r_jn (J := fun (v31 : Int32 × Mem) (P : Option Res) => Ref mX12_goHour X 0 0 Z v31.2 93 [(0, vr a0), (2, vi v31.1)] [] P) (fun v31 => ?_) (fun K1 hj29 => ?_)
      · refine r_iconst (v := (0 : Int32)) (q := 94) hX dX12_goHour_93 rfl rfl ?_
        refine r_istore_n (x := (0 : Int32)) (q := 95) 3 [1, 2, 0] (L1 := [(0, vr a0), (2, vi v31.1), (3, vi (0 : Int32))]) hX dX12_goHour_94 rfl (Nat.le_of_ble_eq_true rfl) rfl rfl ?_
        refine r_loop (Hd := fun (s39 : Int32 × Mem) (P : Option Res) => Ref mX12_goHour X 0 0 Z s39.2 95 [(0, vr a0), (2, vi v31.1), (3, vi s39.1)] [] P) (fun _ => r_none) (fun s39 K1 hn40 hx41 => ?_) ((0 : Int32), v31.2)
        refine r_iload_n (i := 3) (x := s39.1) (q := 96) 2 hX dX12_goHour_95 rfl rfl rfl ?_
        refine r_aload_n (i := 0) (x := a0) (q := 97) 0 hX dX12_goHour_96 rfl rfl rfl ?_
        refine r_getI (a := a0) (ci := 12) (kf := 21) (q := 100) hX hc12 flX12_215 rfl rfl dX12_goHour_97 rfl ?_
        refine r_icmp_ge (tgt := 141) (q := 103) hX dX12_goHour_100 (by decide) rfl (fun hb42 => ?_) (fun hb42 => ?_)
        · refine r_aload_n (i := 0) (x := a0) (q := 142) 0 hX dX12_goHour_141 rfl rfl rfl ?_
          refine r_dup (q := 143) hX dX12_goHour_142 rfl rfl ?_
          refine r_getI (a := a0) (ci := 12) (kf := 11) (q := 146) hX hc12 flX12_212 rfl rfl dX12_goHour_143 rfl ?_
          refine r_iconst (v := (1 : Int32)) (q := 147) hX dX12_goHour_146 rfl rfl ?_
          refine r_iadd (q := 148) hX dX12_goHour_147 rfl ?_
          refine r_putI (a := a0) (ci := 12) (kf := 11) (q := 151) hX hc12 flX12_212 rfl rfl (Or.inl rfl) rfl rfl dX12_goHour_148 rfl (fun M43 => ?_)
          refine r_iload_n (i := 2) (x := v31.1) (q := 152) 1 hX dX12_goHour_151 rfl rfl rfl ?_
          refine r_lf ((hx41 _).trans (hK _)) ?_
          exact r_iret hM rfl (Nat.le_of_ble_eq_true rfl) (Nat.le_of_ble_eq_true rfl) dX12_goHour_152
        · refine r_aload_n (i := 0) (x := a0) (q := 104) 0 hX dX12_goHour_103 rfl rfl rfl ?_
          refine r_getR (a := a0) (ci := 12) (kf := 30) (q := 107) hX hc12 flX12_80 rfl dX12_goHour_104 rfl ?_
          refine r_iload_n (i := 3) (x := s39.1) (q := 108) 2 hX dX12_goHour_107 rfl rfl rfl ?_
          refine r_dup2 (q := 109) hX dX12_goHour_108 rfl rfl rfl ?_
          refine r_ck (fun hc44 => ?_)
          refine r_iald (a := (rR s39.2 a0 30)) (i := s39.1) (q := 110) hX hc44 dX12_goHour_109 rfl ?_
          refine r_aload_n (i := 0) (x := a0) (q := 111) 0 hX dX12_goHour_110 rfl rfl rfl ?_
          refine r_getR (a := a0) (ci := 12) (kf := 32) (q := 114) hX hc12 flX12_86 rfl dX12_goHour_111 rfl ?_
          refine r_iload_n (i := 3) (x := s39.1) (q := 115) 2 hX dX12_goHour_114 rfl rfl rfl ?_
          refine r_ck (fun hc45 => ?_)
          refine r_zald (a := (rR s39.2 a0 32)) (i := s39.1) (q := 116) hX hc45 dX12_goHour_115 rfl ?_
          refine r_if_eq (tgt := 132) (q := 119) hX dX12_goHour_116 (by decide) rfl (fun hb46 => ?_) (fun hb46 => ?_)
          · refine r_iconst (v := (0 : Int32)) (q := 133) hX dX12_goHour_132 rfl rfl ?_
            refine r_iadd (q := 134) hX dX12_goHour_133 rfl ?_
            refine r_iast (a := (rR s39.2 a0 30)) (i := s39.1) (x := ((rI s39.2 (rR s39.2 a0 30) (ix s39.1)) + (0 : Int32))) (q := 135) hX hc44 dX12_goHour_134 rfl (fun M47 => ?_)
            refine r_iinc (x := s39.1) (v := (s39.1 + (1 : Int32))) (q := 138) 3 2 [1, 2, 0] (L1 := [(0, vr a0), (2, vi v31.1), (3, vi (s39.1 + (1 : Int32)))]) hX dX12_goHour_135 rfl rfl (Nat.le_of_ble_eq_true rfl) rfl rfl ?_
            refine r_goto (q := 95) hX dX12_goHour_138 (by decide) ?_
            refine r_l0 ?_
            exact hn40 ((s39.1 + (1 : Int32)), M47)
          · refine r_aload_n (i := 0) (x := a0) (q := 120) 0 hX dX12_goHour_119 rfl rfl rfl ?_
            refine r_getR (a := a0) (ci := 12) (kf := 31) (q := 123) hX hc12 flX12_83 rfl dX12_goHour_120 rfl ?_
            refine r_iload_n (i := 3) (x := s39.1) (q := 124) 2 hX dX12_goHour_123 rfl rfl rfl ?_
            refine r_ck (fun hc48 => ?_)
            refine r_zald (a := (rR s39.2 a0 31)) (i := s39.1) (q := 125) hX hc48 dX12_goHour_124 rfl ?_
            refine r_if_ne (tgt := 132) (q := 128) hX dX12_goHour_125 (by decide) rfl (fun hb49 => ?_) (fun hb49 => ?_)
            · refine r_iconst (v := (1 : Int32)) (q := 129) hX dX12_goHour_128 rfl rfl ?_
              refine r_goto (q := 133) hX dX12_goHour_129 (by decide) ?_
              refine r_iadd (q := 134) hX dX12_goHour_133 rfl ?_
              refine r_iast (a := (rR s39.2 a0 30)) (i := s39.1) (x := ((rI s39.2 (rR s39.2 a0 30) (ix s39.1)) + (1 : Int32))) (q := 135) hX hc44 dX12_goHour_134 rfl (fun M50 => ?_)
              refine r_iinc (x := s39.1) (v := (s39.1 + (1 : Int32))) (q := 138) 3 2 [1, 2, 0] (L1 := [(0, vr a0), (2, vi v31.1), (3, vi (s39.1 + (1 : Int32)))]) hX dX12_goHour_135 rfl rfl (Nat.le_of_ble_eq_true rfl) rfl rfl ?_
              refine r_goto (q := 95) hX dX12_goHour_138 (by decide) ?_
              refine r_l0 ?_
              exact hn40 ((s39.1 + (1 : Int32)), M50)
            · refine r_iconst (v := (0 : Int32)) (q := 133) hX dX12_goHour_132 rfl rfl ?_
              refine r_iadd (q := 134) hX dX12_goHour_133 rfl ?_
              refine r_iast (a := (rR s39.2 a0 30)) (i := s39.1) (x := ((rI s39.2 (rR s39.2 a0 30) (ix s39.1)) + (0 : Int32))) (q := 135) hX hc44 dX12_goHour_134 rfl (fun M51 => ?_)
              refine r_iinc (x := s39.1) (v := (s39.1 + (1 : Int32))) (q := 138) 3 2 [1, 2, 0] (L1 := [(0, vr a0), (2, vi v31.1), (3, vi (s39.1 + (1 : Int32)))]) hX dX12_goHour_135 rfl rfl (Nat.le_of_ble_eq_true rfl) rfl rfl ?_
              refine r_goto (q := 95) hX dX12_goHour_138 (by decide) ?_
              refine r_l0 ?_
              exact hn40 ((s39.1 + (1 : Int32)), M51)
      · refine r_loop (Hd := fun (s32 : Int32 × Int32 × Mem) (P : Option Res) => Ref mX12_goHour X 0 0 Z s32.2.2 73 [(0, vr a0), (2, vi s32.1), (3, vi s32.2.1)] [] P) (fun _ => r_none) (fun s32 K1 hn33 hx34 => ?_) ((0 : Int32), (0 : Int32), v17)
        refine r_iload_n (i := 3) (x := s32.2.1) (q := 74) 2 hX dX12_goHour_73 rfl rfl rfl ?_
        refine r_bipush (v := (7 : Int32)) (q := 76) hX dX12_goHour_74 rfl rfl ?_
        refine r_icmp_ge (tgt := 93) (q := 79) hX dX12_goHour_76 (by decide) rfl (fun hb35 => ?_) (fun hb35 => ?_)
        · refine r_lf (hx34 _) ?_
          refine r_sub [0, 1] rfl ?_
          exact hj29 (s32.1, s32.2.2)
        · refine r_iload_n (i := 2) (x := s32.1) (q := 80) 1 hX dX12_goHour_79 rfl rfl rfl ?_
          refine r_aload_n (i := 0) (x := a0) (q := 81) 0 hX dX12_goHour_80 rfl rfl rfl ?_
          refine r_iload_n (i := 3) (x := s32.2.1) (q := 82) 2 hX dX12_goHour_81 rfl rfl rfl ?_
          refine r_bind (fun v36 h37 => ?_)
          refine r_cv (a := a0) (As := [vi s32.2.1]) (st := [vi s32.1]) (r := (some (vi v36.1))) (Z1 := Z) (M1 := v36.2) (k1 := 0) (n1 := 0) (st1 := [vi v36.1, vi s32.1]) (q := 85) hX (fun l => kX12_goThrough l Z s32.2.2 a0 s32.2.1 v36 h37) hc12 ivX12_goThrough ccX12_goThrough (Or.inl lkX12_300) rfl rfl rfl ⟨Nat.le_of_ble_eq_true rfl, Nat.le_of_ble_eq_true rfl, rfl, rfl, Nat.le_of_ble_eq_true rfl, Nat.le_of_ble_eq_true rfl⟩ (Nat.le_of_ble_eq_true rfl) dX12_goHour_82 rfl ?_
          refine r_iadd (q := 86) hX dX12_goHour_85 rfl ?_
          refine r_istore_nP (x := (s32.1 + v36.1)) (q := 87) 2 [1, 0, 3] (fun z38 => [(0, vr a0), (2, vi z38), (3, vi s32.2.1)]) hX dX12_goHour_86 rfl (Nat.le_of_ble_eq_true rfl) (fun _ => rfl) rfl (fun z38 => ?_)
          refine r_iinc (x := s32.2.1) (v := (s32.2.1 + (1 : Int32))) (q := 90) 3 2 [1, 2, 0] (L1 := [(0, vr a0), (2, vi z38), (3, vi (s32.2.1 + (1 : Int32)))]) hX dX12_goHour_87 rfl rfl (Nat.le_of_ble_eq_true rfl) rfl rfl ?_
          refine r_goto (q := 73) hX dX12_goHour_90 (by decide) ?_
          refine r_l0 ?_
          exact hn33 (z38, (s32.2.1 + (1 : Int32)), v36.2)
    · refine r_loop (Hd := fun (s18 : Int32 × Mem) (P : Option Res) => Ref mX12_goHour X 0 0 Z s18.2 37 [(0, vr a0), (2, vi s18.1)] [] P) (fun _ => r_none) (fun s18 K1 hn19 hx20 => ?_) ((0 : Int32), v13)
      refine r_iload_n (i := 2) (x := s18.1) (q := 38) 1 hX dX12_goHour_37 rfl rfl rfl ?_
      refine r_aload_n (i := 0) (x := a0) (q := 39) 0 hX dX12_goHour_38 rfl rfl rfl ?_
      refine r_getI (a := a0) (ci := 12) (kf := 21) (q := 42) hX hc12 flX12_215 rfl rfl dX12_goHour_39 rfl ?_
      refine r_icmp_ge (tgt := 69) (q := 45) hX dX12_goHour_42 (by decide) rfl (fun hb21 => ?_) (fun hb21 => ?_)
      · refine r_lf (hx20 _) ?_
        refine r_sub [0] rfl ?_
        exact hj15 s18.2
      · refine r_aload_n (i := 0) (x := a0) (q := 46) 0 hX dX12_goHour_45 rfl rfl rfl ?_
        refine r_getR (a := a0) (ci := 12) (kf := 31) (q := 49) hX hc12 flX12_83 rfl dX12_goHour_46 rfl ?_
        refine r_iload_n (i := 2) (x := s18.1) (q := 50) 1 hX dX12_goHour_49 rfl rfl rfl ?_
        refine r_iconst (v := (0 : Int32)) (q := 51) hX dX12_goHour_50 rfl rfl ?_
        refine r_ck (fun hc22 => ?_)
        refine r_zast (a := (rR s18.2 a0 31)) (i := s18.1) (x := (0 : Int32)) (q := 52) hX hc22 (Or.inl rfl) dX12_goHour_51 rfl (fun M23 => ?_)
        refine r_aload_n (i := 0) (x := a0) (q := 53) 0 hX dX12_goHour_52 rfl rfl rfl ?_
        refine r_getR (a := a0) (ci := 12) (kf := 32) (q := 56) hX hc12 flX12_86 rfl dX12_goHour_53 rfl ?_
        refine r_iload_n (i := 2) (x := s18.1) (q := 57) 1 hX dX12_goHour_56 rfl rfl rfl ?_
        refine r_aload_n (i := 0) (x := a0) (q := 58) 0 hX dX12_goHour_57 rfl rfl rfl ?_
        refine r_iload_n (i := 2) (x := s18.1) (q := 59) 1 hX dX12_goHour_58 rfl rfl rfl ?_
        refine r_bind (fun v24 h25 => ?_)
        refine r_cv (a := a0) (As := [vi s18.1]) (st := [vi s18.1, vr (rR M23 a0 32)]) (r := (some (vi v24))) (Z1 := Z) (M1 := M23) (k1 := 0) (n1 := 0) (st1 := [vi v24, vi s18.1, vr (rR M23 a0 32)]) (q := 62) hX (fun l => kX12_isReady l Z M23 a0 s18.1 v24 h25) hc12 ivX12_isReady ccX12_isReady (Or.inl lkX12_267) rfl rfl rfl ⟨Nat.le_of_ble_eq_true rfl, Nat.le_of_ble_eq_true rfl, rfl, rfl, Nat.le_of_ble_eq_true rfl, Nat.le_of_ble_eq_true rfl⟩ (Nat.le_of_ble_eq_true rfl) dX12_goHour_59 rfl ?_
        refine r_ck (fun hc26 => ?_)
        refine r_ck (fun hz28 => ?_)
        refine r_zast (a := (rR M23 a0 32)) (i := s18.1) (x := v24) (q := 63) hX hc26 hz28 dX12_goHour_62 rfl (fun M27 => ?_)
        refine r_iinc (x := s18.1) (v := (s18.1 + (1 : Int32))) (q := 66) 2 1 [1, 0] (L1 := [(0, vr a0), (2, vi (s18.1 + (1 : Int32)))]) hX dX12_goHour_63 rfl rfl (Nat.le_of_ble_eq_true rfl) rfl rfl ?_
        refine r_goto (q := 37) hX dX12_goHour_66 (by decide) ?_
        refine r_l0 ?_
        exact hn19 ((s18.1 + (1 : Int32)), M27)
  · refine r_loop (Hd := fun (s4 : Int32 × Mem) (P : Option Res) => Ref mX12_goHour X 0 0 Z s4.2 2 [(0, vr a0), (1, vi x1), (2, vi s4.1)] [] P) (fun _ => r_none) (fun s4 K1 hn5 hx6 => ?_) ((0 : Int32), M)
    refine r_iload_n (i := 2) (x := s4.1) (q := 3) 2 hX dX12_goHour_2 rfl rfl rfl ?_
    refine r_bipush (v := (8 : Int32)) (q := 5) hX dX12_goHour_3 rfl rfl ?_
    refine r_icmp_ge (tgt := 31) (q := 8) hX dX12_goHour_5 (by decide) rfl (fun hb7 => ?_) (fun hb7 => ?_)
    · refine r_lf (hx6 _) ?_
      refine r_sub [0] rfl ?_
      exact hj1 s4.2
    · refine r_aload_n (i := 0) (x := a0) (q := 9) 0 hX dX12_goHour_8 rfl rfl rfl ?_
      refine r_dup (q := 10) hX dX12_goHour_9 rfl rfl ?_
      refine r_ck (fun hc8 => ?_)
      refine r_getJ (a := a0) (ci := 12) (kf := 12) (q := 13) hX hc8 flX12_294 rfl rfl dX12_goHour_10 rfl ?_
      refine r_iload_n (i := 1) (x := x1) (q := 14) 1 hX dX12_goHour_13 rfl rfl rfl ?_
      refine r_i2l (q := 15) hX dX12_goHour_14 rfl ?_
      refine r_ladd (q := 16) hX dX12_goHour_15 rfl ?_
      refine r_putJ (a := a0) (ci := 12) (kf := 12) (q := 19) hX hc8 flX12_294 rfl rfl (Or.inl rfl) rfl rfl dX12_goHour_16 rfl (fun M9 => ?_)
      refine r_aload_n (i := 0) (x := a0) (q := 20) 0 hX dX12_goHour_19 rfl rfl rfl ?_
      refine r_iload_n (i := 2) (x := s4.1) (q := 21) 2 hX dX12_goHour_20 rfl rfl rfl ?_
      refine r_iload_n (i := 1) (x := x1) (q := 22) 1 hX dX12_goHour_21 rfl rfl rfl ?_
      refine r_bind (fun v10 h11 => ?_)
      refine r_cv (a := a0) (As := [vi s4.1, vi x1]) (st := []) (r := none) (Z1 := Z) (M1 := v10) (k1 := 0) (n1 := 0) (st1 := []) (q := 25) hX (fun l => kX12_pour l Z M9 a0 s4.1 x1 v10 h11) hc8 ivX12_pour ccX12_pour (Or.inl lkX12_249) rfl rfl rfl ⟨Nat.le_of_ble_eq_true rfl, Nat.le_of_ble_eq_true rfl, rfl, rfl, Nat.le_of_ble_eq_true rfl, Nat.le_of_ble_eq_true rfl⟩ (Nat.le_of_ble_eq_true rfl) dX12_goHour_22 rfl ?_
      refine r_iinc (x := s4.1) (v := (s4.1 + (1 : Int32))) (q := 28) 2 2 [1, 2, 0] (L1 := [(0, vr a0), (1, vi x1), (2, vi (s4.1 + (1 : Int32)))]) hX dX12_goHour_25 rfl rfl (Nat.le_of_ble_eq_true rfl) rfl rfl ?_
      refine r_goto (q := 2) hX dX12_goHour_28 (by decide) ?_
      refine r_l0 ?_
      exact hn5 ((s4.1 + (1 : Int32)), v10)
def mX12_had : MD := (yX12_had, cX12_had, 3, (some .int), 2, 45, 0, 0)
theorem ccX12_had : Cc mX12_had 2 := ⟨gd (hcw1_0 _ (List.mem_of_getElem? (i := 10) rfl)) rfl, gd (hcw8_4 _ (List.mem_of_getElem? (i := 5) rfl)) rfl, by decide +kernel, by decide +kernel, by decide +kernel⟩
theorem ivX12_had : Iv mX12_had 12 := ⟨Nat.le_of_ble_eq_true rfl, rfl, gd (hcw8_4 _ (List.mem_of_getElem? (i := 3) rfl)) rfl, gd (hcw8_4 _ (List.mem_of_getElem? (i := 4) rfl)) rfl⟩
noncomputable def fX12_had (Z : Shp) (M : Mem) (a0 : Nat) (x1 : Int32) (x2 : Int32) : Option (Int32) := (if (fX12_isHolder x1) = 0 then some (-101 : Int32) else (if (fX12_isDay x2) = 0 then some (-102 : Int32) else (if tg Z a0 = (13, 86) then (Option.bind (fX12_hadOf Z M a0 x1 x2) (fun v4 => some v4)) else none)))
set_option maxRecDepth 20000 in
theorem kX12_had (l : Launch) (Z : Shp) (M : Mem) (a0 : Nat) (x1 : Int32) (x2 : Int32) (r : Int32) (h : fX12_had Z M a0 x1 x2 = some r) : Ct l mX12_had [vr a0, vi x1, vi x2] Z M ((some (vi r)), Z, M) := by
  refine Ct.of rfl (Nat.le_of_ble_eq_true rfl) (fun X hM => ?_)
  have hX := hM.1
  refine r_top (mk := fun r => ((some (vi r)), Z, M)) h (fun K hK => ?_)
  unfold fX12_had
  refine r_iload_n (i := 1) (x := x1) (q := 1) 1 hX dX12_had_0 rfl rfl rfl ?_
  refine r_cs (As := [vi x1]) (st := []) (r := (some (vi (fX12_isHolder x1)))) (Z1 := Z) (M1 := M) (k1 := 0) (n1 := 0) (st1 := [vi (fX12_isHolder x1)]) (q := 4) hX (fun l => kX12_isHolder l Z M x1) stX12_isHolder ccX12_isHolder (Or.inl lkX12_460) rfl rfl rfl ⟨Nat.le_of_ble_eq_true rfl, Nat.le_of_ble_eq_true rfl, rfl, rfl, Nat.le_of_ble_eq_true rfl, Nat.le_of_ble_eq_true rfl⟩ (Nat.le_of_ble_eq_true rfl) dX12_had_1 rfl ?_
  refine r_if_ne (tgt := 10) (q := 7) hX dX12_had_4 (by decide) rfl (fun hb1 => ?_) (fun hb1 => ?_)
  · refine r_bipush (v := (-101 : Int32)) (q := 9) hX dX12_had_7 rfl rfl ?_
    refine r_lf (hK _) ?_
    exact r_iret hM rfl (Nat.le_of_ble_eq_true rfl) (Nat.le_of_ble_eq_true rfl) dX12_had_9
  · refine r_iload_n (i := 2) (x := x2) (q := 11) 2 hX dX12_had_10 rfl rfl rfl ?_
    refine r_cs (As := [vi x2]) (st := []) (r := (some (vi (fX12_isDay x2)))) (Z1 := Z) (M1 := M) (k1 := 0) (n1 := 0) (st1 := [vi (fX12_isDay x2)]) (q := 14) hX (fun l => kX12_isDay l Z M x2) stX12_isDay ccX12_isDay (Or.inl lkX12_393) rfl rfl rfl ⟨Nat.le_of_ble_eq_true rfl, Nat.le_of_ble_eq_true rfl, rfl, rfl, Nat.le_of_ble_eq_true rfl, Nat.le_of_ble_eq_true rfl⟩ (Nat.le_of_ble_eq_true rfl) dX12_had_11 rfl ?_
    refine r_if_eq (tgt := 26) (q := 17) hX dX12_had_14 (by decide) rfl (fun hb2 => ?_) (fun hb2 => ?_)
    · refine r_bipush (v := (-102 : Int32)) (q := 28) hX dX12_had_26 rfl rfl ?_
      refine r_lf (hK _) ?_
      exact r_iret hM rfl (Nat.le_of_ble_eq_true rfl) (Nat.le_of_ble_eq_true rfl) dX12_had_28
    · refine r_aload_n (i := 0) (x := a0) (q := 18) 0 hX dX12_had_17 rfl rfl rfl ?_
      refine r_iload_n (i := 1) (x := x1) (q := 19) 1 hX dX12_had_18 rfl rfl rfl ?_
      refine r_iload_n (i := 2) (x := x2) (q := 20) 2 hX dX12_had_19 rfl rfl rfl ?_
      refine r_ck (fun hc3 => ?_)
      refine r_bind (fun v4 h5 => ?_)
      refine r_cv (a := a0) (As := [vi x1, vi x2]) (st := []) (r := (some (vi v4))) (Z1 := Z) (M1 := M) (k1 := 0) (n1 := 0) (st1 := [vi v4]) (q := 23) hX (fun l => kX12_hadOf l Z M a0 x1 x2 v4 h5) hc3 ivX12_hadOf ccX12_hadOf (Or.inl lkX12_466) rfl rfl rfl ⟨Nat.le_of_ble_eq_true rfl, Nat.le_of_ble_eq_true rfl, rfl, rfl, Nat.le_of_ble_eq_true rfl, Nat.le_of_ble_eq_true rfl⟩ (Nat.le_of_ble_eq_true rfl) dX12_had_20 rfl ?_
      refine r_goto (q := 28) hX dX12_had_23 (by decide) ?_
      refine r_lf (hK _) ?_
      exact r_iret hM rfl (Nat.le_of_ble_eq_true rfl) (Nat.le_of_ble_eq_true rfl) dX12_had_28
theorem lkX12_305 : Lk RX12 305 yX12_goHour := gd (hcw7_2 _ (List.mem_of_getElem? (i := 17) rfl)) rfl
def mX12_hour : MD := (yX12_hour, cX12_hour, 2, (some .int), 5, 115, 0, 0)
theorem ccX12_hour : Cc mX12_hour 1 := ⟨gd (hcw1_0 _ (List.mem_of_getElem? (i := 10) rfl)) rfl, gd (hcw7_2 _ (List.mem_of_getElem? (i := 15) rfl)) rfl, by decide +kernel, by decide +kernel, by decide +kernel⟩
theorem ivX12_hour : Iv mX12_hour 12 := ⟨Nat.le_of_ble_eq_true rfl, rfl, gd (hcw7_2 _ (List.mem_of_getElem? (i := 13) rfl)) rfl, gd (hcw7_2 _ (List.mem_of_getElem? (i := 14) rfl)) rfl⟩
noncomputable def fX12_hour (Z : Shp) (M : Mem) (a0 : Nat) (x1 : Int32) : Option (Int32 × Mem) := (if (fX12_in (x1.toInt64) (0 : Int64) (50 : Int64)) = 0 then some ((-102 : Int32), M) else (if tg Z a0 = (13, 86) then (if (rI M a0 11) = (600 : Int32) then some ((-103 : Int32), M) else (Option.bind (fX12_goHour Z M a0 x1) (fun v4 => some (v4.1, v4.2)))) else none))
set_option maxRecDepth 20000 in
theorem kX12_hour (l : Launch) (Z : Shp) (M : Mem) (a0 : Nat) (x1 : Int32) (r : Int32 × Mem) (h : fX12_hour Z M a0 x1 = some r) : Ct l mX12_hour [vr a0, vi x1] Z M ((some (vi r.1)), Z, r.2) := by
  refine Ct.of rfl (Nat.le_of_ble_eq_true rfl) (fun X hM => ?_)
  have hX := hM.1
  refine r_top (mk := fun r => ((some (vi r.1)), Z, r.2)) h (fun K hK => ?_)
  unfold fX12_hour
  refine r_iload_n (i := 1) (x := x1) (q := 1) 1 hX dX12_hour_0 rfl rfl rfl ?_
  refine r_i2l (q := 2) hX dX12_hour_1 rfl ?_
  refine r_lconst (v := (0 : Int64)) (q := 3) hX dX12_hour_2 rfl rfl ?_
  refine r_ldc2 (v := (50 : Int64)) (q := 6) hX dX12_hour_3 (gd (hcw7_2 _ (List.mem_of_getElem? (i := 16) rfl)) rfl) rfl ?_
  refine r_cs (As := [vj (x1.toInt64), vj (0 : Int64), vj (50 : Int64)]) (st := []) (r := (some (vi (fX12_in (x1.toInt64) (0 : Int64) (50 : Int64))))) (Z1 := Z) (M1 := M) (k1 := 0) (n1 := 0) (st1 := [vi (fX12_in (x1.toInt64) (0 : Int64) (50 : Int64))]) (q := 9) hX (fun l => kX12_in l Z M (x1.toInt64) (0 : Int64) (50 : Int64)) stX12_in ccX12_in (Or.inl lkX12_194) rfl rfl rfl ⟨Nat.le_of_ble_eq_true rfl, Nat.le_of_ble_eq_true rfl, rfl, rfl, Nat.le_of_ble_eq_true rfl, Nat.le_of_ble_eq_true rfl⟩ (Nat.le_of_ble_eq_true rfl) dX12_hour_6 rfl ?_
  refine r_if_ne (tgt := 15) (q := 12) hX dX12_hour_9 (by decide) rfl (fun hb1 => ?_) (fun hb1 => ?_)
  · refine r_bipush (v := (-102 : Int32)) (q := 14) hX dX12_hour_12 rfl rfl ?_
    refine r_lf (hK _) ?_
    exact r_iret hM rfl (Nat.le_of_ble_eq_true rfl) (Nat.le_of_ble_eq_true rfl) dX12_hour_14
  · refine r_aload_n (i := 0) (x := a0) (q := 16) 0 hX dX12_hour_15 rfl rfl rfl ?_
    refine r_ck (fun hc2 => ?_)
    refine r_getI (a := a0) (ci := 12) (kf := 11) (q := 19) hX hc2 flX12_212 rfl rfl dX12_hour_16 rfl ?_
    refine r_sipush (v := (600 : Int32)) (q := 22) hX dX12_hour_19 rfl rfl ?_
    refine r_icmp_ne (tgt := 30) (q := 25) hX dX12_hour_22 (by decide) rfl (fun hb3 => ?_) (fun hb3 => ?_)
    · refine r_bipush (v := (-103 : Int32)) (q := 27) hX dX12_hour_25 rfl rfl ?_
      refine r_goto (q := 35) hX dX12_hour_27 (by decide) ?_
      refine r_lf (hK _) ?_
      exact r_iret hM rfl (Nat.le_of_ble_eq_true rfl) (Nat.le_of_ble_eq_true rfl) dX12_hour_35
    · refine r_aload_n (i := 0) (x := a0) (q := 31) 0 hX dX12_hour_30 rfl rfl rfl ?_
      refine r_iload_n (i := 1) (x := x1) (q := 32) 1 hX dX12_hour_31 rfl rfl rfl ?_
      refine r_bind (fun v4 h5 => ?_)
      refine r_cv (a := a0) (As := [vi x1]) (st := []) (r := (some (vi v4.1))) (Z1 := Z) (M1 := v4.2) (k1 := 0) (n1 := 0) (st1 := [vi v4.1]) (q := 35) hX (fun l => kX12_goHour l Z M a0 x1 v4 h5) hc2 ivX12_goHour ccX12_goHour (Or.inl lkX12_305) rfl rfl rfl ⟨Nat.le_of_ble_eq_true rfl, Nat.le_of_ble_eq_true rfl, rfl, rfl, Nat.le_of_ble_eq_true rfl, Nat.le_of_ble_eq_true rfl⟩ (Nat.le_of_ble_eq_true rfl) dX12_hour_32 rfl ?_
      refine r_lf (hK _) ?_
      exact r_iret hM rfl (Nat.le_of_ble_eq_true rfl) (Nat.le_of_ble_eq_true rfl) dX12_hour_35
def mX12_hours : MD := (yX12_hours, cX12_hours, 5, (some .int), 5, 115, 0, 0)
theorem ccX12_hours : Cc mX12_hours 2 := ⟨gd (hcw1_0 _ (List.mem_of_getElem? (i := 10) rfl)) rfl, gd (hcw7_5 _ (List.mem_of_getElem? (i := 11) rfl)) rfl, by decide +kernel, by decide +kernel, by decide +kernel⟩
theorem ivX12_hours : Iv mX12_hours 12 := ⟨Nat.le_of_ble_eq_true rfl, rfl, gd (hcw7_5 _ (List.mem_of_getElem? (i := 9) rfl)) rfl, gd (hcw7_5 _ (List.mem_of_getElem? (i := 10) rfl)) rfl⟩
noncomputable def fX12_hours (Z : Shp) (M : Mem) (a0 : Nat) (x1 : Int32) (x2 : Int32) : Option (Int32 × Mem) := (if (fX12_in (x1.toInt64) (1 : Int64) (100 : Int64)) = 0 then some ((-102 : Int32), M) else (if (fX12_in (x2.toInt64) (0 : Int64) (50 : Int64)) = 0 then some ((-102 : Int32), M) else (if tg Z a0 = (13, 86) then (if ((rI M a0 11) + x1) ≤ (600 : Int32) then (loop (fun s5 : Int32 × Int32 × Mem => (if x1 ≤ s5.2.1 then some (Sum.inr (s5.1, s5.2.2)) else (Option.bind (fX12_goHour Z s5.2.2 a0 x2) (fun v9 => (pu ((s5.1 + v9.1)) (fun z11 => some (Sum.inl (z11, (s5.2.1 + (1 : Int32)), v9.2)))))))) ((0 : Int32), (0 : Int32), M)) else some ((-103 : Int32), M)) else none)))
set_option maxRecDepth 20000 in
theorem kX12_hours (l : Launch) (Z : Shp) (M : Mem) (a0 : Nat) (x1 : Int32) (x2 : Int32) (r : Int32 × Mem) (h : fX12_hours Z M a0 x1 x2 = some r) : Ct l mX12_hours [vr a0, vi x1, vi x2] Z M ((some (vi r.1)), Z, r.2) := by
  refine Ct.of rfl (Nat.le_of_ble_eq_true rfl) (fun X hM => ?_)
  have hX := hM.1
  refine r_top (mk := fun r => ((some (vi r.1)), Z, r.2)) h (fun K hK => ?_)
  unfold fX12_hours
  refine r_iload_n (i := 1) (x := x1) (q := 1) 1 hX dX12_hours_0 rfl rfl rfl ?_
  refine r_i2l (q := 2) hX dX12_hours_1 rfl ?_
  refine r_lconst (v := (1 : Int64)) (q := 3) hX dX12_hours_2 rfl rfl ?_
  refine r_ldc2 (v := (100 : Int64)) (q := 6) hX dX12_hours_3 (gd (hcw7_5 _ (List.mem_of_getElem? (i := 12) rfl)) rfl) rfl ?_
  refine r_cs (As := [vj (x1.toInt64), vj (1 : Int64), vj (100 : Int64)]) (st := []) (r := (some (vi (fX12_in (x1.toInt64) (1 : Int64) (100 : Int64))))) (Z1 := Z) (M1 := M) (k1 := 0) (n1 := 0) (st1 := [vi (fX12_in (x1.toInt64) (1 : Int64) (100 : Int64))]) (q := 9) hX (fun l => kX12_in l Z M (x1.toInt64) (1 : Int64) (100 : Int64)) stX12_in ccX12_in (Or.inl lkX12_194) rfl rfl rfl ⟨Nat.le_of_ble_eq_true rfl, Nat.le_of_ble_eq_true rfl, rfl, rfl, Nat.le_of_ble_eq_true rfl, Nat.le_of_ble_eq_true rfl⟩ (Nat.le_of_ble_eq_true rfl) dX12_hours_6 rfl ?_
  refine r_if_eq (tgt := 24) (q := 12) hX dX12_hours_9 (by decide) rfl (fun hb1 => ?_) (fun hb1 => ?_)
  · refine r_bipush (v := (-102 : Int32)) (q := 26) hX dX12_hours_24 rfl rfl ?_
    refine r_lf (hK _) ?_
    exact r_iret hM rfl (Nat.le_of_ble_eq_true rfl) (Nat.le_of_ble_eq_true rfl) dX12_hours_26
  · refine r_iload_n (i := 2) (x := x2) (q := 13) 2 hX dX12_hours_12 rfl rfl rfl ?_
    refine r_i2l (q := 14) hX dX12_hours_13 rfl ?_
    refine r_lconst (v := (0 : Int64)) (q := 15) hX dX12_hours_14 rfl rfl ?_
    refine r_ldc2 (v := (50 : Int64)) (q := 18) hX dX12_hours_15 (gd (hcw7_2 _ (List.mem_of_getElem? (i := 16) rfl)) rfl) rfl ?_
    refine r_cs (As := [vj (x2.toInt64), vj (0 : Int64), vj (50 : Int64)]) (st := []) (r := (some (vi (fX12_in (x2.toInt64) (0 : Int64) (50 : Int64))))) (Z1 := Z) (M1 := M) (k1 := 0) (n1 := 0) (st1 := [vi (fX12_in (x2.toInt64) (0 : Int64) (50 : Int64))]) (q := 21) hX (fun l => kX12_in l Z M (x2.toInt64) (0 : Int64) (50 : Int64)) stX12_in ccX12_in (Or.inl lkX12_194) rfl rfl rfl ⟨Nat.le_of_ble_eq_true rfl, Nat.le_of_ble_eq_true rfl, rfl, rfl, Nat.le_of_ble_eq_true rfl, Nat.le_of_ble_eq_true rfl⟩ (Nat.le_of_ble_eq_true rfl) dX12_hours_18 rfl ?_
    refine r_if_ne (tgt := 27) (q := 24) hX dX12_hours_21 (by decide) rfl (fun hb2 => ?_) (fun hb2 => ?_)
    · refine r_bipush (v := (-102 : Int32)) (q := 26) hX dX12_hours_24 rfl rfl ?_
      refine r_lf (hK _) ?_
      exact r_iret hM rfl (Nat.le_of_ble_eq_true rfl) (Nat.le_of_ble_eq_true rfl) dX12_hours_26
    · refine r_aload_n (i := 0) (x := a0) (q := 28) 0 hX dX12_hours_27 rfl rfl rfl ?_
      refine r_ck (fun hc3 => ?_)
      refine r_getI (a := a0) (ci := 12) (kf := 11) (q := 31) hX hc3 flX12_212 rfl rfl dX12_hours_28 rfl ?_
      refine r_iload_n (i := 1) (x := x1) (q := 32) 1 hX dX12_hours_31 rfl rfl rfl ?_
      refine r_iadd (q := 33) hX dX12_hours_32 rfl ?_
      refine r_sipush (v := (600 : Int32)) (q := 36) hX dX12_hours_33 rfl rfl ?_
      refine r_icmp_le (tgt := 42) (q := 39) hX dX12_hours_36 (by decide) rfl (fun hb4 => ?_) (fun hb4 => ?_)
      · refine r_iconst (v := (0 : Int32)) (q := 43) hX dX12_hours_42 rfl rfl ?_
        refine r_istore_n (x := (0 : Int32)) (q := 44) 3 [1, 2, 3, 0] (L1 := [(0, vr a0), (1, vi x1), (2, vi x2), (3, vi (0 : Int32))]) hX dX12_hours_43 rfl (Nat.le_of_ble_eq_true rfl) rfl rfl ?_
        refine r_iconst (v := (0 : Int32)) (q := 45) hX dX12_hours_44 rfl rfl ?_
        refine r_istore (x := (0 : Int32)) (q := 47) 4 [1, 2, 3, 4, 0] (L1 := [(0, vr a0), (1, vi x1), (2, vi x2), (3, vi (0 : Int32)), (4, vi (0 : Int32))]) hX dX12_hours_45 (Nat.le_of_ble_eq_true rfl) rfl rfl ?_
        refine r_loop (Hd := fun (s5 : Int32 × Int32 × Mem) (P : Option Res) => Ref mX12_hours X 0 0 Z s5.2.2 47 [(0, vr a0), (1, vi x1), (2, vi x2), (3, vi s5.1), (4, vi s5.2.1)] [] P) (fun _ => r_none) (fun s5 K1 hn6 hx7 => ?_) ((0 : Int32), (0 : Int32), M)
        refine r_iload (i := 4) (x := s5.2.1) (q := 49) 4 hX dX12_hours_47 rfl rfl ?_
        refine r_iload_n (i := 1) (x := x1) (q := 50) 1 hX dX12_hours_49 rfl rfl rfl ?_
        refine r_icmp_ge (tgt := 67) (q := 53) hX dX12_hours_50 (by decide) rfl (fun hb8 => ?_) (fun hb8 => ?_)
        · refine r_iload_n (i := 3) (x := s5.1) (q := 68) 3 hX dX12_hours_67 rfl rfl rfl ?_
          refine r_lf ((hx7 _).trans (hK _)) ?_
          exact r_iret hM rfl (Nat.le_of_ble_eq_true rfl) (Nat.le_of_ble_eq_true rfl) dX12_hours_68
        · refine r_iload_n (i := 3) (x := s5.1) (q := 54) 3 hX dX12_hours_53 rfl rfl rfl ?_
          refine r_aload_n (i := 0) (x := a0) (q := 55) 0 hX dX12_hours_54 rfl rfl rfl ?_
          refine r_iload_n (i := 2) (x := x2) (q := 56) 2 hX dX12_hours_55 rfl rfl rfl ?_
          refine r_bind (fun v9 h10 => ?_)
          refine r_cv (a := a0) (As := [vi x2]) (st := [vi s5.1]) (r := (some (vi v9.1))) (Z1 := Z) (M1 := v9.2) (k1 := 0) (n1 := 0) (st1 := [vi v9.1, vi s5.1]) (q := 59) hX (fun l => kX12_goHour l Z s5.2.2 a0 x2 v9 h10) hc3 ivX12_goHour ccX12_goHour (Or.inl lkX12_305) rfl rfl rfl ⟨Nat.le_of_ble_eq_true rfl, Nat.le_of_ble_eq_true rfl, rfl, rfl, Nat.le_of_ble_eq_true rfl, Nat.le_of_ble_eq_true rfl⟩ (Nat.le_of_ble_eq_true rfl) dX12_hours_56 rfl ?_
          refine r_iadd (q := 60) hX dX12_hours_59 rfl ?_
          refine r_istore_nP (x := (s5.1 + v9.1)) (q := 61) 3 [1, 2, 3, 0, 5] (fun z11 => [(0, vr a0), (1, vi x1), (2, vi x2), (3, vi z11), (4, vi s5.2.1)]) hX dX12_hours_60 rfl (Nat.le_of_ble_eq_true rfl) (fun _ => rfl) rfl (fun z11 => ?_)
          refine r_iinc (x := s5.2.1) (v := (s5.2.1 + (1 : Int32))) (q := 64) 4 4 [1, 2, 3, 4, 0] (L1 := [(0, vr a0), (1, vi x1), (2, vi x2), (3, vi z11), (4, vi (s5.2.1 + (1 : Int32)))]) hX dX12_hours_61 rfl rfl (Nat.le_of_ble_eq_true rfl) rfl rfl ?_
          refine r_goto (q := 47) hX dX12_hours_64 (by decide) ?_
          refine r_l0 ?_
          exact hn6 (z11, (s5.2.1 + (1 : Int32)), v9.2)
      · refine r_bipush (v := (-103 : Int32)) (q := 41) hX dX12_hours_39 rfl rfl ?_
        refine r_lf (hK _) ?_
        exact r_iret hM rfl (Nat.le_of_ble_eq_true rfl) (Nat.le_of_ble_eq_true rfl) dX12_hours_41
theorem flX12_134 : FL RX12 134 12 62 := ⟨Nat.le_of_ble_eq_true rfl, Nat.le_of_ble_eq_true rfl, gd (hcw6_0 _ (List.mem_of_getElem? (i := 17) rfl)) rfl⟩
theorem flX12_137 : FL RX12 137 12 63 := ⟨Nat.le_of_ble_eq_true rfl, Nat.le_of_ble_eq_true rfl, gd (hcw6_0 _ (List.mem_of_getElem? (i := 18) rfl)) rfl⟩
def mX12_init : MD := (yX12_init, cX12_init, 2, none, 1, 12, 58, 2796)
theorem ccX12_init : Cc mX12_init 0 := ⟨gd (hcw1_0 _ (List.mem_of_getElem? (i := 10) rfl)) rfl, gd (hcw5_9 _ (List.mem_of_getElem? (i := 13) rfl)) rfl, by decide +kernel, by decide +kernel, by decide +kernel⟩
theorem imX12_init : Cond.instanceMethod (yN mX12_init) ∈ lw_gd := gd (hcw5_9 _ (List.mem_of_getElem? (i := 12) rfl)) rfl
set_option maxRecDepth 20000 in
def fX12_init (Z : Shp) (M : Mem) (a0 : Nat) : Option (Shp × Mem) := (if tg Z a0 = (13, 86) then (pu2 (Z ++ [(100, ix (8 : Int32))]) (nw M (Z.length + 2)) (fun Z2 M3 => (pu (wR M3 a0 0 (Z.length + 2)) (fun M6 => (pu2 (Z2 ++ [(100, ix (8 : Int32))]) (nw M6 (Z2.length + 2)) (fun Z7 M8 => (pu (wR M8 a0 1 (Z2.length + 2)) (fun M11 => (pu2 (Z7 ++ [(100, ix (8 : Int32))]) (nw M11 (Z7.length + 2)) (fun Z12 M13 => (pu (wR M13 a0 2 (Z7.length + 2)) (fun M16 => (pu2 (Z12 ++ [(100, ix (7 : Int32))]) (nw M16 (Z12.length + 2)) (fun Z17 M18 => (pu (wR M18 a0 4 (Z12.length + 2)) (fun M21 => (pu2 (Z17 ++ [(101, ix (7 : Int32))]) (nw M21 (Z17.length + 2)) (fun Z22 M23 => (pu (wR M23 a0 5 (Z17.length + 2)) (fun M26 => (pu2 (Z22 ++ [(100, ix (7 : Int32))]) (nw M26 (Z22.length + 2)) (fun Z27 M28 => (pu (wR M28 a0 6 (Z22.length + 2)) (fun M31 => (pu2 (Z27 ++ [(101, ix (7 : Int32))]) (nw M31 (Z27.length + 2)) (fun Z32 M33 => (pu (wR M33 a0 7 (Z27.length + 2)) (fun M36 => (pu2 (Z32 ++ [(100, ix (7 : Int32))]) (nw M36 (Z32.length + 2)) (fun Z37 M38 => (pu (wR M38 a0 8 (Z32.length + 2)) (fun M41 => (pu2 (Z37 ++ [(100, ix (7 : Int32))]) (nw M41 (Z37.length + 2)) (fun Z42 M43 => (pu (wR M43 a0 9 (Z37.length + 2)) (fun M46 => (pu2 (Z42 ++ [(100, ix (7 : Int32))]) (nw M46 (Z42.length + 2)) (fun Z47 M48 => (pu (wR M48 a0 10 (Z42.length + 2)) (fun M51 => (pu2 (Z47 ++ [(100, ix (12 : Int32))]) (nw M51 (Z47.length + 2)) (fun Z52 M53 => (pu (wR M53 a0 16 (Z47.length + 2)) (fun M56 => (pu2 (Z52 ++ [(100, ix (12 : Int32))]) (nw M56 (Z52.length + 2)) (fun Z57 M58 => (pu (wR M58 a0 17 (Z52.length + 2)) (fun M61 => (pu2 (Z57 ++ [(100, ix (12 : Int32))]) (nw M61 (Z57.length + 2)) (fun Z62 M63 => (pu (wR M63 a0 18 (Z57.length + 2)) (fun M66 => (pu2 (Z62 ++ [(100, ix (12 : Int32))]) (nw M66 (Z62.length + 2)) (fun Z67 M68 => (pu (wR M68 a0 19 (Z62.length + 2)) (fun M71 => (pu2 (Z67 ++ [(100, ix (12 : Int32))]) (nw M71 (Z67.length + 2)) (fun Z72 M73 => (pu (wR M73 a0 20 (Z67.length + 2)) (fun M76 => (pu2 (Z72 ++ [(100, ix (12 : Int32))]) (nw M76 (Z72.length + 2)) (fun Z77 M78 => (pu (wR M78 a0 22 (Z72.length + 2)) (fun M81 => (pu2 (Z77 ++ [(100, ix (12 : Int32))]) (nw M81 (Z77.length + 2)) (fun Z82 M83 => (pu (wR M83 a0 23 (Z77.length + 2)) (fun M86 => (pu2 (Z82 ++ [(100, ix (12 : Int32))]) (nw M86 (Z82.length + 2)) (fun Z87 M88 => (pu (wR M88 a0 24 (Z82.length + 2)) (fun M91 => (pu2 (Z87 ++ [(100, ix (12 : Int32))]) (nw M91 (Z87.length + 2)) (fun Z92 M93 => (pu (wR M93 a0 25 (Z87.length + 2)) (fun M96 => (pu2 (Z92 ++ [(100, ix (12 : Int32))]) (nw M96 (Z92.length + 2)) (fun Z97 M98 => (pu (wR M98 a0 26 (Z92.length + 2)) (fun M101 => (pu2 (Z97 ++ [(100, ix (12 : Int32))]) (nw M101 (Z97.length + 2)) (fun Z102 M103 => (pu (wR M103 a0 27 (Z97.length + 2)) (fun M106 => (pu2 (Z102 ++ [(100, ix (12 : Int32))]) (nw M106 (Z102.length + 2)) (fun Z107 M108 => (pu (wR M108 a0 28 (Z102.length + 2)) (fun M111 => (pu2 (Z107 ++ [(100, ix (12 : Int32))]) (nw M111 (Z107.length + 2)) (fun Z112 M113 => (pu (wR M113 a0 29 (Z107.length + 2)) (fun M116 => (pu2 (Z112 ++ [(100, ix (12 : Int32))]) (nw M116 (Z112.length + 2)) (fun Z117 M118 => (pu (wR M118 a0 30 (Z112.length + 2)) (fun M121 => (pu2 (Z117 ++ [(101, ix (12 : Int32))]) (nw M121 (Z117.length + 2)) (fun Z122 M123 => (pu (wR M123 a0 31 (Z117.length + 2)) (fun M126 => (pu2 (Z122 ++ [(101, ix (12 : Int32))]) (nw M126 (Z122.length + 2)) (fun Z127 M128 => (pu (wR M128 a0 32 (Z122.length + 2)) (fun M131 => (pu2 (Z127 ++ [(100, ix (60 : Int32))]) (nw M131 (Z127.length + 2)) (fun Z132 M133 => (pu (wR M133 a0 33 (Z127.length + 2)) (fun M136 => (pu2 (Z132 ++ [(100, ix (16 : Int32))]) (nw M136 (Z132.length + 2)) (fun Z137 M138 => (pu (wR M138 a0 36 (Z132.length + 2)) (fun M141 => (pu2 (Z137 ++ [(100, ix (16 : Int32))]) (nw M141 (Z137.length + 2)) (fun Z142 M143 => (pu (wR M143 a0 37 (Z137.length + 2)) (fun M146 => (pu2 (Z142 ++ [(100, ix (16 : Int32))]) (nw M146 (Z142.length + 2)) (fun Z147 M148 => (pu (wR M148 a0 38 (Z142.length + 2)) (fun M151 => (pu2 (Z147 ++ [(100, ix (16 : Int32))]) (nw M151 (Z147.length + 2)) (fun Z152 M153 => (pu (wR M153 a0 39 (Z147.length + 2)) (fun M156 => (pu2 (Z152 ++ [(100, ix (16 : Int32))]) (nw M156 (Z152.length + 2)) (fun Z157 M158 => (pu (wR M158 a0 40 (Z152.length + 2)) (fun M161 => (pu2 (Z157 ++ [(100, ix (960 : Int32))]) (nw M161 (Z157.length + 2)) (fun Z162 M163 => (pu (wR M163 a0 41 (Z157.length + 2)) (fun M166 => (pu2 (Z162 ++ [(100, ix (960 : Int32))]) (nw M166 (Z162.length + 2)) (fun Z167 M168 => (pu (wR M168 a0 42 (Z162.length + 2)) (fun M171 => (pu2 (Z167 ++ [(100, ix (60 : Int32))]) (nw M171 (Z167.length + 2)) (fun Z172 M173 => (pu (wR M173 a0 51 (Z167.length + 2)) (fun M176 => (pu2 (Z172 ++ [(100, ix (60 : Int32))]) (nw M176 (Z172.length + 2)) (fun Z177 M178 => (pu (wR M178 a0 52 (Z172.length + 2)) (fun M181 => (pu2 (Z177 ++ [(100, ix (60 : Int32))]) (nw M181 (Z177.length + 2)) (fun Z182 M183 => (pu (wR M183 a0 54 (Z177.length + 2)) (fun M186 => (pu2 (Z182 ++ [(101, ix (61 : Int32))]) (nw M186 (Z182.length + 2)) (fun Z187 M188 => (pu (wR M188 a0 56 (Z182.length + 2)) (fun M191 => (pu2 (Z187 ++ [(101, ix (8 : Int32))]) (nw M191 (Z187.length + 2)) (fun Z192 M193 => (pu (wR M193 a0 58 (Z187.length + 2)) (fun M196 => (pu2 (Z192 ++ [(100, ix (8 : Int32))]) (nw M196 (Z192.length + 2)) (fun Z197 M198 => (pu (wR M198 a0 59 (Z192.length + 2)) (fun M201 => (pu2 (Z197 ++ [(100, ix (8 : Int32))]) (nw M201 (Z197.length + 2)) (fun Z202 M203 => (pu (wR M203 a0 60 (Z197.length + 2)) (fun M206 => (pu2 (Z202 ++ [(100, ix (8 : Int32))]) (nw M206 (Z202.length + 2)) (fun Z207 M208 => (pu (wR M208 a0 62 (Z202.length + 2)) (fun M211 => (pu2 (Z207 ++ [(100, ix (8 : Int32))]) (nw M211 (Z207.length + 2)) (fun Z212 M213 => (pu (wR M213 a0 63 (Z207.length + 2)) (fun M216 => (pu2 (Z212 ++ [(100, ix (10 : Int32))]) (nw M216 (Z212.length + 2)) (fun Z217 M218 => (pu (wR M218 a0 67 (Z212.length + 2)) (fun M221 => (pu2 (Z217 ++ [(100, ix (10 : Int32))]) (nw M221 (Z217.length + 2)) (fun Z222 M223 => (pu (wR M223 a0 68 (Z217.length + 2)) (fun M226 => (pu2 (Z222 ++ [(100, ix (8 : Int32))]) (nw M226 (Z222.length + 2)) (fun Z227 M228 => (pu (wR M228 a0 69 (Z222.length + 2)) (fun M231 => (pu2 (Z227 ++ [(100, ix (8 : Int32))]) (nw M231 (Z227.length + 2)) (fun Z232 M233 => (pu (wR M233 a0 70 (Z227.length + 2)) (fun M236 => (pu2 (Z232 ++ [(100, ix (4 : Int32))]) (nw M236 (Z232.length + 2)) (fun Z237 M238 => (pu (wR M238 a0 71 (Z232.length + 2)) (fun M241 => (pu2 (Z237 ++ [(101, ix (12 : Int32))]) (nw M241 (Z237.length + 2)) (fun Z242 M243 => (pu (wR M243 a0 72 (Z237.length + 2)) (fun M246 => (pu2 (Z242 ++ [(100, ix (12 : Int32))]) (nw M246 (Z242.length + 2)) (fun Z247 M248 => (pu (wR M248 a0 73 (Z242.length + 2)) (fun M251 => (pu2 (Z247 ++ [(100, ix (6 : Int32))]) (nw M251 (Z247.length + 2)) (fun Z252 M253 => (pu (wR M253 a0 74 (Z247.length + 2)) (fun M256 => (pu2 (Z252 ++ [(100, ix (24 : Int32))]) (nw M256 (Z252.length + 2)) (fun Z257 M258 => (pu (wR M258 a0 76 (Z252.length + 2)) (fun M261 => (pu2 (Z257 ++ [(100, ix (24 : Int32))]) (nw M261 (Z257.length + 2)) (fun Z262 M263 => (pu (wR M263 a0 77 (Z257.length + 2)) (fun M266 => (pu2 (Z262 ++ [(100, ix (24 : Int32))]) (nw M266 (Z262.length + 2)) (fun Z267 M268 => (pu (wR M268 a0 78 (Z262.length + 2)) (fun M271 => (pu2 (Z267 ++ [(100, ix (24 : Int32))]) (nw M271 (Z267.length + 2)) (fun Z272 M273 => (pu (wR M273 a0 79 (Z267.length + 2)) (fun M276 => (pu2 (Z272 ++ [(100, ix (8 : Int32))]) (nw M276 (Z272.length + 2)) (fun Z277 M278 => (pu (wR M278 a0 82 (Z272.length + 2)) (fun M281 => (pu2 (Z277 ++ [(100, ix (8 : Int32))]) (nw M281 (Z277.length + 2)) (fun Z282 M283 => (pu (wR M283 a0 83 (Z277.length + 2)) (fun M286 => (pu2 (Z282 ++ [(100, ix (8 : Int32))]) (nw M286 (Z282.length + 2)) (fun Z287 M288 => (pu (wR M288 a0 84 (Z282.length + 2)) (fun M291 => (if aok Z287 (rR M291 a0 0) 100 (0 : Int32) then (pu (wI M291 (rR M291 a0 0) (ix (0 : Int32)) (1000 : Int32)) (fun M294 => (if aok Z287 (rR M294 a0 1) 100 (0 : Int32) then (pu (wI M294 (rR M294 a0 1) (ix (0 : Int32)) (1000 : Int32)) (fun M296 => (if aok Z287 (rR M296 a0 2) 100 (0 : Int32) then (pu (wI M296 (rR M296 a0 2) (ix (0 : Int32)) (500 : Int32)) (fun M298 => (if aok Z287 (rR M298 a0 69) 100 (0 : Int32) then (pu (wI M298 (rR M298 a0 69) (ix (0 : Int32)) (-1 : Int32)) (fun M300 => (if aok Z287 (rR M300 a0 0) 100 (1 : Int32) then (pu (wI M300 (rR M300 a0 0) (ix (1 : Int32)) (1000 : Int32)) (fun M303 => (if aok Z287 (rR M303 a0 1) 100 (1 : Int32) then (pu (wI M303 (rR M303 a0 1) (ix (1 : Int32)) (1000 : Int32)) (fun M305 => (if aok Z287 (rR M305 a0 2) 100 (1 : Int32) then (pu (wI M305 (rR M305 a0 2) (ix (1 : Int32)) (500 : Int32)) (fun M307 => (if aok Z287 (rR M307 a0 69) 100 (1 : Int32) then (pu (wI M307 (rR M307 a0 69) (ix (1 : Int32)) (-1 : Int32)) (fun M309 => (if aok Z287 (rR M309 a0 0) 100 (2 : Int32) then (pu (wI M309 (rR M309 a0 0) (ix (2 : Int32)) (1000 : Int32)) (fun M312 => (if aok Z287 (rR M312 a0 1) 100 (2 : Int32) then (pu (wI M312 (rR M312 a0 1) (ix (2 : Int32)) (1000 : Int32)) (fun M314 => (if aok Z287 (rR M314 a0 2) 100 (2 : Int32) then (pu (wI M314 (rR M314 a0 2) (ix (2 : Int32)) (500 : Int32)) (fun M316 => (if aok Z287 (rR M316 a0 69) 100 (2 : Int32) then (pu (wI M316 (rR M316 a0 69) (ix (2 : Int32)) (-1 : Int32)) (fun M318 => (if aok Z287 (rR M318 a0 0) 100 (3 : Int32) then (pu (wI M318 (rR M318 a0 0) (ix (3 : Int32)) (1000 : Int32)) (fun M321 => (if aok Z287 (rR M321 a0 1) 100 (3 : Int32) then (pu (wI M321 (rR M321 a0 1) (ix (3 : Int32)) (1000 : Int32)) (fun M323 => (if aok Z287 (rR M323 a0 2) 100 (3 : Int32) then (pu (wI M323 (rR M323 a0 2) (ix (3 : Int32)) (500 : Int32)) (fun M325 => (if aok Z287 (rR M325 a0 69) 100 (3 : Int32) then (pu (wI M325 (rR M325 a0 69) (ix (3 : Int32)) (-1 : Int32)) (fun M327 => (if aok Z287 (rR M327 a0 0) 100 (4 : Int32) then (pu (wI M327 (rR M327 a0 0) (ix (4 : Int32)) (1000 : Int32)) (fun M330 => (if aok Z287 (rR M330 a0 1) 100 (4 : Int32) then (pu (wI M330 (rR M330 a0 1) (ix (4 : Int32)) (1000 : Int32)) (fun M332 => (if aok Z287 (rR M332 a0 2) 100 (4 : Int32) then (pu (wI M332 (rR M332 a0 2) (ix (4 : Int32)) (500 : Int32)) (fun M334 => (if aok Z287 (rR M334 a0 69) 100 (4 : Int32) then (pu (wI M334 (rR M334 a0 69) (ix (4 : Int32)) (-1 : Int32)) (fun M336 => (if aok Z287 (rR M336 a0 0) 100 (5 : Int32) then (pu (wI M336 (rR M336 a0 0) (ix (5 : Int32)) (1000 : Int32)) (fun M339 => (if aok Z287 (rR M339 a0 1) 100 (5 : Int32) then (pu (wI M339 (rR M339 a0 1) (ix (5 : Int32)) (1000 : Int32)) (fun M341 => (if aok Z287 (rR M341 a0 2) 100 (5 : Int32) then (pu (wI M341 (rR M341 a0 2) (ix (5 : Int32)) (500 : Int32)) (fun M343 => (if aok Z287 (rR M343 a0 69) 100 (5 : Int32) then (pu (wI M343 (rR M343 a0 69) (ix (5 : Int32)) (-1 : Int32)) (fun M345 => (if aok Z287 (rR M345 a0 0) 100 (6 : Int32) then (pu (wI M345 (rR M345 a0 0) (ix (6 : Int32)) (1000 : Int32)) (fun M348 => (if aok Z287 (rR M348 a0 1) 100 (6 : Int32) then (pu (wI M348 (rR M348 a0 1) (ix (6 : Int32)) (1000 : Int32)) (fun M350 => (if aok Z287 (rR M350 a0 2) 100 (6 : Int32) then (pu (wI M350 (rR M350 a0 2) (ix (6 : Int32)) (500 : Int32)) (fun M352 => (if aok Z287 (rR M352 a0 69) 100 (6 : Int32) then (pu (wI M352 (rR M352 a0 69) (ix (6 : Int32)) (-1 : Int32)) (fun M354 => (if aok Z287 (rR M354 a0 0) 100 (7 : Int32) then (pu (wI M354 (rR M354 a0 0) (ix (7 : Int32)) (1000 : Int32)) (fun M357 => (if aok Z287 (rR M357 a0 1) 100 (7 : Int32) then (pu (wI M357 (rR M357 a0 1) (ix (7 : Int32)) (1000 : Int32)) (fun M359 => (if aok Z287 (rR M359 a0 2) 100 (7 : Int32) then (pu (wI M359 (rR M359 a0 2) (ix (7 : Int32)) (500 : Int32)) (fun M361 => (if aok Z287 (rR M361 a0 69) 100 (7 : Int32) then (pu (wI M361 (rR M361 a0 69) (ix (7 : Int32)) (-1 : Int32)) (fun M363 => (if aok Z287 (rR M363 a0 4) 100 (0 : Int32) then (pu (wI M363 (rR M363 a0 4) (ix (0 : Int32)) (100 : Int32)) (fun M367 => (if aok Z287 (rR M367 a0 4) 100 (1 : Int32) then (pu (wI M367 (rR M367 a0 4) (ix (1 : Int32)) (100 : Int32)) (fun M370 => (if aok Z287 (rR M370 a0 4) 100 (2 : Int32) then (pu (wI M370 (rR M370 a0 4) (ix (2 : Int32)) (100 : Int32)) (fun M373 => (if aok Z287 (rR M373 a0 4) 100 (3 : Int32) then (pu (wI M373 (rR M373 a0 4) (ix (3 : Int32)) (100 : Int32)) (fun M376 => (if aok Z287 (rR M376 a0 4) 100 (4 : Int32) then (pu (wI M376 (rR M376 a0 4) (ix (4 : Int32)) (100 : Int32)) (fun M379 => (if aok Z287 (rR M379 a0 4) 100 (5 : Int32) then (pu (wI M379 (rR M379 a0 4) (ix (5 : Int32)) (100 : Int32)) (fun M382 => (if aok Z287 (rR M382 a0 4) 100 (6 : Int32) then (pu (wI M382 (rR M382 a0 4) (ix (6 : Int32)) (100 : Int32)) (fun M385 => (pu (wI M385 a0 3 (3 : Int32)) (fun M387 => (pu (wI M387 a0 80 (9 : Int32)) (fun M388 => some (Z287, M388))))))) else none))) else none))) else none))) else none))) else none))) else none))) else none))) else none))) else none))) else none))) else none))) else none))) else none))) else none))) else none))) else none))) else none))) else none))) else none))) else none))) else none))) else none))) else none))) else none))) else none))) else none))) else none))) else none))) else none))) else none))) else none))) else none))) else none))) else none))) else none))) else none))) else none))) else none))) else none))))))))))))))))))))))))))))))))))))))))))))))))))))))))))))))))))))))))))))))))))))))))))))))))))))))))))))))))))))))))))))))))))))))))))))))))))))))))))))))))))))))))))))))))))))))))))))))))))))))))))))))))))))))))))))))))))))))))) else none)
set_option maxRecDepth 20000 in
theorem kX12_init (l : Launch) (Z : Shp) (M : Mem) (a0 : Nat) (r : Shp × Mem) (h : fX12_init Z M a0 = some r) : Ct l mX12_init [vr a0] Z M (none, r.1, r.2) := by
  refine Ct.of rfl (Nat.le_of_ble_eq_true rfl) (fun X hM => ?_)
  have hX := hM.1
  refine r_top (mk := fun r => (none, r.1, r.2)) h (fun K hK => ?_)
  unfold fX12_init
  refine r_aload_n (i := 0) (x := a0) (q := 1) 0 hX dX12_init_0 rfl rfl rfl ?_
  refine r_ck (fun hc1 => ?_)
  refine r_objI (ci := 12) (q := 4) hX (gd (hcw5_9 _ (List.mem_of_getElem? (i := 14) rfl)) rfl) hc1 (Nat.le_of_ble_eq_true rfl) (Nat.le_of_ble_eq_true rfl) dX12_init_1 rfl ?_
  refine r_aload_n (i := 0) (x := a0) (q := 5) 0 hX dX12_init_4 rfl rfl rfl ?_
  refine r_bipush (v := (8 : Int32)) (q := 7) hX dX12_init_5 rfl rfl ?_
  refine r_newa (cap := 8) (k1 := 1) (n1 := 8) (q := 9) hX arP_i ⟨by decide, by decide⟩ rfl (Nat.le_of_ble_eq_true rfl) rfl (Nat.le_of_ble_eq_true rfl) (Nat.le_of_ble_eq_true rfl) dX12_init_7 rfl (fun Z2 M3 hc4 he5 => ?_)
  refine r_putR (a := a0) (ci := 12) (kf := 0) (q := 12) hX (he5 _ _ _ (Nat.succ_pos _) hc1) flX12_7 rfl (Or.inr ⟨rfl, rfl, rfl⟩) nf_arr dX12_init_9 rfl (fun M6 => ?_)
  refine r_aload_n (i := 0) (x := a0) (q := 13) 0 hX dX12_init_12 rfl rfl rfl ?_
  refine r_bipush (v := (8 : Int32)) (q := 15) hX dX12_init_13 rfl rfl ?_
  refine r_newa (cap := 8) (k1 := 2) (n1 := 16) (q := 17) hX arP_i ⟨by decide, by decide⟩ rfl (Nat.le_of_ble_eq_true rfl) rfl (Nat.le_of_ble_eq_true rfl) (Nat.le_of_ble_eq_true rfl) dX12_init_15 rfl (fun Z7 M8 hc9 he10 => ?_)
  refine r_putR (a := a0) (ci := 12) (kf := 1) (q := 20) hX (he10 _ _ _ (Nat.succ_pos _) (he5 _ _ _ (Nat.succ_pos _) hc1)) flX12_13 rfl (Or.inr ⟨rfl, rfl, rfl⟩) nf_arr dX12_init_17 rfl (fun M11 => ?_)
  refine r_aload_n (i := 0) (x := a0) (q := 21) 0 hX dX12_init_20 rfl rfl rfl ?_
  refine r_bipush (v := (8 : Int32)) (q := 23) hX dX12_init_21 rfl rfl ?_
  refine r_newa (cap := 8) (k1 := 3) (n1 := 24) (q := 25) hX arP_i ⟨by decide, by decide⟩ rfl (Nat.le_of_ble_eq_true rfl) rfl (Nat.le_of_ble_eq_true rfl) (Nat.le_of_ble_eq_true rfl) dX12_init_23 rfl (fun Z12 M13 hc14 he15 => ?_)
  refine r_putR (a := a0) (ci := 12) (kf := 2) (q := 28) hX (he15 _ _ _ (Nat.succ_pos _) (he10 _ _ _ (Nat.succ_pos _) (he5 _ _ _ (Nat.succ_pos _) hc1))) flX12_16 rfl (Or.inr ⟨rfl, rfl, rfl⟩) nf_arr dX12_init_25 rfl (fun M16 => ?_)
  refine r_aload_n (i := 0) (x := a0) (q := 29) 0 hX dX12_init_28 rfl rfl rfl ?_
  refine r_bipush (v := (7 : Int32)) (q := 31) hX dX12_init_29 rfl rfl ?_
  refine r_newa (cap := 7) (k1 := 4) (n1 := 31) (q := 33) hX arP_i ⟨by decide, by decide⟩ rfl (Nat.le_of_ble_eq_true rfl) rfl (Nat.le_of_ble_eq_true rfl) (Nat.le_of_ble_eq_true rfl) dX12_init_31 rfl (fun Z17 M18 hc19 he20 => ?_)
  refine r_putR (a := a0) (ci := 12) (kf := 4) (q := 36) hX (he20 _ _ _ (Nat.succ_pos _) (he15 _ _ _ (Nat.succ_pos _) (he10 _ _ _ (Nat.succ_pos _) (he5 _ _ _ (Nat.succ_pos _) hc1)))) flX12_19 rfl (Or.inr ⟨rfl, rfl, rfl⟩) nf_arr dX12_init_33 rfl (fun M21 => ?_)
  refine r_aload_n (i := 0) (x := a0) (q := 37) 0 hX dX12_init_36 rfl rfl rfl ?_
  refine r_bipush (v := (7 : Int32)) (q := 39) hX dX12_init_37 rfl rfl ?_
  refine r_newa (cap := 7) (k1 := 5) (n1 := 38) (q := 41) hX arP_z ⟨by decide, by decide⟩ rfl (Nat.le_of_ble_eq_true rfl) rfl (Nat.le_of_ble_eq_true rfl) (Nat.le_of_ble_eq_true rfl) dX12_init_39 rfl (fun Z22 M23 hc24 he25 => ?_)
  refine r_putR (a := a0) (ci := 12) (kf := 5) (q := 44) hX (he25 _ _ _ (Nat.succ_pos _) (he20 _ _ _ (Nat.succ_pos _) (he15 _ _ _ (Nat.succ_pos _) (he10 _ _ _ (Nat.succ_pos _) (he5 _ _ _ (Nat.succ_pos _) hc1))))) flX12_22 rfl (Or.inr ⟨rfl, rfl, rfl⟩) nf_arr dX12_init_41 rfl (fun M26 => ?_)
  refine r_aload_n (i := 0) (x := a0) (q := 45) 0 hX dX12_init_44 rfl rfl rfl ?_
  refine r_bipush (v := (7 : Int32)) (q := 47) hX dX12_init_45 rfl rfl ?_
  refine r_newa (cap := 7) (k1 := 6) (n1 := 45) (q := 49) hX arP_i ⟨by decide, by decide⟩ rfl (Nat.le_of_ble_eq_true rfl) rfl (Nat.le_of_ble_eq_true rfl) (Nat.le_of_ble_eq_true rfl) dX12_init_47 rfl (fun Z27 M28 hc29 he30 => ?_)
  refine r_putR (a := a0) (ci := 12) (kf := 6) (q := 52) hX (he30 _ _ _ (Nat.succ_pos _) (he25 _ _ _ (Nat.succ_pos _) (he20 _ _ _ (Nat.succ_pos _) (he15 _ _ _ (Nat.succ_pos _) (he10 _ _ _ (Nat.succ_pos _) (he5 _ _ _ (Nat.succ_pos _) hc1)))))) flX12_26 rfl (Or.inr ⟨rfl, rfl, rfl⟩) nf_arr dX12_init_49 rfl (fun M31 => ?_)
  refine r_aload_n (i := 0) (x := a0) (q := 53) 0 hX dX12_init_52 rfl rfl rfl ?_
  refine r_bipush (v := (7 : Int32)) (q := 55) hX dX12_init_53 rfl rfl ?_
  refine r_newa (cap := 7) (k1 := 7) (n1 := 52) (q := 57) hX arP_z ⟨by decide, by decide⟩ rfl (Nat.le_of_ble_eq_true rfl) rfl (Nat.le_of_ble_eq_true rfl) (Nat.le_of_ble_eq_true rfl) dX12_init_55 rfl (fun Z32 M33 hc34 he35 => ?_)
  refine r_putR (a := a0) (ci := 12) (kf := 7) (q := 60) hX (he35 _ _ _ (Nat.succ_pos _) (he30 _ _ _ (Nat.succ_pos _) (he25 _ _ _ (Nat.succ_pos _) (he20 _ _ _ (Nat.succ_pos _) (he15 _ _ _ (Nat.succ_pos _) (he10 _ _ _ (Nat.succ_pos _) (he5 _ _ _ (Nat.succ_pos _) hc1))))))) flX12_29 rfl (Or.inr ⟨rfl, rfl, rfl⟩) nf_arr dX12_init_57 rfl (fun M36 => ?_)
  refine r_aload_n (i := 0) (x := a0) (q := 61) 0 hX dX12_init_60 rfl rfl rfl ?_
  refine r_bipush (v := (7 : Int32)) (q := 63) hX dX12_init_61 rfl rfl ?_
  refine r_newa (cap := 7) (k1 := 8) (n1 := 59) (q := 65) hX arP_i ⟨by decide, by decide⟩ rfl (Nat.le_of_ble_eq_true rfl) rfl (Nat.le_of_ble_eq_true rfl) (Nat.le_of_ble_eq_true rfl) dX12_init_63 rfl (fun Z37 M38 hc39 he40 => ?_)
  refine r_putR (a := a0) (ci := 12) (kf := 8) (q := 68) hX (he40 _ _ _ (Nat.succ_pos _) (he35 _ _ _ (Nat.succ_pos _) (he30 _ _ _ (Nat.succ_pos _) (he25 _ _ _ (Nat.succ_pos _) (he20 _ _ _ (Nat.succ_pos _) (he15 _ _ _ (Nat.succ_pos _) (he10 _ _ _ (Nat.succ_pos _) (he5 _ _ _ (Nat.succ_pos _) hc1)))))))) flX12_32 rfl (Or.inr ⟨rfl, rfl, rfl⟩) nf_arr dX12_init_65 rfl (fun M41 => ?_)
  refine r_aload_n (i := 0) (x := a0) (q := 69) 0 hX dX12_init_68 rfl rfl rfl ?_
  refine r_bipush (v := (7 : Int32)) (q := 71) hX dX12_init_69 rfl rfl ?_
  refine r_newa (cap := 7) (k1 := 9) (n1 := 66) (q := 73) hX arP_i ⟨by decide, by decide⟩ rfl (Nat.le_of_ble_eq_true rfl) rfl (Nat.le_of_ble_eq_true rfl) (Nat.le_of_ble_eq_true rfl) dX12_init_71 rfl (fun Z42 M43 hc44 he45 => ?_)
  refine r_putR (a := a0) (ci := 12) (kf := 9) (q := 76) hX (he45 _ _ _ (Nat.succ_pos _) (he40 _ _ _ (Nat.succ_pos _) (he35 _ _ _ (Nat.succ_pos _) (he30 _ _ _ (Nat.succ_pos _) (he25 _ _ _ (Nat.succ_pos _) (he20 _ _ _ (Nat.succ_pos _) (he15 _ _ _ (Nat.succ_pos _) (he10 _ _ _ (Nat.succ_pos _) (he5 _ _ _ (Nat.succ_pos _) hc1))))))))) flX12_35 rfl (Or.inr ⟨rfl, rfl, rfl⟩) nf_arr dX12_init_73 rfl (fun M46 => ?_)
  refine r_aload_n (i := 0) (x := a0) (q := 77) 0 hX dX12_init_76 rfl rfl rfl ?_
  refine r_bipush (v := (7 : Int32)) (q := 79) hX dX12_init_77 rfl rfl ?_
  refine r_newa (cap := 7) (k1 := 10) (n1 := 73) (q := 81) hX arP_i ⟨by decide, by decide⟩ rfl (Nat.le_of_ble_eq_true rfl) rfl (Nat.le_of_ble_eq_true rfl) (Nat.le_of_ble_eq_true rfl) dX12_init_79 rfl (fun Z47 M48 hc49 he50 => ?_)
  refine r_putR (a := a0) (ci := 12) (kf := 10) (q := 84) hX (he50 _ _ _ (Nat.succ_pos _) (he45 _ _ _ (Nat.succ_pos _) (he40 _ _ _ (Nat.succ_pos _) (he35 _ _ _ (Nat.succ_pos _) (he30 _ _ _ (Nat.succ_pos _) (he25 _ _ _ (Nat.succ_pos _) (he20 _ _ _ (Nat.succ_pos _) (he15 _ _ _ (Nat.succ_pos _) (he10 _ _ _ (Nat.succ_pos _) (he5 _ _ _ (Nat.succ_pos _) hc1)))))))))) flX12_38 rfl (Or.inr ⟨rfl, rfl, rfl⟩) nf_arr dX12_init_81 rfl (fun M51 => ?_)
  refine r_aload_n (i := 0) (x := a0) (q := 85) 0 hX dX12_init_84 rfl rfl rfl ?_
  refine r_bipush (v := (12 : Int32)) (q := 87) hX dX12_init_85 rfl rfl ?_
  refine r_newa (cap := 12) (k1 := 11) (n1 := 85) (q := 89) hX arP_i ⟨by decide, by decide⟩ rfl (Nat.le_of_ble_eq_true rfl) rfl (Nat.le_of_ble_eq_true rfl) (Nat.le_of_ble_eq_true rfl) dX12_init_87 rfl (fun Z52 M53 hc54 he55 => ?_)
  refine r_putR (a := a0) (ci := 12) (kf := 16) (q := 92) hX (he55 _ _ _ (Nat.succ_pos _) (he50 _ _ _ (Nat.succ_pos _) (he45 _ _ _ (Nat.succ_pos _) (he40 _ _ _ (Nat.succ_pos _) (he35 _ _ _ (Nat.succ_pos _) (he30 _ _ _ (Nat.succ_pos _) (he25 _ _ _ (Nat.succ_pos _) (he20 _ _ _ (Nat.succ_pos _) (he15 _ _ _ (Nat.succ_pos _) (he10 _ _ _ (Nat.succ_pos _) (he5 _ _ _ (Nat.succ_pos _) hc1))))))))))) flX12_41 rfl (Or.inr ⟨rfl, rfl, rfl⟩) nf_arr dX12_init_89 rfl (fun M56 => ?_)
  refine r_aload_n (i := 0) (x := a0) (q := 93) 0 hX dX12_init_92 rfl rfl rfl ?_
  refine r_bipush (v := (12 : Int32)) (q := 95) hX dX12_init_93 rfl rfl ?_
  refine r_newa (cap := 12) (k1 := 12) (n1 := 97) (q := 97) hX arP_i ⟨by decide, by decide⟩ rfl (Nat.le_of_ble_eq_true rfl) rfl (Nat.le_of_ble_eq_true rfl) (Nat.le_of_ble_eq_true rfl) dX12_init_95 rfl (fun Z57 M58 hc59 he60 => ?_)
  refine r_putR (a := a0) (ci := 12) (kf := 17) (q := 100) hX (he60 _ _ _ (Nat.succ_pos _) (he55 _ _ _ (Nat.succ_pos _) (he50 _ _ _ (Nat.succ_pos _) (he45 _ _ _ (Nat.succ_pos _) (he40 _ _ _ (Nat.succ_pos _) (he35 _ _ _ (Nat.succ_pos _) (he30 _ _ _ (Nat.succ_pos _) (he25 _ _ _ (Nat.succ_pos _) (he20 _ _ _ (Nat.succ_pos _) (he15 _ _ _ (Nat.succ_pos _) (he10 _ _ _ (Nat.succ_pos _) (he5 _ _ _ (Nat.succ_pos _) hc1)))))))))))) flX12_44 rfl (Or.inr ⟨rfl, rfl, rfl⟩) nf_arr dX12_init_97 rfl (fun M61 => ?_)
  refine r_aload_n (i := 0) (x := a0) (q := 101) 0 hX dX12_init_100 rfl rfl rfl ?_
  refine r_bipush (v := (12 : Int32)) (q := 103) hX dX12_init_101 rfl rfl ?_
  refine r_newa (cap := 12) (k1 := 13) (n1 := 109) (q := 105) hX arP_i ⟨by decide, by decide⟩ rfl (Nat.le_of_ble_eq_true rfl) rfl (Nat.le_of_ble_eq_true rfl) (Nat.le_of_ble_eq_true rfl) dX12_init_103 rfl (fun Z62 M63 hc64 he65 => ?_)
  refine r_putR (a := a0) (ci := 12) (kf := 18) (q := 108) hX (he65 _ _ _ (Nat.succ_pos _) (he60 _ _ _ (Nat.succ_pos _) (he55 _ _ _ (Nat.succ_pos _) (he50 _ _ _ (Nat.succ_pos _) (he45 _ _ _ (Nat.succ_pos _) (he40 _ _ _ (Nat.succ_pos _) (he35 _ _ _ (Nat.succ_pos _) (he30 _ _ _ (Nat.succ_pos _) (he25 _ _ _ (Nat.succ_pos _) (he20 _ _ _ (Nat.succ_pos _) (he15 _ _ _ (Nat.succ_pos _) (he10 _ _ _ (Nat.succ_pos _) (he5 _ _ _ (Nat.succ_pos _) hc1))))))))))))) flX12_47 rfl (Or.inr ⟨rfl, rfl, rfl⟩) nf_arr dX12_init_105 rfl (fun M66 => ?_)
  refine r_aload_n (i := 0) (x := a0) (q := 109) 0 hX dX12_init_108 rfl rfl rfl ?_
  refine r_bipush (v := (12 : Int32)) (q := 111) hX dX12_init_109 rfl rfl ?_
  refine r_newa (cap := 12) (k1 := 14) (n1 := 121) (q := 113) hX arP_i ⟨by decide, by decide⟩ rfl (Nat.le_of_ble_eq_true rfl) rfl (Nat.le_of_ble_eq_true rfl) (Nat.le_of_ble_eq_true rfl) dX12_init_111 rfl (fun Z67 M68 hc69 he70 => ?_)
  refine r_putR (a := a0) (ci := 12) (kf := 19) (q := 116) hX (he70 _ _ _ (Nat.succ_pos _) (he65 _ _ _ (Nat.succ_pos _) (he60 _ _ _ (Nat.succ_pos _) (he55 _ _ _ (Nat.succ_pos _) (he50 _ _ _ (Nat.succ_pos _) (he45 _ _ _ (Nat.succ_pos _) (he40 _ _ _ (Nat.succ_pos _) (he35 _ _ _ (Nat.succ_pos _) (he30 _ _ _ (Nat.succ_pos _) (he25 _ _ _ (Nat.succ_pos _) (he20 _ _ _ (Nat.succ_pos _) (he15 _ _ _ (Nat.succ_pos _) (he10 _ _ _ (Nat.succ_pos _) (he5 _ _ _ (Nat.succ_pos _) hc1)))))))))))))) flX12_50 rfl (Or.inr ⟨rfl, rfl, rfl⟩) nf_arr dX12_init_113 rfl (fun M71 => ?_)
  refine r_aload_n (i := 0) (x := a0) (q := 117) 0 hX dX12_init_116 rfl rfl rfl ?_
  refine r_bipush (v := (12 : Int32)) (q := 119) hX dX12_init_117 rfl rfl ?_
  refine r_newa (cap := 12) (k1 := 15) (n1 := 133) (q := 121) hX arP_i ⟨by decide, by decide⟩ rfl (Nat.le_of_ble_eq_true rfl) rfl (Nat.le_of_ble_eq_true rfl) (Nat.le_of_ble_eq_true rfl) dX12_init_119 rfl (fun Z72 M73 hc74 he75 => ?_)
  refine r_putR (a := a0) (ci := 12) (kf := 20) (q := 124) hX (he75 _ _ _ (Nat.succ_pos _) (he70 _ _ _ (Nat.succ_pos _) (he65 _ _ _ (Nat.succ_pos _) (he60 _ _ _ (Nat.succ_pos _) (he55 _ _ _ (Nat.succ_pos _) (he50 _ _ _ (Nat.succ_pos _) (he45 _ _ _ (Nat.succ_pos _) (he40 _ _ _ (Nat.succ_pos _) (he35 _ _ _ (Nat.succ_pos _) (he30 _ _ _ (Nat.succ_pos _) (he25 _ _ _ (Nat.succ_pos _) (he20 _ _ _ (Nat.succ_pos _) (he15 _ _ _ (Nat.succ_pos _) (he10 _ _ _ (Nat.succ_pos _) (he5 _ _ _ (Nat.succ_pos _) hc1))))))))))))))) flX12_53 rfl (Or.inr ⟨rfl, rfl, rfl⟩) nf_arr dX12_init_121 rfl (fun M76 => ?_)
  refine r_aload_n (i := 0) (x := a0) (q := 125) 0 hX dX12_init_124 rfl rfl rfl ?_
  refine r_bipush (v := (12 : Int32)) (q := 127) hX dX12_init_125 rfl rfl ?_
  refine r_newa (cap := 12) (k1 := 16) (n1 := 145) (q := 129) hX arP_i ⟨by decide, by decide⟩ rfl (Nat.le_of_ble_eq_true rfl) rfl (Nat.le_of_ble_eq_true rfl) (Nat.le_of_ble_eq_true rfl) dX12_init_127 rfl (fun Z77 M78 hc79 he80 => ?_)
  refine r_putR (a := a0) (ci := 12) (kf := 22) (q := 132) hX (he80 _ _ _ (Nat.succ_pos _) (he75 _ _ _ (Nat.succ_pos _) (he70 _ _ _ (Nat.succ_pos _) (he65 _ _ _ (Nat.succ_pos _) (he60 _ _ _ (Nat.succ_pos _) (he55 _ _ _ (Nat.succ_pos _) (he50 _ _ _ (Nat.succ_pos _) (he45 _ _ _ (Nat.succ_pos _) (he40 _ _ _ (Nat.succ_pos _) (he35 _ _ _ (Nat.succ_pos _) (he30 _ _ _ (Nat.succ_pos _) (he25 _ _ _ (Nat.succ_pos _) (he20 _ _ _ (Nat.succ_pos _) (he15 _ _ _ (Nat.succ_pos _) (he10 _ _ _ (Nat.succ_pos _) (he5 _ _ _ (Nat.succ_pos _) hc1)))))))))))))))) flX12_56 rfl (Or.inr ⟨rfl, rfl, rfl⟩) nf_arr dX12_init_129 rfl (fun M81 => ?_)
  refine r_aload_n (i := 0) (x := a0) (q := 133) 0 hX dX12_init_132 rfl rfl rfl ?_
  refine r_bipush (v := (12 : Int32)) (q := 135) hX dX12_init_133 rfl rfl ?_
  refine r_newa (cap := 12) (k1 := 17) (n1 := 157) (q := 137) hX arP_i ⟨by decide, by decide⟩ rfl (Nat.le_of_ble_eq_true rfl) rfl (Nat.le_of_ble_eq_true rfl) (Nat.le_of_ble_eq_true rfl) dX12_init_135 rfl (fun Z82 M83 hc84 he85 => ?_)
  refine r_putR (a := a0) (ci := 12) (kf := 23) (q := 140) hX (he85 _ _ _ (Nat.succ_pos _) (he80 _ _ _ (Nat.succ_pos _) (he75 _ _ _ (Nat.succ_pos _) (he70 _ _ _ (Nat.succ_pos _) (he65 _ _ _ (Nat.succ_pos _) (he60 _ _ _ (Nat.succ_pos _) (he55 _ _ _ (Nat.succ_pos _) (he50 _ _ _ (Nat.succ_pos _) (he45 _ _ _ (Nat.succ_pos _) (he40 _ _ _ (Nat.succ_pos _) (he35 _ _ _ (Nat.succ_pos _) (he30 _ _ _ (Nat.succ_pos _) (he25 _ _ _ (Nat.succ_pos _) (he20 _ _ _ (Nat.succ_pos _) (he15 _ _ _ (Nat.succ_pos _) (he10 _ _ _ (Nat.succ_pos _) (he5 _ _ _ (Nat.succ_pos _) hc1))))))))))))))))) flX12_59 rfl (Or.inr ⟨rfl, rfl, rfl⟩) nf_arr dX12_init_137 rfl (fun M86 => ?_)
  refine r_aload_n (i := 0) (x := a0) (q := 141) 0 hX dX12_init_140 rfl rfl rfl ?_
  refine r_bipush (v := (12 : Int32)) (q := 143) hX dX12_init_141 rfl rfl ?_
  refine r_newa (cap := 12) (k1 := 18) (n1 := 169) (q := 145) hX arP_i ⟨by decide, by decide⟩ rfl (Nat.le_of_ble_eq_true rfl) rfl (Nat.le_of_ble_eq_true rfl) (Nat.le_of_ble_eq_true rfl) dX12_init_143 rfl (fun Z87 M88 hc89 he90 => ?_)
  refine r_putR (a := a0) (ci := 12) (kf := 24) (q := 148) hX (he90 _ _ _ (Nat.succ_pos _) (he85 _ _ _ (Nat.succ_pos _) (he80 _ _ _ (Nat.succ_pos _) (he75 _ _ _ (Nat.succ_pos _) (he70 _ _ _ (Nat.succ_pos _) (he65 _ _ _ (Nat.succ_pos _) (he60 _ _ _ (Nat.succ_pos _) (he55 _ _ _ (Nat.succ_pos _) (he50 _ _ _ (Nat.succ_pos _) (he45 _ _ _ (Nat.succ_pos _) (he40 _ _ _ (Nat.succ_pos _) (he35 _ _ _ (Nat.succ_pos _) (he30 _ _ _ (Nat.succ_pos _) (he25 _ _ _ (Nat.succ_pos _) (he20 _ _ _ (Nat.succ_pos _) (he15 _ _ _ (Nat.succ_pos _) (he10 _ _ _ (Nat.succ_pos _) (he5 _ _ _ (Nat.succ_pos _) hc1)))))))))))))))))) flX12_62 rfl (Or.inr ⟨rfl, rfl, rfl⟩) nf_arr dX12_init_145 rfl (fun M91 => ?_)
  refine r_aload_n (i := 0) (x := a0) (q := 149) 0 hX dX12_init_148 rfl rfl rfl ?_
  refine r_bipush (v := (12 : Int32)) (q := 151) hX dX12_init_149 rfl rfl ?_
  refine r_newa (cap := 12) (k1 := 19) (n1 := 181) (q := 153) hX arP_i ⟨by decide, by decide⟩ rfl (Nat.le_of_ble_eq_true rfl) rfl (Nat.le_of_ble_eq_true rfl) (Nat.le_of_ble_eq_true rfl) dX12_init_151 rfl (fun Z92 M93 hc94 he95 => ?_)
  refine r_putR (a := a0) (ci := 12) (kf := 25) (q := 156) hX (he95 _ _ _ (Nat.succ_pos _) (he90 _ _ _ (Nat.succ_pos _) (he85 _ _ _ (Nat.succ_pos _) (he80 _ _ _ (Nat.succ_pos _) (he75 _ _ _ (Nat.succ_pos _) (he70 _ _ _ (Nat.succ_pos _) (he65 _ _ _ (Nat.succ_pos _) (he60 _ _ _ (Nat.succ_pos _) (he55 _ _ _ (Nat.succ_pos _) (he50 _ _ _ (Nat.succ_pos _) (he45 _ _ _ (Nat.succ_pos _) (he40 _ _ _ (Nat.succ_pos _) (he35 _ _ _ (Nat.succ_pos _) (he30 _ _ _ (Nat.succ_pos _) (he25 _ _ _ (Nat.succ_pos _) (he20 _ _ _ (Nat.succ_pos _) (he15 _ _ _ (Nat.succ_pos _) (he10 _ _ _ (Nat.succ_pos _) (he5 _ _ _ (Nat.succ_pos _) hc1))))))))))))))))))) flX12_65 rfl (Or.inr ⟨rfl, rfl, rfl⟩) nf_arr dX12_init_153 rfl (fun M96 => ?_)
  refine r_aload_n (i := 0) (x := a0) (q := 157) 0 hX dX12_init_156 rfl rfl rfl ?_
  refine r_bipush (v := (12 : Int32)) (q := 159) hX dX12_init_157 rfl rfl ?_
  refine r_newa (cap := 12) (k1 := 20) (n1 := 193) (q := 161) hX arP_i ⟨by decide, by decide⟩ rfl (Nat.le_of_ble_eq_true rfl) rfl (Nat.le_of_ble_eq_true rfl) (Nat.le_of_ble_eq_true rfl) dX12_init_159 rfl (fun Z97 M98 hc99 he100 => ?_)
  refine r_putR (a := a0) (ci := 12) (kf := 26) (q := 164) hX (he100 _ _ _ (Nat.succ_pos _) (he95 _ _ _ (Nat.succ_pos _) (he90 _ _ _ (Nat.succ_pos _) (he85 _ _ _ (Nat.succ_pos _) (he80 _ _ _ (Nat.succ_pos _) (he75 _ _ _ (Nat.succ_pos _) (he70 _ _ _ (Nat.succ_pos _) (he65 _ _ _ (Nat.succ_pos _) (he60 _ _ _ (Nat.succ_pos _) (he55 _ _ _ (Nat.succ_pos _) (he50 _ _ _ (Nat.succ_pos _) (he45 _ _ _ (Nat.succ_pos _) (he40 _ _ _ (Nat.succ_pos _) (he35 _ _ _ (Nat.succ_pos _) (he30 _ _ _ (Nat.succ_pos _) (he25 _ _ _ (Nat.succ_pos _) (he20 _ _ _ (Nat.succ_pos _) (he15 _ _ _ (Nat.succ_pos _) (he10 _ _ _ (Nat.succ_pos _) (he5 _ _ _ (Nat.succ_pos _) hc1)))))))))))))))))))) flX12_68 rfl (Or.inr ⟨rfl, rfl, rfl⟩) nf_arr dX12_init_161 rfl (fun M101 => ?_)
  refine r_aload_n (i := 0) (x := a0) (q := 165) 0 hX dX12_init_164 rfl rfl rfl ?_
  refine r_bipush (v := (12 : Int32)) (q := 167) hX dX12_init_165 rfl rfl ?_
  refine r_newa (cap := 12) (k1 := 21) (n1 := 205) (q := 169) hX arP_i ⟨by decide, by decide⟩ rfl (Nat.le_of_ble_eq_true rfl) rfl (Nat.le_of_ble_eq_true rfl) (Nat.le_of_ble_eq_true rfl) dX12_init_167 rfl (fun Z102 M103 hc104 he105 => ?_)
  refine r_putR (a := a0) (ci := 12) (kf := 27) (q := 172) hX (he105 _ _ _ (Nat.succ_pos _) (he100 _ _ _ (Nat.succ_pos _) (he95 _ _ _ (Nat.succ_pos _) (he90 _ _ _ (Nat.succ_pos _) (he85 _ _ _ (Nat.succ_pos _) (he80 _ _ _ (Nat.succ_pos _) (he75 _ _ _ (Nat.succ_pos _) (he70 _ _ _ (Nat.succ_pos _) (he65 _ _ _ (Nat.succ_pos _) (he60 _ _ _ (Nat.succ_pos _) (he55 _ _ _ (Nat.succ_pos _) (he50 _ _ _ (Nat.succ_pos _) (he45 _ _ _ (Nat.succ_pos _) (he40 _ _ _ (Nat.succ_pos _) (he35 _ _ _ (Nat.succ_pos _) (he30 _ _ _ (Nat.succ_pos _) (he25 _ _ _ (Nat.succ_pos _) (he20 _ _ _ (Nat.succ_pos _) (he15 _ _ _ (Nat.succ_pos _) (he10 _ _ _ (Nat.succ_pos _) (he5 _ _ _ (Nat.succ_pos _) hc1))))))))))))))))))))) flX12_71 rfl (Or.inr ⟨rfl, rfl, rfl⟩) nf_arr dX12_init_169 rfl (fun M106 => ?_)
  refine r_aload_n (i := 0) (x := a0) (q := 173) 0 hX dX12_init_172 rfl rfl rfl ?_
  refine r_bipush (v := (12 : Int32)) (q := 175) hX dX12_init_173 rfl rfl ?_
  refine r_newa (cap := 12) (k1 := 22) (n1 := 217) (q := 177) hX arP_i ⟨by decide, by decide⟩ rfl (Nat.le_of_ble_eq_true rfl) rfl (Nat.le_of_ble_eq_true rfl) (Nat.le_of_ble_eq_true rfl) dX12_init_175 rfl (fun Z107 M108 hc109 he110 => ?_)
  refine r_putR (a := a0) (ci := 12) (kf := 28) (q := 180) hX (he110 _ _ _ (Nat.succ_pos _) (he105 _ _ _ (Nat.succ_pos _) (he100 _ _ _ (Nat.succ_pos _) (he95 _ _ _ (Nat.succ_pos _) (he90 _ _ _ (Nat.succ_pos _) (he85 _ _ _ (Nat.succ_pos _) (he80 _ _ _ (Nat.succ_pos _) (he75 _ _ _ (Nat.succ_pos _) (he70 _ _ _ (Nat.succ_pos _) (he65 _ _ _ (Nat.succ_pos _) (he60 _ _ _ (Nat.succ_pos _) (he55 _ _ _ (Nat.succ_pos _) (he50 _ _ _ (Nat.succ_pos _) (he45 _ _ _ (Nat.succ_pos _) (he40 _ _ _ (Nat.succ_pos _) (he35 _ _ _ (Nat.succ_pos _) (he30 _ _ _ (Nat.succ_pos _) (he25 _ _ _ (Nat.succ_pos _) (he20 _ _ _ (Nat.succ_pos _) (he15 _ _ _ (Nat.succ_pos _) (he10 _ _ _ (Nat.succ_pos _) (he5 _ _ _ (Nat.succ_pos _) hc1)))))))))))))))))))))) flX12_74 rfl (Or.inr ⟨rfl, rfl, rfl⟩) nf_arr dX12_init_177 rfl (fun M111 => ?_)
  refine r_aload_n (i := 0) (x := a0) (q := 181) 0 hX dX12_init_180 rfl rfl rfl ?_
  refine r_bipush (v := (12 : Int32)) (q := 183) hX dX12_init_181 rfl rfl ?_
  refine r_newa (cap := 12) (k1 := 23) (n1 := 229) (q := 185) hX arP_i ⟨by decide, by decide⟩ rfl (Nat.le_of_ble_eq_true rfl) rfl (Nat.le_of_ble_eq_true rfl) (Nat.le_of_ble_eq_true rfl) dX12_init_183 rfl (fun Z112 M113 hc114 he115 => ?_)
  refine r_putR (a := a0) (ci := 12) (kf := 29) (q := 188) hX (he115 _ _ _ (Nat.succ_pos _) (he110 _ _ _ (Nat.succ_pos _) (he105 _ _ _ (Nat.succ_pos _) (he100 _ _ _ (Nat.succ_pos _) (he95 _ _ _ (Nat.succ_pos _) (he90 _ _ _ (Nat.succ_pos _) (he85 _ _ _ (Nat.succ_pos _) (he80 _ _ _ (Nat.succ_pos _) (he75 _ _ _ (Nat.succ_pos _) (he70 _ _ _ (Nat.succ_pos _) (he65 _ _ _ (Nat.succ_pos _) (he60 _ _ _ (Nat.succ_pos _) (he55 _ _ _ (Nat.succ_pos _) (he50 _ _ _ (Nat.succ_pos _) (he45 _ _ _ (Nat.succ_pos _) (he40 _ _ _ (Nat.succ_pos _) (he35 _ _ _ (Nat.succ_pos _) (he30 _ _ _ (Nat.succ_pos _) (he25 _ _ _ (Nat.succ_pos _) (he20 _ _ _ (Nat.succ_pos _) (he15 _ _ _ (Nat.succ_pos _) (he10 _ _ _ (Nat.succ_pos _) (he5 _ _ _ (Nat.succ_pos _) hc1))))))))))))))))))))))) flX12_77 rfl (Or.inr ⟨rfl, rfl, rfl⟩) nf_arr dX12_init_185 rfl (fun M116 => ?_)
  refine r_aload_n (i := 0) (x := a0) (q := 189) 0 hX dX12_init_188 rfl rfl rfl ?_
  refine r_bipush (v := (12 : Int32)) (q := 191) hX dX12_init_189 rfl rfl ?_
  refine r_newa (cap := 12) (k1 := 24) (n1 := 241) (q := 193) hX arP_i ⟨by decide, by decide⟩ rfl (Nat.le_of_ble_eq_true rfl) rfl (Nat.le_of_ble_eq_true rfl) (Nat.le_of_ble_eq_true rfl) dX12_init_191 rfl (fun Z117 M118 hc119 he120 => ?_)
  refine r_putR (a := a0) (ci := 12) (kf := 30) (q := 196) hX (he120 _ _ _ (Nat.succ_pos _) (he115 _ _ _ (Nat.succ_pos _) (he110 _ _ _ (Nat.succ_pos _) (he105 _ _ _ (Nat.succ_pos _) (he100 _ _ _ (Nat.succ_pos _) (he95 _ _ _ (Nat.succ_pos _) (he90 _ _ _ (Nat.succ_pos _) (he85 _ _ _ (Nat.succ_pos _) (he80 _ _ _ (Nat.succ_pos _) (he75 _ _ _ (Nat.succ_pos _) (he70 _ _ _ (Nat.succ_pos _) (he65 _ _ _ (Nat.succ_pos _) (he60 _ _ _ (Nat.succ_pos _) (he55 _ _ _ (Nat.succ_pos _) (he50 _ _ _ (Nat.succ_pos _) (he45 _ _ _ (Nat.succ_pos _) (he40 _ _ _ (Nat.succ_pos _) (he35 _ _ _ (Nat.succ_pos _) (he30 _ _ _ (Nat.succ_pos _) (he25 _ _ _ (Nat.succ_pos _) (he20 _ _ _ (Nat.succ_pos _) (he15 _ _ _ (Nat.succ_pos _) (he10 _ _ _ (Nat.succ_pos _) (he5 _ _ _ (Nat.succ_pos _) hc1)))))))))))))))))))))))) flX12_80 rfl (Or.inr ⟨rfl, rfl, rfl⟩) nf_arr dX12_init_193 rfl (fun M121 => ?_)
  refine r_aload_n (i := 0) (x := a0) (q := 197) 0 hX dX12_init_196 rfl rfl rfl ?_
  refine r_bipush (v := (12 : Int32)) (q := 199) hX dX12_init_197 rfl rfl ?_
  refine r_newa (cap := 12) (k1 := 25) (n1 := 253) (q := 201) hX arP_z ⟨by decide, by decide⟩ rfl (Nat.le_of_ble_eq_true rfl) rfl (Nat.le_of_ble_eq_true rfl) (Nat.le_of_ble_eq_true rfl) dX12_init_199 rfl (fun Z122 M123 hc124 he125 => ?_)
  refine r_putR (a := a0) (ci := 12) (kf := 31) (q := 204) hX (he125 _ _ _ (Nat.succ_pos _) (he120 _ _ _ (Nat.succ_pos _) (he115 _ _ _ (Nat.succ_pos _) (he110 _ _ _ (Nat.succ_pos _) (he105 _ _ _ (Nat.succ_pos _) (he100 _ _ _ (Nat.succ_pos _) (he95 _ _ _ (Nat.succ_pos _) (he90 _ _ _ (Nat.succ_pos _) (he85 _ _ _ (Nat.succ_pos _) (he80 _ _ _ (Nat.succ_pos _) (he75 _ _ _ (Nat.succ_pos _) (he70 _ _ _ (Nat.succ_pos _) (he65 _ _ _ (Nat.succ_pos _) (he60 _ _ _ (Nat.succ_pos _) (he55 _ _ _ (Nat.succ_pos _) (he50 _ _ _ (Nat.succ_pos _) (he45 _ _ _ (Nat.succ_pos _) (he40 _ _ _ (Nat.succ_pos _) (he35 _ _ _ (Nat.succ_pos _) (he30 _ _ _ (Nat.succ_pos _) (he25 _ _ _ (Nat.succ_pos _) (he20 _ _ _ (Nat.succ_pos _) (he15 _ _ _ (Nat.succ_pos _) (he10 _ _ _ (Nat.succ_pos _) (he5 _ _ _ (Nat.succ_pos _) hc1))))))))))))))))))))))))) flX12_83 rfl (Or.inr ⟨rfl, rfl, rfl⟩) nf_arr dX12_init_201 rfl (fun M126 => ?_)
  refine r_aload_n (i := 0) (x := a0) (q := 205) 0 hX dX12_init_204 rfl rfl rfl ?_
  refine r_bipush (v := (12 : Int32)) (q := 207) hX dX12_init_205 rfl rfl ?_
  refine r_newa (cap := 12) (k1 := 26) (n1 := 265) (q := 209) hX arP_z ⟨by decide, by decide⟩ rfl (Nat.le_of_ble_eq_true rfl) rfl (Nat.le_of_ble_eq_true rfl) (Nat.le_of_ble_eq_true rfl) dX12_init_207 rfl (fun Z127 M128 hc129 he130 => ?_)
  refine r_putR (a := a0) (ci := 12) (kf := 32) (q := 212) hX (he130 _ _ _ (Nat.succ_pos _) (he125 _ _ _ (Nat.succ_pos _) (he120 _ _ _ (Nat.succ_pos _) (he115 _ _ _ (Nat.succ_pos _) (he110 _ _ _ (Nat.succ_pos _) (he105 _ _ _ (Nat.succ_pos _) (he100 _ _ _ (Nat.succ_pos _) (he95 _ _ _ (Nat.succ_pos _) (he90 _ _ _ (Nat.succ_pos _) (he85 _ _ _ (Nat.succ_pos _) (he80 _ _ _ (Nat.succ_pos _) (he75 _ _ _ (Nat.succ_pos _) (he70 _ _ _ (Nat.succ_pos _) (he65 _ _ _ (Nat.succ_pos _) (he60 _ _ _ (Nat.succ_pos _) (he55 _ _ _ (Nat.succ_pos _) (he50 _ _ _ (Nat.succ_pos _) (he45 _ _ _ (Nat.succ_pos _) (he40 _ _ _ (Nat.succ_pos _) (he35 _ _ _ (Nat.succ_pos _) (he30 _ _ _ (Nat.succ_pos _) (he25 _ _ _ (Nat.succ_pos _) (he20 _ _ _ (Nat.succ_pos _) (he15 _ _ _ (Nat.succ_pos _) (he10 _ _ _ (Nat.succ_pos _) (he5 _ _ _ (Nat.succ_pos _) hc1)))))))))))))))))))))))))) flX12_86 rfl (Or.inr ⟨rfl, rfl, rfl⟩) nf_arr dX12_init_209 rfl (fun M131 => ?_)
  refine r_aload_n (i := 0) (x := a0) (q := 213) 0 hX dX12_init_212 rfl rfl rfl ?_
  refine r_bipush (v := (60 : Int32)) (q := 215) hX dX12_init_213 rfl rfl ?_
  refine r_newa (cap := 60) (k1 := 27) (n1 := 325) (q := 217) hX arP_i ⟨by decide, by decide⟩ rfl (Nat.le_of_ble_eq_true rfl) rfl (Nat.le_of_ble_eq_true rfl) (Nat.le_of_ble_eq_true rfl) dX12_init_215 rfl (fun Z132 M133 hc134 he135 => ?_)
  refine r_putR (a := a0) (ci := 12) (kf := 33) (q := 220) hX (he135 _ _ _ (Nat.succ_pos _) (he130 _ _ _ (Nat.succ_pos _) (he125 _ _ _ (Nat.succ_pos _) (he120 _ _ _ (Nat.succ_pos _) (he115 _ _ _ (Nat.succ_pos _) (he110 _ _ _ (Nat.succ_pos _) (he105 _ _ _ (Nat.succ_pos _) (he100 _ _ _ (Nat.succ_pos _) (he95 _ _ _ (Nat.succ_pos _) (he90 _ _ _ (Nat.succ_pos _) (he85 _ _ _ (Nat.succ_pos _) (he80 _ _ _ (Nat.succ_pos _) (he75 _ _ _ (Nat.succ_pos _) (he70 _ _ _ (Nat.succ_pos _) (he65 _ _ _ (Nat.succ_pos _) (he60 _ _ _ (Nat.succ_pos _) (he55 _ _ _ (Nat.succ_pos _) (he50 _ _ _ (Nat.succ_pos _) (he45 _ _ _ (Nat.succ_pos _) (he40 _ _ _ (Nat.succ_pos _) (he35 _ _ _ (Nat.succ_pos _) (he30 _ _ _ (Nat.succ_pos _) (he25 _ _ _ (Nat.succ_pos _) (he20 _ _ _ (Nat.succ_pos _) (he15 _ _ _ (Nat.succ_pos _) (he10 _ _ _ (Nat.succ_pos _) (he5 _ _ _ (Nat.succ_pos _) hc1))))))))))))))))))))))))))) flX12_89 rfl (Or.inr ⟨rfl, rfl, rfl⟩) nf_arr dX12_init_217 rfl (fun M136 => ?_)
  refine r_aload_n (i := 0) (x := a0) (q := 221) 0 hX dX12_init_220 rfl rfl rfl ?_
  refine r_bipush (v := (16 : Int32)) (q := 223) hX dX12_init_221 rfl rfl ?_
  refine r_newa (cap := 16) (k1 := 28) (n1 := 341) (q := 225) hX arP_i ⟨by decide, by decide⟩ rfl (Nat.le_of_ble_eq_true rfl) rfl (Nat.le_of_ble_eq_true rfl) (Nat.le_of_ble_eq_true rfl) dX12_init_223 rfl (fun Z137 M138 hc139 he140 => ?_)
  refine r_putR (a := a0) (ci := 12) (kf := 36) (q := 228) hX (he140 _ _ _ (Nat.succ_pos _) (he135 _ _ _ (Nat.succ_pos _) (he130 _ _ _ (Nat.succ_pos _) (he125 _ _ _ (Nat.succ_pos _) (he120 _ _ _ (Nat.succ_pos _) (he115 _ _ _ (Nat.succ_pos _) (he110 _ _ _ (Nat.succ_pos _) (he105 _ _ _ (Nat.succ_pos _) (he100 _ _ _ (Nat.succ_pos _) (he95 _ _ _ (Nat.succ_pos _) (he90 _ _ _ (Nat.succ_pos _) (he85 _ _ _ (Nat.succ_pos _) (he80 _ _ _ (Nat.succ_pos _) (he75 _ _ _ (Nat.succ_pos _) (he70 _ _ _ (Nat.succ_pos _) (he65 _ _ _ (Nat.succ_pos _) (he60 _ _ _ (Nat.succ_pos _) (he55 _ _ _ (Nat.succ_pos _) (he50 _ _ _ (Nat.succ_pos _) (he45 _ _ _ (Nat.succ_pos _) (he40 _ _ _ (Nat.succ_pos _) (he35 _ _ _ (Nat.succ_pos _) (he30 _ _ _ (Nat.succ_pos _) (he25 _ _ _ (Nat.succ_pos _) (he20 _ _ _ (Nat.succ_pos _) (he15 _ _ _ (Nat.succ_pos _) (he10 _ _ _ (Nat.succ_pos _) (he5 _ _ _ (Nat.succ_pos _) hc1)))))))))))))))))))))))))))) flX12_92 rfl (Or.inr ⟨rfl, rfl, rfl⟩) nf_arr dX12_init_225 rfl (fun M141 => ?_)
  refine r_aload_n (i := 0) (x := a0) (q := 229) 0 hX dX12_init_228 rfl rfl rfl ?_
  refine r_bipush (v := (16 : Int32)) (q := 231) hX dX12_init_229 rfl rfl ?_
  refine r_newa (cap := 16) (k1 := 29) (n1 := 357) (q := 233) hX arP_i ⟨by decide, by decide⟩ rfl (Nat.le_of_ble_eq_true rfl) rfl (Nat.le_of_ble_eq_true rfl) (Nat.le_of_ble_eq_true rfl) dX12_init_231 rfl (fun Z142 M143 hc144 he145 => ?_)
  refine r_putR (a := a0) (ci := 12) (kf := 37) (q := 236) hX (he145 _ _ _ (Nat.succ_pos _) (he140 _ _ _ (Nat.succ_pos _) (he135 _ _ _ (Nat.succ_pos _) (he130 _ _ _ (Nat.succ_pos _) (he125 _ _ _ (Nat.succ_pos _) (he120 _ _ _ (Nat.succ_pos _) (he115 _ _ _ (Nat.succ_pos _) (he110 _ _ _ (Nat.succ_pos _) (he105 _ _ _ (Nat.succ_pos _) (he100 _ _ _ (Nat.succ_pos _) (he95 _ _ _ (Nat.succ_pos _) (he90 _ _ _ (Nat.succ_pos _) (he85 _ _ _ (Nat.succ_pos _) (he80 _ _ _ (Nat.succ_pos _) (he75 _ _ _ (Nat.succ_pos _) (he70 _ _ _ (Nat.succ_pos _) (he65 _ _ _ (Nat.succ_pos _) (he60 _ _ _ (Nat.succ_pos _) (he55 _ _ _ (Nat.succ_pos _) (he50 _ _ _ (Nat.succ_pos _) (he45 _ _ _ (Nat.succ_pos _) (he40 _ _ _ (Nat.succ_pos _) (he35 _ _ _ (Nat.succ_pos _) (he30 _ _ _ (Nat.succ_pos _) (he25 _ _ _ (Nat.succ_pos _) (he20 _ _ _ (Nat.succ_pos _) (he15 _ _ _ (Nat.succ_pos _) (he10 _ _ _ (Nat.succ_pos _) (he5 _ _ _ (Nat.succ_pos _) hc1))))))))))))))))))))))))))))) flX12_95 rfl (Or.inr ⟨rfl, rfl, rfl⟩) nf_arr dX12_init_233 rfl (fun M146 => ?_)
  refine r_aload_n (i := 0) (x := a0) (q := 237) 0 hX dX12_init_236 rfl rfl rfl ?_
  refine r_bipush (v := (16 : Int32)) (q := 239) hX dX12_init_237 rfl rfl ?_
  refine r_newa (cap := 16) (k1 := 30) (n1 := 373) (q := 241) hX arP_i ⟨by decide, by decide⟩ rfl (Nat.le_of_ble_eq_true rfl) rfl (Nat.le_of_ble_eq_true rfl) (Nat.le_of_ble_eq_true rfl) dX12_init_239 rfl (fun Z147 M148 hc149 he150 => ?_)
  refine r_putR (a := a0) (ci := 12) (kf := 38) (q := 244) hX (he150 _ _ _ (Nat.succ_pos _) (he145 _ _ _ (Nat.succ_pos _) (he140 _ _ _ (Nat.succ_pos _) (he135 _ _ _ (Nat.succ_pos _) (he130 _ _ _ (Nat.succ_pos _) (he125 _ _ _ (Nat.succ_pos _) (he120 _ _ _ (Nat.succ_pos _) (he115 _ _ _ (Nat.succ_pos _) (he110 _ _ _ (Nat.succ_pos _) (he105 _ _ _ (Nat.succ_pos _) (he100 _ _ _ (Nat.succ_pos _) (he95 _ _ _ (Nat.succ_pos _) (he90 _ _ _ (Nat.succ_pos _) (he85 _ _ _ (Nat.succ_pos _) (he80 _ _ _ (Nat.succ_pos _) (he75 _ _ _ (Nat.succ_pos _) (he70 _ _ _ (Nat.succ_pos _) (he65 _ _ _ (Nat.succ_pos _) (he60 _ _ _ (Nat.succ_pos _) (he55 _ _ _ (Nat.succ_pos _) (he50 _ _ _ (Nat.succ_pos _) (he45 _ _ _ (Nat.succ_pos _) (he40 _ _ _ (Nat.succ_pos _) (he35 _ _ _ (Nat.succ_pos _) (he30 _ _ _ (Nat.succ_pos _) (he25 _ _ _ (Nat.succ_pos _) (he20 _ _ _ (Nat.succ_pos _) (he15 _ _ _ (Nat.succ_pos _) (he10 _ _ _ (Nat.succ_pos _) (he5 _ _ _ (Nat.succ_pos _) hc1)))))))))))))))))))))))))))))) flX12_98 rfl (Or.inr ⟨rfl, rfl, rfl⟩) nf_arr dX12_init_241 rfl (fun M151 => ?_)
  refine r_aload_n (i := 0) (x := a0) (q := 245) 0 hX dX12_init_244 rfl rfl rfl ?_
  refine r_bipush (v := (16 : Int32)) (q := 247) hX dX12_init_245 rfl rfl ?_
  refine r_newa (cap := 16) (k1 := 31) (n1 := 389) (q := 249) hX arP_i ⟨by decide, by decide⟩ rfl (Nat.le_of_ble_eq_true rfl) rfl (Nat.le_of_ble_eq_true rfl) (Nat.le_of_ble_eq_true rfl) dX12_init_247 rfl (fun Z152 M153 hc154 he155 => ?_)
  refine r_putR (a := a0) (ci := 12) (kf := 39) (q := 252) hX (he155 _ _ _ (Nat.succ_pos _) (he150 _ _ _ (Nat.succ_pos _) (he145 _ _ _ (Nat.succ_pos _) (he140 _ _ _ (Nat.succ_pos _) (he135 _ _ _ (Nat.succ_pos _) (he130 _ _ _ (Nat.succ_pos _) (he125 _ _ _ (Nat.succ_pos _) (he120 _ _ _ (Nat.succ_pos _) (he115 _ _ _ (Nat.succ_pos _) (he110 _ _ _ (Nat.succ_pos _) (he105 _ _ _ (Nat.succ_pos _) (he100 _ _ _ (Nat.succ_pos _) (he95 _ _ _ (Nat.succ_pos _) (he90 _ _ _ (Nat.succ_pos _) (he85 _ _ _ (Nat.succ_pos _) (he80 _ _ _ (Nat.succ_pos _) (he75 _ _ _ (Nat.succ_pos _) (he70 _ _ _ (Nat.succ_pos _) (he65 _ _ _ (Nat.succ_pos _) (he60 _ _ _ (Nat.succ_pos _) (he55 _ _ _ (Nat.succ_pos _) (he50 _ _ _ (Nat.succ_pos _) (he45 _ _ _ (Nat.succ_pos _) (he40 _ _ _ (Nat.succ_pos _) (he35 _ _ _ (Nat.succ_pos _) (he30 _ _ _ (Nat.succ_pos _) (he25 _ _ _ (Nat.succ_pos _) (he20 _ _ _ (Nat.succ_pos _) (he15 _ _ _ (Nat.succ_pos _) (he10 _ _ _ (Nat.succ_pos _) (he5 _ _ _ (Nat.succ_pos _) hc1))))))))))))))))))))))))))))))) flX12_101 rfl (Or.inr ⟨rfl, rfl, rfl⟩) nf_arr dX12_init_249 rfl (fun M156 => ?_)
  refine r_aload_n (i := 0) (x := a0) (q := 253) 0 hX dX12_init_252 rfl rfl rfl ?_
  refine r_bipush (v := (16 : Int32)) (q := 255) hX dX12_init_253 rfl rfl ?_
  refine r_newa (cap := 16) (k1 := 32) (n1 := 405) (q := 257) hX arP_i ⟨by decide, by decide⟩ rfl (Nat.le_of_ble_eq_true rfl) rfl (Nat.le_of_ble_eq_true rfl) (Nat.le_of_ble_eq_true rfl) dX12_init_255 rfl (fun Z157 M158 hc159 he160 => ?_)
  refine r_putR (a := a0) (ci := 12) (kf := 40) (q := 260) hX (he160 _ _ _ (Nat.succ_pos _) (he155 _ _ _ (Nat.succ_pos _) (he150 _ _ _ (Nat.succ_pos _) (he145 _ _ _ (Nat.succ_pos _) (he140 _ _ _ (Nat.succ_pos _) (he135 _ _ _ (Nat.succ_pos _) (he130 _ _ _ (Nat.succ_pos _) (he125 _ _ _ (Nat.succ_pos _) (he120 _ _ _ (Nat.succ_pos _) (he115 _ _ _ (Nat.succ_pos _) (he110 _ _ _ (Nat.succ_pos _) (he105 _ _ _ (Nat.succ_pos _) (he100 _ _ _ (Nat.succ_pos _) (he95 _ _ _ (Nat.succ_pos _) (he90 _ _ _ (Nat.succ_pos _) (he85 _ _ _ (Nat.succ_pos _) (he80 _ _ _ (Nat.succ_pos _) (he75 _ _ _ (Nat.succ_pos _) (he70 _ _ _ (Nat.succ_pos _) (he65 _ _ _ (Nat.succ_pos _) (he60 _ _ _ (Nat.succ_pos _) (he55 _ _ _ (Nat.succ_pos _) (he50 _ _ _ (Nat.succ_pos _) (he45 _ _ _ (Nat.succ_pos _) (he40 _ _ _ (Nat.succ_pos _) (he35 _ _ _ (Nat.succ_pos _) (he30 _ _ _ (Nat.succ_pos _) (he25 _ _ _ (Nat.succ_pos _) (he20 _ _ _ (Nat.succ_pos _) (he15 _ _ _ (Nat.succ_pos _) (he10 _ _ _ (Nat.succ_pos _) (he5 _ _ _ (Nat.succ_pos _) hc1)))))))))))))))))))))))))))))))) flX12_104 rfl (Or.inr ⟨rfl, rfl, rfl⟩) nf_arr dX12_init_257 rfl (fun M161 => ?_)
  refine r_aload_n (i := 0) (x := a0) (q := 261) 0 hX dX12_init_260 rfl rfl rfl ?_
  refine r_sipush (v := (960 : Int32)) (q := 264) hX dX12_init_261 rfl rfl ?_
  refine r_newa (cap := 960) (k1 := 33) (n1 := 1365) (q := 266) hX arP_i ⟨by decide, by decide⟩ rfl (Nat.le_of_ble_eq_true rfl) rfl (Nat.le_of_ble_eq_true rfl) (Nat.le_of_ble_eq_true rfl) dX12_init_264 rfl (fun Z162 M163 hc164 he165 => ?_)
  refine r_putR (a := a0) (ci := 12) (kf := 41) (q := 269) hX (he165 _ _ _ (Nat.succ_pos _) (he160 _ _ _ (Nat.succ_pos _) (he155 _ _ _ (Nat.succ_pos _) (he150 _ _ _ (Nat.succ_pos _) (he145 _ _ _ (Nat.succ_pos _) (he140 _ _ _ (Nat.succ_pos _) (he135 _ _ _ (Nat.succ_pos _) (he130 _ _ _ (Nat.succ_pos _) (he125 _ _ _ (Nat.succ_pos _) (he120 _ _ _ (Nat.succ_pos _) (he115 _ _ _ (Nat.succ_pos _) (he110 _ _ _ (Nat.succ_pos _) (he105 _ _ _ (Nat.succ_pos _) (he100 _ _ _ (Nat.succ_pos _) (he95 _ _ _ (Nat.succ_pos _) (he90 _ _ _ (Nat.succ_pos _) (he85 _ _ _ (Nat.succ_pos _) (he80 _ _ _ (Nat.succ_pos _) (he75 _ _ _ (Nat.succ_pos _) (he70 _ _ _ (Nat.succ_pos _) (he65 _ _ _ (Nat.succ_pos _) (he60 _ _ _ (Nat.succ_pos _) (he55 _ _ _ (Nat.succ_pos _) (he50 _ _ _ (Nat.succ_pos _) (he45 _ _ _ (Nat.succ_pos _) (he40 _ _ _ (Nat.succ_pos _) (he35 _ _ _ (Nat.succ_pos _) (he30 _ _ _ (Nat.succ_pos _) (he25 _ _ _ (Nat.succ_pos _) (he20 _ _ _ (Nat.succ_pos _) (he15 _ _ _ (Nat.succ_pos _) (he10 _ _ _ (Nat.succ_pos _) (he5 _ _ _ (Nat.succ_pos _) hc1))))))))))))))))))))))))))))))))) flX12_107 rfl (Or.inr ⟨rfl, rfl, rfl⟩) nf_arr dX12_init_266 rfl (fun M166 => ?_)
  refine r_aload_n (i := 0) (x := a0) (q := 270) 0 hX dX12_init_269 rfl rfl rfl ?_
  refine r_sipush (v := (960 : Int32)) (q := 273) hX dX12_init_270 rfl rfl ?_
  refine r_newa (cap := 960) (k1 := 34) (n1 := 2325) (q := 275) hX arP_i ⟨by decide, by decide⟩ rfl (Nat.le_of_ble_eq_true rfl) rfl (Nat.le_of_ble_eq_true rfl) (Nat.le_of_ble_eq_true rfl) dX12_init_273 rfl (fun Z167 M168 hc169 he170 => ?_)
  refine r_putR (a := a0) (ci := 12) (kf := 42) (q := 278) hX (he170 _ _ _ (Nat.succ_pos _) (he165 _ _ _ (Nat.succ_pos _) (he160 _ _ _ (Nat.succ_pos _) (he155 _ _ _ (Nat.succ_pos _) (he150 _ _ _ (Nat.succ_pos _) (he145 _ _ _ (Nat.succ_pos _) (he140 _ _ _ (Nat.succ_pos _) (he135 _ _ _ (Nat.succ_pos _) (he130 _ _ _ (Nat.succ_pos _) (he125 _ _ _ (Nat.succ_pos _) (he120 _ _ _ (Nat.succ_pos _) (he115 _ _ _ (Nat.succ_pos _) (he110 _ _ _ (Nat.succ_pos _) (he105 _ _ _ (Nat.succ_pos _) (he100 _ _ _ (Nat.succ_pos _) (he95 _ _ _ (Nat.succ_pos _) (he90 _ _ _ (Nat.succ_pos _) (he85 _ _ _ (Nat.succ_pos _) (he80 _ _ _ (Nat.succ_pos _) (he75 _ _ _ (Nat.succ_pos _) (he70 _ _ _ (Nat.succ_pos _) (he65 _ _ _ (Nat.succ_pos _) (he60 _ _ _ (Nat.succ_pos _) (he55 _ _ _ (Nat.succ_pos _) (he50 _ _ _ (Nat.succ_pos _) (he45 _ _ _ (Nat.succ_pos _) (he40 _ _ _ (Nat.succ_pos _) (he35 _ _ _ (Nat.succ_pos _) (he30 _ _ _ (Nat.succ_pos _) (he25 _ _ _ (Nat.succ_pos _) (he20 _ _ _ (Nat.succ_pos _) (he15 _ _ _ (Nat.succ_pos _) (he10 _ _ _ (Nat.succ_pos _) (he5 _ _ _ (Nat.succ_pos _) hc1)))))))))))))))))))))))))))))))))) flX12_110 rfl (Or.inr ⟨rfl, rfl, rfl⟩) nf_arr dX12_init_275 rfl (fun M171 => ?_)
  refine r_aload_n (i := 0) (x := a0) (q := 279) 0 hX dX12_init_278 rfl rfl rfl ?_
  refine r_bipush (v := (60 : Int32)) (q := 281) hX dX12_init_279 rfl rfl ?_
  refine r_newa (cap := 60) (k1 := 35) (n1 := 2385) (q := 283) hX arP_i ⟨by decide, by decide⟩ rfl (Nat.le_of_ble_eq_true rfl) rfl (Nat.le_of_ble_eq_true rfl) (Nat.le_of_ble_eq_true rfl) dX12_init_281 rfl (fun Z172 M173 hc174 he175 => ?_)
  refine r_putR (a := a0) (ci := 12) (kf := 51) (q := 286) hX (he175 _ _ _ (Nat.succ_pos _) (he170 _ _ _ (Nat.succ_pos _) (he165 _ _ _ (Nat.succ_pos _) (he160 _ _ _ (Nat.succ_pos _) (he155 _ _ _ (Nat.succ_pos _) (he150 _ _ _ (Nat.succ_pos _) (he145 _ _ _ (Nat.succ_pos _) (he140 _ _ _ (Nat.succ_pos _) (he135 _ _ _ (Nat.succ_pos _) (he130 _ _ _ (Nat.succ_pos _) (he125 _ _ _ (Nat.succ_pos _) (he120 _ _ _ (Nat.succ_pos _) (he115 _ _ _ (Nat.succ_pos _) (he110 _ _ _ (Nat.succ_pos _) (he105 _ _ _ (Nat.succ_pos _) (he100 _ _ _ (Nat.succ_pos _) (he95 _ _ _ (Nat.succ_pos _) (he90 _ _ _ (Nat.succ_pos _) (he85 _ _ _ (Nat.succ_pos _) (he80 _ _ _ (Nat.succ_pos _) (he75 _ _ _ (Nat.succ_pos _) (he70 _ _ _ (Nat.succ_pos _) (he65 _ _ _ (Nat.succ_pos _) (he60 _ _ _ (Nat.succ_pos _) (he55 _ _ _ (Nat.succ_pos _) (he50 _ _ _ (Nat.succ_pos _) (he45 _ _ _ (Nat.succ_pos _) (he40 _ _ _ (Nat.succ_pos _) (he35 _ _ _ (Nat.succ_pos _) (he30 _ _ _ (Nat.succ_pos _) (he25 _ _ _ (Nat.succ_pos _) (he20 _ _ _ (Nat.succ_pos _) (he15 _ _ _ (Nat.succ_pos _) (he10 _ _ _ (Nat.succ_pos _) (he5 _ _ _ (Nat.succ_pos _) hc1))))))))))))))))))))))))))))))))))) flX12_113 rfl (Or.inr ⟨rfl, rfl, rfl⟩) nf_arr dX12_init_283 rfl (fun M176 => ?_)
  refine r_aload_n (i := 0) (x := a0) (q := 287) 0 hX dX12_init_286 rfl rfl rfl ?_
  refine r_bipush (v := (60 : Int32)) (q := 289) hX dX12_init_287 rfl rfl ?_
  refine r_newa (cap := 60) (k1 := 36) (n1 := 2445) (q := 291) hX arP_i ⟨by decide, by decide⟩ rfl (Nat.le_of_ble_eq_true rfl) rfl (Nat.le_of_ble_eq_true rfl) (Nat.le_of_ble_eq_true rfl) dX12_init_289 rfl (fun Z177 M178 hc179 he180 => ?_)
  refine r_putR (a := a0) (ci := 12) (kf := 52) (q := 294) hX (he180 _ _ _ (Nat.succ_pos _) (he175 _ _ _ (Nat.succ_pos _) (he170 _ _ _ (Nat.succ_pos _) (he165 _ _ _ (Nat.succ_pos _) (he160 _ _ _ (Nat.succ_pos _) (he155 _ _ _ (Nat.succ_pos _) (he150 _ _ _ (Nat.succ_pos _) (he145 _ _ _ (Nat.succ_pos _) (he140 _ _ _ (Nat.succ_pos _) (he135 _ _ _ (Nat.succ_pos _) (he130 _ _ _ (Nat.succ_pos _) (he125 _ _ _ (Nat.succ_pos _) (he120 _ _ _ (Nat.succ_pos _) (he115 _ _ _ (Nat.succ_pos _) (he110 _ _ _ (Nat.succ_pos _) (he105 _ _ _ (Nat.succ_pos _) (he100 _ _ _ (Nat.succ_pos _) (he95 _ _ _ (Nat.succ_pos _) (he90 _ _ _ (Nat.succ_pos _) (he85 _ _ _ (Nat.succ_pos _) (he80 _ _ _ (Nat.succ_pos _) (he75 _ _ _ (Nat.succ_pos _) (he70 _ _ _ (Nat.succ_pos _) (he65 _ _ _ (Nat.succ_pos _) (he60 _ _ _ (Nat.succ_pos _) (he55 _ _ _ (Nat.succ_pos _) (he50 _ _ _ (Nat.succ_pos _) (he45 _ _ _ (Nat.succ_pos _) (he40 _ _ _ (Nat.succ_pos _) (he35 _ _ _ (Nat.succ_pos _) (he30 _ _ _ (Nat.succ_pos _) (he25 _ _ _ (Nat.succ_pos _) (he20 _ _ _ (Nat.succ_pos _) (he15 _ _ _ (Nat.succ_pos _) (he10 _ _ _ (Nat.succ_pos _) (he5 _ _ _ (Nat.succ_pos _) hc1)))))))))))))))))))))))))))))))))))) flX12_116 rfl (Or.inr ⟨rfl, rfl, rfl⟩) nf_arr dX12_init_291 rfl (fun M181 => ?_)
  refine r_aload_n (i := 0) (x := a0) (q := 295) 0 hX dX12_init_294 rfl rfl rfl ?_
  refine r_bipush (v := (60 : Int32)) (q := 297) hX dX12_init_295 rfl rfl ?_
  refine r_newa (cap := 60) (k1 := 37) (n1 := 2505) (q := 299) hX arP_i ⟨by decide, by decide⟩ rfl (Nat.le_of_ble_eq_true rfl) rfl (Nat.le_of_ble_eq_true rfl) (Nat.le_of_ble_eq_true rfl) dX12_init_297 rfl (fun Z182 M183 hc184 he185 => ?_)
  refine r_putR (a := a0) (ci := 12) (kf := 54) (q := 302) hX (he185 _ _ _ (Nat.succ_pos _) (he180 _ _ _ (Nat.succ_pos _) (he175 _ _ _ (Nat.succ_pos _) (he170 _ _ _ (Nat.succ_pos _) (he165 _ _ _ (Nat.succ_pos _) (he160 _ _ _ (Nat.succ_pos _) (he155 _ _ _ (Nat.succ_pos _) (he150 _ _ _ (Nat.succ_pos _) (he145 _ _ _ (Nat.succ_pos _) (he140 _ _ _ (Nat.succ_pos _) (he135 _ _ _ (Nat.succ_pos _) (he130 _ _ _ (Nat.succ_pos _) (he125 _ _ _ (Nat.succ_pos _) (he120 _ _ _ (Nat.succ_pos _) (he115 _ _ _ (Nat.succ_pos _) (he110 _ _ _ (Nat.succ_pos _) (he105 _ _ _ (Nat.succ_pos _) (he100 _ _ _ (Nat.succ_pos _) (he95 _ _ _ (Nat.succ_pos _) (he90 _ _ _ (Nat.succ_pos _) (he85 _ _ _ (Nat.succ_pos _) (he80 _ _ _ (Nat.succ_pos _) (he75 _ _ _ (Nat.succ_pos _) (he70 _ _ _ (Nat.succ_pos _) (he65 _ _ _ (Nat.succ_pos _) (he60 _ _ _ (Nat.succ_pos _) (he55 _ _ _ (Nat.succ_pos _) (he50 _ _ _ (Nat.succ_pos _) (he45 _ _ _ (Nat.succ_pos _) (he40 _ _ _ (Nat.succ_pos _) (he35 _ _ _ (Nat.succ_pos _) (he30 _ _ _ (Nat.succ_pos _) (he25 _ _ _ (Nat.succ_pos _) (he20 _ _ _ (Nat.succ_pos _) (he15 _ _ _ (Nat.succ_pos _) (he10 _ _ _ (Nat.succ_pos _) (he5 _ _ _ (Nat.succ_pos _) hc1))))))))))))))))))))))))))))))))))))) flX12_119 rfl (Or.inr ⟨rfl, rfl, rfl⟩) nf_arr dX12_init_299 rfl (fun M186 => ?_)
  refine r_aload_n (i := 0) (x := a0) (q := 303) 0 hX dX12_init_302 rfl rfl rfl ?_
  refine r_bipush (v := (61 : Int32)) (q := 305) hX dX12_init_303 rfl rfl ?_
  refine r_newa (cap := 61) (k1 := 38) (n1 := 2566) (q := 307) hX arP_z ⟨by decide, by decide⟩ rfl (Nat.le_of_ble_eq_true rfl) rfl (Nat.le_of_ble_eq_true rfl) (Nat.le_of_ble_eq_true rfl) dX12_init_305 rfl (fun Z187 M188 hc189 he190 => ?_)
  refine r_putR (a := a0) (ci := 12) (kf := 56) (q := 310) hX (he190 _ _ _ (Nat.succ_pos _) (he185 _ _ _ (Nat.succ_pos _) (he180 _ _ _ (Nat.succ_pos _) (he175 _ _ _ (Nat.succ_pos _) (he170 _ _ _ (Nat.succ_pos _) (he165 _ _ _ (Nat.succ_pos _) (he160 _ _ _ (Nat.succ_pos _) (he155 _ _ _ (Nat.succ_pos _) (he150 _ _ _ (Nat.succ_pos _) (he145 _ _ _ (Nat.succ_pos _) (he140 _ _ _ (Nat.succ_pos _) (he135 _ _ _ (Nat.succ_pos _) (he130 _ _ _ (Nat.succ_pos _) (he125 _ _ _ (Nat.succ_pos _) (he120 _ _ _ (Nat.succ_pos _) (he115 _ _ _ (Nat.succ_pos _) (he110 _ _ _ (Nat.succ_pos _) (he105 _ _ _ (Nat.succ_pos _) (he100 _ _ _ (Nat.succ_pos _) (he95 _ _ _ (Nat.succ_pos _) (he90 _ _ _ (Nat.succ_pos _) (he85 _ _ _ (Nat.succ_pos _) (he80 _ _ _ (Nat.succ_pos _) (he75 _ _ _ (Nat.succ_pos _) (he70 _ _ _ (Nat.succ_pos _) (he65 _ _ _ (Nat.succ_pos _) (he60 _ _ _ (Nat.succ_pos _) (he55 _ _ _ (Nat.succ_pos _) (he50 _ _ _ (Nat.succ_pos _) (he45 _ _ _ (Nat.succ_pos _) (he40 _ _ _ (Nat.succ_pos _) (he35 _ _ _ (Nat.succ_pos _) (he30 _ _ _ (Nat.succ_pos _) (he25 _ _ _ (Nat.succ_pos _) (he20 _ _ _ (Nat.succ_pos _) (he15 _ _ _ (Nat.succ_pos _) (he10 _ _ _ (Nat.succ_pos _) (he5 _ _ _ (Nat.succ_pos _) hc1)))))))))))))))))))))))))))))))))))))) flX12_122 rfl (Or.inr ⟨rfl, rfl, rfl⟩) nf_arr dX12_init_307 rfl (fun M191 => ?_)
  refine r_aload_n (i := 0) (x := a0) (q := 311) 0 hX dX12_init_310 rfl rfl rfl ?_
  refine r_bipush (v := (8 : Int32)) (q := 313) hX dX12_init_311 rfl rfl ?_
  refine r_newa (cap := 8) (k1 := 39) (n1 := 2574) (q := 315) hX arP_z ⟨by decide, by decide⟩ rfl (Nat.le_of_ble_eq_true rfl) rfl (Nat.le_of_ble_eq_true rfl) (Nat.le_of_ble_eq_true rfl) dX12_init_313 rfl (fun Z192 M193 hc194 he195 => ?_)
  refine r_putR (a := a0) (ci := 12) (kf := 58) (q := 318) hX (he195 _ _ _ (Nat.succ_pos _) (he190 _ _ _ (Nat.succ_pos _) (he185 _ _ _ (Nat.succ_pos _) (he180 _ _ _ (Nat.succ_pos _) (he175 _ _ _ (Nat.succ_pos _) (he170 _ _ _ (Nat.succ_pos _) (he165 _ _ _ (Nat.succ_pos _) (he160 _ _ _ (Nat.succ_pos _) (he155 _ _ _ (Nat.succ_pos _) (he150 _ _ _ (Nat.succ_pos _) (he145 _ _ _ (Nat.succ_pos _) (he140 _ _ _ (Nat.succ_pos _) (he135 _ _ _ (Nat.succ_pos _) (he130 _ _ _ (Nat.succ_pos _) (he125 _ _ _ (Nat.succ_pos _) (he120 _ _ _ (Nat.succ_pos _) (he115 _ _ _ (Nat.succ_pos _) (he110 _ _ _ (Nat.succ_pos _) (he105 _ _ _ (Nat.succ_pos _) (he100 _ _ _ (Nat.succ_pos _) (he95 _ _ _ (Nat.succ_pos _) (he90 _ _ _ (Nat.succ_pos _) (he85 _ _ _ (Nat.succ_pos _) (he80 _ _ _ (Nat.succ_pos _) (he75 _ _ _ (Nat.succ_pos _) (he70 _ _ _ (Nat.succ_pos _) (he65 _ _ _ (Nat.succ_pos _) (he60 _ _ _ (Nat.succ_pos _) (he55 _ _ _ (Nat.succ_pos _) (he50 _ _ _ (Nat.succ_pos _) (he45 _ _ _ (Nat.succ_pos _) (he40 _ _ _ (Nat.succ_pos _) (he35 _ _ _ (Nat.succ_pos _) (he30 _ _ _ (Nat.succ_pos _) (he25 _ _ _ (Nat.succ_pos _) (he20 _ _ _ (Nat.succ_pos _) (he15 _ _ _ (Nat.succ_pos _) (he10 _ _ _ (Nat.succ_pos _) (he5 _ _ _ (Nat.succ_pos _) hc1))))))))))))))))))))))))))))))))))))))) flX12_125 rfl (Or.inr ⟨rfl, rfl, rfl⟩) nf_arr dX12_init_315 rfl (fun M196 => ?_)
  refine r_aload_n (i := 0) (x := a0) (q := 319) 0 hX dX12_init_318 rfl rfl rfl ?_
  refine r_bipush (v := (8 : Int32)) (q := 321) hX dX12_init_319 rfl rfl ?_
  refine r_newa (cap := 8) (k1 := 40) (n1 := 2582) (q := 323) hX arP_i ⟨by decide, by decide⟩ rfl (Nat.le_of_ble_eq_true rfl) rfl (Nat.le_of_ble_eq_true rfl) (Nat.le_of_ble_eq_true rfl) dX12_init_321 rfl (fun Z197 M198 hc199 he200 => ?_)
  refine r_putR (a := a0) (ci := 12) (kf := 59) (q := 326) hX (he200 _ _ _ (Nat.succ_pos _) (he195 _ _ _ (Nat.succ_pos _) (he190 _ _ _ (Nat.succ_pos _) (he185 _ _ _ (Nat.succ_pos _) (he180 _ _ _ (Nat.succ_pos _) (he175 _ _ _ (Nat.succ_pos _) (he170 _ _ _ (Nat.succ_pos _) (he165 _ _ _ (Nat.succ_pos _) (he160 _ _ _ (Nat.succ_pos _) (he155 _ _ _ (Nat.succ_pos _) (he150 _ _ _ (Nat.succ_pos _) (he145 _ _ _ (Nat.succ_pos _) (he140 _ _ _ (Nat.succ_pos _) (he135 _ _ _ (Nat.succ_pos _) (he130 _ _ _ (Nat.succ_pos _) (he125 _ _ _ (Nat.succ_pos _) (he120 _ _ _ (Nat.succ_pos _) (he115 _ _ _ (Nat.succ_pos _) (he110 _ _ _ (Nat.succ_pos _) (he105 _ _ _ (Nat.succ_pos _) (he100 _ _ _ (Nat.succ_pos _) (he95 _ _ _ (Nat.succ_pos _) (he90 _ _ _ (Nat.succ_pos _) (he85 _ _ _ (Nat.succ_pos _) (he80 _ _ _ (Nat.succ_pos _) (he75 _ _ _ (Nat.succ_pos _) (he70 _ _ _ (Nat.succ_pos _) (he65 _ _ _ (Nat.succ_pos _) (he60 _ _ _ (Nat.succ_pos _) (he55 _ _ _ (Nat.succ_pos _) (he50 _ _ _ (Nat.succ_pos _) (he45 _ _ _ (Nat.succ_pos _) (he40 _ _ _ (Nat.succ_pos _) (he35 _ _ _ (Nat.succ_pos _) (he30 _ _ _ (Nat.succ_pos _) (he25 _ _ _ (Nat.succ_pos _) (he20 _ _ _ (Nat.succ_pos _) (he15 _ _ _ (Nat.succ_pos _) (he10 _ _ _ (Nat.succ_pos _) (he5 _ _ _ (Nat.succ_pos _) hc1)))))))))))))))))))))))))))))))))))))))) flX12_128 rfl (Or.inr ⟨rfl, rfl, rfl⟩) nf_arr dX12_init_323 rfl (fun M201 => ?_)
  refine r_aload_n (i := 0) (x := a0) (q := 327) 0 hX dX12_init_326 rfl rfl rfl ?_
  refine r_bipush (v := (8 : Int32)) (q := 329) hX dX12_init_327 rfl rfl ?_
  refine r_newa (cap := 8) (k1 := 41) (n1 := 2590) (q := 331) hX arP_i ⟨by decide, by decide⟩ rfl (Nat.le_of_ble_eq_true rfl) rfl (Nat.le_of_ble_eq_true rfl) (Nat.le_of_ble_eq_true rfl) dX12_init_329 rfl (fun Z202 M203 hc204 he205 => ?_)
  refine r_putR (a := a0) (ci := 12) (kf := 60) (q := 334) hX (he205 _ _ _ (Nat.succ_pos _) (he200 _ _ _ (Nat.succ_pos _) (he195 _ _ _ (Nat.succ_pos _) (he190 _ _ _ (Nat.succ_pos _) (he185 _ _ _ (Nat.succ_pos _) (he180 _ _ _ (Nat.succ_pos _) (he175 _ _ _ (Nat.succ_pos _) (he170 _ _ _ (Nat.succ_pos _) (he165 _ _ _ (Nat.succ_pos _) (he160 _ _ _ (Nat.succ_pos _) (he155 _ _ _ (Nat.succ_pos _) (he150 _ _ _ (Nat.succ_pos _) (he145 _ _ _ (Nat.succ_pos _) (he140 _ _ _ (Nat.succ_pos _) (he135 _ _ _ (Nat.succ_pos _) (he130 _ _ _ (Nat.succ_pos _) (he125 _ _ _ (Nat.succ_pos _) (he120 _ _ _ (Nat.succ_pos _) (he115 _ _ _ (Nat.succ_pos _) (he110 _ _ _ (Nat.succ_pos _) (he105 _ _ _ (Nat.succ_pos _) (he100 _ _ _ (Nat.succ_pos _) (he95 _ _ _ (Nat.succ_pos _) (he90 _ _ _ (Nat.succ_pos _) (he85 _ _ _ (Nat.succ_pos _) (he80 _ _ _ (Nat.succ_pos _) (he75 _ _ _ (Nat.succ_pos _) (he70 _ _ _ (Nat.succ_pos _) (he65 _ _ _ (Nat.succ_pos _) (he60 _ _ _ (Nat.succ_pos _) (he55 _ _ _ (Nat.succ_pos _) (he50 _ _ _ (Nat.succ_pos _) (he45 _ _ _ (Nat.succ_pos _) (he40 _ _ _ (Nat.succ_pos _) (he35 _ _ _ (Nat.succ_pos _) (he30 _ _ _ (Nat.succ_pos _) (he25 _ _ _ (Nat.succ_pos _) (he20 _ _ _ (Nat.succ_pos _) (he15 _ _ _ (Nat.succ_pos _) (he10 _ _ _ (Nat.succ_pos _) (he5 _ _ _ (Nat.succ_pos _) hc1))))))))))))))))))))))))))))))))))))))))) flX12_131 rfl (Or.inr ⟨rfl, rfl, rfl⟩) nf_arr dX12_init_331 rfl (fun M206 => ?_)
  refine r_aload_n (i := 0) (x := a0) (q := 335) 0 hX dX12_init_334 rfl rfl rfl ?_
  refine r_bipush (v := (8 : Int32)) (q := 337) hX dX12_init_335 rfl rfl ?_
  refine r_newa (cap := 8) (k1 := 42) (n1 := 2598) (q := 339) hX arP_i ⟨by decide, by decide⟩ rfl (Nat.le_of_ble_eq_true rfl) rfl (Nat.le_of_ble_eq_true rfl) (Nat.le_of_ble_eq_true rfl) dX12_init_337 rfl (fun Z207 M208 hc209 he210 => ?_)
  refine r_putR (a := a0) (ci := 12) (kf := 62) (q := 342) hX (he210 _ _ _ (Nat.succ_pos _) (he205 _ _ _ (Nat.succ_pos _) (he200 _ _ _ (Nat.succ_pos _) (he195 _ _ _ (Nat.succ_pos _) (he190 _ _ _ (Nat.succ_pos _) (he185 _ _ _ (Nat.succ_pos _) (he180 _ _ _ (Nat.succ_pos _) (he175 _ _ _ (Nat.succ_pos _) (he170 _ _ _ (Nat.succ_pos _) (he165 _ _ _ (Nat.succ_pos _) (he160 _ _ _ (Nat.succ_pos _) (he155 _ _ _ (Nat.succ_pos _) (he150 _ _ _ (Nat.succ_pos _) (he145 _ _ _ (Nat.succ_pos _) (he140 _ _ _ (Nat.succ_pos _) (he135 _ _ _ (Nat.succ_pos _) (he130 _ _ _ (Nat.succ_pos _) (he125 _ _ _ (Nat.succ_pos _) (he120 _ _ _ (Nat.succ_pos _) (he115 _ _ _ (Nat.succ_pos _) (he110 _ _ _ (Nat.succ_pos _) (he105 _ _ _ (Nat.succ_pos _) (he100 _ _ _ (Nat.succ_pos _) (he95 _ _ _ (Nat.succ_pos _) (he90 _ _ _ (Nat.succ_pos _) (he85 _ _ _ (Nat.succ_pos _) (he80 _ _ _ (Nat.succ_pos _) (he75 _ _ _ (Nat.succ_pos _) (he70 _ _ _ (Nat.succ_pos _) (he65 _ _ _ (Nat.succ_pos _) (he60 _ _ _ (Nat.succ_pos _) (he55 _ _ _ (Nat.succ_pos _) (he50 _ _ _ (Nat.succ_pos _) (he45 _ _ _ (Nat.succ_pos _) (he40 _ _ _ (Nat.succ_pos _) (he35 _ _ _ (Nat.succ_pos _) (he30 _ _ _ (Nat.succ_pos _) (he25 _ _ _ (Nat.succ_pos _) (he20 _ _ _ (Nat.succ_pos _) (he15 _ _ _ (Nat.succ_pos _) (he10 _ _ _ (Nat.succ_pos _) (he5 _ _ _ (Nat.succ_pos _) hc1)))))))))))))))))))))))))))))))))))))))))) flX12_134 rfl (Or.inr ⟨rfl, rfl, rfl⟩) nf_arr dX12_init_339 rfl (fun M211 => ?_)
  refine r_aload_n (i := 0) (x := a0) (q := 343) 0 hX dX12_init_342 rfl rfl rfl ?_
  refine r_bipush (v := (8 : Int32)) (q := 345) hX dX12_init_343 rfl rfl ?_
  refine r_newa (cap := 8) (k1 := 43) (n1 := 2606) (q := 347) hX arP_i ⟨by decide, by decide⟩ rfl (Nat.le_of_ble_eq_true rfl) rfl (Nat.le_of_ble_eq_true rfl) (Nat.le_of_ble_eq_true rfl) dX12_init_345 rfl (fun Z212 M213 hc214 he215 => ?_)
  refine r_putR (a := a0) (ci := 12) (kf := 63) (q := 350) hX (he215 _ _ _ (Nat.succ_pos _) (he210 _ _ _ (Nat.succ_pos _) (he205 _ _ _ (Nat.succ_pos _) (he200 _ _ _ (Nat.succ_pos _) (he195 _ _ _ (Nat.succ_pos _) (he190 _ _ _ (Nat.succ_pos _) (he185 _ _ _ (Nat.succ_pos _) (he180 _ _ _ (Nat.succ_pos _) (he175 _ _ _ (Nat.succ_pos _) (he170 _ _ _ (Nat.succ_pos _) (he165 _ _ _ (Nat.succ_pos _) (he160 _ _ _ (Nat.succ_pos _) (he155 _ _ _ (Nat.succ_pos _) (he150 _ _ _ (Nat.succ_pos _) (he145 _ _ _ (Nat.succ_pos _) (he140 _ _ _ (Nat.succ_pos _) (he135 _ _ _ (Nat.succ_pos _) (he130 _ _ _ (Nat.succ_pos _) (he125 _ _ _ (Nat.succ_pos _) (he120 _ _ _ (Nat.succ_pos _) (he115 _ _ _ (Nat.succ_pos _) (he110 _ _ _ (Nat.succ_pos _) (he105 _ _ _ (Nat.succ_pos _) (he100 _ _ _ (Nat.succ_pos _) (he95 _ _ _ (Nat.succ_pos _) (he90 _ _ _ (Nat.succ_pos _) (he85 _ _ _ (Nat.succ_pos _) (he80 _ _ _ (Nat.succ_pos _) (he75 _ _ _ (Nat.succ_pos _) (he70 _ _ _ (Nat.succ_pos _) (he65 _ _ _ (Nat.succ_pos _) (he60 _ _ _ (Nat.succ_pos _) (he55 _ _ _ (Nat.succ_pos _) (he50 _ _ _ (Nat.succ_pos _) (he45 _ _ _ (Nat.succ_pos _) (he40 _ _ _ (Nat.succ_pos _) (he35 _ _ _ (Nat.succ_pos _) (he30 _ _ _ (Nat.succ_pos _) (he25 _ _ _ (Nat.succ_pos _) (he20 _ _ _ (Nat.succ_pos _) (he15 _ _ _ (Nat.succ_pos _) (he10 _ _ _ (Nat.succ_pos _) (he5 _ _ _ (Nat.succ_pos _) hc1))))))))))))))))))))))))))))))))))))))))))) flX12_137 rfl (Or.inr ⟨rfl, rfl, rfl⟩) nf_arr dX12_init_347 rfl (fun M216 => ?_)
  refine r_aload_n (i := 0) (x := a0) (q := 351) 0 hX dX12_init_350 rfl rfl rfl ?_
  refine r_bipush (v := (10 : Int32)) (q := 353) hX dX12_init_351 rfl rfl ?_
  refine r_newa (cap := 10) (k1 := 44) (n1 := 2616) (q := 355) hX arP_i ⟨by decide, by decide⟩ rfl (Nat.le_of_ble_eq_true rfl) rfl (Nat.le_of_ble_eq_true rfl) (Nat.le_of_ble_eq_true rfl) dX12_init_353 rfl (fun Z217 M218 hc219 he220 => ?_)
  refine r_putR (a := a0) (ci := 12) (kf := 67) (q := 358) hX (he220 _ _ _ (Nat.succ_pos _) (he215 _ _ _ (Nat.succ_pos _) (he210 _ _ _ (Nat.succ_pos _) (he205 _ _ _ (Nat.succ_pos _) (he200 _ _ _ (Nat.succ_pos _) (he195 _ _ _ (Nat.succ_pos _) (he190 _ _ _ (Nat.succ_pos _) (he185 _ _ _ (Nat.succ_pos _) (he180 _ _ _ (Nat.succ_pos _) (he175 _ _ _ (Nat.succ_pos _) (he170 _ _ _ (Nat.succ_pos _) (he165 _ _ _ (Nat.succ_pos _) (he160 _ _ _ (Nat.succ_pos _) (he155 _ _ _ (Nat.succ_pos _) (he150 _ _ _ (Nat.succ_pos _) (he145 _ _ _ (Nat.succ_pos _) (he140 _ _ _ (Nat.succ_pos _) (he135 _ _ _ (Nat.succ_pos _) (he130 _ _ _ (Nat.succ_pos _) (he125 _ _ _ (Nat.succ_pos _) (he120 _ _ _ (Nat.succ_pos _) (he115 _ _ _ (Nat.succ_pos _) (he110 _ _ _ (Nat.succ_pos _) (he105 _ _ _ (Nat.succ_pos _) (he100 _ _ _ (Nat.succ_pos _) (he95 _ _ _ (Nat.succ_pos _) (he90 _ _ _ (Nat.succ_pos _) (he85 _ _ _ (Nat.succ_pos _) (he80 _ _ _ (Nat.succ_pos _) (he75 _ _ _ (Nat.succ_pos _) (he70 _ _ _ (Nat.succ_pos _) (he65 _ _ _ (Nat.succ_pos _) (he60 _ _ _ (Nat.succ_pos _) (he55 _ _ _ (Nat.succ_pos _) (he50 _ _ _ (Nat.succ_pos _) (he45 _ _ _ (Nat.succ_pos _) (he40 _ _ _ (Nat.succ_pos _) (he35 _ _ _ (Nat.succ_pos _) (he30 _ _ _ (Nat.succ_pos _) (he25 _ _ _ (Nat.succ_pos _) (he20 _ _ _ (Nat.succ_pos _) (he15 _ _ _ (Nat.succ_pos _) (he10 _ _ _ (Nat.succ_pos _) (he5 _ _ _ (Nat.succ_pos _) hc1)))))))))))))))))))))))))))))))))))))))))))) flX12_140 rfl (Or.inr ⟨rfl, rfl, rfl⟩) nf_arr dX12_init_355 rfl (fun M221 => ?_)
  refine r_aload_n (i := 0) (x := a0) (q := 359) 0 hX dX12_init_358 rfl rfl rfl ?_
  refine r_bipush (v := (10 : Int32)) (q := 361) hX dX12_init_359 rfl rfl ?_
  refine r_newa (cap := 10) (k1 := 45) (n1 := 2626) (q := 363) hX arP_i ⟨by decide, by decide⟩ rfl (Nat.le_of_ble_eq_true rfl) rfl (Nat.le_of_ble_eq_true rfl) (Nat.le_of_ble_eq_true rfl) dX12_init_361 rfl (fun Z222 M223 hc224 he225 => ?_)
  refine r_putR (a := a0) (ci := 12) (kf := 68) (q := 366) hX (he225 _ _ _ (Nat.succ_pos _) (he220 _ _ _ (Nat.succ_pos _) (he215 _ _ _ (Nat.succ_pos _) (he210 _ _ _ (Nat.succ_pos _) (he205 _ _ _ (Nat.succ_pos _) (he200 _ _ _ (Nat.succ_pos _) (he195 _ _ _ (Nat.succ_pos _) (he190 _ _ _ (Nat.succ_pos _) (he185 _ _ _ (Nat.succ_pos _) (he180 _ _ _ (Nat.succ_pos _) (he175 _ _ _ (Nat.succ_pos _) (he170 _ _ _ (Nat.succ_pos _) (he165 _ _ _ (Nat.succ_pos _) (he160 _ _ _ (Nat.succ_pos _) (he155 _ _ _ (Nat.succ_pos _) (he150 _ _ _ (Nat.succ_pos _) (he145 _ _ _ (Nat.succ_pos _) (he140 _ _ _ (Nat.succ_pos _) (he135 _ _ _ (Nat.succ_pos _) (he130 _ _ _ (Nat.succ_pos _) (he125 _ _ _ (Nat.succ_pos _) (he120 _ _ _ (Nat.succ_pos _) (he115 _ _ _ (Nat.succ_pos _) (he110 _ _ _ (Nat.succ_pos _) (he105 _ _ _ (Nat.succ_pos _) (he100 _ _ _ (Nat.succ_pos _) (he95 _ _ _ (Nat.succ_pos _) (he90 _ _ _ (Nat.succ_pos _) (he85 _ _ _ (Nat.succ_pos _) (he80 _ _ _ (Nat.succ_pos _) (he75 _ _ _ (Nat.succ_pos _) (he70 _ _ _ (Nat.succ_pos _) (he65 _ _ _ (Nat.succ_pos _) (he60 _ _ _ (Nat.succ_pos _) (he55 _ _ _ (Nat.succ_pos _) (he50 _ _ _ (Nat.succ_pos _) (he45 _ _ _ (Nat.succ_pos _) (he40 _ _ _ (Nat.succ_pos _) (he35 _ _ _ (Nat.succ_pos _) (he30 _ _ _ (Nat.succ_pos _) (he25 _ _ _ (Nat.succ_pos _) (he20 _ _ _ (Nat.succ_pos _) (he15 _ _ _ (Nat.succ_pos _) (he10 _ _ _ (Nat.succ_pos _) (he5 _ _ _ (Nat.succ_pos _) hc1))))))))))))))))))))))))))))))))))))))))))))) flX12_143 rfl (Or.inr ⟨rfl, rfl, rfl⟩) nf_arr dX12_init_363 rfl (fun M226 => ?_)
  refine r_aload_n (i := 0) (x := a0) (q := 367) 0 hX dX12_init_366 rfl rfl rfl ?_
  refine r_bipush (v := (8 : Int32)) (q := 369) hX dX12_init_367 rfl rfl ?_
  refine r_newa (cap := 8) (k1 := 46) (n1 := 2634) (q := 371) hX arP_i ⟨by decide, by decide⟩ rfl (Nat.le_of_ble_eq_true rfl) rfl (Nat.le_of_ble_eq_true rfl) (Nat.le_of_ble_eq_true rfl) dX12_init_369 rfl (fun Z227 M228 hc229 he230 => ?_)
  refine r_putR (a := a0) (ci := 12) (kf := 69) (q := 374) hX (he230 _ _ _ (Nat.succ_pos _) (he225 _ _ _ (Nat.succ_pos _) (he220 _ _ _ (Nat.succ_pos _) (he215 _ _ _ (Nat.succ_pos _) (he210 _ _ _ (Nat.succ_pos _) (he205 _ _ _ (Nat.succ_pos _) (he200 _ _ _ (Nat.succ_pos _) (he195 _ _ _ (Nat.succ_pos _) (he190 _ _ _ (Nat.succ_pos _) (he185 _ _ _ (Nat.succ_pos _) (he180 _ _ _ (Nat.succ_pos _) (he175 _ _ _ (Nat.succ_pos _) (he170 _ _ _ (Nat.succ_pos _) (he165 _ _ _ (Nat.succ_pos _) (he160 _ _ _ (Nat.succ_pos _) (he155 _ _ _ (Nat.succ_pos _) (he150 _ _ _ (Nat.succ_pos _) (he145 _ _ _ (Nat.succ_pos _) (he140 _ _ _ (Nat.succ_pos _) (he135 _ _ _ (Nat.succ_pos _) (he130 _ _ _ (Nat.succ_pos _) (he125 _ _ _ (Nat.succ_pos _) (he120 _ _ _ (Nat.succ_pos _) (he115 _ _ _ (Nat.succ_pos _) (he110 _ _ _ (Nat.succ_pos _) (he105 _ _ _ (Nat.succ_pos _) (he100 _ _ _ (Nat.succ_pos _) (he95 _ _ _ (Nat.succ_pos _) (he90 _ _ _ (Nat.succ_pos _) (he85 _ _ _ (Nat.succ_pos _) (he80 _ _ _ (Nat.succ_pos _) (he75 _ _ _ (Nat.succ_pos _) (he70 _ _ _ (Nat.succ_pos _) (he65 _ _ _ (Nat.succ_pos _) (he60 _ _ _ (Nat.succ_pos _) (he55 _ _ _ (Nat.succ_pos _) (he50 _ _ _ (Nat.succ_pos _) (he45 _ _ _ (Nat.succ_pos _) (he40 _ _ _ (Nat.succ_pos _) (he35 _ _ _ (Nat.succ_pos _) (he30 _ _ _ (Nat.succ_pos _) (he25 _ _ _ (Nat.succ_pos _) (he20 _ _ _ (Nat.succ_pos _) (he15 _ _ _ (Nat.succ_pos _) (he10 _ _ _ (Nat.succ_pos _) (he5 _ _ _ (Nat.succ_pos _) hc1)))))))))))))))))))))))))))))))))))))))))))))) flX12_146 rfl (Or.inr ⟨rfl, rfl, rfl⟩) nf_arr dX12_init_371 rfl (fun M231 => ?_)
  refine r_aload_n (i := 0) (x := a0) (q := 375) 0 hX dX12_init_374 rfl rfl rfl ?_
  refine r_bipush (v := (8 : Int32)) (q := 377) hX dX12_init_375 rfl rfl ?_
  refine r_newa (cap := 8) (k1 := 47) (n1 := 2642) (q := 379) hX arP_i ⟨by decide, by decide⟩ rfl (Nat.le_of_ble_eq_true rfl) rfl (Nat.le_of_ble_eq_true rfl) (Nat.le_of_ble_eq_true rfl) dX12_init_377 rfl (fun Z232 M233 hc234 he235 => ?_)
  refine r_putR (a := a0) (ci := 12) (kf := 70) (q := 382) hX (he235 _ _ _ (Nat.succ_pos _) (he230 _ _ _ (Nat.succ_pos _) (he225 _ _ _ (Nat.succ_pos _) (he220 _ _ _ (Nat.succ_pos _) (he215 _ _ _ (Nat.succ_pos _) (he210 _ _ _ (Nat.succ_pos _) (he205 _ _ _ (Nat.succ_pos _) (he200 _ _ _ (Nat.succ_pos _) (he195 _ _ _ (Nat.succ_pos _) (he190 _ _ _ (Nat.succ_pos _) (he185 _ _ _ (Nat.succ_pos _) (he180 _ _ _ (Nat.succ_pos _) (he175 _ _ _ (Nat.succ_pos _) (he170 _ _ _ (Nat.succ_pos _) (he165 _ _ _ (Nat.succ_pos _) (he160 _ _ _ (Nat.succ_pos _) (he155 _ _ _ (Nat.succ_pos _) (he150 _ _ _ (Nat.succ_pos _) (he145 _ _ _ (Nat.succ_pos _) (he140 _ _ _ (Nat.succ_pos _) (he135 _ _ _ (Nat.succ_pos _) (he130 _ _ _ (Nat.succ_pos _) (he125 _ _ _ (Nat.succ_pos _) (he120 _ _ _ (Nat.succ_pos _) (he115 _ _ _ (Nat.succ_pos _) (he110 _ _ _ (Nat.succ_pos _) (he105 _ _ _ (Nat.succ_pos _) (he100 _ _ _ (Nat.succ_pos _) (he95 _ _ _ (Nat.succ_pos _) (he90 _ _ _ (Nat.succ_pos _) (he85 _ _ _ (Nat.succ_pos _) (he80 _ _ _ (Nat.succ_pos _) (he75 _ _ _ (Nat.succ_pos _) (he70 _ _ _ (Nat.succ_pos _) (he65 _ _ _ (Nat.succ_pos _) (he60 _ _ _ (Nat.succ_pos _) (he55 _ _ _ (Nat.succ_pos _) (he50 _ _ _ (Nat.succ_pos _) (he45 _ _ _ (Nat.succ_pos _) (he40 _ _ _ (Nat.succ_pos _) (he35 _ _ _ (Nat.succ_pos _) (he30 _ _ _ (Nat.succ_pos _) (he25 _ _ _ (Nat.succ_pos _) (he20 _ _ _ (Nat.succ_pos _) (he15 _ _ _ (Nat.succ_pos _) (he10 _ _ _ (Nat.succ_pos _) (he5 _ _ _ (Nat.succ_pos _) hc1))))))))))))))))))))))))))))))))))))))))))))))) flX12_149 rfl (Or.inr ⟨rfl, rfl, rfl⟩) nf_arr dX12_init_379 rfl (fun M236 => ?_)
  refine r_aload_n (i := 0) (x := a0) (q := 383) 0 hX dX12_init_382 rfl rfl rfl ?_
  refine r_iconst (v := (4 : Int32)) (q := 384) hX dX12_init_383 rfl rfl ?_
  refine r_newa (cap := 4) (k1 := 48) (n1 := 2646) (q := 386) hX arP_i ⟨by decide, by decide⟩ rfl (Nat.le_of_ble_eq_true rfl) rfl (Nat.le_of_ble_eq_true rfl) (Nat.le_of_ble_eq_true rfl) dX12_init_384 rfl (fun Z237 M238 hc239 he240 => ?_)
  refine r_putR (a := a0) (ci := 12) (kf := 71) (q := 389) hX (he240 _ _ _ (Nat.succ_pos _) (he235 _ _ _ (Nat.succ_pos _) (he230 _ _ _ (Nat.succ_pos _) (he225 _ _ _ (Nat.succ_pos _) (he220 _ _ _ (Nat.succ_pos _) (he215 _ _ _ (Nat.succ_pos _) (he210 _ _ _ (Nat.succ_pos _) (he205 _ _ _ (Nat.succ_pos _) (he200 _ _ _ (Nat.succ_pos _) (he195 _ _ _ (Nat.succ_pos _) (he190 _ _ _ (Nat.succ_pos _) (he185 _ _ _ (Nat.succ_pos _) (he180 _ _ _ (Nat.succ_pos _) (he175 _ _ _ (Nat.succ_pos _) (he170 _ _ _ (Nat.succ_pos _) (he165 _ _ _ (Nat.succ_pos _) (he160 _ _ _ (Nat.succ_pos _) (he155 _ _ _ (Nat.succ_pos _) (he150 _ _ _ (Nat.succ_pos _) (he145 _ _ _ (Nat.succ_pos _) (he140 _ _ _ (Nat.succ_pos _) (he135 _ _ _ (Nat.succ_pos _) (he130 _ _ _ (Nat.succ_pos _) (he125 _ _ _ (Nat.succ_pos _) (he120 _ _ _ (Nat.succ_pos _) (he115 _ _ _ (Nat.succ_pos _) (he110 _ _ _ (Nat.succ_pos _) (he105 _ _ _ (Nat.succ_pos _) (he100 _ _ _ (Nat.succ_pos _) (he95 _ _ _ (Nat.succ_pos _) (he90 _ _ _ (Nat.succ_pos _) (he85 _ _ _ (Nat.succ_pos _) (he80 _ _ _ (Nat.succ_pos _) (he75 _ _ _ (Nat.succ_pos _) (he70 _ _ _ (Nat.succ_pos _) (he65 _ _ _ (Nat.succ_pos _) (he60 _ _ _ (Nat.succ_pos _) (he55 _ _ _ (Nat.succ_pos _) (he50 _ _ _ (Nat.succ_pos _) (he45 _ _ _ (Nat.succ_pos _) (he40 _ _ _ (Nat.succ_pos _) (he35 _ _ _ (Nat.succ_pos _) (he30 _ _ _ (Nat.succ_pos _) (he25 _ _ _ (Nat.succ_pos _) (he20 _ _ _ (Nat.succ_pos _) (he15 _ _ _ (Nat.succ_pos _) (he10 _ _ _ (Nat.succ_pos _) (he5 _ _ _ (Nat.succ_pos _) hc1)))))))))))))))))))))))))))))))))))))))))))))))) flX12_152 rfl (Or.inr ⟨rfl, rfl, rfl⟩) nf_arr dX12_init_386 rfl (fun M241 => ?_)
  refine r_aload_n (i := 0) (x := a0) (q := 390) 0 hX dX12_init_389 rfl rfl rfl ?_
  refine r_bipush (v := (12 : Int32)) (q := 392) hX dX12_init_390 rfl rfl ?_
  refine r_newa (cap := 12) (k1 := 49) (n1 := 2658) (q := 394) hX arP_z ⟨by decide, by decide⟩ rfl (Nat.le_of_ble_eq_true rfl) rfl (Nat.le_of_ble_eq_true rfl) (Nat.le_of_ble_eq_true rfl) dX12_init_392 rfl (fun Z242 M243 hc244 he245 => ?_)
  refine r_putR (a := a0) (ci := 12) (kf := 72) (q := 397) hX (he245 _ _ _ (Nat.succ_pos _) (he240 _ _ _ (Nat.succ_pos _) (he235 _ _ _ (Nat.succ_pos _) (he230 _ _ _ (Nat.succ_pos _) (he225 _ _ _ (Nat.succ_pos _) (he220 _ _ _ (Nat.succ_pos _) (he215 _ _ _ (Nat.succ_pos _) (he210 _ _ _ (Nat.succ_pos _) (he205 _ _ _ (Nat.succ_pos _) (he200 _ _ _ (Nat.succ_pos _) (he195 _ _ _ (Nat.succ_pos _) (he190 _ _ _ (Nat.succ_pos _) (he185 _ _ _ (Nat.succ_pos _) (he180 _ _ _ (Nat.succ_pos _) (he175 _ _ _ (Nat.succ_pos _) (he170 _ _ _ (Nat.succ_pos _) (he165 _ _ _ (Nat.succ_pos _) (he160 _ _ _ (Nat.succ_pos _) (he155 _ _ _ (Nat.succ_pos _) (he150 _ _ _ (Nat.succ_pos _) (he145 _ _ _ (Nat.succ_pos _) (he140 _ _ _ (Nat.succ_pos _) (he135 _ _ _ (Nat.succ_pos _) (he130 _ _ _ (Nat.succ_pos _) (he125 _ _ _ (Nat.succ_pos _) (he120 _ _ _ (Nat.succ_pos _) (he115 _ _ _ (Nat.succ_pos _) (he110 _ _ _ (Nat.succ_pos _) (he105 _ _ _ (Nat.succ_pos _) (he100 _ _ _ (Nat.succ_pos _) (he95 _ _ _ (Nat.succ_pos _) (he90 _ _ _ (Nat.succ_pos _) (he85 _ _ _ (Nat.succ_pos _) (he80 _ _ _ (Nat.succ_pos _) (he75 _ _ _ (Nat.succ_pos _) (he70 _ _ _ (Nat.succ_pos _) (he65 _ _ _ (Nat.succ_pos _) (he60 _ _ _ (Nat.succ_pos _) (he55 _ _ _ (Nat.succ_pos _) (he50 _ _ _ (Nat.succ_pos _) (he45 _ _ _ (Nat.succ_pos _) (he40 _ _ _ (Nat.succ_pos _) (he35 _ _ _ (Nat.succ_pos _) (he30 _ _ _ (Nat.succ_pos _) (he25 _ _ _ (Nat.succ_pos _) (he20 _ _ _ (Nat.succ_pos _) (he15 _ _ _ (Nat.succ_pos _) (he10 _ _ _ (Nat.succ_pos _) (he5 _ _ _ (Nat.succ_pos _) hc1))))))))))))))))))))))))))))))))))))))))))))))))) flX12_155 rfl (Or.inr ⟨rfl, rfl, rfl⟩) nf_arr dX12_init_394 rfl (fun M246 => ?_)
  refine r_aload_n (i := 0) (x := a0) (q := 398) 0 hX dX12_init_397 rfl rfl rfl ?_
  refine r_bipush (v := (12 : Int32)) (q := 400) hX dX12_init_398 rfl rfl ?_
  refine r_newa (cap := 12) (k1 := 50) (n1 := 2670) (q := 402) hX arP_i ⟨by decide, by decide⟩ rfl (Nat.le_of_ble_eq_true rfl) rfl (Nat.le_of_ble_eq_true rfl) (Nat.le_of_ble_eq_true rfl) dX12_init_400 rfl (fun Z247 M248 hc249 he250 => ?_)
  refine r_putR (a := a0) (ci := 12) (kf := 73) (q := 405) hX (he250 _ _ _ (Nat.succ_pos _) (he245 _ _ _ (Nat.succ_pos _) (he240 _ _ _ (Nat.succ_pos _) (he235 _ _ _ (Nat.succ_pos _) (he230 _ _ _ (Nat.succ_pos _) (he225 _ _ _ (Nat.succ_pos _) (he220 _ _ _ (Nat.succ_pos _) (he215 _ _ _ (Nat.succ_pos _) (he210 _ _ _ (Nat.succ_pos _) (he205 _ _ _ (Nat.succ_pos _) (he200 _ _ _ (Nat.succ_pos _) (he195 _ _ _ (Nat.succ_pos _) (he190 _ _ _ (Nat.succ_pos _) (he185 _ _ _ (Nat.succ_pos _) (he180 _ _ _ (Nat.succ_pos _) (he175 _ _ _ (Nat.succ_pos _) (he170 _ _ _ (Nat.succ_pos _) (he165 _ _ _ (Nat.succ_pos _) (he160 _ _ _ (Nat.succ_pos _) (he155 _ _ _ (Nat.succ_pos _) (he150 _ _ _ (Nat.succ_pos _) (he145 _ _ _ (Nat.succ_pos _) (he140 _ _ _ (Nat.succ_pos _) (he135 _ _ _ (Nat.succ_pos _) (he130 _ _ _ (Nat.succ_pos _) (he125 _ _ _ (Nat.succ_pos _) (he120 _ _ _ (Nat.succ_pos _) (he115 _ _ _ (Nat.succ_pos _) (he110 _ _ _ (Nat.succ_pos _) (he105 _ _ _ (Nat.succ_pos _) (he100 _ _ _ (Nat.succ_pos _) (he95 _ _ _ (Nat.succ_pos _) (he90 _ _ _ (Nat.succ_pos _) (he85 _ _ _ (Nat.succ_pos _) (he80 _ _ _ (Nat.succ_pos _) (he75 _ _ _ (Nat.succ_pos _) (he70 _ _ _ (Nat.succ_pos _) (he65 _ _ _ (Nat.succ_pos _) (he60 _ _ _ (Nat.succ_pos _) (he55 _ _ _ (Nat.succ_pos _) (he50 _ _ _ (Nat.succ_pos _) (he45 _ _ _ (Nat.succ_pos _) (he40 _ _ _ (Nat.succ_pos _) (he35 _ _ _ (Nat.succ_pos _) (he30 _ _ _ (Nat.succ_pos _) (he25 _ _ _ (Nat.succ_pos _) (he20 _ _ _ (Nat.succ_pos _) (he15 _ _ _ (Nat.succ_pos _) (he10 _ _ _ (Nat.succ_pos _) (he5 _ _ _ (Nat.succ_pos _) hc1)))))))))))))))))))))))))))))))))))))))))))))))))) flX12_158 rfl (Or.inr ⟨rfl, rfl, rfl⟩) nf_arr dX12_init_402 rfl (fun M251 => ?_)
  refine r_aload_n (i := 0) (x := a0) (q := 406) 0 hX dX12_init_405 rfl rfl rfl ?_
  refine r_bipush (v := (6 : Int32)) (q := 408) hX dX12_init_406 rfl rfl ?_
  refine r_newa (cap := 6) (k1 := 51) (n1 := 2676) (q := 410) hX arP_i ⟨by decide, by decide⟩ rfl (Nat.le_of_ble_eq_true rfl) rfl (Nat.le_of_ble_eq_true rfl) (Nat.le_of_ble_eq_true rfl) dX12_init_408 rfl (fun Z252 M253 hc254 he255 => ?_)
  refine r_putR (a := a0) (ci := 12) (kf := 74) (q := 413) hX (he255 _ _ _ (Nat.succ_pos _) (he250 _ _ _ (Nat.succ_pos _) (he245 _ _ _ (Nat.succ_pos _) (he240 _ _ _ (Nat.succ_pos _) (he235 _ _ _ (Nat.succ_pos _) (he230 _ _ _ (Nat.succ_pos _) (he225 _ _ _ (Nat.succ_pos _) (he220 _ _ _ (Nat.succ_pos _) (he215 _ _ _ (Nat.succ_pos _) (he210 _ _ _ (Nat.succ_pos _) (he205 _ _ _ (Nat.succ_pos _) (he200 _ _ _ (Nat.succ_pos _) (he195 _ _ _ (Nat.succ_pos _) (he190 _ _ _ (Nat.succ_pos _) (he185 _ _ _ (Nat.succ_pos _) (he180 _ _ _ (Nat.succ_pos _) (he175 _ _ _ (Nat.succ_pos _) (he170 _ _ _ (Nat.succ_pos _) (he165 _ _ _ (Nat.succ_pos _) (he160 _ _ _ (Nat.succ_pos _) (he155 _ _ _ (Nat.succ_pos _) (he150 _ _ _ (Nat.succ_pos _) (he145 _ _ _ (Nat.succ_pos _) (he140 _ _ _ (Nat.succ_pos _) (he135 _ _ _ (Nat.succ_pos _) (he130 _ _ _ (Nat.succ_pos _) (he125 _ _ _ (Nat.succ_pos _) (he120 _ _ _ (Nat.succ_pos _) (he115 _ _ _ (Nat.succ_pos _) (he110 _ _ _ (Nat.succ_pos _) (he105 _ _ _ (Nat.succ_pos _) (he100 _ _ _ (Nat.succ_pos _) (he95 _ _ _ (Nat.succ_pos _) (he90 _ _ _ (Nat.succ_pos _) (he85 _ _ _ (Nat.succ_pos _) (he80 _ _ _ (Nat.succ_pos _) (he75 _ _ _ (Nat.succ_pos _) (he70 _ _ _ (Nat.succ_pos _) (he65 _ _ _ (Nat.succ_pos _) (he60 _ _ _ (Nat.succ_pos _) (he55 _ _ _ (Nat.succ_pos _) (he50 _ _ _ (Nat.succ_pos _) (he45 _ _ _ (Nat.succ_pos _) (he40 _ _ _ (Nat.succ_pos _) (he35 _ _ _ (Nat.succ_pos _) (he30 _ _ _ (Nat.succ_pos _) (he25 _ _ _ (Nat.succ_pos _) (he20 _ _ _ (Nat.succ_pos _) (he15 _ _ _ (Nat.succ_pos _) (he10 _ _ _ (Nat.succ_pos _) (he5 _ _ _ (Nat.succ_pos _) hc1))))))))))))))))))))))))))))))))))))))))))))))))))) flX12_161 rfl (Or.inr ⟨rfl, rfl, rfl⟩) nf_arr dX12_init_410 rfl (fun M256 => ?_)
  refine r_aload_n (i := 0) (x := a0) (q := 414) 0 hX dX12_init_413 rfl rfl rfl ?_
  refine r_bipush (v := (24 : Int32)) (q := 416) hX dX12_init_414 rfl rfl ?_
  refine r_newa (cap := 24) (k1 := 52) (n1 := 2700) (q := 418) hX arP_i ⟨by decide, by decide⟩ rfl (Nat.le_of_ble_eq_true rfl) rfl (Nat.le_of_ble_eq_true rfl) (Nat.le_of_ble_eq_true rfl) dX12_init_416 rfl (fun Z257 M258 hc259 he260 => ?_)
  refine r_putR (a := a0) (ci := 12) (kf := 76) (q := 421) hX (he260 _ _ _ (Nat.succ_pos _) (he255 _ _ _ (Nat.succ_pos _) (he250 _ _ _ (Nat.succ_pos _) (he245 _ _ _ (Nat.succ_pos _) (he240 _ _ _ (Nat.succ_pos _) (he235 _ _ _ (Nat.succ_pos _) (he230 _ _ _ (Nat.succ_pos _) (he225 _ _ _ (Nat.succ_pos _) (he220 _ _ _ (Nat.succ_pos _) (he215 _ _ _ (Nat.succ_pos _) (he210 _ _ _ (Nat.succ_pos _) (he205 _ _ _ (Nat.succ_pos _) (he200 _ _ _ (Nat.succ_pos _) (he195 _ _ _ (Nat.succ_pos _) (he190 _ _ _ (Nat.succ_pos _) (he185 _ _ _ (Nat.succ_pos _) (he180 _ _ _ (Nat.succ_pos _) (he175 _ _ _ (Nat.succ_pos _) (he170 _ _ _ (Nat.succ_pos _) (he165 _ _ _ (Nat.succ_pos _) (he160 _ _ _ (Nat.succ_pos _) (he155 _ _ _ (Nat.succ_pos _) (he150 _ _ _ (Nat.succ_pos _) (he145 _ _ _ (Nat.succ_pos _) (he140 _ _ _ (Nat.succ_pos _) (he135 _ _ _ (Nat.succ_pos _) (he130 _ _ _ (Nat.succ_pos _) (he125 _ _ _ (Nat.succ_pos _) (he120 _ _ _ (Nat.succ_pos _) (he115 _ _ _ (Nat.succ_pos _) (he110 _ _ _ (Nat.succ_pos _) (he105 _ _ _ (Nat.succ_pos _) (he100 _ _ _ (Nat.succ_pos _) (he95 _ _ _ (Nat.succ_pos _) (he90 _ _ _ (Nat.succ_pos _) (he85 _ _ _ (Nat.succ_pos _) (he80 _ _ _ (Nat.succ_pos _) (he75 _ _ _ (Nat.succ_pos _) (he70 _ _ _ (Nat.succ_pos _) (he65 _ _ _ (Nat.succ_pos _) (he60 _ _ _ (Nat.succ_pos _) (he55 _ _ _ (Nat.succ_pos _) (he50 _ _ _ (Nat.succ_pos _) (he45 _ _ _ (Nat.succ_pos _) (he40 _ _ _ (Nat.succ_pos _) (he35 _ _ _ (Nat.succ_pos _) (he30 _ _ _ (Nat.succ_pos _) (he25 _ _ _ (Nat.succ_pos _) (he20 _ _ _ (Nat.succ_pos _) (he15 _ _ _ (Nat.succ_pos _) (he10 _ _ _ (Nat.succ_pos _) (he5 _ _ _ (Nat.succ_pos _) hc1)))))))))))))))))))))))))))))))))))))))))))))))))))) flX12_164 rfl (Or.inr ⟨rfl, rfl, rfl⟩) nf_arr dX12_init_418 rfl (fun M261 => ?_)
  refine r_aload_n (i := 0) (x := a0) (q := 422) 0 hX dX12_init_421 rfl rfl rfl ?_
  refine r_bipush (v := (24 : Int32)) (q := 424) hX dX12_init_422 rfl rfl ?_
  refine r_newa (cap := 24) (k1 := 53) (n1 := 2724) (q := 426) hX arP_i ⟨by decide, by decide⟩ rfl (Nat.le_of_ble_eq_true rfl) rfl (Nat.le_of_ble_eq_true rfl) (Nat.le_of_ble_eq_true rfl) dX12_init_424 rfl (fun Z262 M263 hc264 he265 => ?_)
  refine r_putR (a := a0) (ci := 12) (kf := 77) (q := 429) hX (he265 _ _ _ (Nat.succ_pos _) (he260 _ _ _ (Nat.succ_pos _) (he255 _ _ _ (Nat.succ_pos _) (he250 _ _ _ (Nat.succ_pos _) (he245 _ _ _ (Nat.succ_pos _) (he240 _ _ _ (Nat.succ_pos _) (he235 _ _ _ (Nat.succ_pos _) (he230 _ _ _ (Nat.succ_pos _) (he225 _ _ _ (Nat.succ_pos _) (he220 _ _ _ (Nat.succ_pos _) (he215 _ _ _ (Nat.succ_pos _) (he210 _ _ _ (Nat.succ_pos _) (he205 _ _ _ (Nat.succ_pos _) (he200 _ _ _ (Nat.succ_pos _) (he195 _ _ _ (Nat.succ_pos _) (he190 _ _ _ (Nat.succ_pos _) (he185 _ _ _ (Nat.succ_pos _) (he180 _ _ _ (Nat.succ_pos _) (he175 _ _ _ (Nat.succ_pos _) (he170 _ _ _ (Nat.succ_pos _) (he165 _ _ _ (Nat.succ_pos _) (he160 _ _ _ (Nat.succ_pos _) (he155 _ _ _ (Nat.succ_pos _) (he150 _ _ _ (Nat.succ_pos _) (he145 _ _ _ (Nat.succ_pos _) (he140 _ _ _ (Nat.succ_pos _) (he135 _ _ _ (Nat.succ_pos _) (he130 _ _ _ (Nat.succ_pos _) (he125 _ _ _ (Nat.succ_pos _) (he120 _ _ _ (Nat.succ_pos _) (he115 _ _ _ (Nat.succ_pos _) (he110 _ _ _ (Nat.succ_pos _) (he105 _ _ _ (Nat.succ_pos _) (he100 _ _ _ (Nat.succ_pos _) (he95 _ _ _ (Nat.succ_pos _) (he90 _ _ _ (Nat.succ_pos _) (he85 _ _ _ (Nat.succ_pos _) (he80 _ _ _ (Nat.succ_pos _) (he75 _ _ _ (Nat.succ_pos _) (he70 _ _ _ (Nat.succ_pos _) (he65 _ _ _ (Nat.succ_pos _) (he60 _ _ _ (Nat.succ_pos _) (he55 _ _ _ (Nat.succ_pos _) (he50 _ _ _ (Nat.succ_pos _) (he45 _ _ _ (Nat.succ_pos _) (he40 _ _ _ (Nat.succ_pos _) (he35 _ _ _ (Nat.succ_pos _) (he30 _ _ _ (Nat.succ_pos _) (he25 _ _ _ (Nat.succ_pos _) (he20 _ _ _ (Nat.succ_pos _) (he15 _ _ _ (Nat.succ_pos _) (he10 _ _ _ (Nat.succ_pos _) (he5 _ _ _ (Nat.succ_pos _) hc1))))))))))))))))))))))))))))))))))))))))))))))))))))) flX12_167 rfl (Or.inr ⟨rfl, rfl, rfl⟩) nf_arr dX12_init_426 rfl (fun M266 => ?_)
  refine r_aload_n (i := 0) (x := a0) (q := 430) 0 hX dX12_init_429 rfl rfl rfl ?_
  refine r_bipush (v := (24 : Int32)) (q := 432) hX dX12_init_430 rfl rfl ?_
  refine r_newa (cap := 24) (k1 := 54) (n1 := 2748) (q := 434) hX arP_i ⟨by decide, by decide⟩ rfl (Nat.le_of_ble_eq_true rfl) rfl (Nat.le_of_ble_eq_true rfl) (Nat.le_of_ble_eq_true rfl) dX12_init_432 rfl (fun Z267 M268 hc269 he270 => ?_)
  refine r_putR (a := a0) (ci := 12) (kf := 78) (q := 437) hX (he270 _ _ _ (Nat.succ_pos _) (he265 _ _ _ (Nat.succ_pos _) (he260 _ _ _ (Nat.succ_pos _) (he255 _ _ _ (Nat.succ_pos _) (he250 _ _ _ (Nat.succ_pos _) (he245 _ _ _ (Nat.succ_pos _) (he240 _ _ _ (Nat.succ_pos _) (he235 _ _ _ (Nat.succ_pos _) (he230 _ _ _ (Nat.succ_pos _) (he225 _ _ _ (Nat.succ_pos _) (he220 _ _ _ (Nat.succ_pos _) (he215 _ _ _ (Nat.succ_pos _) (he210 _ _ _ (Nat.succ_pos _) (he205 _ _ _ (Nat.succ_pos _) (he200 _ _ _ (Nat.succ_pos _) (he195 _ _ _ (Nat.succ_pos _) (he190 _ _ _ (Nat.succ_pos _) (he185 _ _ _ (Nat.succ_pos _) (he180 _ _ _ (Nat.succ_pos _) (he175 _ _ _ (Nat.succ_pos _) (he170 _ _ _ (Nat.succ_pos _) (he165 _ _ _ (Nat.succ_pos _) (he160 _ _ _ (Nat.succ_pos _) (he155 _ _ _ (Nat.succ_pos _) (he150 _ _ _ (Nat.succ_pos _) (he145 _ _ _ (Nat.succ_pos _) (he140 _ _ _ (Nat.succ_pos _) (he135 _ _ _ (Nat.succ_pos _) (he130 _ _ _ (Nat.succ_pos _) (he125 _ _ _ (Nat.succ_pos _) (he120 _ _ _ (Nat.succ_pos _) (he115 _ _ _ (Nat.succ_pos _) (he110 _ _ _ (Nat.succ_pos _) (he105 _ _ _ (Nat.succ_pos _) (he100 _ _ _ (Nat.succ_pos _) (he95 _ _ _ (Nat.succ_pos _) (he90 _ _ _ (Nat.succ_pos _) (he85 _ _ _ (Nat.succ_pos _) (he80 _ _ _ (Nat.succ_pos _) (he75 _ _ _ (Nat.succ_pos _) (he70 _ _ _ (Nat.succ_pos _) (he65 _ _ _ (Nat.succ_pos _) (he60 _ _ _ (Nat.succ_pos _) (he55 _ _ _ (Nat.succ_pos _) (he50 _ _ _ (Nat.succ_pos _) (he45 _ _ _ (Nat.succ_pos _) (he40 _ _ _ (Nat.succ_pos _) (he35 _ _ _ (Nat.succ_pos _) (he30 _ _ _ (Nat.succ_pos _) (he25 _ _ _ (Nat.succ_pos _) (he20 _ _ _ (Nat.succ_pos _) (he15 _ _ _ (Nat.succ_pos _) (he10 _ _ _ (Nat.succ_pos _) (he5 _ _ _ (Nat.succ_pos _) hc1)))))))))))))))))))))))))))))))))))))))))))))))))))))) flX12_170 rfl (Or.inr ⟨rfl, rfl, rfl⟩) nf_arr dX12_init_434 rfl (fun M271 => ?_)
  refine r_aload_n (i := 0) (x := a0) (q := 438) 0 hX dX12_init_437 rfl rfl rfl ?_
  refine r_bipush (v := (24 : Int32)) (q := 440) hX dX12_init_438 rfl rfl ?_
  refine r_newa (cap := 24) (k1 := 55) (n1 := 2772) (q := 442) hX arP_i ⟨by decide, by decide⟩ rfl (Nat.le_of_ble_eq_true rfl) rfl (Nat.le_of_ble_eq_true rfl) (Nat.le_of_ble_eq_true rfl) dX12_init_440 rfl (fun Z272 M273 hc274 he275 => ?_)
  refine r_putR (a := a0) (ci := 12) (kf := 79) (q := 445) hX (he275 _ _ _ (Nat.succ_pos _) (he270 _ _ _ (Nat.succ_pos _) (he265 _ _ _ (Nat.succ_pos _) (he260 _ _ _ (Nat.succ_pos _) (he255 _ _ _ (Nat.succ_pos _) (he250 _ _ _ (Nat.succ_pos _) (he245 _ _ _ (Nat.succ_pos _) (he240 _ _ _ (Nat.succ_pos _) (he235 _ _ _ (Nat.succ_pos _) (he230 _ _ _ (Nat.succ_pos _) (he225 _ _ _ (Nat.succ_pos _) (he220 _ _ _ (Nat.succ_pos _) (he215 _ _ _ (Nat.succ_pos _) (he210 _ _ _ (Nat.succ_pos _) (he205 _ _ _ (Nat.succ_pos _) (he200 _ _ _ (Nat.succ_pos _) (he195 _ _ _ (Nat.succ_pos _) (he190 _ _ _ (Nat.succ_pos _) (he185 _ _ _ (Nat.succ_pos _) (he180 _ _ _ (Nat.succ_pos _) (he175 _ _ _ (Nat.succ_pos _) (he170 _ _ _ (Nat.succ_pos _) (he165 _ _ _ (Nat.succ_pos _) (he160 _ _ _ (Nat.succ_pos _) (he155 _ _ _ (Nat.succ_pos _) (he150 _ _ _ (Nat.succ_pos _) (he145 _ _ _ (Nat.succ_pos _) (he140 _ _ _ (Nat.succ_pos _) (he135 _ _ _ (Nat.succ_pos _) (he130 _ _ _ (Nat.succ_pos _) (he125 _ _ _ (Nat.succ_pos _) (he120 _ _ _ (Nat.succ_pos _) (he115 _ _ _ (Nat.succ_pos _) (he110 _ _ _ (Nat.succ_pos _) (he105 _ _ _ (Nat.succ_pos _) (he100 _ _ _ (Nat.succ_pos _) (he95 _ _ _ (Nat.succ_pos _) (he90 _ _ _ (Nat.succ_pos _) (he85 _ _ _ (Nat.succ_pos _) (he80 _ _ _ (Nat.succ_pos _) (he75 _ _ _ (Nat.succ_pos _) (he70 _ _ _ (Nat.succ_pos _) (he65 _ _ _ (Nat.succ_pos _) (he60 _ _ _ (Nat.succ_pos _) (he55 _ _ _ (Nat.succ_pos _) (he50 _ _ _ (Nat.succ_pos _) (he45 _ _ _ (Nat.succ_pos _) (he40 _ _ _ (Nat.succ_pos _) (he35 _ _ _ (Nat.succ_pos _) (he30 _ _ _ (Nat.succ_pos _) (he25 _ _ _ (Nat.succ_pos _) (he20 _ _ _ (Nat.succ_pos _) (he15 _ _ _ (Nat.succ_pos _) (he10 _ _ _ (Nat.succ_pos _) (he5 _ _ _ (Nat.succ_pos _) hc1))))))))))))))))))))))))))))))))))))))))))))))))))))))) flX12_173 rfl (Or.inr ⟨rfl, rfl, rfl⟩) nf_arr dX12_init_442 rfl (fun M276 => ?_)
  refine r_aload_n (i := 0) (x := a0) (q := 446) 0 hX dX12_init_445 rfl rfl rfl ?_
  refine r_bipush (v := (8 : Int32)) (q := 448) hX dX12_init_446 rfl rfl ?_
  refine r_newa (cap := 8) (k1 := 56) (n1 := 2780) (q := 450) hX arP_i ⟨by decide, by decide⟩ rfl (Nat.le_of_ble_eq_true rfl) rfl (Nat.le_of_ble_eq_true rfl) (Nat.le_of_ble_eq_true rfl) dX12_init_448 rfl (fun Z277 M278 hc279 he280 => ?_)
  refine r_putR (a := a0) (ci := 12) (kf := 82) (q := 453) hX (he280 _ _ _ (Nat.succ_pos _) (he275 _ _ _ (Nat.succ_pos _) (he270 _ _ _ (Nat.succ_pos _) (he265 _ _ _ (Nat.succ_pos _) (he260 _ _ _ (Nat.succ_pos _) (he255 _ _ _ (Nat.succ_pos _) (he250 _ _ _ (Nat.succ_pos _) (he245 _ _ _ (Nat.succ_pos _) (he240 _ _ _ (Nat.succ_pos _) (he235 _ _ _ (Nat.succ_pos _) (he230 _ _ _ (Nat.succ_pos _) (he225 _ _ _ (Nat.succ_pos _) (he220 _ _ _ (Nat.succ_pos _) (he215 _ _ _ (Nat.succ_pos _) (he210 _ _ _ (Nat.succ_pos _) (he205 _ _ _ (Nat.succ_pos _) (he200 _ _ _ (Nat.succ_pos _) (he195 _ _ _ (Nat.succ_pos _) (he190 _ _ _ (Nat.succ_pos _) (he185 _ _ _ (Nat.succ_pos _) (he180 _ _ _ (Nat.succ_pos _) (he175 _ _ _ (Nat.succ_pos _) (he170 _ _ _ (Nat.succ_pos _) (he165 _ _ _ (Nat.succ_pos _) (he160 _ _ _ (Nat.succ_pos _) (he155 _ _ _ (Nat.succ_pos _) (he150 _ _ _ (Nat.succ_pos _) (he145 _ _ _ (Nat.succ_pos _) (he140 _ _ _ (Nat.succ_pos _) (he135 _ _ _ (Nat.succ_pos _) (he130 _ _ _ (Nat.succ_pos _) (he125 _ _ _ (Nat.succ_pos _) (he120 _ _ _ (Nat.succ_pos _) (he115 _ _ _ (Nat.succ_pos _) (he110 _ _ _ (Nat.succ_pos _) (he105 _ _ _ (Nat.succ_pos _) (he100 _ _ _ (Nat.succ_pos _) (he95 _ _ _ (Nat.succ_pos _) (he90 _ _ _ (Nat.succ_pos _) (he85 _ _ _ (Nat.succ_pos _) (he80 _ _ _ (Nat.succ_pos _) (he75 _ _ _ (Nat.succ_pos _) (he70 _ _ _ (Nat.succ_pos _) (he65 _ _ _ (Nat.succ_pos _) (he60 _ _ _ (Nat.succ_pos _) (he55 _ _ _ (Nat.succ_pos _) (he50 _ _ _ (Nat.succ_pos _) (he45 _ _ _ (Nat.succ_pos _) (he40 _ _ _ (Nat.succ_pos _) (he35 _ _ _ (Nat.succ_pos _) (he30 _ _ _ (Nat.succ_pos _) (he25 _ _ _ (Nat.succ_pos _) (he20 _ _ _ (Nat.succ_pos _) (he15 _ _ _ (Nat.succ_pos _) (he10 _ _ _ (Nat.succ_pos _) (he5 _ _ _ (Nat.succ_pos _) hc1)))))))))))))))))))))))))))))))))))))))))))))))))))))))) flX12_176 rfl (Or.inr ⟨rfl, rfl, rfl⟩) nf_arr dX12_init_450 rfl (fun M281 => ?_)
  refine r_aload_n (i := 0) (x := a0) (q := 454) 0 hX dX12_init_453 rfl rfl rfl ?_
  refine r_bipush (v := (8 : Int32)) (q := 456) hX dX12_init_454 rfl rfl ?_
  refine r_newa (cap := 8) (k1 := 57) (n1 := 2788) (q := 458) hX arP_i ⟨by decide, by decide⟩ rfl (Nat.le_of_ble_eq_true rfl) rfl (Nat.le_of_ble_eq_true rfl) (Nat.le_of_ble_eq_true rfl) dX12_init_456 rfl (fun Z282 M283 hc284 he285 => ?_)
  refine r_putR (a := a0) (ci := 12) (kf := 83) (q := 461) hX (he285 _ _ _ (Nat.succ_pos _) (he280 _ _ _ (Nat.succ_pos _) (he275 _ _ _ (Nat.succ_pos _) (he270 _ _ _ (Nat.succ_pos _) (he265 _ _ _ (Nat.succ_pos _) (he260 _ _ _ (Nat.succ_pos _) (he255 _ _ _ (Nat.succ_pos _) (he250 _ _ _ (Nat.succ_pos _) (he245 _ _ _ (Nat.succ_pos _) (he240 _ _ _ (Nat.succ_pos _) (he235 _ _ _ (Nat.succ_pos _) (he230 _ _ _ (Nat.succ_pos _) (he225 _ _ _ (Nat.succ_pos _) (he220 _ _ _ (Nat.succ_pos _) (he215 _ _ _ (Nat.succ_pos _) (he210 _ _ _ (Nat.succ_pos _) (he205 _ _ _ (Nat.succ_pos _) (he200 _ _ _ (Nat.succ_pos _) (he195 _ _ _ (Nat.succ_pos _) (he190 _ _ _ (Nat.succ_pos _) (he185 _ _ _ (Nat.succ_pos _) (he180 _ _ _ (Nat.succ_pos _) (he175 _ _ _ (Nat.succ_pos _) (he170 _ _ _ (Nat.succ_pos _) (he165 _ _ _ (Nat.succ_pos _) (he160 _ _ _ (Nat.succ_pos _) (he155 _ _ _ (Nat.succ_pos _) (he150 _ _ _ (Nat.succ_pos _) (he145 _ _ _ (Nat.succ_pos _) (he140 _ _ _ (Nat.succ_pos _) (he135 _ _ _ (Nat.succ_pos _) (he130 _ _ _ (Nat.succ_pos _) (he125 _ _ _ (Nat.succ_pos _) (he120 _ _ _ (Nat.succ_pos _) (he115 _ _ _ (Nat.succ_pos _) (he110 _ _ _ (Nat.succ_pos _) (he105 _ _ _ (Nat.succ_pos _) (he100 _ _ _ (Nat.succ_pos _) (he95 _ _ _ (Nat.succ_pos _) (he90 _ _ _ (Nat.succ_pos _) (he85 _ _ _ (Nat.succ_pos _) (he80 _ _ _ (Nat.succ_pos _) (he75 _ _ _ (Nat.succ_pos _) (he70 _ _ _ (Nat.succ_pos _) (he65 _ _ _ (Nat.succ_pos _) (he60 _ _ _ (Nat.succ_pos _) (he55 _ _ _ (Nat.succ_pos _) (he50 _ _ _ (Nat.succ_pos _) (he45 _ _ _ (Nat.succ_pos _) (he40 _ _ _ (Nat.succ_pos _) (he35 _ _ _ (Nat.succ_pos _) (he30 _ _ _ (Nat.succ_pos _) (he25 _ _ _ (Nat.succ_pos _) (he20 _ _ _ (Nat.succ_pos _) (he15 _ _ _ (Nat.succ_pos _) (he10 _ _ _ (Nat.succ_pos _) (he5 _ _ _ (Nat.succ_pos _) hc1))))))))))))))))))))))))))))))))))))))))))))))))))))))))) flX12_179 rfl (Or.inr ⟨rfl, rfl, rfl⟩) nf_arr dX12_init_458 rfl (fun M286 => ?_)
  refine r_aload_n (i := 0) (x := a0) (q := 462) 0 hX dX12_init_461 rfl rfl rfl ?_
  refine r_bipush (v := (8 : Int32)) (q := 464) hX dX12_init_462 rfl rfl ?_
  refine r_newa (cap := 8) (k1 := 58) (n1 := 2796) (q := 466) hX arP_i ⟨by decide, by decide⟩ rfl (Nat.le_of_ble_eq_true rfl) rfl (Nat.le_of_ble_eq_true rfl) (Nat.le_of_ble_eq_true rfl) dX12_init_464 rfl (fun Z287 M288 hc289 he290 => ?_)
  refine r_putR (a := a0) (ci := 12) (kf := 84) (q := 469) hX (he290 _ _ _ (Nat.succ_pos _) (he285 _ _ _ (Nat.succ_pos _) (he280 _ _ _ (Nat.succ_pos _) (he275 _ _ _ (Nat.succ_pos _) (he270 _ _ _ (Nat.succ_pos _) (he265 _ _ _ (Nat.succ_pos _) (he260 _ _ _ (Nat.succ_pos _) (he255 _ _ _ (Nat.succ_pos _) (he250 _ _ _ (Nat.succ_pos _) (he245 _ _ _ (Nat.succ_pos _) (he240 _ _ _ (Nat.succ_pos _) (he235 _ _ _ (Nat.succ_pos _) (he230 _ _ _ (Nat.succ_pos _) (he225 _ _ _ (Nat.succ_pos _) (he220 _ _ _ (Nat.succ_pos _) (he215 _ _ _ (Nat.succ_pos _) (he210 _ _ _ (Nat.succ_pos _) (he205 _ _ _ (Nat.succ_pos _) (he200 _ _ _ (Nat.succ_pos _) (he195 _ _ _ (Nat.succ_pos _) (he190 _ _ _ (Nat.succ_pos _) (he185 _ _ _ (Nat.succ_pos _) (he180 _ _ _ (Nat.succ_pos _) (he175 _ _ _ (Nat.succ_pos _) (he170 _ _ _ (Nat.succ_pos _) (he165 _ _ _ (Nat.succ_pos _) (he160 _ _ _ (Nat.succ_pos _) (he155 _ _ _ (Nat.succ_pos _) (he150 _ _ _ (Nat.succ_pos _) (he145 _ _ _ (Nat.succ_pos _) (he140 _ _ _ (Nat.succ_pos _) (he135 _ _ _ (Nat.succ_pos _) (he130 _ _ _ (Nat.succ_pos _) (he125 _ _ _ (Nat.succ_pos _) (he120 _ _ _ (Nat.succ_pos _) (he115 _ _ _ (Nat.succ_pos _) (he110 _ _ _ (Nat.succ_pos _) (he105 _ _ _ (Nat.succ_pos _) (he100 _ _ _ (Nat.succ_pos _) (he95 _ _ _ (Nat.succ_pos _) (he90 _ _ _ (Nat.succ_pos _) (he85 _ _ _ (Nat.succ_pos _) (he80 _ _ _ (Nat.succ_pos _) (he75 _ _ _ (Nat.succ_pos _) (he70 _ _ _ (Nat.succ_pos _) (he65 _ _ _ (Nat.succ_pos _) (he60 _ _ _ (Nat.succ_pos _) (he55 _ _ _ (Nat.succ_pos _) (he50 _ _ _ (Nat.succ_pos _) (he45 _ _ _ (Nat.succ_pos _) (he40 _ _ _ (Nat.succ_pos _) (he35 _ _ _ (Nat.succ_pos _) (he30 _ _ _ (Nat.succ_pos _) (he25 _ _ _ (Nat.succ_pos _) (he20 _ _ _ (Nat.succ_pos _) (he15 _ _ _ (Nat.succ_pos _) (he10 _ _ _ (Nat.succ_pos _) (he5 _ _ _ (Nat.succ_pos _) hc1)))))))))))))))))))))))))))))))))))))))))))))))))))))))))) flX12_182 rfl (Or.inr ⟨rfl, rfl, rfl⟩) nf_arr dX12_init_466 rfl (fun M291 => ?_)
  refine r_iconst (v := (0 : Int32)) (q := 470) hX dX12_init_469 rfl rfl ?_
  refine r_istore_n (x := (0 : Int32)) (q := 471) 1 [1, 0] (L1 := [(0, vr a0), (1, vi (0 : Int32))]) hX dX12_init_470 rfl (Nat.le_of_ble_eq_true rfl) rfl rfl ?_
  refine r_iload_n (i := 1) (x := (0 : Int32)) (q := 472) 1 hX dX12_init_471 rfl rfl rfl ?_
  refine r_bipush (v := (8 : Int32)) (q := 474) hX dX12_init_472 rfl rfl ?_
  refine r_icmp_geF (tgt := 517) (q := 477) hX dX12_init_474 (by decide) rfl (by decide) ?_
  refine r_aload_n (i := 0) (x := a0) (q := 478) 0 hX dX12_init_477 rfl rfl rfl ?_
  refine r_getR (a := a0) (ci := 12) (kf := 0) (q := 481) hX (he290 _ _ _ (Nat.succ_pos _) (he285 _ _ _ (Nat.succ_pos _) (he280 _ _ _ (Nat.succ_pos _) (he275 _ _ _ (Nat.succ_pos _) (he270 _ _ _ (Nat.succ_pos _) (he265 _ _ _ (Nat.succ_pos _) (he260 _ _ _ (Nat.succ_pos _) (he255 _ _ _ (Nat.succ_pos _) (he250 _ _ _ (Nat.succ_pos _) (he245 _ _ _ (Nat.succ_pos _) (he240 _ _ _ (Nat.succ_pos _) (he235 _ _ _ (Nat.succ_pos _) (he230 _ _ _ (Nat.succ_pos _) (he225 _ _ _ (Nat.succ_pos _) (he220 _ _ _ (Nat.succ_pos _) (he215 _ _ _ (Nat.succ_pos _) (he210 _ _ _ (Nat.succ_pos _) (he205 _ _ _ (Nat.succ_pos _) (he200 _ _ _ (Nat.succ_pos _) (he195 _ _ _ (Nat.succ_pos _) (he190 _ _ _ (Nat.succ_pos _) (he185 _ _ _ (Nat.succ_pos _) (he180 _ _ _ (Nat.succ_pos _) (he175 _ _ _ (Nat.succ_pos _) (he170 _ _ _ (Nat.succ_pos _) (he165 _ _ _ (Nat.succ_pos _) (he160 _ _ _ (Nat.succ_pos _) (he155 _ _ _ (Nat.succ_pos _) (he150 _ _ _ (Nat.succ_pos _) (he145 _ _ _ (Nat.succ_pos _) (he140 _ _ _ (Nat.succ_pos _) (he135 _ _ _ (Nat.succ_pos _) (he130 _ _ _ (Nat.succ_pos _) (he125 _ _ _ (Nat.succ_pos _) (he120 _ _ _ (Nat.succ_pos _) (he115 _ _ _ (Nat.succ_pos _) (he110 _ _ _ (Nat.succ_pos _) (he105 _ _ _ (Nat.succ_pos _) (he100 _ _ _ (Nat.succ_pos _) (he95 _ _ _ (Nat.succ_pos _) (he90 _ _ _ (Nat.succ_pos _) (he85 _ _ _ (Nat.succ_pos _) (he80 _ _ _ (Nat.succ_pos _) (he75 _ _ _ (Nat.succ_pos _) (he70 _ _ _ (Nat.succ_pos _) (he65 _ _ _ (Nat.succ_pos _) (he60 _ _ _ (Nat.succ_pos _) (he55 _ _ _ (Nat.succ_pos _) (he50 _ _ _ (Nat.succ_pos _) (he45 _ _ _ (Nat.succ_pos _) (he40 _ _ _ (Nat.succ_pos _) (he35 _ _ _ (Nat.succ_pos _) (he30 _ _ _ (Nat.succ_pos _) (he25 _ _ _ (Nat.succ_pos _) (he20 _ _ _ (Nat.succ_pos _) (he15 _ _ _ (Nat.succ_pos _) (he10 _ _ _ (Nat.succ_pos _) (he5 _ _ _ (Nat.succ_pos _) hc1)))))))))))))))))))))))))))))))))))))))))))))))))))))))))) flX12_7 rfl dX12_init_478 rfl ?_
  refine r_iload_n (i := 1) (x := (0 : Int32)) (q := 482) 1 hX dX12_init_481 rfl rfl rfl ?_
  refine r_sipush (v := (1000 : Int32)) (q := 485) hX dX12_init_482 rfl rfl ?_
  refine r_ck (fun hc293 => ?_)
  refine r_iast (a := (rR M291 a0 0)) (i := (0 : Int32)) (x := (1000 : Int32)) (q := 486) hX hc293 dX12_init_485 rfl (fun M294 => ?_)
  refine r_aload_n (i := 0) (x := a0) (q := 487) 0 hX dX12_init_486 rfl rfl rfl ?_
  refine r_getR (a := a0) (ci := 12) (kf := 1) (q := 490) hX (he290 _ _ _ (Nat.succ_pos _) (he285 _ _ _ (Nat.succ_pos _) (he280 _ _ _ (Nat.succ_pos _) (he275 _ _ _ (Nat.succ_pos _) (he270 _ _ _ (Nat.succ_pos _) (he265 _ _ _ (Nat.succ_pos _) (he260 _ _ _ (Nat.succ_pos _) (he255 _ _ _ (Nat.succ_pos _) (he250 _ _ _ (Nat.succ_pos _) (he245 _ _ _ (Nat.succ_pos _) (he240 _ _ _ (Nat.succ_pos _) (he235 _ _ _ (Nat.succ_pos _) (he230 _ _ _ (Nat.succ_pos _) (he225 _ _ _ (Nat.succ_pos _) (he220 _ _ _ (Nat.succ_pos _) (he215 _ _ _ (Nat.succ_pos _) (he210 _ _ _ (Nat.succ_pos _) (he205 _ _ _ (Nat.succ_pos _) (he200 _ _ _ (Nat.succ_pos _) (he195 _ _ _ (Nat.succ_pos _) (he190 _ _ _ (Nat.succ_pos _) (he185 _ _ _ (Nat.succ_pos _) (he180 _ _ _ (Nat.succ_pos _) (he175 _ _ _ (Nat.succ_pos _) (he170 _ _ _ (Nat.succ_pos _) (he165 _ _ _ (Nat.succ_pos _) (he160 _ _ _ (Nat.succ_pos _) (he155 _ _ _ (Nat.succ_pos _) (he150 _ _ _ (Nat.succ_pos _) (he145 _ _ _ (Nat.succ_pos _) (he140 _ _ _ (Nat.succ_pos _) (he135 _ _ _ (Nat.succ_pos _) (he130 _ _ _ (Nat.succ_pos _) (he125 _ _ _ (Nat.succ_pos _) (he120 _ _ _ (Nat.succ_pos _) (he115 _ _ _ (Nat.succ_pos _) (he110 _ _ _ (Nat.succ_pos _) (he105 _ _ _ (Nat.succ_pos _) (he100 _ _ _ (Nat.succ_pos _) (he95 _ _ _ (Nat.succ_pos _) (he90 _ _ _ (Nat.succ_pos _) (he85 _ _ _ (Nat.succ_pos _) (he80 _ _ _ (Nat.succ_pos _) (he75 _ _ _ (Nat.succ_pos _) (he70 _ _ _ (Nat.succ_pos _) (he65 _ _ _ (Nat.succ_pos _) (he60 _ _ _ (Nat.succ_pos _) (he55 _ _ _ (Nat.succ_pos _) (he50 _ _ _ (Nat.succ_pos _) (he45 _ _ _ (Nat.succ_pos _) (he40 _ _ _ (Nat.succ_pos _) (he35 _ _ _ (Nat.succ_pos _) (he30 _ _ _ (Nat.succ_pos _) (he25 _ _ _ (Nat.succ_pos _) (he20 _ _ _ (Nat.succ_pos _) (he15 _ _ _ (Nat.succ_pos _) (he10 _ _ _ (Nat.succ_pos _) (he5 _ _ _ (Nat.succ_pos _) hc1)))))))))))))))))))))))))))))))))))))))))))))))))))))))))) flX12_13 rfl dX12_init_487 rfl ?_
  refine r_iload_n (i := 1) (x := (0 : Int32)) (q := 491) 1 hX dX12_init_490 rfl rfl rfl ?_
  refine r_sipush (v := (1000 : Int32)) (q := 494) hX dX12_init_491 rfl rfl ?_
  refine r_ck (fun hc295 => ?_)
  refine r_iast (a := (rR M294 a0 1)) (i := (0 : Int32)) (x := (1000 : Int32)) (q := 495) hX hc295 dX12_init_494 rfl (fun M296 => ?_)
  refine r_aload_n (i := 0) (x := a0) (q := 496) 0 hX dX12_init_495 rfl rfl rfl ?_
  refine r_getR (a := a0) (ci := 12) (kf := 2) (q := 499) hX (he290 _ _ _ (Nat.succ_pos _) (he285 _ _ _ (Nat.succ_pos _) (he280 _ _ _ (Nat.succ_pos _) (he275 _ _ _ (Nat.succ_pos _) (he270 _ _ _ (Nat.succ_pos _) (he265 _ _ _ (Nat.succ_pos _) (he260 _ _ _ (Nat.succ_pos _) (he255 _ _ _ (Nat.succ_pos _) (he250 _ _ _ (Nat.succ_pos _) (he245 _ _ _ (Nat.succ_pos _) (he240 _ _ _ (Nat.succ_pos _) (he235 _ _ _ (Nat.succ_pos _) (he230 _ _ _ (Nat.succ_pos _) (he225 _ _ _ (Nat.succ_pos _) (he220 _ _ _ (Nat.succ_pos _) (he215 _ _ _ (Nat.succ_pos _) (he210 _ _ _ (Nat.succ_pos _) (he205 _ _ _ (Nat.succ_pos _) (he200 _ _ _ (Nat.succ_pos _) (he195 _ _ _ (Nat.succ_pos _) (he190 _ _ _ (Nat.succ_pos _) (he185 _ _ _ (Nat.succ_pos _) (he180 _ _ _ (Nat.succ_pos _) (he175 _ _ _ (Nat.succ_pos _) (he170 _ _ _ (Nat.succ_pos _) (he165 _ _ _ (Nat.succ_pos _) (he160 _ _ _ (Nat.succ_pos _) (he155 _ _ _ (Nat.succ_pos _) (he150 _ _ _ (Nat.succ_pos _) (he145 _ _ _ (Nat.succ_pos _) (he140 _ _ _ (Nat.succ_pos _) (he135 _ _ _ (Nat.succ_pos _) (he130 _ _ _ (Nat.succ_pos _) (he125 _ _ _ (Nat.succ_pos _) (he120 _ _ _ (Nat.succ_pos _) (he115 _ _ _ (Nat.succ_pos _) (he110 _ _ _ (Nat.succ_pos _) (he105 _ _ _ (Nat.succ_pos _) (he100 _ _ _ (Nat.succ_pos _) (he95 _ _ _ (Nat.succ_pos _) (he90 _ _ _ (Nat.succ_pos _) (he85 _ _ _ (Nat.succ_pos _) (he80 _ _ _ (Nat.succ_pos _) (he75 _ _ _ (Nat.succ_pos _) (he70 _ _ _ (Nat.succ_pos _) (he65 _ _ _ (Nat.succ_pos _) (he60 _ _ _ (Nat.succ_pos _) (he55 _ _ _ (Nat.succ_pos _) (he50 _ _ _ (Nat.succ_pos _) (he45 _ _ _ (Nat.succ_pos _) (he40 _ _ _ (Nat.succ_pos _) (he35 _ _ _ (Nat.succ_pos _) (he30 _ _ _ (Nat.succ_pos _) (he25 _ _ _ (Nat.succ_pos _) (he20 _ _ _ (Nat.succ_pos _) (he15 _ _ _ (Nat.succ_pos _) (he10 _ _ _ (Nat.succ_pos _) (he5 _ _ _ (Nat.succ_pos _) hc1)))))))))))))))))))))))))))))))))))))))))))))))))))))))))) flX12_16 rfl dX12_init_496 rfl ?_
  refine r_iload_n (i := 1) (x := (0 : Int32)) (q := 500) 1 hX dX12_init_499 rfl rfl rfl ?_
  refine r_sipush (v := (500 : Int32)) (q := 503) hX dX12_init_500 rfl rfl ?_
  refine r_ck (fun hc297 => ?_)
  refine r_iast (a := (rR M296 a0 2)) (i := (0 : Int32)) (x := (500 : Int32)) (q := 504) hX hc297 dX12_init_503 rfl (fun M298 => ?_)
  refine r_aload_n (i := 0) (x := a0) (q := 505) 0 hX dX12_init_504 rfl rfl rfl ?_
  refine r_getR (a := a0) (ci := 12) (kf := 69) (q := 508) hX (he290 _ _ _ (Nat.succ_pos _) (he285 _ _ _ (Nat.succ_pos _) (he280 _ _ _ (Nat.succ_pos _) (he275 _ _ _ (Nat.succ_pos _) (he270 _ _ _ (Nat.succ_pos _) (he265 _ _ _ (Nat.succ_pos _) (he260 _ _ _ (Nat.succ_pos _) (he255 _ _ _ (Nat.succ_pos _) (he250 _ _ _ (Nat.succ_pos _) (he245 _ _ _ (Nat.succ_pos _) (he240 _ _ _ (Nat.succ_pos _) (he235 _ _ _ (Nat.succ_pos _) (he230 _ _ _ (Nat.succ_pos _) (he225 _ _ _ (Nat.succ_pos _) (he220 _ _ _ (Nat.succ_pos _) (he215 _ _ _ (Nat.succ_pos _) (he210 _ _ _ (Nat.succ_pos _) (he205 _ _ _ (Nat.succ_pos _) (he200 _ _ _ (Nat.succ_pos _) (he195 _ _ _ (Nat.succ_pos _) (he190 _ _ _ (Nat.succ_pos _) (he185 _ _ _ (Nat.succ_pos _) (he180 _ _ _ (Nat.succ_pos _) (he175 _ _ _ (Nat.succ_pos _) (he170 _ _ _ (Nat.succ_pos _) (he165 _ _ _ (Nat.succ_pos _) (he160 _ _ _ (Nat.succ_pos _) (he155 _ _ _ (Nat.succ_pos _) (he150 _ _ _ (Nat.succ_pos _) (he145 _ _ _ (Nat.succ_pos _) (he140 _ _ _ (Nat.succ_pos _) (he135 _ _ _ (Nat.succ_pos _) (he130 _ _ _ (Nat.succ_pos _) (he125 _ _ _ (Nat.succ_pos _) (he120 _ _ _ (Nat.succ_pos _) (he115 _ _ _ (Nat.succ_pos _) (he110 _ _ _ (Nat.succ_pos _) (he105 _ _ _ (Nat.succ_pos _) (he100 _ _ _ (Nat.succ_pos _) (he95 _ _ _ (Nat.succ_pos _) (he90 _ _ _ (Nat.succ_pos _) (he85 _ _ _ (Nat.succ_pos _) (he80 _ _ _ (Nat.succ_pos _) (he75 _ _ _ (Nat.succ_pos _) (he70 _ _ _ (Nat.succ_pos _) (he65 _ _ _ (Nat.succ_pos _) (he60 _ _ _ (Nat.succ_pos _) (he55 _ _ _ (Nat.succ_pos _) (he50 _ _ _ (Nat.succ_pos _) (he45 _ _ _ (Nat.succ_pos _) (he40 _ _ _ (Nat.succ_pos _) (he35 _ _ _ (Nat.succ_pos _) (he30 _ _ _ (Nat.succ_pos _) (he25 _ _ _ (Nat.succ_pos _) (he20 _ _ _ (Nat.succ_pos _) (he15 _ _ _ (Nat.succ_pos _) (he10 _ _ _ (Nat.succ_pos _) (he5 _ _ _ (Nat.succ_pos _) hc1)))))))))))))))))))))))))))))))))))))))))))))))))))))))))) flX12_146 rfl dX12_init_505 rfl ?_
  refine r_iload_n (i := 1) (x := (0 : Int32)) (q := 509) 1 hX dX12_init_508 rfl rfl rfl ?_
  refine r_iconst (v := (-1 : Int32)) (q := 510) hX dX12_init_509 rfl rfl ?_
  refine r_ck (fun hc299 => ?_)
  refine r_iast (a := (rR M298 a0 69)) (i := (0 : Int32)) (x := (-1 : Int32)) (q := 511) hX hc299 dX12_init_510 rfl (fun M300 => ?_)
  refine r_iinc (x := (0 : Int32)) (v := (1 : Int32)) (q := 514) 1 1 [1, 0] (L1 := [(0, vr a0), (1, vi (1 : Int32))]) hX dX12_init_511 rfl rfl (Nat.le_of_ble_eq_true rfl) rfl rfl ?_
  refine r_goto (q := 471) hX dX12_init_514 (by decide) ?_
  refine r_iload_n (i := 1) (x := (1 : Int32)) (q := 472) 1 hX dX12_init_471 rfl rfl rfl ?_
  refine r_bipush (v := (8 : Int32)) (q := 474) hX dX12_init_472 rfl rfl ?_
  refine r_icmp_geF (tgt := 517) (q := 477) hX dX12_init_474 (by decide) rfl (by decide) ?_
  refine r_aload_n (i := 0) (x := a0) (q := 478) 0 hX dX12_init_477 rfl rfl rfl ?_
  refine r_getR (a := a0) (ci := 12) (kf := 0) (q := 481) hX (he290 _ _ _ (Nat.succ_pos _) (he285 _ _ _ (Nat.succ_pos _) (he280 _ _ _ (Nat.succ_pos _) (he275 _ _ _ (Nat.succ_pos _) (he270 _ _ _ (Nat.succ_pos _) (he265 _ _ _ (Nat.succ_pos _) (he260 _ _ _ (Nat.succ_pos _) (he255 _ _ _ (Nat.succ_pos _) (he250 _ _ _ (Nat.succ_pos _) (he245 _ _ _ (Nat.succ_pos _) (he240 _ _ _ (Nat.succ_pos _) (he235 _ _ _ (Nat.succ_pos _) (he230 _ _ _ (Nat.succ_pos _) (he225 _ _ _ (Nat.succ_pos _) (he220 _ _ _ (Nat.succ_pos _) (he215 _ _ _ (Nat.succ_pos _) (he210 _ _ _ (Nat.succ_pos _) (he205 _ _ _ (Nat.succ_pos _) (he200 _ _ _ (Nat.succ_pos _) (he195 _ _ _ (Nat.succ_pos _) (he190 _ _ _ (Nat.succ_pos _) (he185 _ _ _ (Nat.succ_pos _) (he180 _ _ _ (Nat.succ_pos _) (he175 _ _ _ (Nat.succ_pos _) (he170 _ _ _ (Nat.succ_pos _) (he165 _ _ _ (Nat.succ_pos _) (he160 _ _ _ (Nat.succ_pos _) (he155 _ _ _ (Nat.succ_pos _) (he150 _ _ _ (Nat.succ_pos _) (he145 _ _ _ (Nat.succ_pos _) (he140 _ _ _ (Nat.succ_pos _) (he135 _ _ _ (Nat.succ_pos _) (he130 _ _ _ (Nat.succ_pos _) (he125 _ _ _ (Nat.succ_pos _) (he120 _ _ _ (Nat.succ_pos _) (he115 _ _ _ (Nat.succ_pos _) (he110 _ _ _ (Nat.succ_pos _) (he105 _ _ _ (Nat.succ_pos _) (he100 _ _ _ (Nat.succ_pos _) (he95 _ _ _ (Nat.succ_pos _) (he90 _ _ _ (Nat.succ_pos _) (he85 _ _ _ (Nat.succ_pos _) (he80 _ _ _ (Nat.succ_pos _) (he75 _ _ _ (Nat.succ_pos _) (he70 _ _ _ (Nat.succ_pos _) (he65 _ _ _ (Nat.succ_pos _) (he60 _ _ _ (Nat.succ_pos _) (he55 _ _ _ (Nat.succ_pos _) (he50 _ _ _ (Nat.succ_pos _) (he45 _ _ _ (Nat.succ_pos _) (he40 _ _ _ (Nat.succ_pos _) (he35 _ _ _ (Nat.succ_pos _) (he30 _ _ _ (Nat.succ_pos _) (he25 _ _ _ (Nat.succ_pos _) (he20 _ _ _ (Nat.succ_pos _) (he15 _ _ _ (Nat.succ_pos _) (he10 _ _ _ (Nat.succ_pos _) (he5 _ _ _ (Nat.succ_pos _) hc1)))))))))))))))))))))))))))))))))))))))))))))))))))))))))) flX12_7 rfl dX12_init_478 rfl ?_
  refine r_iload_n (i := 1) (x := (1 : Int32)) (q := 482) 1 hX dX12_init_481 rfl rfl rfl ?_
  refine r_sipush (v := (1000 : Int32)) (q := 485) hX dX12_init_482 rfl rfl ?_
  refine r_ck (fun hc302 => ?_)
  refine r_iast (a := (rR M300 a0 0)) (i := (1 : Int32)) (x := (1000 : Int32)) (q := 486) hX hc302 dX12_init_485 rfl (fun M303 => ?_)
  refine r_aload_n (i := 0) (x := a0) (q := 487) 0 hX dX12_init_486 rfl rfl rfl ?_
  refine r_getR (a := a0) (ci := 12) (kf := 1) (q := 490) hX (he290 _ _ _ (Nat.succ_pos _) (he285 _ _ _ (Nat.succ_pos _) (he280 _ _ _ (Nat.succ_pos _) (he275 _ _ _ (Nat.succ_pos _) (he270 _ _ _ (Nat.succ_pos _) (he265 _ _ _ (Nat.succ_pos _) (he260 _ _ _ (Nat.succ_pos _) (he255 _ _ _ (Nat.succ_pos _) (he250 _ _ _ (Nat.succ_pos _) (he245 _ _ _ (Nat.succ_pos _) (he240 _ _ _ (Nat.succ_pos _) (he235 _ _ _ (Nat.succ_pos _) (he230 _ _ _ (Nat.succ_pos _) (he225 _ _ _ (Nat.succ_pos _) (he220 _ _ _ (Nat.succ_pos _) (he215 _ _ _ (Nat.succ_pos _) (he210 _ _ _ (Nat.succ_pos _) (he205 _ _ _ (Nat.succ_pos _) (he200 _ _ _ (Nat.succ_pos _) (he195 _ _ _ (Nat.succ_pos _) (he190 _ _ _ (Nat.succ_pos _) (he185 _ _ _ (Nat.succ_pos _) (he180 _ _ _ (Nat.succ_pos _) (he175 _ _ _ (Nat.succ_pos _) (he170 _ _ _ (Nat.succ_pos _) (he165 _ _ _ (Nat.succ_pos _) (he160 _ _ _ (Nat.succ_pos _) (he155 _ _ _ (Nat.succ_pos _) (he150 _ _ _ (Nat.succ_pos _) (he145 _ _ _ (Nat.succ_pos _) (he140 _ _ _ (Nat.succ_pos _) (he135 _ _ _ (Nat.succ_pos _) (he130 _ _ _ (Nat.succ_pos _) (he125 _ _ _ (Nat.succ_pos _) (he120 _ _ _ (Nat.succ_pos _) (he115 _ _ _ (Nat.succ_pos _) (he110 _ _ _ (Nat.succ_pos _) (he105 _ _ _ (Nat.succ_pos _) (he100 _ _ _ (Nat.succ_pos _) (he95 _ _ _ (Nat.succ_pos _) (he90 _ _ _ (Nat.succ_pos _) (he85 _ _ _ (Nat.succ_pos _) (he80 _ _ _ (Nat.succ_pos _) (he75 _ _ _ (Nat.succ_pos _) (he70 _ _ _ (Nat.succ_pos _) (he65 _ _ _ (Nat.succ_pos _) (he60 _ _ _ (Nat.succ_pos _) (he55 _ _ _ (Nat.succ_pos _) (he50 _ _ _ (Nat.succ_pos _) (he45 _ _ _ (Nat.succ_pos _) (he40 _ _ _ (Nat.succ_pos _) (he35 _ _ _ (Nat.succ_pos _) (he30 _ _ _ (Nat.succ_pos _) (he25 _ _ _ (Nat.succ_pos _) (he20 _ _ _ (Nat.succ_pos _) (he15 _ _ _ (Nat.succ_pos _) (he10 _ _ _ (Nat.succ_pos _) (he5 _ _ _ (Nat.succ_pos _) hc1)))))))))))))))))))))))))))))))))))))))))))))))))))))))))) flX12_13 rfl dX12_init_487 rfl ?_
  refine r_iload_n (i := 1) (x := (1 : Int32)) (q := 491) 1 hX dX12_init_490 rfl rfl rfl ?_
  refine r_sipush (v := (1000 : Int32)) (q := 494) hX dX12_init_491 rfl rfl ?_
  refine r_ck (fun hc304 => ?_)
  refine r_iast (a := (rR M303 a0 1)) (i := (1 : Int32)) (x := (1000 : Int32)) (q := 495) hX hc304 dX12_init_494 rfl (fun M305 => ?_)
  refine r_aload_n (i := 0) (x := a0) (q := 496) 0 hX dX12_init_495 rfl rfl rfl ?_
  refine r_getR (a := a0) (ci := 12) (kf := 2) (q := 499) hX (he290 _ _ _ (Nat.succ_pos _) (he285 _ _ _ (Nat.succ_pos _) (he280 _ _ _ (Nat.succ_pos _) (he275 _ _ _ (Nat.succ_pos _) (he270 _ _ _ (Nat.succ_pos _) (he265 _ _ _ (Nat.succ_pos _) (he260 _ _ _ (Nat.succ_pos _) (he255 _ _ _ (Nat.succ_pos _) (he250 _ _ _ (Nat.succ_pos _) (he245 _ _ _ (Nat.succ_pos _) (he240 _ _ _ (Nat.succ_pos _) (he235 _ _ _ (Nat.succ_pos _) (he230 _ _ _ (Nat.succ_pos _) (he225 _ _ _ (Nat.succ_pos _) (he220 _ _ _ (Nat.succ_pos _) (he215 _ _ _ (Nat.succ_pos _) (he210 _ _ _ (Nat.succ_pos _) (he205 _ _ _ (Nat.succ_pos _) (he200 _ _ _ (Nat.succ_pos _) (he195 _ _ _ (Nat.succ_pos _) (he190 _ _ _ (Nat.succ_pos _) (he185 _ _ _ (Nat.succ_pos _) (he180 _ _ _ (Nat.succ_pos _) (he175 _ _ _ (Nat.succ_pos _) (he170 _ _ _ (Nat.succ_pos _) (he165 _ _ _ (Nat.succ_pos _) (he160 _ _ _ (Nat.succ_pos _) (he155 _ _ _ (Nat.succ_pos _) (he150 _ _ _ (Nat.succ_pos _) (he145 _ _ _ (Nat.succ_pos _) (he140 _ _ _ (Nat.succ_pos _) (he135 _ _ _ (Nat.succ_pos _) (he130 _ _ _ (Nat.succ_pos _) (he125 _ _ _ (Nat.succ_pos _) (he120 _ _ _ (Nat.succ_pos _) (he115 _ _ _ (Nat.succ_pos _) (he110 _ _ _ (Nat.succ_pos _) (he105 _ _ _ (Nat.succ_pos _) (he100 _ _ _ (Nat.succ_pos _) (he95 _ _ _ (Nat.succ_pos _) (he90 _ _ _ (Nat.succ_pos _) (he85 _ _ _ (Nat.succ_pos _) (he80 _ _ _ (Nat.succ_pos _) (he75 _ _ _ (Nat.succ_pos _) (he70 _ _ _ (Nat.succ_pos _) (he65 _ _ _ (Nat.succ_pos _) (he60 _ _ _ (Nat.succ_pos _) (he55 _ _ _ (Nat.succ_pos _) (he50 _ _ _ (Nat.succ_pos _) (he45 _ _ _ (Nat.succ_pos _) (he40 _ _ _ (Nat.succ_pos _) (he35 _ _ _ (Nat.succ_pos _) (he30 _ _ _ (Nat.succ_pos _) (he25 _ _ _ (Nat.succ_pos _) (he20 _ _ _ (Nat.succ_pos _) (he15 _ _ _ (Nat.succ_pos _) (he10 _ _ _ (Nat.succ_pos _) (he5 _ _ _ (Nat.succ_pos _) hc1)))))))))))))))))))))))))))))))))))))))))))))))))))))))))) flX12_16 rfl dX12_init_496 rfl ?_
  refine r_iload_n (i := 1) (x := (1 : Int32)) (q := 500) 1 hX dX12_init_499 rfl rfl rfl ?_
  refine r_sipush (v := (500 : Int32)) (q := 503) hX dX12_init_500 rfl rfl ?_
  refine r_ck (fun hc306 => ?_)
  refine r_iast (a := (rR M305 a0 2)) (i := (1 : Int32)) (x := (500 : Int32)) (q := 504) hX hc306 dX12_init_503 rfl (fun M307 => ?_)
  refine r_aload_n (i := 0) (x := a0) (q := 505) 0 hX dX12_init_504 rfl rfl rfl ?_
  refine r_getR (a := a0) (ci := 12) (kf := 69) (q := 508) hX (he290 _ _ _ (Nat.succ_pos _) (he285 _ _ _ (Nat.succ_pos _) (he280 _ _ _ (Nat.succ_pos _) (he275 _ _ _ (Nat.succ_pos _) (he270 _ _ _ (Nat.succ_pos _) (he265 _ _ _ (Nat.succ_pos _) (he260 _ _ _ (Nat.succ_pos _) (he255 _ _ _ (Nat.succ_pos _) (he250 _ _ _ (Nat.succ_pos _) (he245 _ _ _ (Nat.succ_pos _) (he240 _ _ _ (Nat.succ_pos _) (he235 _ _ _ (Nat.succ_pos _) (he230 _ _ _ (Nat.succ_pos _) (he225 _ _ _ (Nat.succ_pos _) (he220 _ _ _ (Nat.succ_pos _) (he215 _ _ _ (Nat.succ_pos _) (he210 _ _ _ (Nat.succ_pos _) (he205 _ _ _ (Nat.succ_pos _) (he200 _ _ _ (Nat.succ_pos _) (he195 _ _ _ (Nat.succ_pos _) (he190 _ _ _ (Nat.succ_pos _) (he185 _ _ _ (Nat.succ_pos _) (he180 _ _ _ (Nat.succ_pos _) (he175 _ _ _ (Nat.succ_pos _) (he170 _ _ _ (Nat.succ_pos _) (he165 _ _ _ (Nat.succ_pos _) (he160 _ _ _ (Nat.succ_pos _) (he155 _ _ _ (Nat.succ_pos _) (he150 _ _ _ (Nat.succ_pos _) (he145 _ _ _ (Nat.succ_pos _) (he140 _ _ _ (Nat.succ_pos _) (he135 _ _ _ (Nat.succ_pos _) (he130 _ _ _ (Nat.succ_pos _) (he125 _ _ _ (Nat.succ_pos _) (he120 _ _ _ (Nat.succ_pos _) (he115 _ _ _ (Nat.succ_pos _) (he110 _ _ _ (Nat.succ_pos _) (he105 _ _ _ (Nat.succ_pos _) (he100 _ _ _ (Nat.succ_pos _) (he95 _ _ _ (Nat.succ_pos _) (he90 _ _ _ (Nat.succ_pos _) (he85 _ _ _ (Nat.succ_pos _) (he80 _ _ _ (Nat.succ_pos _) (he75 _ _ _ (Nat.succ_pos _) (he70 _ _ _ (Nat.succ_pos _) (he65 _ _ _ (Nat.succ_pos _) (he60 _ _ _ (Nat.succ_pos _) (he55 _ _ _ (Nat.succ_pos _) (he50 _ _ _ (Nat.succ_pos _) (he45 _ _ _ (Nat.succ_pos _) (he40 _ _ _ (Nat.succ_pos _) (he35 _ _ _ (Nat.succ_pos _) (he30 _ _ _ (Nat.succ_pos _) (he25 _ _ _ (Nat.succ_pos _) (he20 _ _ _ (Nat.succ_pos _) (he15 _ _ _ (Nat.succ_pos _) (he10 _ _ _ (Nat.succ_pos _) (he5 _ _ _ (Nat.succ_pos _) hc1)))))))))))))))))))))))))))))))))))))))))))))))))))))))))) flX12_146 rfl dX12_init_505 rfl ?_
  refine r_iload_n (i := 1) (x := (1 : Int32)) (q := 509) 1 hX dX12_init_508 rfl rfl rfl ?_
  refine r_iconst (v := (-1 : Int32)) (q := 510) hX dX12_init_509 rfl rfl ?_
  refine r_ck (fun hc308 => ?_)
  refine r_iast (a := (rR M307 a0 69)) (i := (1 : Int32)) (x := (-1 : Int32)) (q := 511) hX hc308 dX12_init_510 rfl (fun M309 => ?_)
  refine r_iinc (x := (1 : Int32)) (v := (2 : Int32)) (q := 514) 1 1 [1, 0] (L1 := [(0, vr a0), (1, vi (2 : Int32))]) hX dX12_init_511 rfl rfl (Nat.le_of_ble_eq_true rfl) rfl rfl ?_
  refine r_goto (q := 471) hX dX12_init_514 (by decide) ?_
  refine r_iload_n (i := 1) (x := (2 : Int32)) (q := 472) 1 hX dX12_init_471 rfl rfl rfl ?_
  refine r_bipush (v := (8 : Int32)) (q := 474) hX dX12_init_472 rfl rfl ?_
  refine r_icmp_geF (tgt := 517) (q := 477) hX dX12_init_474 (by decide) rfl (by decide) ?_
  refine r_aload_n (i := 0) (x := a0) (q := 478) 0 hX dX12_init_477 rfl rfl rfl ?_
  refine r_getR (a := a0) (ci := 12) (kf := 0) (q := 481) hX (he290 _ _ _ (Nat.succ_pos _) (he285 _ _ _ (Nat.succ_pos _) (he280 _ _ _ (Nat.succ_pos _) (he275 _ _ _ (Nat.succ_pos _) (he270 _ _ _ (Nat.succ_pos _) (he265 _ _ _ (Nat.succ_pos _) (he260 _ _ _ (Nat.succ_pos _) (he255 _ _ _ (Nat.succ_pos _) (he250 _ _ _ (Nat.succ_pos _) (he245 _ _ _ (Nat.succ_pos _) (he240 _ _ _ (Nat.succ_pos _) (he235 _ _ _ (Nat.succ_pos _) (he230 _ _ _ (Nat.succ_pos _) (he225 _ _ _ (Nat.succ_pos _) (he220 _ _ _ (Nat.succ_pos _) (he215 _ _ _ (Nat.succ_pos _) (he210 _ _ _ (Nat.succ_pos _) (he205 _ _ _ (Nat.succ_pos _) (he200 _ _ _ (Nat.succ_pos _) (he195 _ _ _ (Nat.succ_pos _) (he190 _ _ _ (Nat.succ_pos _) (he185 _ _ _ (Nat.succ_pos _) (he180 _ _ _ (Nat.succ_pos _) (he175 _ _ _ (Nat.succ_pos _) (he170 _ _ _ (Nat.succ_pos _) (he165 _ _ _ (Nat.succ_pos _) (he160 _ _ _ (Nat.succ_pos _) (he155 _ _ _ (Nat.succ_pos _) (he150 _ _ _ (Nat.succ_pos _) (he145 _ _ _ (Nat.succ_pos _) (he140 _ _ _ (Nat.succ_pos _) (he135 _ _ _ (Nat.succ_pos _) (he130 _ _ _ (Nat.succ_pos _) (he125 _ _ _ (Nat.succ_pos _) (he120 _ _ _ (Nat.succ_pos _) (he115 _ _ _ (Nat.succ_pos _) (he110 _ _ _ (Nat.succ_pos _) (he105 _ _ _ (Nat.succ_pos _) (he100 _ _ _ (Nat.succ_pos _) (he95 _ _ _ (Nat.succ_pos _) (he90 _ _ _ (Nat.succ_pos _) (he85 _ _ _ (Nat.succ_pos _) (he80 _ _ _ (Nat.succ_pos _) (he75 _ _ _ (Nat.succ_pos _) (he70 _ _ _ (Nat.succ_pos _) (he65 _ _ _ (Nat.succ_pos _) (he60 _ _ _ (Nat.succ_pos _) (he55 _ _ _ (Nat.succ_pos _) (he50 _ _ _ (Nat.succ_pos _) (he45 _ _ _ (Nat.succ_pos _) (he40 _ _ _ (Nat.succ_pos _) (he35 _ _ _ (Nat.succ_pos _) (he30 _ _ _ (Nat.succ_pos _) (he25 _ _ _ (Nat.succ_pos _) (he20 _ _ _ (Nat.succ_pos _) (he15 _ _ _ (Nat.succ_pos _) (he10 _ _ _ (Nat.succ_pos _) (he5 _ _ _ (Nat.succ_pos _) hc1)))))))))))))))))))))))))))))))))))))))))))))))))))))))))) flX12_7 rfl dX12_init_478 rfl ?_
  refine r_iload_n (i := 1) (x := (2 : Int32)) (q := 482) 1 hX dX12_init_481 rfl rfl rfl ?_
  refine r_sipush (v := (1000 : Int32)) (q := 485) hX dX12_init_482 rfl rfl ?_
  refine r_ck (fun hc311 => ?_)
  refine r_iast (a := (rR M309 a0 0)) (i := (2 : Int32)) (x := (1000 : Int32)) (q := 486) hX hc311 dX12_init_485 rfl (fun M312 => ?_)
  refine r_aload_n (i := 0) (x := a0) (q := 487) 0 hX dX12_init_486 rfl rfl rfl ?_
  refine r_getR (a := a0) (ci := 12) (kf := 1) (q := 490) hX (he290 _ _ _ (Nat.succ_pos _) (he285 _ _ _ (Nat.succ_pos _) (he280 _ _ _ (Nat.succ_pos _) (he275 _ _ _ (Nat.succ_pos _) (he270 _ _ _ (Nat.succ_pos _) (he265 _ _ _ (Nat.succ_pos _) (he260 _ _ _ (Nat.succ_pos _) (he255 _ _ _ (Nat.succ_pos _) (he250 _ _ _ (Nat.succ_pos _) (he245 _ _ _ (Nat.succ_pos _) (he240 _ _ _ (Nat.succ_pos _) (he235 _ _ _ (Nat.succ_pos _) (he230 _ _ _ (Nat.succ_pos _) (he225 _ _ _ (Nat.succ_pos _) (he220 _ _ _ (Nat.succ_pos _) (he215 _ _ _ (Nat.succ_pos _) (he210 _ _ _ (Nat.succ_pos _) (he205 _ _ _ (Nat.succ_pos _) (he200 _ _ _ (Nat.succ_pos _) (he195 _ _ _ (Nat.succ_pos _) (he190 _ _ _ (Nat.succ_pos _) (he185 _ _ _ (Nat.succ_pos _) (he180 _ _ _ (Nat.succ_pos _) (he175 _ _ _ (Nat.succ_pos _) (he170 _ _ _ (Nat.succ_pos _) (he165 _ _ _ (Nat.succ_pos _) (he160 _ _ _ (Nat.succ_pos _) (he155 _ _ _ (Nat.succ_pos _) (he150 _ _ _ (Nat.succ_pos _) (he145 _ _ _ (Nat.succ_pos _) (he140 _ _ _ (Nat.succ_pos _) (he135 _ _ _ (Nat.succ_pos _) (he130 _ _ _ (Nat.succ_pos _) (he125 _ _ _ (Nat.succ_pos _) (he120 _ _ _ (Nat.succ_pos _) (he115 _ _ _ (Nat.succ_pos _) (he110 _ _ _ (Nat.succ_pos _) (he105 _ _ _ (Nat.succ_pos _) (he100 _ _ _ (Nat.succ_pos _) (he95 _ _ _ (Nat.succ_pos _) (he90 _ _ _ (Nat.succ_pos _) (he85 _ _ _ (Nat.succ_pos _) (he80 _ _ _ (Nat.succ_pos _) (he75 _ _ _ (Nat.succ_pos _) (he70 _ _ _ (Nat.succ_pos _) (he65 _ _ _ (Nat.succ_pos _) (he60 _ _ _ (Nat.succ_pos _) (he55 _ _ _ (Nat.succ_pos _) (he50 _ _ _ (Nat.succ_pos _) (he45 _ _ _ (Nat.succ_pos _) (he40 _ _ _ (Nat.succ_pos _) (he35 _ _ _ (Nat.succ_pos _) (he30 _ _ _ (Nat.succ_pos _) (he25 _ _ _ (Nat.succ_pos _) (he20 _ _ _ (Nat.succ_pos _) (he15 _ _ _ (Nat.succ_pos _) (he10 _ _ _ (Nat.succ_pos _) (he5 _ _ _ (Nat.succ_pos _) hc1)))))))))))))))))))))))))))))))))))))))))))))))))))))))))) flX12_13 rfl dX12_init_487 rfl ?_
  refine r_iload_n (i := 1) (x := (2 : Int32)) (q := 491) 1 hX dX12_init_490 rfl rfl rfl ?_
  refine r_sipush (v := (1000 : Int32)) (q := 494) hX dX12_init_491 rfl rfl ?_
  refine r_ck (fun hc313 => ?_)
  refine r_iast (a := (rR M312 a0 1)) (i := (2 : Int32)) (x := (1000 : Int32)) (q := 495) hX hc313 dX12_init_494 rfl (fun M314 => ?_)
  refine r_aload_n (i := 0) (x := a0) (q := 496) 0 hX dX12_init_495 rfl rfl rfl ?_
  refine r_getR (a := a0) (ci := 12) (kf := 2) (q := 499) hX (he290 _ _ _ (Nat.succ_pos _) (he285 _ _ _ (Nat.succ_pos _) (he280 _ _ _ (Nat.succ_pos _) (he275 _ _ _ (Nat.succ_pos _) (he270 _ _ _ (Nat.succ_pos _) (he265 _ _ _ (Nat.succ_pos _) (he260 _ _ _ (Nat.succ_pos _) (he255 _ _ _ (Nat.succ_pos _) (he250 _ _ _ (Nat.succ_pos _) (he245 _ _ _ (Nat.succ_pos _) (he240 _ _ _ (Nat.succ_pos _) (he235 _ _ _ (Nat.succ_pos _) (he230 _ _ _ (Nat.succ_pos _) (he225 _ _ _ (Nat.succ_pos _) (he220 _ _ _ (Nat.succ_pos _) (he215 _ _ _ (Nat.succ_pos _) (he210 _ _ _ (Nat.succ_pos _) (he205 _ _ _ (Nat.succ_pos _) (he200 _ _ _ (Nat.succ_pos _) (he195 _ _ _ (Nat.succ_pos _) (he190 _ _ _ (Nat.succ_pos _) (he185 _ _ _ (Nat.succ_pos _) (he180 _ _ _ (Nat.succ_pos _) (he175 _ _ _ (Nat.succ_pos _) (he170 _ _ _ (Nat.succ_pos _) (he165 _ _ _ (Nat.succ_pos _) (he160 _ _ _ (Nat.succ_pos _) (he155 _ _ _ (Nat.succ_pos _) (he150 _ _ _ (Nat.succ_pos _) (he145 _ _ _ (Nat.succ_pos _) (he140 _ _ _ (Nat.succ_pos _) (he135 _ _ _ (Nat.succ_pos _) (he130 _ _ _ (Nat.succ_pos _) (he125 _ _ _ (Nat.succ_pos _) (he120 _ _ _ (Nat.succ_pos _) (he115 _ _ _ (Nat.succ_pos _) (he110 _ _ _ (Nat.succ_pos _) (he105 _ _ _ (Nat.succ_pos _) (he100 _ _ _ (Nat.succ_pos _) (he95 _ _ _ (Nat.succ_pos _) (he90 _ _ _ (Nat.succ_pos _) (he85 _ _ _ (Nat.succ_pos _) (he80 _ _ _ (Nat.succ_pos _) (he75 _ _ _ (Nat.succ_pos _) (he70 _ _ _ (Nat.succ_pos _) (he65 _ _ _ (Nat.succ_pos _) (he60 _ _ _ (Nat.succ_pos _) (he55 _ _ _ (Nat.succ_pos _) (he50 _ _ _ (Nat.succ_pos _) (he45 _ _ _ (Nat.succ_pos _) (he40 _ _ _ (Nat.succ_pos _) (he35 _ _ _ (Nat.succ_pos _) (he30 _ _ _ (Nat.succ_pos _) (he25 _ _ _ (Nat.succ_pos _) (he20 _ _ _ (Nat.succ_pos _) (he15 _ _ _ (Nat.succ_pos _) (he10 _ _ _ (Nat.succ_pos _) (he5 _ _ _ (Nat.succ_pos _) hc1)))))))))))))))))))))))))))))))))))))))))))))))))))))))))) flX12_16 rfl dX12_init_496 rfl ?_
  refine r_iload_n (i := 1) (x := (2 : Int32)) (q := 500) 1 hX dX12_init_499 rfl rfl rfl ?_
  refine r_sipush (v := (500 : Int32)) (q := 503) hX dX12_init_500 rfl rfl ?_
  refine r_ck (fun hc315 => ?_)
  refine r_iast (a := (rR M314 a0 2)) (i := (2 : Int32)) (x := (500 : Int32)) (q := 504) hX hc315 dX12_init_503 rfl (fun M316 => ?_)
  refine r_aload_n (i := 0) (x := a0) (q := 505) 0 hX dX12_init_504 rfl rfl rfl ?_
  refine r_getR (a := a0) (ci := 12) (kf := 69) (q := 508) hX (he290 _ _ _ (Nat.succ_pos _) (he285 _ _ _ (Nat.succ_pos _) (he280 _ _ _ (Nat.succ_pos _) (he275 _ _ _ (Nat.succ_pos _) (he270 _ _ _ (Nat.succ_pos _) (he265 _ _ _ (Nat.succ_pos _) (he260 _ _ _ (Nat.succ_pos _) (he255 _ _ _ (Nat.succ_pos _) (he250 _ _ _ (Nat.succ_pos _) (he245 _ _ _ (Nat.succ_pos _) (he240 _ _ _ (Nat.succ_pos _) (he235 _ _ _ (Nat.succ_pos _) (he230 _ _ _ (Nat.succ_pos _) (he225 _ _ _ (Nat.succ_pos _) (he220 _ _ _ (Nat.succ_pos _) (he215 _ _ _ (Nat.succ_pos _) (he210 _ _ _ (Nat.succ_pos _) (he205 _ _ _ (Nat.succ_pos _) (he200 _ _ _ (Nat.succ_pos _) (he195 _ _ _ (Nat.succ_pos _) (he190 _ _ _ (Nat.succ_pos _) (he185 _ _ _ (Nat.succ_pos _) (he180 _ _ _ (Nat.succ_pos _) (he175 _ _ _ (Nat.succ_pos _) (he170 _ _ _ (Nat.succ_pos _) (he165 _ _ _ (Nat.succ_pos _) (he160 _ _ _ (Nat.succ_pos _) (he155 _ _ _ (Nat.succ_pos _) (he150 _ _ _ (Nat.succ_pos _) (he145 _ _ _ (Nat.succ_pos _) (he140 _ _ _ (Nat.succ_pos _) (he135 _ _ _ (Nat.succ_pos _) (he130 _ _ _ (Nat.succ_pos _) (he125 _ _ _ (Nat.succ_pos _) (he120 _ _ _ (Nat.succ_pos _) (he115 _ _ _ (Nat.succ_pos _) (he110 _ _ _ (Nat.succ_pos _) (he105 _ _ _ (Nat.succ_pos _) (he100 _ _ _ (Nat.succ_pos _) (he95 _ _ _ (Nat.succ_pos _) (he90 _ _ _ (Nat.succ_pos _) (he85 _ _ _ (Nat.succ_pos _) (he80 _ _ _ (Nat.succ_pos _) (he75 _ _ _ (Nat.succ_pos _) (he70 _ _ _ (Nat.succ_pos _) (he65 _ _ _ (Nat.succ_pos _) (he60 _ _ _ (Nat.succ_pos _) (he55 _ _ _ (Nat.succ_pos _) (he50 _ _ _ (Nat.succ_pos _) (he45 _ _ _ (Nat.succ_pos _) (he40 _ _ _ (Nat.succ_pos _) (he35 _ _ _ (Nat.succ_pos _) (he30 _ _ _ (Nat.succ_pos _) (he25 _ _ _ (Nat.succ_pos _) (he20 _ _ _ (Nat.succ_pos _) (he15 _ _ _ (Nat.succ_pos _) (he10 _ _ _ (Nat.succ_pos _) (he5 _ _ _ (Nat.succ_pos _) hc1)))))))))))))))))))))))))))))))))))))))))))))))))))))))))) flX12_146 rfl dX12_init_505 rfl ?_
  refine r_iload_n (i := 1) (x := (2 : Int32)) (q := 509) 1 hX dX12_init_508 rfl rfl rfl ?_
  refine r_iconst (v := (-1 : Int32)) (q := 510) hX dX12_init_509 rfl rfl ?_
  refine r_ck (fun hc317 => ?_)
  refine r_iast (a := (rR M316 a0 69)) (i := (2 : Int32)) (x := (-1 : Int32)) (q := 511) hX hc317 dX12_init_510 rfl (fun M318 => ?_)
  refine r_iinc (x := (2 : Int32)) (v := (3 : Int32)) (q := 514) 1 1 [1, 0] (L1 := [(0, vr a0), (1, vi (3 : Int32))]) hX dX12_init_511 rfl rfl (Nat.le_of_ble_eq_true rfl) rfl rfl ?_
  refine r_goto (q := 471) hX dX12_init_514 (by decide) ?_
  refine r_iload_n (i := 1) (x := (3 : Int32)) (q := 472) 1 hX dX12_init_471 rfl rfl rfl ?_
  refine r_bipush (v := (8 : Int32)) (q := 474) hX dX12_init_472 rfl rfl ?_
  refine r_icmp_geF (tgt := 517) (q := 477) hX dX12_init_474 (by decide) rfl (by decide) ?_
  refine r_aload_n (i := 0) (x := a0) (q := 478) 0 hX dX12_init_477 rfl rfl rfl ?_
  refine r_getR (a := a0) (ci := 12) (kf := 0) (q := 481) hX (he290 _ _ _ (Nat.succ_pos _) (he285 _ _ _ (Nat.succ_pos _) (he280 _ _ _ (Nat.succ_pos _) (he275 _ _ _ (Nat.succ_pos _) (he270 _ _ _ (Nat.succ_pos _) (he265 _ _ _ (Nat.succ_pos _) (he260 _ _ _ (Nat.succ_pos _) (he255 _ _ _ (Nat.succ_pos _) (he250 _ _ _ (Nat.succ_pos _) (he245 _ _ _ (Nat.succ_pos _) (he240 _ _ _ (Nat.succ_pos _) (he235 _ _ _ (Nat.succ_pos _) (he230 _ _ _ (Nat.succ_pos _) (he225 _ _ _ (Nat.succ_pos _) (he220 _ _ _ (Nat.succ_pos _) (he215 _ _ _ (Nat.succ_pos _) (he210 _ _ _ (Nat.succ_pos _) (he205 _ _ _ (Nat.succ_pos _) (he200 _ _ _ (Nat.succ_pos _) (he195 _ _ _ (Nat.succ_pos _) (he190 _ _ _ (Nat.succ_pos _) (he185 _ _ _ (Nat.succ_pos _) (he180 _ _ _ (Nat.succ_pos _) (he175 _ _ _ (Nat.succ_pos _) (he170 _ _ _ (Nat.succ_pos _) (he165 _ _ _ (Nat.succ_pos _) (he160 _ _ _ (Nat.succ_pos _) (he155 _ _ _ (Nat.succ_pos _) (he150 _ _ _ (Nat.succ_pos _) (he145 _ _ _ (Nat.succ_pos _) (he140 _ _ _ (Nat.succ_pos _) (he135 _ _ _ (Nat.succ_pos _) (he130 _ _ _ (Nat.succ_pos _) (he125 _ _ _ (Nat.succ_pos _) (he120 _ _ _ (Nat.succ_pos _) (he115 _ _ _ (Nat.succ_pos _) (he110 _ _ _ (Nat.succ_pos _) (he105 _ _ _ (Nat.succ_pos _) (he100 _ _ _ (Nat.succ_pos _) (he95 _ _ _ (Nat.succ_pos _) (he90 _ _ _ (Nat.succ_pos _) (he85 _ _ _ (Nat.succ_pos _) (he80 _ _ _ (Nat.succ_pos _) (he75 _ _ _ (Nat.succ_pos _) (he70 _ _ _ (Nat.succ_pos _) (he65 _ _ _ (Nat.succ_pos _) (he60 _ _ _ (Nat.succ_pos _) (he55 _ _ _ (Nat.succ_pos _) (he50 _ _ _ (Nat.succ_pos _) (he45 _ _ _ (Nat.succ_pos _) (he40 _ _ _ (Nat.succ_pos _) (he35 _ _ _ (Nat.succ_pos _) (he30 _ _ _ (Nat.succ_pos _) (he25 _ _ _ (Nat.succ_pos _) (he20 _ _ _ (Nat.succ_pos _) (he15 _ _ _ (Nat.succ_pos _) (he10 _ _ _ (Nat.succ_pos _) (he5 _ _ _ (Nat.succ_pos _) hc1)))))))))))))))))))))))))))))))))))))))))))))))))))))))))) flX12_7 rfl dX12_init_478 rfl ?_
  refine r_iload_n (i := 1) (x := (3 : Int32)) (q := 482) 1 hX dX12_init_481 rfl rfl rfl ?_
  refine r_sipush (v := (1000 : Int32)) (q := 485) hX dX12_init_482 rfl rfl ?_
  refine r_ck (fun hc320 => ?_)
  refine r_iast (a := (rR M318 a0 0)) (i := (3 : Int32)) (x := (1000 : Int32)) (q := 486) hX hc320 dX12_init_485 rfl (fun M321 => ?_)
  refine r_aload_n (i := 0) (x := a0) (q := 487) 0 hX dX12_init_486 rfl rfl rfl ?_
  refine r_getR (a := a0) (ci := 12) (kf := 1) (q := 490) hX (he290 _ _ _ (Nat.succ_pos _) (he285 _ _ _ (Nat.succ_pos _) (he280 _ _ _ (Nat.succ_pos _) (he275 _ _ _ (Nat.succ_pos _) (he270 _ _ _ (Nat.succ_pos _) (he265 _ _ _ (Nat.succ_pos _) (he260 _ _ _ (Nat.succ_pos _) (he255 _ _ _ (Nat.succ_pos _) (he250 _ _ _ (Nat.succ_pos _) (he245 _ _ _ (Nat.succ_pos _) (he240 _ _ _ (Nat.succ_pos _) (he235 _ _ _ (Nat.succ_pos _) (he230 _ _ _ (Nat.succ_pos _) (he225 _ _ _ (Nat.succ_pos _) (he220 _ _ _ (Nat.succ_pos _) (he215 _ _ _ (Nat.succ_pos _) (he210 _ _ _ (Nat.succ_pos _) (he205 _ _ _ (Nat.succ_pos _) (he200 _ _ _ (Nat.succ_pos _) (he195 _ _ _ (Nat.succ_pos _) (he190 _ _ _ (Nat.succ_pos _) (he185 _ _ _ (Nat.succ_pos _) (he180 _ _ _ (Nat.succ_pos _) (he175 _ _ _ (Nat.succ_pos _) (he170 _ _ _ (Nat.succ_pos _) (he165 _ _ _ (Nat.succ_pos _) (he160 _ _ _ (Nat.succ_pos _) (he155 _ _ _ (Nat.succ_pos _) (he150 _ _ _ (Nat.succ_pos _) (he145 _ _ _ (Nat.succ_pos _) (he140 _ _ _ (Nat.succ_pos _) (he135 _ _ _ (Nat.succ_pos _) (he130 _ _ _ (Nat.succ_pos _) (he125 _ _ _ (Nat.succ_pos _) (he120 _ _ _ (Nat.succ_pos _) (he115 _ _ _ (Nat.succ_pos _) (he110 _ _ _ (Nat.succ_pos _) (he105 _ _ _ (Nat.succ_pos _) (he100 _ _ _ (Nat.succ_pos _) (he95 _ _ _ (Nat.succ_pos _) (he90 _ _ _ (Nat.succ_pos _) (he85 _ _ _ (Nat.succ_pos _) (he80 _ _ _ (Nat.succ_pos _) (he75 _ _ _ (Nat.succ_pos _) (he70 _ _ _ (Nat.succ_pos _) (he65 _ _ _ (Nat.succ_pos _) (he60 _ _ _ (Nat.succ_pos _) (he55 _ _ _ (Nat.succ_pos _) (he50 _ _ _ (Nat.succ_pos _) (he45 _ _ _ (Nat.succ_pos _) (he40 _ _ _ (Nat.succ_pos _) (he35 _ _ _ (Nat.succ_pos _) (he30 _ _ _ (Nat.succ_pos _) (he25 _ _ _ (Nat.succ_pos _) (he20 _ _ _ (Nat.succ_pos _) (he15 _ _ _ (Nat.succ_pos _) (he10 _ _ _ (Nat.succ_pos _) (he5 _ _ _ (Nat.succ_pos _) hc1)))))))))))))))))))))))))))))))))))))))))))))))))))))))))) flX12_13 rfl dX12_init_487 rfl ?_
  refine r_iload_n (i := 1) (x := (3 : Int32)) (q := 491) 1 hX dX12_init_490 rfl rfl rfl ?_
  refine r_sipush (v := (1000 : Int32)) (q := 494) hX dX12_init_491 rfl rfl ?_
  refine r_ck (fun hc322 => ?_)
  refine r_iast (a := (rR M321 a0 1)) (i := (3 : Int32)) (x := (1000 : Int32)) (q := 495) hX hc322 dX12_init_494 rfl (fun M323 => ?_)
  refine r_aload_n (i := 0) (x := a0) (q := 496) 0 hX dX12_init_495 rfl rfl rfl ?_
  refine r_getR (a := a0) (ci := 12) (kf := 2) (q := 499) hX (he290 _ _ _ (Nat.succ_pos _) (he285 _ _ _ (Nat.succ_pos _) (he280 _ _ _ (Nat.succ_pos _) (he275 _ _ _ (Nat.succ_pos _) (he270 _ _ _ (Nat.succ_pos _) (he265 _ _ _ (Nat.succ_pos _) (he260 _ _ _ (Nat.succ_pos _) (he255 _ _ _ (Nat.succ_pos _) (he250 _ _ _ (Nat.succ_pos _) (he245 _ _ _ (Nat.succ_pos _) (he240 _ _ _ (Nat.succ_pos _) (he235 _ _ _ (Nat.succ_pos _) (he230 _ _ _ (Nat.succ_pos _) (he225 _ _ _ (Nat.succ_pos _) (he220 _ _ _ (Nat.succ_pos _) (he215 _ _ _ (Nat.succ_pos _) (he210 _ _ _ (Nat.succ_pos _) (he205 _ _ _ (Nat.succ_pos _) (he200 _ _ _ (Nat.succ_pos _) (he195 _ _ _ (Nat.succ_pos _) (he190 _ _ _ (Nat.succ_pos _) (he185 _ _ _ (Nat.succ_pos _) (he180 _ _ _ (Nat.succ_pos _) (he175 _ _ _ (Nat.succ_pos _) (he170 _ _ _ (Nat.succ_pos _) (he165 _ _ _ (Nat.succ_pos _) (he160 _ _ _ (Nat.succ_pos _) (he155 _ _ _ (Nat.succ_pos _) (he150 _ _ _ (Nat.succ_pos _) (he145 _ _ _ (Nat.succ_pos _) (he140 _ _ _ (Nat.succ_pos _) (he135 _ _ _ (Nat.succ_pos _) (he130 _ _ _ (Nat.succ_pos _) (he125 _ _ _ (Nat.succ_pos _) (he120 _ _ _ (Nat.succ_pos _) (he115 _ _ _ (Nat.succ_pos _) (he110 _ _ _ (Nat.succ_pos _) (he105 _ _ _ (Nat.succ_pos _) (he100 _ _ _ (Nat.succ_pos _) (he95 _ _ _ (Nat.succ_pos _) (he90 _ _ _ (Nat.succ_pos _) (he85 _ _ _ (Nat.succ_pos _) (he80 _ _ _ (Nat.succ_pos _) (he75 _ _ _ (Nat.succ_pos _) (he70 _ _ _ (Nat.succ_pos _) (he65 _ _ _ (Nat.succ_pos _) (he60 _ _ _ (Nat.succ_pos _) (he55 _ _ _ (Nat.succ_pos _) (he50 _ _ _ (Nat.succ_pos _) (he45 _ _ _ (Nat.succ_pos _) (he40 _ _ _ (Nat.succ_pos _) (he35 _ _ _ (Nat.succ_pos _) (he30 _ _ _ (Nat.succ_pos _) (he25 _ _ _ (Nat.succ_pos _) (he20 _ _ _ (Nat.succ_pos _) (he15 _ _ _ (Nat.succ_pos _) (he10 _ _ _ (Nat.succ_pos _) (he5 _ _ _ (Nat.succ_pos _) hc1)))))))))))))))))))))))))))))))))))))))))))))))))))))))))) flX12_16 rfl dX12_init_496 rfl ?_
  refine r_iload_n (i := 1) (x := (3 : Int32)) (q := 500) 1 hX dX12_init_499 rfl rfl rfl ?_
  refine r_sipush (v := (500 : Int32)) (q := 503) hX dX12_init_500 rfl rfl ?_
  refine r_ck (fun hc324 => ?_)
  refine r_iast (a := (rR M323 a0 2)) (i := (3 : Int32)) (x := (500 : Int32)) (q := 504) hX hc324 dX12_init_503 rfl (fun M325 => ?_)
  refine r_aload_n (i := 0) (x := a0) (q := 505) 0 hX dX12_init_504 rfl rfl rfl ?_
  refine r_getR (a := a0) (ci := 12) (kf := 69) (q := 508) hX (he290 _ _ _ (Nat.succ_pos _) (he285 _ _ _ (Nat.succ_pos _) (he280 _ _ _ (Nat.succ_pos _) (he275 _ _ _ (Nat.succ_pos _) (he270 _ _ _ (Nat.succ_pos _) (he265 _ _ _ (Nat.succ_pos _) (he260 _ _ _ (Nat.succ_pos _) (he255 _ _ _ (Nat.succ_pos _) (he250 _ _ _ (Nat.succ_pos _) (he245 _ _ _ (Nat.succ_pos _) (he240 _ _ _ (Nat.succ_pos _) (he235 _ _ _ (Nat.succ_pos _) (he230 _ _ _ (Nat.succ_pos _) (he225 _ _ _ (Nat.succ_pos _) (he220 _ _ _ (Nat.succ_pos _) (he215 _ _ _ (Nat.succ_pos _) (he210 _ _ _ (Nat.succ_pos _) (he205 _ _ _ (Nat.succ_pos _) (he200 _ _ _ (Nat.succ_pos _) (he195 _ _ _ (Nat.succ_pos _) (he190 _ _ _ (Nat.succ_pos _) (he185 _ _ _ (Nat.succ_pos _) (he180 _ _ _ (Nat.succ_pos _) (he175 _ _ _ (Nat.succ_pos _) (he170 _ _ _ (Nat.succ_pos _) (he165 _ _ _ (Nat.succ_pos _) (he160 _ _ _ (Nat.succ_pos _) (he155 _ _ _ (Nat.succ_pos _) (he150 _ _ _ (Nat.succ_pos _) (he145 _ _ _ (Nat.succ_pos _) (he140 _ _ _ (Nat.succ_pos _) (he135 _ _ _ (Nat.succ_pos _) (he130 _ _ _ (Nat.succ_pos _) (he125 _ _ _ (Nat.succ_pos _) (he120 _ _ _ (Nat.succ_pos _) (he115 _ _ _ (Nat.succ_pos _) (he110 _ _ _ (Nat.succ_pos _) (he105 _ _ _ (Nat.succ_pos _) (he100 _ _ _ (Nat.succ_pos _) (he95 _ _ _ (Nat.succ_pos _) (he90 _ _ _ (Nat.succ_pos _) (he85 _ _ _ (Nat.succ_pos _) (he80 _ _ _ (Nat.succ_pos _) (he75 _ _ _ (Nat.succ_pos _) (he70 _ _ _ (Nat.succ_pos _) (he65 _ _ _ (Nat.succ_pos _) (he60 _ _ _ (Nat.succ_pos _) (he55 _ _ _ (Nat.succ_pos _) (he50 _ _ _ (Nat.succ_pos _) (he45 _ _ _ (Nat.succ_pos _) (he40 _ _ _ (Nat.succ_pos _) (he35 _ _ _ (Nat.succ_pos _) (he30 _ _ _ (Nat.succ_pos _) (he25 _ _ _ (Nat.succ_pos _) (he20 _ _ _ (Nat.succ_pos _) (he15 _ _ _ (Nat.succ_pos _) (he10 _ _ _ (Nat.succ_pos _) (he5 _ _ _ (Nat.succ_pos _) hc1)))))))))))))))))))))))))))))))))))))))))))))))))))))))))) flX12_146 rfl dX12_init_505 rfl ?_
  refine r_iload_n (i := 1) (x := (3 : Int32)) (q := 509) 1 hX dX12_init_508 rfl rfl rfl ?_
  refine r_iconst (v := (-1 : Int32)) (q := 510) hX dX12_init_509 rfl rfl ?_
  refine r_ck (fun hc326 => ?_)
  refine r_iast (a := (rR M325 a0 69)) (i := (3 : Int32)) (x := (-1 : Int32)) (q := 511) hX hc326 dX12_init_510 rfl (fun M327 => ?_)
  refine r_iinc (x := (3 : Int32)) (v := (4 : Int32)) (q := 514) 1 1 [1, 0] (L1 := [(0, vr a0), (1, vi (4 : Int32))]) hX dX12_init_511 rfl rfl (Nat.le_of_ble_eq_true rfl) rfl rfl ?_
  refine r_goto (q := 471) hX dX12_init_514 (by decide) ?_
  refine r_iload_n (i := 1) (x := (4 : Int32)) (q := 472) 1 hX dX12_init_471 rfl rfl rfl ?_
  refine r_bipush (v := (8 : Int32)) (q := 474) hX dX12_init_472 rfl rfl ?_
  refine r_icmp_geF (tgt := 517) (q := 477) hX dX12_init_474 (by decide) rfl (by decide) ?_
  refine r_aload_n (i := 0) (x := a0) (q := 478) 0 hX dX12_init_477 rfl rfl rfl ?_
  refine r_getR (a := a0) (ci := 12) (kf := 0) (q := 481) hX (he290 _ _ _ (Nat.succ_pos _) (he285 _ _ _ (Nat.succ_pos _) (he280 _ _ _ (Nat.succ_pos _) (he275 _ _ _ (Nat.succ_pos _) (he270 _ _ _ (Nat.succ_pos _) (he265 _ _ _ (Nat.succ_pos _) (he260 _ _ _ (Nat.succ_pos _) (he255 _ _ _ (Nat.succ_pos _) (he250 _ _ _ (Nat.succ_pos _) (he245 _ _ _ (Nat.succ_pos _) (he240 _ _ _ (Nat.succ_pos _) (he235 _ _ _ (Nat.succ_pos _) (he230 _ _ _ (Nat.succ_pos _) (he225 _ _ _ (Nat.succ_pos _) (he220 _ _ _ (Nat.succ_pos _) (he215 _ _ _ (Nat.succ_pos _) (he210 _ _ _ (Nat.succ_pos _) (he205 _ _ _ (Nat.succ_pos _) (he200 _ _ _ (Nat.succ_pos _) (he195 _ _ _ (Nat.succ_pos _) (he190 _ _ _ (Nat.succ_pos _) (he185 _ _ _ (Nat.succ_pos _) (he180 _ _ _ (Nat.succ_pos _) (he175 _ _ _ (Nat.succ_pos _) (he170 _ _ _ (Nat.succ_pos _) (he165 _ _ _ (Nat.succ_pos _) (he160 _ _ _ (Nat.succ_pos _) (he155 _ _ _ (Nat.succ_pos _) (he150 _ _ _ (Nat.succ_pos _) (he145 _ _ _ (Nat.succ_pos _) (he140 _ _ _ (Nat.succ_pos _) (he135 _ _ _ (Nat.succ_pos _) (he130 _ _ _ (Nat.succ_pos _) (he125 _ _ _ (Nat.succ_pos _) (he120 _ _ _ (Nat.succ_pos _) (he115 _ _ _ (Nat.succ_pos _) (he110 _ _ _ (Nat.succ_pos _) (he105 _ _ _ (Nat.succ_pos _) (he100 _ _ _ (Nat.succ_pos _) (he95 _ _ _ (Nat.succ_pos _) (he90 _ _ _ (Nat.succ_pos _) (he85 _ _ _ (Nat.succ_pos _) (he80 _ _ _ (Nat.succ_pos _) (he75 _ _ _ (Nat.succ_pos _) (he70 _ _ _ (Nat.succ_pos _) (he65 _ _ _ (Nat.succ_pos _) (he60 _ _ _ (Nat.succ_pos _) (he55 _ _ _ (Nat.succ_pos _) (he50 _ _ _ (Nat.succ_pos _) (he45 _ _ _ (Nat.succ_pos _) (he40 _ _ _ (Nat.succ_pos _) (he35 _ _ _ (Nat.succ_pos _) (he30 _ _ _ (Nat.succ_pos _) (he25 _ _ _ (Nat.succ_pos _) (he20 _ _ _ (Nat.succ_pos _) (he15 _ _ _ (Nat.succ_pos _) (he10 _ _ _ (Nat.succ_pos _) (he5 _ _ _ (Nat.succ_pos _) hc1)))))))))))))))))))))))))))))))))))))))))))))))))))))))))) flX12_7 rfl dX12_init_478 rfl ?_
  refine r_iload_n (i := 1) (x := (4 : Int32)) (q := 482) 1 hX dX12_init_481 rfl rfl rfl ?_
  refine r_sipush (v := (1000 : Int32)) (q := 485) hX dX12_init_482 rfl rfl ?_
  refine r_ck (fun hc329 => ?_)
  refine r_iast (a := (rR M327 a0 0)) (i := (4 : Int32)) (x := (1000 : Int32)) (q := 486) hX hc329 dX12_init_485 rfl (fun M330 => ?_)
  refine r_aload_n (i := 0) (x := a0) (q := 487) 0 hX dX12_init_486 rfl rfl rfl ?_
  refine r_getR (a := a0) (ci := 12) (kf := 1) (q := 490) hX (he290 _ _ _ (Nat.succ_pos _) (he285 _ _ _ (Nat.succ_pos _) (he280 _ _ _ (Nat.succ_pos _) (he275 _ _ _ (Nat.succ_pos _) (he270 _ _ _ (Nat.succ_pos _) (he265 _ _ _ (Nat.succ_pos _) (he260 _ _ _ (Nat.succ_pos _) (he255 _ _ _ (Nat.succ_pos _) (he250 _ _ _ (Nat.succ_pos _) (he245 _ _ _ (Nat.succ_pos _) (he240 _ _ _ (Nat.succ_pos _) (he235 _ _ _ (Nat.succ_pos _) (he230 _ _ _ (Nat.succ_pos _) (he225 _ _ _ (Nat.succ_pos _) (he220 _ _ _ (Nat.succ_pos _) (he215 _ _ _ (Nat.succ_pos _) (he210 _ _ _ (Nat.succ_pos _) (he205 _ _ _ (Nat.succ_pos _) (he200 _ _ _ (Nat.succ_pos _) (he195 _ _ _ (Nat.succ_pos _) (he190 _ _ _ (Nat.succ_pos _) (he185 _ _ _ (Nat.succ_pos _) (he180 _ _ _ (Nat.succ_pos _) (he175 _ _ _ (Nat.succ_pos _) (he170 _ _ _ (Nat.succ_pos _) (he165 _ _ _ (Nat.succ_pos _) (he160 _ _ _ (Nat.succ_pos _) (he155 _ _ _ (Nat.succ_pos _) (he150 _ _ _ (Nat.succ_pos _) (he145 _ _ _ (Nat.succ_pos _) (he140 _ _ _ (Nat.succ_pos _) (he135 _ _ _ (Nat.succ_pos _) (he130 _ _ _ (Nat.succ_pos _) (he125 _ _ _ (Nat.succ_pos _) (he120 _ _ _ (Nat.succ_pos _) (he115 _ _ _ (Nat.succ_pos _) (he110 _ _ _ (Nat.succ_pos _) (he105 _ _ _ (Nat.succ_pos _) (he100 _ _ _ (Nat.succ_pos _) (he95 _ _ _ (Nat.succ_pos _) (he90 _ _ _ (Nat.succ_pos _) (he85 _ _ _ (Nat.succ_pos _) (he80 _ _ _ (Nat.succ_pos _) (he75 _ _ _ (Nat.succ_pos _) (he70 _ _ _ (Nat.succ_pos _) (he65 _ _ _ (Nat.succ_pos _) (he60 _ _ _ (Nat.succ_pos _) (he55 _ _ _ (Nat.succ_pos _) (he50 _ _ _ (Nat.succ_pos _) (he45 _ _ _ (Nat.succ_pos _) (he40 _ _ _ (Nat.succ_pos _) (he35 _ _ _ (Nat.succ_pos _) (he30 _ _ _ (Nat.succ_pos _) (he25 _ _ _ (Nat.succ_pos _) (he20 _ _ _ (Nat.succ_pos _) (he15 _ _ _ (Nat.succ_pos _) (he10 _ _ _ (Nat.succ_pos _) (he5 _ _ _ (Nat.succ_pos _) hc1)))))))))))))))))))))))))))))))))))))))))))))))))))))))))) flX12_13 rfl dX12_init_487 rfl ?_
  refine r_iload_n (i := 1) (x := (4 : Int32)) (q := 491) 1 hX dX12_init_490 rfl rfl rfl ?_
  refine r_sipush (v := (1000 : Int32)) (q := 494) hX dX12_init_491 rfl rfl ?_
  refine r_ck (fun hc331 => ?_)
  refine r_iast (a := (rR M330 a0 1)) (i := (4 : Int32)) (x := (1000 : Int32)) (q := 495) hX hc331 dX12_init_494 rfl (fun M332 => ?_)
  refine r_aload_n (i := 0) (x := a0) (q := 496) 0 hX dX12_init_495 rfl rfl rfl ?_
  refine r_getR (a := a0) (ci := 12) (kf := 2) (q := 499) hX (he290 _ _ _ (Nat.succ_pos _) (he285 _ _ _ (Nat.succ_pos _) (he280 _ _ _ (Nat.succ_pos _) (he275 _ _ _ (Nat.succ_pos _) (he270 _ _ _ (Nat.succ_pos _) (he265 _ _ _ (Nat.succ_pos _) (he260 _ _ _ (Nat.succ_pos _) (he255 _ _ _ (Nat.succ_pos _) (he250 _ _ _ (Nat.succ_pos _) (he245 _ _ _ (Nat.succ_pos _) (he240 _ _ _ (Nat.succ_pos _) (he235 _ _ _ (Nat.succ_pos _) (he230 _ _ _ (Nat.succ_pos _) (he225 _ _ _ (Nat.succ_pos _) (he220 _ _ _ (Nat.succ_pos _) (he215 _ _ _ (Nat.succ_pos _) (he210 _ _ _ (Nat.succ_pos _) (he205 _ _ _ (Nat.succ_pos _) (he200 _ _ _ (Nat.succ_pos _) (he195 _ _ _ (Nat.succ_pos _) (he190 _ _ _ (Nat.succ_pos _) (he185 _ _ _ (Nat.succ_pos _) (he180 _ _ _ (Nat.succ_pos _) (he175 _ _ _ (Nat.succ_pos _) (he170 _ _ _ (Nat.succ_pos _) (he165 _ _ _ (Nat.succ_pos _) (he160 _ _ _ (Nat.succ_pos _) (he155 _ _ _ (Nat.succ_pos _) (he150 _ _ _ (Nat.succ_pos _) (he145 _ _ _ (Nat.succ_pos _) (he140 _ _ _ (Nat.succ_pos _) (he135 _ _ _ (Nat.succ_pos _) (he130 _ _ _ (Nat.succ_pos _) (he125 _ _ _ (Nat.succ_pos _) (he120 _ _ _ (Nat.succ_pos _) (he115 _ _ _ (Nat.succ_pos _) (he110 _ _ _ (Nat.succ_pos _) (he105 _ _ _ (Nat.succ_pos _) (he100 _ _ _ (Nat.succ_pos _) (he95 _ _ _ (Nat.succ_pos _) (he90 _ _ _ (Nat.succ_pos _) (he85 _ _ _ (Nat.succ_pos _) (he80 _ _ _ (Nat.succ_pos _) (he75 _ _ _ (Nat.succ_pos _) (he70 _ _ _ (Nat.succ_pos _) (he65 _ _ _ (Nat.succ_pos _) (he60 _ _ _ (Nat.succ_pos _) (he55 _ _ _ (Nat.succ_pos _) (he50 _ _ _ (Nat.succ_pos _) (he45 _ _ _ (Nat.succ_pos _) (he40 _ _ _ (Nat.succ_pos _) (he35 _ _ _ (Nat.succ_pos _) (he30 _ _ _ (Nat.succ_pos _) (he25 _ _ _ (Nat.succ_pos _) (he20 _ _ _ (Nat.succ_pos _) (he15 _ _ _ (Nat.succ_pos _) (he10 _ _ _ (Nat.succ_pos _) (he5 _ _ _ (Nat.succ_pos _) hc1)))))))))))))))))))))))))))))))))))))))))))))))))))))))))) flX12_16 rfl dX12_init_496 rfl ?_
  refine r_iload_n (i := 1) (x := (4 : Int32)) (q := 500) 1 hX dX12_init_499 rfl rfl rfl ?_
  refine r_sipush (v := (500 : Int32)) (q := 503) hX dX12_init_500 rfl rfl ?_
  refine r_ck (fun hc333 => ?_)
  refine r_iast (a := (rR M332 a0 2)) (i := (4 : Int32)) (x := (500 : Int32)) (q := 504) hX hc333 dX12_init_503 rfl (fun M334 => ?_)
  refine r_aload_n (i := 0) (x := a0) (q := 505) 0 hX dX12_init_504 rfl rfl rfl ?_
  refine r_getR (a := a0) (ci := 12) (kf := 69) (q := 508) hX (he290 _ _ _ (Nat.succ_pos _) (he285 _ _ _ (Nat.succ_pos _) (he280 _ _ _ (Nat.succ_pos _) (he275 _ _ _ (Nat.succ_pos _) (he270 _ _ _ (Nat.succ_pos _) (he265 _ _ _ (Nat.succ_pos _) (he260 _ _ _ (Nat.succ_pos _) (he255 _ _ _ (Nat.succ_pos _) (he250 _ _ _ (Nat.succ_pos _) (he245 _ _ _ (Nat.succ_pos _) (he240 _ _ _ (Nat.succ_pos _) (he235 _ _ _ (Nat.succ_pos _) (he230 _ _ _ (Nat.succ_pos _) (he225 _ _ _ (Nat.succ_pos _) (he220 _ _ _ (Nat.succ_pos _) (he215 _ _ _ (Nat.succ_pos _) (he210 _ _ _ (Nat.succ_pos _) (he205 _ _ _ (Nat.succ_pos _) (he200 _ _ _ (Nat.succ_pos _) (he195 _ _ _ (Nat.succ_pos _) (he190 _ _ _ (Nat.succ_pos _) (he185 _ _ _ (Nat.succ_pos _) (he180 _ _ _ (Nat.succ_pos _) (he175 _ _ _ (Nat.succ_pos _) (he170 _ _ _ (Nat.succ_pos _) (he165 _ _ _ (Nat.succ_pos _) (he160 _ _ _ (Nat.succ_pos _) (he155 _ _ _ (Nat.succ_pos _) (he150 _ _ _ (Nat.succ_pos _) (he145 _ _ _ (Nat.succ_pos _) (he140 _ _ _ (Nat.succ_pos _) (he135 _ _ _ (Nat.succ_pos _) (he130 _ _ _ (Nat.succ_pos _) (he125 _ _ _ (Nat.succ_pos _) (he120 _ _ _ (Nat.succ_pos _) (he115 _ _ _ (Nat.succ_pos _) (he110 _ _ _ (Nat.succ_pos _) (he105 _ _ _ (Nat.succ_pos _) (he100 _ _ _ (Nat.succ_pos _) (he95 _ _ _ (Nat.succ_pos _) (he90 _ _ _ (Nat.succ_pos _) (he85 _ _ _ (Nat.succ_pos _) (he80 _ _ _ (Nat.succ_pos _) (he75 _ _ _ (Nat.succ_pos _) (he70 _ _ _ (Nat.succ_pos _) (he65 _ _ _ (Nat.succ_pos _) (he60 _ _ _ (Nat.succ_pos _) (he55 _ _ _ (Nat.succ_pos _) (he50 _ _ _ (Nat.succ_pos _) (he45 _ _ _ (Nat.succ_pos _) (he40 _ _ _ (Nat.succ_pos _) (he35 _ _ _ (Nat.succ_pos _) (he30 _ _ _ (Nat.succ_pos _) (he25 _ _ _ (Nat.succ_pos _) (he20 _ _ _ (Nat.succ_pos _) (he15 _ _ _ (Nat.succ_pos _) (he10 _ _ _ (Nat.succ_pos _) (he5 _ _ _ (Nat.succ_pos _) hc1)))))))))))))))))))))))))))))))))))))))))))))))))))))))))) flX12_146 rfl dX12_init_505 rfl ?_
  refine r_iload_n (i := 1) (x := (4 : Int32)) (q := 509) 1 hX dX12_init_508 rfl rfl rfl ?_
  refine r_iconst (v := (-1 : Int32)) (q := 510) hX dX12_init_509 rfl rfl ?_
  refine r_ck (fun hc335 => ?_)
  refine r_iast (a := (rR M334 a0 69)) (i := (4 : Int32)) (x := (-1 : Int32)) (q := 511) hX hc335 dX12_init_510 rfl (fun M336 => ?_)
  refine r_iinc (x := (4 : Int32)) (v := (5 : Int32)) (q := 514) 1 1 [1, 0] (L1 := [(0, vr a0), (1, vi (5 : Int32))]) hX dX12_init_511 rfl rfl (Nat.le_of_ble_eq_true rfl) rfl rfl ?_
  refine r_goto (q := 471) hX dX12_init_514 (by decide) ?_
  refine r_iload_n (i := 1) (x := (5 : Int32)) (q := 472) 1 hX dX12_init_471 rfl rfl rfl ?_
  refine r_bipush (v := (8 : Int32)) (q := 474) hX dX12_init_472 rfl rfl ?_
  refine r_icmp_geF (tgt := 517) (q := 477) hX dX12_init_474 (by decide) rfl (by decide) ?_
  refine r_aload_n (i := 0) (x := a0) (q := 478) 0 hX dX12_init_477 rfl rfl rfl ?_
  refine r_getR (a := a0) (ci := 12) (kf := 0) (q := 481) hX (he290 _ _ _ (Nat.succ_pos _) (he285 _ _ _ (Nat.succ_pos _) (he280 _ _ _ (Nat.succ_pos _) (he275 _ _ _ (Nat.succ_pos _) (he270 _ _ _ (Nat.succ_pos _) (he265 _ _ _ (Nat.succ_pos _) (he260 _ _ _ (Nat.succ_pos _) (he255 _ _ _ (Nat.succ_pos _) (he250 _ _ _ (Nat.succ_pos _) (he245 _ _ _ (Nat.succ_pos _) (he240 _ _ _ (Nat.succ_pos _) (he235 _ _ _ (Nat.succ_pos _) (he230 _ _ _ (Nat.succ_pos _) (he225 _ _ _ (Nat.succ_pos _) (he220 _ _ _ (Nat.succ_pos _) (he215 _ _ _ (Nat.succ_pos _) (he210 _ _ _ (Nat.succ_pos _) (he205 _ _ _ (Nat.succ_pos _) (he200 _ _ _ (Nat.succ_pos _) (he195 _ _ _ (Nat.succ_pos _) (he190 _ _ _ (Nat.succ_pos _) (he185 _ _ _ (Nat.succ_pos _) (he180 _ _ _ (Nat.succ_pos _) (he175 _ _ _ (Nat.succ_pos _) (he170 _ _ _ (Nat.succ_pos _) (he165 _ _ _ (Nat.succ_pos _) (he160 _ _ _ (Nat.succ_pos _) (he155 _ _ _ (Nat.succ_pos _) (he150 _ _ _ (Nat.succ_pos _) (he145 _ _ _ (Nat.succ_pos _) (he140 _ _ _ (Nat.succ_pos _) (he135 _ _ _ (Nat.succ_pos _) (he130 _ _ _ (Nat.succ_pos _) (he125 _ _ _ (Nat.succ_pos _) (he120 _ _ _ (Nat.succ_pos _) (he115 _ _ _ (Nat.succ_pos _) (he110 _ _ _ (Nat.succ_pos _) (he105 _ _ _ (Nat.succ_pos _) (he100 _ _ _ (Nat.succ_pos _) (he95 _ _ _ (Nat.succ_pos _) (he90 _ _ _ (Nat.succ_pos _) (he85 _ _ _ (Nat.succ_pos _) (he80 _ _ _ (Nat.succ_pos _) (he75 _ _ _ (Nat.succ_pos _) (he70 _ _ _ (Nat.succ_pos _) (he65 _ _ _ (Nat.succ_pos _) (he60 _ _ _ (Nat.succ_pos _) (he55 _ _ _ (Nat.succ_pos _) (he50 _ _ _ (Nat.succ_pos _) (he45 _ _ _ (Nat.succ_pos _) (he40 _ _ _ (Nat.succ_pos _) (he35 _ _ _ (Nat.succ_pos _) (he30 _ _ _ (Nat.succ_pos _) (he25 _ _ _ (Nat.succ_pos _) (he20 _ _ _ (Nat.succ_pos _) (he15 _ _ _ (Nat.succ_pos _) (he10 _ _ _ (Nat.succ_pos _) (he5 _ _ _ (Nat.succ_pos _) hc1)))))))))))))))))))))))))))))))))))))))))))))))))))))))))) flX12_7 rfl dX12_init_478 rfl ?_
  refine r_iload_n (i := 1) (x := (5 : Int32)) (q := 482) 1 hX dX12_init_481 rfl rfl rfl ?_
  refine r_sipush (v := (1000 : Int32)) (q := 485) hX dX12_init_482 rfl rfl ?_
  refine r_ck (fun hc338 => ?_)
  refine r_iast (a := (rR M336 a0 0)) (i := (5 : Int32)) (x := (1000 : Int32)) (q := 486) hX hc338 dX12_init_485 rfl (fun M339 => ?_)
  refine r_aload_n (i := 0) (x := a0) (q := 487) 0 hX dX12_init_486 rfl rfl rfl ?_
  refine r_getR (a := a0) (ci := 12) (kf := 1) (q := 490) hX (he290 _ _ _ (Nat.succ_pos _) (he285 _ _ _ (Nat.succ_pos _) (he280 _ _ _ (Nat.succ_pos _) (he275 _ _ _ (Nat.succ_pos _) (he270 _ _ _ (Nat.succ_pos _) (he265 _ _ _ (Nat.succ_pos _) (he260 _ _ _ (Nat.succ_pos _) (he255 _ _ _ (Nat.succ_pos _) (he250 _ _ _ (Nat.succ_pos _) (he245 _ _ _ (Nat.succ_pos _) (he240 _ _ _ (Nat.succ_pos _) (he235 _ _ _ (Nat.succ_pos _) (he230 _ _ _ (Nat.succ_pos _) (he225 _ _ _ (Nat.succ_pos _) (he220 _ _ _ (Nat.succ_pos _) (he215 _ _ _ (Nat.succ_pos _) (he210 _ _ _ (Nat.succ_pos _) (he205 _ _ _ (Nat.succ_pos _) (he200 _ _ _ (Nat.succ_pos _) (he195 _ _ _ (Nat.succ_pos _) (he190 _ _ _ (Nat.succ_pos _) (he185 _ _ _ (Nat.succ_pos _) (he180 _ _ _ (Nat.succ_pos _) (he175 _ _ _ (Nat.succ_pos _) (he170 _ _ _ (Nat.succ_pos _) (he165 _ _ _ (Nat.succ_pos _) (he160 _ _ _ (Nat.succ_pos _) (he155 _ _ _ (Nat.succ_pos _) (he150 _ _ _ (Nat.succ_pos _) (he145 _ _ _ (Nat.succ_pos _) (he140 _ _ _ (Nat.succ_pos _) (he135 _ _ _ (Nat.succ_pos _) (he130 _ _ _ (Nat.succ_pos _) (he125 _ _ _ (Nat.succ_pos _) (he120 _ _ _ (Nat.succ_pos _) (he115 _ _ _ (Nat.succ_pos _) (he110 _ _ _ (Nat.succ_pos _) (he105 _ _ _ (Nat.succ_pos _) (he100 _ _ _ (Nat.succ_pos _) (he95 _ _ _ (Nat.succ_pos _) (he90 _ _ _ (Nat.succ_pos _) (he85 _ _ _ (Nat.succ_pos _) (he80 _ _ _ (Nat.succ_pos _) (he75 _ _ _ (Nat.succ_pos _) (he70 _ _ _ (Nat.succ_pos _) (he65 _ _ _ (Nat.succ_pos _) (he60 _ _ _ (Nat.succ_pos _) (he55 _ _ _ (Nat.succ_pos _) (he50 _ _ _ (Nat.succ_pos _) (he45 _ _ _ (Nat.succ_pos _) (he40 _ _ _ (Nat.succ_pos _) (he35 _ _ _ (Nat.succ_pos _) (he30 _ _ _ (Nat.succ_pos _) (he25 _ _ _ (Nat.succ_pos _) (he20 _ _ _ (Nat.succ_pos _) (he15 _ _ _ (Nat.succ_pos _) (he10 _ _ _ (Nat.succ_pos _) (he5 _ _ _ (Nat.succ_pos _) hc1)))))))))))))))))))))))))))))))))))))))))))))))))))))))))) flX12_13 rfl dX12_init_487 rfl ?_
  refine r_iload_n (i := 1) (x := (5 : Int32)) (q := 491) 1 hX dX12_init_490 rfl rfl rfl ?_
  refine r_sipush (v := (1000 : Int32)) (q := 494) hX dX12_init_491 rfl rfl ?_
  refine r_ck (fun hc340 => ?_)
  refine r_iast (a := (rR M339 a0 1)) (i := (5 : Int32)) (x := (1000 : Int32)) (q := 495) hX hc340 dX12_init_494 rfl (fun M341 => ?_)
  refine r_aload_n (i := 0) (x := a0) (q := 496) 0 hX dX12_init_495 rfl rfl rfl ?_
  refine r_getR (a := a0) (ci := 12) (kf := 2) (q := 499) hX (he290 _ _ _ (Nat.succ_pos _) (he285 _ _ _ (Nat.succ_pos _) (he280 _ _ _ (Nat.succ_pos _) (he275 _ _ _ (Nat.succ_pos _) (he270 _ _ _ (Nat.succ_pos _) (he265 _ _ _ (Nat.succ_pos _) (he260 _ _ _ (Nat.succ_pos _) (he255 _ _ _ (Nat.succ_pos _) (he250 _ _ _ (Nat.succ_pos _) (he245 _ _ _ (Nat.succ_pos _) (he240 _ _ _ (Nat.succ_pos _) (he235 _ _ _ (Nat.succ_pos _) (he230 _ _ _ (Nat.succ_pos _) (he225 _ _ _ (Nat.succ_pos _) (he220 _ _ _ (Nat.succ_pos _) (he215 _ _ _ (Nat.succ_pos _) (he210 _ _ _ (Nat.succ_pos _) (he205 _ _ _ (Nat.succ_pos _) (he200 _ _ _ (Nat.succ_pos _) (he195 _ _ _ (Nat.succ_pos _) (he190 _ _ _ (Nat.succ_pos _) (he185 _ _ _ (Nat.succ_pos _) (he180 _ _ _ (Nat.succ_pos _) (he175 _ _ _ (Nat.succ_pos _) (he170 _ _ _ (Nat.succ_pos _) (he165 _ _ _ (Nat.succ_pos _) (he160 _ _ _ (Nat.succ_pos _) (he155 _ _ _ (Nat.succ_pos _) (he150 _ _ _ (Nat.succ_pos _) (he145 _ _ _ (Nat.succ_pos _) (he140 _ _ _ (Nat.succ_pos _) (he135 _ _ _ (Nat.succ_pos _) (he130 _ _ _ (Nat.succ_pos _) (he125 _ _ _ (Nat.succ_pos _) (he120 _ _ _ (Nat.succ_pos _) (he115 _ _ _ (Nat.succ_pos _) (he110 _ _ _ (Nat.succ_pos _) (he105 _ _ _ (Nat.succ_pos _) (he100 _ _ _ (Nat.succ_pos _) (he95 _ _ _ (Nat.succ_pos _) (he90 _ _ _ (Nat.succ_pos _) (he85 _ _ _ (Nat.succ_pos _) (he80 _ _ _ (Nat.succ_pos _) (he75 _ _ _ (Nat.succ_pos _) (he70 _ _ _ (Nat.succ_pos _) (he65 _ _ _ (Nat.succ_pos _) (he60 _ _ _ (Nat.succ_pos _) (he55 _ _ _ (Nat.succ_pos _) (he50 _ _ _ (Nat.succ_pos _) (he45 _ _ _ (Nat.succ_pos _) (he40 _ _ _ (Nat.succ_pos _) (he35 _ _ _ (Nat.succ_pos _) (he30 _ _ _ (Nat.succ_pos _) (he25 _ _ _ (Nat.succ_pos _) (he20 _ _ _ (Nat.succ_pos _) (he15 _ _ _ (Nat.succ_pos _) (he10 _ _ _ (Nat.succ_pos _) (he5 _ _ _ (Nat.succ_pos _) hc1)))))))))))))))))))))))))))))))))))))))))))))))))))))))))) flX12_16 rfl dX12_init_496 rfl ?_
  refine r_iload_n (i := 1) (x := (5 : Int32)) (q := 500) 1 hX dX12_init_499 rfl rfl rfl ?_
  refine r_sipush (v := (500 : Int32)) (q := 503) hX dX12_init_500 rfl rfl ?_
  refine r_ck (fun hc342 => ?_)
  refine r_iast (a := (rR M341 a0 2)) (i := (5 : Int32)) (x := (500 : Int32)) (q := 504) hX hc342 dX12_init_503 rfl (fun M343 => ?_)
  refine r_aload_n (i := 0) (x := a0) (q := 505) 0 hX dX12_init_504 rfl rfl rfl ?_
  refine r_getR (a := a0) (ci := 12) (kf := 69) (q := 508) hX (he290 _ _ _ (Nat.succ_pos _) (he285 _ _ _ (Nat.succ_pos _) (he280 _ _ _ (Nat.succ_pos _) (he275 _ _ _ (Nat.succ_pos _) (he270 _ _ _ (Nat.succ_pos _) (he265 _ _ _ (Nat.succ_pos _) (he260 _ _ _ (Nat.succ_pos _) (he255 _ _ _ (Nat.succ_pos _) (he250 _ _ _ (Nat.succ_pos _) (he245 _ _ _ (Nat.succ_pos _) (he240 _ _ _ (Nat.succ_pos _) (he235 _ _ _ (Nat.succ_pos _) (he230 _ _ _ (Nat.succ_pos _) (he225 _ _ _ (Nat.succ_pos _) (he220 _ _ _ (Nat.succ_pos _) (he215 _ _ _ (Nat.succ_pos _) (he210 _ _ _ (Nat.succ_pos _) (he205 _ _ _ (Nat.succ_pos _) (he200 _ _ _ (Nat.succ_pos _) (he195 _ _ _ (Nat.succ_pos _) (he190 _ _ _ (Nat.succ_pos _) (he185 _ _ _ (Nat.succ_pos _) (he180 _ _ _ (Nat.succ_pos _) (he175 _ _ _ (Nat.succ_pos _) (he170 _ _ _ (Nat.succ_pos _) (he165 _ _ _ (Nat.succ_pos _) (he160 _ _ _ (Nat.succ_pos _) (he155 _ _ _ (Nat.succ_pos _) (he150 _ _ _ (Nat.succ_pos _) (he145 _ _ _ (Nat.succ_pos _) (he140 _ _ _ (Nat.succ_pos _) (he135 _ _ _ (Nat.succ_pos _) (he130 _ _ _ (Nat.succ_pos _) (he125 _ _ _ (Nat.succ_pos _) (he120 _ _ _ (Nat.succ_pos _) (he115 _ _ _ (Nat.succ_pos _) (he110 _ _ _ (Nat.succ_pos _) (he105 _ _ _ (Nat.succ_pos _) (he100 _ _ _ (Nat.succ_pos _) (he95 _ _ _ (Nat.succ_pos _) (he90 _ _ _ (Nat.succ_pos _) (he85 _ _ _ (Nat.succ_pos _) (he80 _ _ _ (Nat.succ_pos _) (he75 _ _ _ (Nat.succ_pos _) (he70 _ _ _ (Nat.succ_pos _) (he65 _ _ _ (Nat.succ_pos _) (he60 _ _ _ (Nat.succ_pos _) (he55 _ _ _ (Nat.succ_pos _) (he50 _ _ _ (Nat.succ_pos _) (he45 _ _ _ (Nat.succ_pos _) (he40 _ _ _ (Nat.succ_pos _) (he35 _ _ _ (Nat.succ_pos _) (he30 _ _ _ (Nat.succ_pos _) (he25 _ _ _ (Nat.succ_pos _) (he20 _ _ _ (Nat.succ_pos _) (he15 _ _ _ (Nat.succ_pos _) (he10 _ _ _ (Nat.succ_pos _) (he5 _ _ _ (Nat.succ_pos _) hc1)))))))))))))))))))))))))))))))))))))))))))))))))))))))))) flX12_146 rfl dX12_init_505 rfl ?_
  refine r_iload_n (i := 1) (x := (5 : Int32)) (q := 509) 1 hX dX12_init_508 rfl rfl rfl ?_
  refine r_iconst (v := (-1 : Int32)) (q := 510) hX dX12_init_509 rfl rfl ?_
  refine r_ck (fun hc344 => ?_)
  refine r_iast (a := (rR M343 a0 69)) (i := (5 : Int32)) (x := (-1 : Int32)) (q := 511) hX hc344 dX12_init_510 rfl (fun M345 => ?_)
  refine r_iinc (x := (5 : Int32)) (v := (6 : Int32)) (q := 514) 1 1 [1, 0] (L1 := [(0, vr a0), (1, vi (6 : Int32))]) hX dX12_init_511 rfl rfl (Nat.le_of_ble_eq_true rfl) rfl rfl ?_
  refine r_goto (q := 471) hX dX12_init_514 (by decide) ?_
  refine r_iload_n (i := 1) (x := (6 : Int32)) (q := 472) 1 hX dX12_init_471 rfl rfl rfl ?_
  refine r_bipush (v := (8 : Int32)) (q := 474) hX dX12_init_472 rfl rfl ?_
  refine r_icmp_geF (tgt := 517) (q := 477) hX dX12_init_474 (by decide) rfl (by decide) ?_
  refine r_aload_n (i := 0) (x := a0) (q := 478) 0 hX dX12_init_477 rfl rfl rfl ?_
  refine r_getR (a := a0) (ci := 12) (kf := 0) (q := 481) hX (he290 _ _ _ (Nat.succ_pos _) (he285 _ _ _ (Nat.succ_pos _) (he280 _ _ _ (Nat.succ_pos _) (he275 _ _ _ (Nat.succ_pos _) (he270 _ _ _ (Nat.succ_pos _) (he265 _ _ _ (Nat.succ_pos _) (he260 _ _ _ (Nat.succ_pos _) (he255 _ _ _ (Nat.succ_pos _) (he250 _ _ _ (Nat.succ_pos _) (he245 _ _ _ (Nat.succ_pos _) (he240 _ _ _ (Nat.succ_pos _) (he235 _ _ _ (Nat.succ_pos _) (he230 _ _ _ (Nat.succ_pos _) (he225 _ _ _ (Nat.succ_pos _) (he220 _ _ _ (Nat.succ_pos _) (he215 _ _ _ (Nat.succ_pos _) (he210 _ _ _ (Nat.succ_pos _) (he205 _ _ _ (Nat.succ_pos _) (he200 _ _ _ (Nat.succ_pos _) (he195 _ _ _ (Nat.succ_pos _) (he190 _ _ _ (Nat.succ_pos _) (he185 _ _ _ (Nat.succ_pos _) (he180 _ _ _ (Nat.succ_pos _) (he175 _ _ _ (Nat.succ_pos _) (he170 _ _ _ (Nat.succ_pos _) (he165 _ _ _ (Nat.succ_pos _) (he160 _ _ _ (Nat.succ_pos _) (he155 _ _ _ (Nat.succ_pos _) (he150 _ _ _ (Nat.succ_pos _) (he145 _ _ _ (Nat.succ_pos _) (he140 _ _ _ (Nat.succ_pos _) (he135 _ _ _ (Nat.succ_pos _) (he130 _ _ _ (Nat.succ_pos _) (he125 _ _ _ (Nat.succ_pos _) (he120 _ _ _ (Nat.succ_pos _) (he115 _ _ _ (Nat.succ_pos _) (he110 _ _ _ (Nat.succ_pos _) (he105 _ _ _ (Nat.succ_pos _) (he100 _ _ _ (Nat.succ_pos _) (he95 _ _ _ (Nat.succ_pos _) (he90 _ _ _ (Nat.succ_pos _) (he85 _ _ _ (Nat.succ_pos _) (he80 _ _ _ (Nat.succ_pos _) (he75 _ _ _ (Nat.succ_pos _) (he70 _ _ _ (Nat.succ_pos _) (he65 _ _ _ (Nat.succ_pos _) (he60 _ _ _ (Nat.succ_pos _) (he55 _ _ _ (Nat.succ_pos _) (he50 _ _ _ (Nat.succ_pos _) (he45 _ _ _ (Nat.succ_pos _) (he40 _ _ _ (Nat.succ_pos _) (he35 _ _ _ (Nat.succ_pos _) (he30 _ _ _ (Nat.succ_pos _) (he25 _ _ _ (Nat.succ_pos _) (he20 _ _ _ (Nat.succ_pos _) (he15 _ _ _ (Nat.succ_pos _) (he10 _ _ _ (Nat.succ_pos _) (he5 _ _ _ (Nat.succ_pos _) hc1)))))))))))))))))))))))))))))))))))))))))))))))))))))))))) flX12_7 rfl dX12_init_478 rfl ?_
  refine r_iload_n (i := 1) (x := (6 : Int32)) (q := 482) 1 hX dX12_init_481 rfl rfl rfl ?_
  refine r_sipush (v := (1000 : Int32)) (q := 485) hX dX12_init_482 rfl rfl ?_
  refine r_ck (fun hc347 => ?_)
  refine r_iast (a := (rR M345 a0 0)) (i := (6 : Int32)) (x := (1000 : Int32)) (q := 486) hX hc347 dX12_init_485 rfl (fun M348 => ?_)
  refine r_aload_n (i := 0) (x := a0) (q := 487) 0 hX dX12_init_486 rfl rfl rfl ?_
  refine r_getR (a := a0) (ci := 12) (kf := 1) (q := 490) hX (he290 _ _ _ (Nat.succ_pos _) (he285 _ _ _ (Nat.succ_pos _) (he280 _ _ _ (Nat.succ_pos _) (he275 _ _ _ (Nat.succ_pos _) (he270 _ _ _ (Nat.succ_pos _) (he265 _ _ _ (Nat.succ_pos _) (he260 _ _ _ (Nat.succ_pos _) (he255 _ _ _ (Nat.succ_pos _) (he250 _ _ _ (Nat.succ_pos _) (he245 _ _ _ (Nat.succ_pos _) (he240 _ _ _ (Nat.succ_pos _) (he235 _ _ _ (Nat.succ_pos _) (he230 _ _ _ (Nat.succ_pos _) (he225 _ _ _ (Nat.succ_pos _) (he220 _ _ _ (Nat.succ_pos _) (he215 _ _ _ (Nat.succ_pos _) (he210 _ _ _ (Nat.succ_pos _) (he205 _ _ _ (Nat.succ_pos _) (he200 _ _ _ (Nat.succ_pos _) (he195 _ _ _ (Nat.succ_pos _) (he190 _ _ _ (Nat.succ_pos _) (he185 _ _ _ (Nat.succ_pos _) (he180 _ _ _ (Nat.succ_pos _) (he175 _ _ _ (Nat.succ_pos _) (he170 _ _ _ (Nat.succ_pos _) (he165 _ _ _ (Nat.succ_pos _) (he160 _ _ _ (Nat.succ_pos _) (he155 _ _ _ (Nat.succ_pos _) (he150 _ _ _ (Nat.succ_pos _) (he145 _ _ _ (Nat.succ_pos _) (he140 _ _ _ (Nat.succ_pos _) (he135 _ _ _ (Nat.succ_pos _) (he130 _ _ _ (Nat.succ_pos _) (he125 _ _ _ (Nat.succ_pos _) (he120 _ _ _ (Nat.succ_pos _) (he115 _ _ _ (Nat.succ_pos _) (he110 _ _ _ (Nat.succ_pos _) (he105 _ _ _ (Nat.succ_pos _) (he100 _ _ _ (Nat.succ_pos _) (he95 _ _ _ (Nat.succ_pos _) (he90 _ _ _ (Nat.succ_pos _) (he85 _ _ _ (Nat.succ_pos _) (he80 _ _ _ (Nat.succ_pos _) (he75 _ _ _ (Nat.succ_pos _) (he70 _ _ _ (Nat.succ_pos _) (he65 _ _ _ (Nat.succ_pos _) (he60 _ _ _ (Nat.succ_pos _) (he55 _ _ _ (Nat.succ_pos _) (he50 _ _ _ (Nat.succ_pos _) (he45 _ _ _ (Nat.succ_pos _) (he40 _ _ _ (Nat.succ_pos _) (he35 _ _ _ (Nat.succ_pos _) (he30 _ _ _ (Nat.succ_pos _) (he25 _ _ _ (Nat.succ_pos _) (he20 _ _ _ (Nat.succ_pos _) (he15 _ _ _ (Nat.succ_pos _) (he10 _ _ _ (Nat.succ_pos _) (he5 _ _ _ (Nat.succ_pos _) hc1)))))))))))))))))))))))))))))))))))))))))))))))))))))))))) flX12_13 rfl dX12_init_487 rfl ?_
  refine r_iload_n (i := 1) (x := (6 : Int32)) (q := 491) 1 hX dX12_init_490 rfl rfl rfl ?_
  refine r_sipush (v := (1000 : Int32)) (q := 494) hX dX12_init_491 rfl rfl ?_
  refine r_ck (fun hc349 => ?_)
  refine r_iast (a := (rR M348 a0 1)) (i := (6 : Int32)) (x := (1000 : Int32)) (q := 495) hX hc349 dX12_init_494 rfl (fun M350 => ?_)
  refine r_aload_n (i := 0) (x := a0) (q := 496) 0 hX dX12_init_495 rfl rfl rfl ?_
  refine r_getR (a := a0) (ci := 12) (kf := 2) (q := 499) hX (he290 _ _ _ (Nat.succ_pos _) (he285 _ _ _ (Nat.succ_pos _) (he280 _ _ _ (Nat.succ_pos _) (he275 _ _ _ (Nat.succ_pos _) (he270 _ _ _ (Nat.succ_pos _) (he265 _ _ _ (Nat.succ_pos _) (he260 _ _ _ (Nat.succ_pos _) (he255 _ _ _ (Nat.succ_pos _) (he250 _ _ _ (Nat.succ_pos _) (he245 _ _ _ (Nat.succ_pos _) (he240 _ _ _ (Nat.succ_pos _) (he235 _ _ _ (Nat.succ_pos _) (he230 _ _ _ (Nat.succ_pos _) (he225 _ _ _ (Nat.succ_pos _) (he220 _ _ _ (Nat.succ_pos _) (he215 _ _ _ (Nat.succ_pos _) (he210 _ _ _ (Nat.succ_pos _) (he205 _ _ _ (Nat.succ_pos _) (he200 _ _ _ (Nat.succ_pos _) (he195 _ _ _ (Nat.succ_pos _) (he190 _ _ _ (Nat.succ_pos _) (he185 _ _ _ (Nat.succ_pos _) (he180 _ _ _ (Nat.succ_pos _) (he175 _ _ _ (Nat.succ_pos _) (he170 _ _ _ (Nat.succ_pos _) (he165 _ _ _ (Nat.succ_pos _) (he160 _ _ _ (Nat.succ_pos _) (he155 _ _ _ (Nat.succ_pos _) (he150 _ _ _ (Nat.succ_pos _) (he145 _ _ _ (Nat.succ_pos _) (he140 _ _ _ (Nat.succ_pos _) (he135 _ _ _ (Nat.succ_pos _) (he130 _ _ _ (Nat.succ_pos _) (he125 _ _ _ (Nat.succ_pos _) (he120 _ _ _ (Nat.succ_pos _) (he115 _ _ _ (Nat.succ_pos _) (he110 _ _ _ (Nat.succ_pos _) (he105 _ _ _ (Nat.succ_pos _) (he100 _ _ _ (Nat.succ_pos _) (he95 _ _ _ (Nat.succ_pos _) (he90 _ _ _ (Nat.succ_pos _) (he85 _ _ _ (Nat.succ_pos _) (he80 _ _ _ (Nat.succ_pos _) (he75 _ _ _ (Nat.succ_pos _) (he70 _ _ _ (Nat.succ_pos _) (he65 _ _ _ (Nat.succ_pos _) (he60 _ _ _ (Nat.succ_pos _) (he55 _ _ _ (Nat.succ_pos _) (he50 _ _ _ (Nat.succ_pos _) (he45 _ _ _ (Nat.succ_pos _) (he40 _ _ _ (Nat.succ_pos _) (he35 _ _ _ (Nat.succ_pos _) (he30 _ _ _ (Nat.succ_pos _) (he25 _ _ _ (Nat.succ_pos _) (he20 _ _ _ (Nat.succ_pos _) (he15 _ _ _ (Nat.succ_pos _) (he10 _ _ _ (Nat.succ_pos _) (he5 _ _ _ (Nat.succ_pos _) hc1)))))))))))))))))))))))))))))))))))))))))))))))))))))))))) flX12_16 rfl dX12_init_496 rfl ?_
  refine r_iload_n (i := 1) (x := (6 : Int32)) (q := 500) 1 hX dX12_init_499 rfl rfl rfl ?_
  refine r_sipush (v := (500 : Int32)) (q := 503) hX dX12_init_500 rfl rfl ?_
  refine r_ck (fun hc351 => ?_)
  refine r_iast (a := (rR M350 a0 2)) (i := (6 : Int32)) (x := (500 : Int32)) (q := 504) hX hc351 dX12_init_503 rfl (fun M352 => ?_)
  refine r_aload_n (i := 0) (x := a0) (q := 505) 0 hX dX12_init_504 rfl rfl rfl ?_
  refine r_getR (a := a0) (ci := 12) (kf := 69) (q := 508) hX (he290 _ _ _ (Nat.succ_pos _) (he285 _ _ _ (Nat.succ_pos _) (he280 _ _ _ (Nat.succ_pos _) (he275 _ _ _ (Nat.succ_pos _) (he270 _ _ _ (Nat.succ_pos _) (he265 _ _ _ (Nat.succ_pos _) (he260 _ _ _ (Nat.succ_pos _) (he255 _ _ _ (Nat.succ_pos _) (he250 _ _ _ (Nat.succ_pos _) (he245 _ _ _ (Nat.succ_pos _) (he240 _ _ _ (Nat.succ_pos _) (he235 _ _ _ (Nat.succ_pos _) (he230 _ _ _ (Nat.succ_pos _) (he225 _ _ _ (Nat.succ_pos _) (he220 _ _ _ (Nat.succ_pos _) (he215 _ _ _ (Nat.succ_pos _) (he210 _ _ _ (Nat.succ_pos _) (he205 _ _ _ (Nat.succ_pos _) (he200 _ _ _ (Nat.succ_pos _) (he195 _ _ _ (Nat.succ_pos _) (he190 _ _ _ (Nat.succ_pos _) (he185 _ _ _ (Nat.succ_pos _) (he180 _ _ _ (Nat.succ_pos _) (he175 _ _ _ (Nat.succ_pos _) (he170 _ _ _ (Nat.succ_pos _) (he165 _ _ _ (Nat.succ_pos _) (he160 _ _ _ (Nat.succ_pos _) (he155 _ _ _ (Nat.succ_pos _) (he150 _ _ _ (Nat.succ_pos _) (he145 _ _ _ (Nat.succ_pos _) (he140 _ _ _ (Nat.succ_pos _) (he135 _ _ _ (Nat.succ_pos _) (he130 _ _ _ (Nat.succ_pos _) (he125 _ _ _ (Nat.succ_pos _) (he120 _ _ _ (Nat.succ_pos _) (he115 _ _ _ (Nat.succ_pos _) (he110 _ _ _ (Nat.succ_pos _) (he105 _ _ _ (Nat.succ_pos _) (he100 _ _ _ (Nat.succ_pos _) (he95 _ _ _ (Nat.succ_pos _) (he90 _ _ _ (Nat.succ_pos _) (he85 _ _ _ (Nat.succ_pos _) (he80 _ _ _ (Nat.succ_pos _) (he75 _ _ _ (Nat.succ_pos _) (he70 _ _ _ (Nat.succ_pos _) (he65 _ _ _ (Nat.succ_pos _) (he60 _ _ _ (Nat.succ_pos _) (he55 _ _ _ (Nat.succ_pos _) (he50 _ _ _ (Nat.succ_pos _) (he45 _ _ _ (Nat.succ_pos _) (he40 _ _ _ (Nat.succ_pos _) (he35 _ _ _ (Nat.succ_pos _) (he30 _ _ _ (Nat.succ_pos _) (he25 _ _ _ (Nat.succ_pos _) (he20 _ _ _ (Nat.succ_pos _) (he15 _ _ _ (Nat.succ_pos _) (he10 _ _ _ (Nat.succ_pos _) (he5 _ _ _ (Nat.succ_pos _) hc1)))))))))))))))))))))))))))))))))))))))))))))))))))))))))) flX12_146 rfl dX12_init_505 rfl ?_
  refine r_iload_n (i := 1) (x := (6 : Int32)) (q := 509) 1 hX dX12_init_508 rfl rfl rfl ?_
  refine r_iconst (v := (-1 : Int32)) (q := 510) hX dX12_init_509 rfl rfl ?_
  refine r_ck (fun hc353 => ?_)
  refine r_iast (a := (rR M352 a0 69)) (i := (6 : Int32)) (x := (-1 : Int32)) (q := 511) hX hc353 dX12_init_510 rfl (fun M354 => ?_)
  refine r_iinc (x := (6 : Int32)) (v := (7 : Int32)) (q := 514) 1 1 [1, 0] (L1 := [(0, vr a0), (1, vi (7 : Int32))]) hX dX12_init_511 rfl rfl (Nat.le_of_ble_eq_true rfl) rfl rfl ?_
  refine r_goto (q := 471) hX dX12_init_514 (by decide) ?_
  refine r_iload_n (i := 1) (x := (7 : Int32)) (q := 472) 1 hX dX12_init_471 rfl rfl rfl ?_
  refine r_bipush (v := (8 : Int32)) (q := 474) hX dX12_init_472 rfl rfl ?_
  refine r_icmp_geF (tgt := 517) (q := 477) hX dX12_init_474 (by decide) rfl (by decide) ?_
  refine r_aload_n (i := 0) (x := a0) (q := 478) 0 hX dX12_init_477 rfl rfl rfl ?_
  refine r_getR (a := a0) (ci := 12) (kf := 0) (q := 481) hX (he290 _ _ _ (Nat.succ_pos _) (he285 _ _ _ (Nat.succ_pos _) (he280 _ _ _ (Nat.succ_pos _) (he275 _ _ _ (Nat.succ_pos _) (he270 _ _ _ (Nat.succ_pos _) (he265 _ _ _ (Nat.succ_pos _) (he260 _ _ _ (Nat.succ_pos _) (he255 _ _ _ (Nat.succ_pos _) (he250 _ _ _ (Nat.succ_pos _) (he245 _ _ _ (Nat.succ_pos _) (he240 _ _ _ (Nat.succ_pos _) (he235 _ _ _ (Nat.succ_pos _) (he230 _ _ _ (Nat.succ_pos _) (he225 _ _ _ (Nat.succ_pos _) (he220 _ _ _ (Nat.succ_pos _) (he215 _ _ _ (Nat.succ_pos _) (he210 _ _ _ (Nat.succ_pos _) (he205 _ _ _ (Nat.succ_pos _) (he200 _ _ _ (Nat.succ_pos _) (he195 _ _ _ (Nat.succ_pos _) (he190 _ _ _ (Nat.succ_pos _) (he185 _ _ _ (Nat.succ_pos _) (he180 _ _ _ (Nat.succ_pos _) (he175 _ _ _ (Nat.succ_pos _) (he170 _ _ _ (Nat.succ_pos _) (he165 _ _ _ (Nat.succ_pos _) (he160 _ _ _ (Nat.succ_pos _) (he155 _ _ _ (Nat.succ_pos _) (he150 _ _ _ (Nat.succ_pos _) (he145 _ _ _ (Nat.succ_pos _) (he140 _ _ _ (Nat.succ_pos _) (he135 _ _ _ (Nat.succ_pos _) (he130 _ _ _ (Nat.succ_pos _) (he125 _ _ _ (Nat.succ_pos _) (he120 _ _ _ (Nat.succ_pos _) (he115 _ _ _ (Nat.succ_pos _) (he110 _ _ _ (Nat.succ_pos _) (he105 _ _ _ (Nat.succ_pos _) (he100 _ _ _ (Nat.succ_pos _) (he95 _ _ _ (Nat.succ_pos _) (he90 _ _ _ (Nat.succ_pos _) (he85 _ _ _ (Nat.succ_pos _) (he80 _ _ _ (Nat.succ_pos _) (he75 _ _ _ (Nat.succ_pos _) (he70 _ _ _ (Nat.succ_pos _) (he65 _ _ _ (Nat.succ_pos _) (he60 _ _ _ (Nat.succ_pos _) (he55 _ _ _ (Nat.succ_pos _) (he50 _ _ _ (Nat.succ_pos _) (he45 _ _ _ (Nat.succ_pos _) (he40 _ _ _ (Nat.succ_pos _) (he35 _ _ _ (Nat.succ_pos _) (he30 _ _ _ (Nat.succ_pos _) (he25 _ _ _ (Nat.succ_pos _) (he20 _ _ _ (Nat.succ_pos _) (he15 _ _ _ (Nat.succ_pos _) (he10 _ _ _ (Nat.succ_pos _) (he5 _ _ _ (Nat.succ_pos _) hc1)))))))))))))))))))))))))))))))))))))))))))))))))))))))))) flX12_7 rfl dX12_init_478 rfl ?_
  refine r_iload_n (i := 1) (x := (7 : Int32)) (q := 482) 1 hX dX12_init_481 rfl rfl rfl ?_
  refine r_sipush (v := (1000 : Int32)) (q := 485) hX dX12_init_482 rfl rfl ?_
  refine r_ck (fun hc356 => ?_)
  refine r_iast (a := (rR M354 a0 0)) (i := (7 : Int32)) (x := (1000 : Int32)) (q := 486) hX hc356 dX12_init_485 rfl (fun M357 => ?_)
  refine r_aload_n (i := 0) (x := a0) (q := 487) 0 hX dX12_init_486 rfl rfl rfl ?_
  refine r_getR (a := a0) (ci := 12) (kf := 1) (q := 490) hX (he290 _ _ _ (Nat.succ_pos _) (he285 _ _ _ (Nat.succ_pos _) (he280 _ _ _ (Nat.succ_pos _) (he275 _ _ _ (Nat.succ_pos _) (he270 _ _ _ (Nat.succ_pos _) (he265 _ _ _ (Nat.succ_pos _) (he260 _ _ _ (Nat.succ_pos _) (he255 _ _ _ (Nat.succ_pos _) (he250 _ _ _ (Nat.succ_pos _) (he245 _ _ _ (Nat.succ_pos _) (he240 _ _ _ (Nat.succ_pos _) (he235 _ _ _ (Nat.succ_pos _) (he230 _ _ _ (Nat.succ_pos _) (he225 _ _ _ (Nat.succ_pos _) (he220 _ _ _ (Nat.succ_pos _) (he215 _ _ _ (Nat.succ_pos _) (he210 _ _ _ (Nat.succ_pos _) (he205 _ _ _ (Nat.succ_pos _) (he200 _ _ _ (Nat.succ_pos _) (he195 _ _ _ (Nat.succ_pos _) (he190 _ _ _ (Nat.succ_pos _) (he185 _ _ _ (Nat.succ_pos _) (he180 _ _ _ (Nat.succ_pos _) (he175 _ _ _ (Nat.succ_pos _) (he170 _ _ _ (Nat.succ_pos _) (he165 _ _ _ (Nat.succ_pos _) (he160 _ _ _ (Nat.succ_pos _) (he155 _ _ _ (Nat.succ_pos _) (he150 _ _ _ (Nat.succ_pos _) (he145 _ _ _ (Nat.succ_pos _) (he140 _ _ _ (Nat.succ_pos _) (he135 _ _ _ (Nat.succ_pos _) (he130 _ _ _ (Nat.succ_pos _) (he125 _ _ _ (Nat.succ_pos _) (he120 _ _ _ (Nat.succ_pos _) (he115 _ _ _ (Nat.succ_pos _) (he110 _ _ _ (Nat.succ_pos _) (he105 _ _ _ (Nat.succ_pos _) (he100 _ _ _ (Nat.succ_pos _) (he95 _ _ _ (Nat.succ_pos _) (he90 _ _ _ (Nat.succ_pos _) (he85 _ _ _ (Nat.succ_pos _) (he80 _ _ _ (Nat.succ_pos _) (he75 _ _ _ (Nat.succ_pos _) (he70 _ _ _ (Nat.succ_pos _) (he65 _ _ _ (Nat.succ_pos _) (he60 _ _ _ (Nat.succ_pos _) (he55 _ _ _ (Nat.succ_pos _) (he50 _ _ _ (Nat.succ_pos _) (he45 _ _ _ (Nat.succ_pos _) (he40 _ _ _ (Nat.succ_pos _) (he35 _ _ _ (Nat.succ_pos _) (he30 _ _ _ (Nat.succ_pos _) (he25 _ _ _ (Nat.succ_pos _) (he20 _ _ _ (Nat.succ_pos _) (he15 _ _ _ (Nat.succ_pos _) (he10 _ _ _ (Nat.succ_pos _) (he5 _ _ _ (Nat.succ_pos _) hc1)))))))))))))))))))))))))))))))))))))))))))))))))))))))))) flX12_13 rfl dX12_init_487 rfl ?_
  refine r_iload_n (i := 1) (x := (7 : Int32)) (q := 491) 1 hX dX12_init_490 rfl rfl rfl ?_
  refine r_sipush (v := (1000 : Int32)) (q := 494) hX dX12_init_491 rfl rfl ?_
  refine r_ck (fun hc358 => ?_)
  refine r_iast (a := (rR M357 a0 1)) (i := (7 : Int32)) (x := (1000 : Int32)) (q := 495) hX hc358 dX12_init_494 rfl (fun M359 => ?_)
  refine r_aload_n (i := 0) (x := a0) (q := 496) 0 hX dX12_init_495 rfl rfl rfl ?_
  refine r_getR (a := a0) (ci := 12) (kf := 2) (q := 499) hX (he290 _ _ _ (Nat.succ_pos _) (he285 _ _ _ (Nat.succ_pos _) (he280 _ _ _ (Nat.succ_pos _) (he275 _ _ _ (Nat.succ_pos _) (he270 _ _ _ (Nat.succ_pos _) (he265 _ _ _ (Nat.succ_pos _) (he260 _ _ _ (Nat.succ_pos _) (he255 _ _ _ (Nat.succ_pos _) (he250 _ _ _ (Nat.succ_pos _) (he245 _ _ _ (Nat.succ_pos _) (he240 _ _ _ (Nat.succ_pos _) (he235 _ _ _ (Nat.succ_pos _) (he230 _ _ _ (Nat.succ_pos _) (he225 _ _ _ (Nat.succ_pos _) (he220 _ _ _ (Nat.succ_pos _) (he215 _ _ _ (Nat.succ_pos _) (he210 _ _ _ (Nat.succ_pos _) (he205 _ _ _ (Nat.succ_pos _) (he200 _ _ _ (Nat.succ_pos _) (he195 _ _ _ (Nat.succ_pos _) (he190 _ _ _ (Nat.succ_pos _) (he185 _ _ _ (Nat.succ_pos _) (he180 _ _ _ (Nat.succ_pos _) (he175 _ _ _ (Nat.succ_pos _) (he170 _ _ _ (Nat.succ_pos _) (he165 _ _ _ (Nat.succ_pos _) (he160 _ _ _ (Nat.succ_pos _) (he155 _ _ _ (Nat.succ_pos _) (he150 _ _ _ (Nat.succ_pos _) (he145 _ _ _ (Nat.succ_pos _) (he140 _ _ _ (Nat.succ_pos _) (he135 _ _ _ (Nat.succ_pos _) (he130 _ _ _ (Nat.succ_pos _) (he125 _ _ _ (Nat.succ_pos _) (he120 _ _ _ (Nat.succ_pos _) (he115 _ _ _ (Nat.succ_pos _) (he110 _ _ _ (Nat.succ_pos _) (he105 _ _ _ (Nat.succ_pos _) (he100 _ _ _ (Nat.succ_pos _) (he95 _ _ _ (Nat.succ_pos _) (he90 _ _ _ (Nat.succ_pos _) (he85 _ _ _ (Nat.succ_pos _) (he80 _ _ _ (Nat.succ_pos _) (he75 _ _ _ (Nat.succ_pos _) (he70 _ _ _ (Nat.succ_pos _) (he65 _ _ _ (Nat.succ_pos _) (he60 _ _ _ (Nat.succ_pos _) (he55 _ _ _ (Nat.succ_pos _) (he50 _ _ _ (Nat.succ_pos _) (he45 _ _ _ (Nat.succ_pos _) (he40 _ _ _ (Nat.succ_pos _) (he35 _ _ _ (Nat.succ_pos _) (he30 _ _ _ (Nat.succ_pos _) (he25 _ _ _ (Nat.succ_pos _) (he20 _ _ _ (Nat.succ_pos _) (he15 _ _ _ (Nat.succ_pos _) (he10 _ _ _ (Nat.succ_pos _) (he5 _ _ _ (Nat.succ_pos _) hc1)))))))))))))))))))))))))))))))))))))))))))))))))))))))))) flX12_16 rfl dX12_init_496 rfl ?_
  refine r_iload_n (i := 1) (x := (7 : Int32)) (q := 500) 1 hX dX12_init_499 rfl rfl rfl ?_
  refine r_sipush (v := (500 : Int32)) (q := 503) hX dX12_init_500 rfl rfl ?_
  refine r_ck (fun hc360 => ?_)
  refine r_iast (a := (rR M359 a0 2)) (i := (7 : Int32)) (x := (500 : Int32)) (q := 504) hX hc360 dX12_init_503 rfl (fun M361 => ?_)
  refine r_aload_n (i := 0) (x := a0) (q := 505) 0 hX dX12_init_504 rfl rfl rfl ?_
  refine r_getR (a := a0) (ci := 12) (kf := 69) (q := 508) hX (he290 _ _ _ (Nat.succ_pos _) (he285 _ _ _ (Nat.succ_pos _) (he280 _ _ _ (Nat.succ_pos _) (he275 _ _ _ (Nat.succ_pos _) (he270 _ _ _ (Nat.succ_pos _) (he265 _ _ _ (Nat.succ_pos _) (he260 _ _ _ (Nat.succ_pos _) (he255 _ _ _ (Nat.succ_pos _) (he250 _ _ _ (Nat.succ_pos _) (he245 _ _ _ (Nat.succ_pos _) (he240 _ _ _ (Nat.succ_pos _) (he235 _ _ _ (Nat.succ_pos _) (he230 _ _ _ (Nat.succ_pos _) (he225 _ _ _ (Nat.succ_pos _) (he220 _ _ _ (Nat.succ_pos _) (he215 _ _ _ (Nat.succ_pos _) (he210 _ _ _ (Nat.succ_pos _) (he205 _ _ _ (Nat.succ_pos _) (he200 _ _ _ (Nat.succ_pos _) (he195 _ _ _ (Nat.succ_pos _) (he190 _ _ _ (Nat.succ_pos _) (he185 _ _ _ (Nat.succ_pos _) (he180 _ _ _ (Nat.succ_pos _) (he175 _ _ _ (Nat.succ_pos _) (he170 _ _ _ (Nat.succ_pos _) (he165 _ _ _ (Nat.succ_pos _) (he160 _ _ _ (Nat.succ_pos _) (he155 _ _ _ (Nat.succ_pos _) (he150 _ _ _ (Nat.succ_pos _) (he145 _ _ _ (Nat.succ_pos _) (he140 _ _ _ (Nat.succ_pos _) (he135 _ _ _ (Nat.succ_pos _) (he130 _ _ _ (Nat.succ_pos _) (he125 _ _ _ (Nat.succ_pos _) (he120 _ _ _ (Nat.succ_pos _) (he115 _ _ _ (Nat.succ_pos _) (he110 _ _ _ (Nat.succ_pos _) (he105 _ _ _ (Nat.succ_pos _) (he100 _ _ _ (Nat.succ_pos _) (he95 _ _ _ (Nat.succ_pos _) (he90 _ _ _ (Nat.succ_pos _) (he85 _ _ _ (Nat.succ_pos _) (he80 _ _ _ (Nat.succ_pos _) (he75 _ _ _ (Nat.succ_pos _) (he70 _ _ _ (Nat.succ_pos _) (he65 _ _ _ (Nat.succ_pos _) (he60 _ _ _ (Nat.succ_pos _) (he55 _ _ _ (Nat.succ_pos _) (he50 _ _ _ (Nat.succ_pos _) (he45 _ _ _ (Nat.succ_pos _) (he40 _ _ _ (Nat.succ_pos _) (he35 _ _ _ (Nat.succ_pos _) (he30 _ _ _ (Nat.succ_pos _) (he25 _ _ _ (Nat.succ_pos _) (he20 _ _ _ (Nat.succ_pos _) (he15 _ _ _ (Nat.succ_pos _) (he10 _ _ _ (Nat.succ_pos _) (he5 _ _ _ (Nat.succ_pos _) hc1)))))))))))))))))))))))))))))))))))))))))))))))))))))))))) flX12_146 rfl dX12_init_505 rfl ?_
  refine r_iload_n (i := 1) (x := (7 : Int32)) (q := 509) 1 hX dX12_init_508 rfl rfl rfl ?_
  refine r_iconst (v := (-1 : Int32)) (q := 510) hX dX12_init_509 rfl rfl ?_
  refine r_ck (fun hc362 => ?_)
  refine r_iast (a := (rR M361 a0 69)) (i := (7 : Int32)) (x := (-1 : Int32)) (q := 511) hX hc362 dX12_init_510 rfl (fun M363 => ?_)
  refine r_iinc (x := (7 : Int32)) (v := (8 : Int32)) (q := 514) 1 1 [1, 0] (L1 := [(0, vr a0), (1, vi (8 : Int32))]) hX dX12_init_511 rfl rfl (Nat.le_of_ble_eq_true rfl) rfl rfl ?_
  refine r_goto (q := 471) hX dX12_init_514 (by decide) ?_
  refine r_iload_n (i := 1) (x := (8 : Int32)) (q := 472) 1 hX dX12_init_471 rfl rfl rfl ?_
  refine r_bipush (v := (8 : Int32)) (q := 474) hX dX12_init_472 rfl rfl ?_
  refine r_icmp_geT (tgt := 517) hX dX12_init_474 (by decide) (by decide) ?_
  refine r_iconst (v := (0 : Int32)) (q := 518) hX dX12_init_517 rfl rfl ?_
  refine r_istore_n (x := (0 : Int32)) (q := 519) 1 [1, 0] (L1 := [(0, vr a0), (1, vi (0 : Int32))]) hX dX12_init_518 rfl (Nat.le_of_ble_eq_true rfl) rfl rfl ?_
  refine r_iload_n (i := 1) (x := (0 : Int32)) (q := 520) 1 hX dX12_init_519 rfl rfl rfl ?_
  refine r_bipush (v := (7 : Int32)) (q := 522) hX dX12_init_520 rfl rfl ?_
  refine r_icmp_geF (tgt := 539) (q := 525) hX dX12_init_522 (by decide) rfl (by decide) ?_
  refine r_aload_n (i := 0) (x := a0) (q := 526) 0 hX dX12_init_525 rfl rfl rfl ?_
  refine r_getR (a := a0) (ci := 12) (kf := 4) (q := 529) hX (he290 _ _ _ (Nat.succ_pos _) (he285 _ _ _ (Nat.succ_pos _) (he280 _ _ _ (Nat.succ_pos _) (he275 _ _ _ (Nat.succ_pos _) (he270 _ _ _ (Nat.succ_pos _) (he265 _ _ _ (Nat.succ_pos _) (he260 _ _ _ (Nat.succ_pos _) (he255 _ _ _ (Nat.succ_pos _) (he250 _ _ _ (Nat.succ_pos _) (he245 _ _ _ (Nat.succ_pos _) (he240 _ _ _ (Nat.succ_pos _) (he235 _ _ _ (Nat.succ_pos _) (he230 _ _ _ (Nat.succ_pos _) (he225 _ _ _ (Nat.succ_pos _) (he220 _ _ _ (Nat.succ_pos _) (he215 _ _ _ (Nat.succ_pos _) (he210 _ _ _ (Nat.succ_pos _) (he205 _ _ _ (Nat.succ_pos _) (he200 _ _ _ (Nat.succ_pos _) (he195 _ _ _ (Nat.succ_pos _) (he190 _ _ _ (Nat.succ_pos _) (he185 _ _ _ (Nat.succ_pos _) (he180 _ _ _ (Nat.succ_pos _) (he175 _ _ _ (Nat.succ_pos _) (he170 _ _ _ (Nat.succ_pos _) (he165 _ _ _ (Nat.succ_pos _) (he160 _ _ _ (Nat.succ_pos _) (he155 _ _ _ (Nat.succ_pos _) (he150 _ _ _ (Nat.succ_pos _) (he145 _ _ _ (Nat.succ_pos _) (he140 _ _ _ (Nat.succ_pos _) (he135 _ _ _ (Nat.succ_pos _) (he130 _ _ _ (Nat.succ_pos _) (he125 _ _ _ (Nat.succ_pos _) (he120 _ _ _ (Nat.succ_pos _) (he115 _ _ _ (Nat.succ_pos _) (he110 _ _ _ (Nat.succ_pos _) (he105 _ _ _ (Nat.succ_pos _) (he100 _ _ _ (Nat.succ_pos _) (he95 _ _ _ (Nat.succ_pos _) (he90 _ _ _ (Nat.succ_pos _) (he85 _ _ _ (Nat.succ_pos _) (he80 _ _ _ (Nat.succ_pos _) (he75 _ _ _ (Nat.succ_pos _) (he70 _ _ _ (Nat.succ_pos _) (he65 _ _ _ (Nat.succ_pos _) (he60 _ _ _ (Nat.succ_pos _) (he55 _ _ _ (Nat.succ_pos _) (he50 _ _ _ (Nat.succ_pos _) (he45 _ _ _ (Nat.succ_pos _) (he40 _ _ _ (Nat.succ_pos _) (he35 _ _ _ (Nat.succ_pos _) (he30 _ _ _ (Nat.succ_pos _) (he25 _ _ _ (Nat.succ_pos _) (he20 _ _ _ (Nat.succ_pos _) (he15 _ _ _ (Nat.succ_pos _) (he10 _ _ _ (Nat.succ_pos _) (he5 _ _ _ (Nat.succ_pos _) hc1)))))))))))))))))))))))))))))))))))))))))))))))))))))))))) flX12_19 rfl dX12_init_526 rfl ?_
  refine r_iload_n (i := 1) (x := (0 : Int32)) (q := 530) 1 hX dX12_init_529 rfl rfl rfl ?_
  refine r_bipush (v := (100 : Int32)) (q := 532) hX dX12_init_530 rfl rfl ?_
  refine r_ck (fun hc366 => ?_)
  refine r_iast (a := (rR M363 a0 4)) (i := (0 : Int32)) (x := (100 : Int32)) (q := 533) hX hc366 dX12_init_532 rfl (fun M367 => ?_)
  refine r_iinc (x := (0 : Int32)) (v := (1 : Int32)) (q := 536) 1 1 [1, 0] (L1 := [(0, vr a0), (1, vi (1 : Int32))]) hX dX12_init_533 rfl rfl (Nat.le_of_ble_eq_true rfl) rfl rfl ?_
  refine r_goto (q := 519) hX dX12_init_536 (by decide) ?_
  refine r_iload_n (i := 1) (x := (1 : Int32)) (q := 520) 1 hX dX12_init_519 rfl rfl rfl ?_
  refine r_bipush (v := (7 : Int32)) (q := 522) hX dX12_init_520 rfl rfl ?_
  refine r_icmp_geF (tgt := 539) (q := 525) hX dX12_init_522 (by decide) rfl (by decide) ?_
  refine r_aload_n (i := 0) (x := a0) (q := 526) 0 hX dX12_init_525 rfl rfl rfl ?_
  refine r_getR (a := a0) (ci := 12) (kf := 4) (q := 529) hX (he290 _ _ _ (Nat.succ_pos _) (he285 _ _ _ (Nat.succ_pos _) (he280 _ _ _ (Nat.succ_pos _) (he275 _ _ _ (Nat.succ_pos _) (he270 _ _ _ (Nat.succ_pos _) (he265 _ _ _ (Nat.succ_pos _) (he260 _ _ _ (Nat.succ_pos _) (he255 _ _ _ (Nat.succ_pos _) (he250 _ _ _ (Nat.succ_pos _) (he245 _ _ _ (Nat.succ_pos _) (he240 _ _ _ (Nat.succ_pos _) (he235 _ _ _ (Nat.succ_pos _) (he230 _ _ _ (Nat.succ_pos _) (he225 _ _ _ (Nat.succ_pos _) (he220 _ _ _ (Nat.succ_pos _) (he215 _ _ _ (Nat.succ_pos _) (he210 _ _ _ (Nat.succ_pos _) (he205 _ _ _ (Nat.succ_pos _) (he200 _ _ _ (Nat.succ_pos _) (he195 _ _ _ (Nat.succ_pos _) (he190 _ _ _ (Nat.succ_pos _) (he185 _ _ _ (Nat.succ_pos _) (he180 _ _ _ (Nat.succ_pos _) (he175 _ _ _ (Nat.succ_pos _) (he170 _ _ _ (Nat.succ_pos _) (he165 _ _ _ (Nat.succ_pos _) (he160 _ _ _ (Nat.succ_pos _) (he155 _ _ _ (Nat.succ_pos _) (he150 _ _ _ (Nat.succ_pos _) (he145 _ _ _ (Nat.succ_pos _) (he140 _ _ _ (Nat.succ_pos _) (he135 _ _ _ (Nat.succ_pos _) (he130 _ _ _ (Nat.succ_pos _) (he125 _ _ _ (Nat.succ_pos _) (he120 _ _ _ (Nat.succ_pos _) (he115 _ _ _ (Nat.succ_pos _) (he110 _ _ _ (Nat.succ_pos _) (he105 _ _ _ (Nat.succ_pos _) (he100 _ _ _ (Nat.succ_pos _) (he95 _ _ _ (Nat.succ_pos _) (he90 _ _ _ (Nat.succ_pos _) (he85 _ _ _ (Nat.succ_pos _) (he80 _ _ _ (Nat.succ_pos _) (he75 _ _ _ (Nat.succ_pos _) (he70 _ _ _ (Nat.succ_pos _) (he65 _ _ _ (Nat.succ_pos _) (he60 _ _ _ (Nat.succ_pos _) (he55 _ _ _ (Nat.succ_pos _) (he50 _ _ _ (Nat.succ_pos _) (he45 _ _ _ (Nat.succ_pos _) (he40 _ _ _ (Nat.succ_pos _) (he35 _ _ _ (Nat.succ_pos _) (he30 _ _ _ (Nat.succ_pos _) (he25 _ _ _ (Nat.succ_pos _) (he20 _ _ _ (Nat.succ_pos _) (he15 _ _ _ (Nat.succ_pos _) (he10 _ _ _ (Nat.succ_pos _) (he5 _ _ _ (Nat.succ_pos _) hc1)))))))))))))))))))))))))))))))))))))))))))))))))))))))))) flX12_19 rfl dX12_init_526 rfl ?_
  refine r_iload_n (i := 1) (x := (1 : Int32)) (q := 530) 1 hX dX12_init_529 rfl rfl rfl ?_
  refine r_bipush (v := (100 : Int32)) (q := 532) hX dX12_init_530 rfl rfl ?_
  refine r_ck (fun hc369 => ?_)
  refine r_iast (a := (rR M367 a0 4)) (i := (1 : Int32)) (x := (100 : Int32)) (q := 533) hX hc369 dX12_init_532 rfl (fun M370 => ?_)
  refine r_iinc (x := (1 : Int32)) (v := (2 : Int32)) (q := 536) 1 1 [1, 0] (L1 := [(0, vr a0), (1, vi (2 : Int32))]) hX dX12_init_533 rfl rfl (Nat.le_of_ble_eq_true rfl) rfl rfl ?_
  refine r_goto (q := 519) hX dX12_init_536 (by decide) ?_
  refine r_iload_n (i := 1) (x := (2 : Int32)) (q := 520) 1 hX dX12_init_519 rfl rfl rfl ?_
  refine r_bipush (v := (7 : Int32)) (q := 522) hX dX12_init_520 rfl rfl ?_
  refine r_icmp_geF (tgt := 539) (q := 525) hX dX12_init_522 (by decide) rfl (by decide) ?_
  refine r_aload_n (i := 0) (x := a0) (q := 526) 0 hX dX12_init_525 rfl rfl rfl ?_
  refine r_getR (a := a0) (ci := 12) (kf := 4) (q := 529) hX (he290 _ _ _ (Nat.succ_pos _) (he285 _ _ _ (Nat.succ_pos _) (he280 _ _ _ (Nat.succ_pos _) (he275 _ _ _ (Nat.succ_pos _) (he270 _ _ _ (Nat.succ_pos _) (he265 _ _ _ (Nat.succ_pos _) (he260 _ _ _ (Nat.succ_pos _) (he255 _ _ _ (Nat.succ_pos _) (he250 _ _ _ (Nat.succ_pos _) (he245 _ _ _ (Nat.succ_pos _) (he240 _ _ _ (Nat.succ_pos _) (he235 _ _ _ (Nat.succ_pos _) (he230 _ _ _ (Nat.succ_pos _) (he225 _ _ _ (Nat.succ_pos _) (he220 _ _ _ (Nat.succ_pos _) (he215 _ _ _ (Nat.succ_pos _) (he210 _ _ _ (Nat.succ_pos _) (he205 _ _ _ (Nat.succ_pos _) (he200 _ _ _ (Nat.succ_pos _) (he195 _ _ _ (Nat.succ_pos _) (he190 _ _ _ (Nat.succ_pos _) (he185 _ _ _ (Nat.succ_pos _) (he180 _ _ _ (Nat.succ_pos _) (he175 _ _ _ (Nat.succ_pos _) (he170 _ _ _ (Nat.succ_pos _) (he165 _ _ _ (Nat.succ_pos _) (he160 _ _ _ (Nat.succ_pos _) (he155 _ _ _ (Nat.succ_pos _) (he150 _ _ _ (Nat.succ_pos _) (he145 _ _ _ (Nat.succ_pos _) (he140 _ _ _ (Nat.succ_pos _) (he135 _ _ _ (Nat.succ_pos _) (he130 _ _ _ (Nat.succ_pos _) (he125 _ _ _ (Nat.succ_pos _) (he120 _ _ _ (Nat.succ_pos _) (he115 _ _ _ (Nat.succ_pos _) (he110 _ _ _ (Nat.succ_pos _) (he105 _ _ _ (Nat.succ_pos _) (he100 _ _ _ (Nat.succ_pos _) (he95 _ _ _ (Nat.succ_pos _) (he90 _ _ _ (Nat.succ_pos _) (he85 _ _ _ (Nat.succ_pos _) (he80 _ _ _ (Nat.succ_pos _) (he75 _ _ _ (Nat.succ_pos _) (he70 _ _ _ (Nat.succ_pos _) (he65 _ _ _ (Nat.succ_pos _) (he60 _ _ _ (Nat.succ_pos _) (he55 _ _ _ (Nat.succ_pos _) (he50 _ _ _ (Nat.succ_pos _) (he45 _ _ _ (Nat.succ_pos _) (he40 _ _ _ (Nat.succ_pos _) (he35 _ _ _ (Nat.succ_pos _) (he30 _ _ _ (Nat.succ_pos _) (he25 _ _ _ (Nat.succ_pos _) (he20 _ _ _ (Nat.succ_pos _) (he15 _ _ _ (Nat.succ_pos _) (he10 _ _ _ (Nat.succ_pos _) (he5 _ _ _ (Nat.succ_pos _) hc1)))))))))))))))))))))))))))))))))))))))))))))))))))))))))) flX12_19 rfl dX12_init_526 rfl ?_
  refine r_iload_n (i := 1) (x := (2 : Int32)) (q := 530) 1 hX dX12_init_529 rfl rfl rfl ?_
  refine r_bipush (v := (100 : Int32)) (q := 532) hX dX12_init_530 rfl rfl ?_
  refine r_ck (fun hc372 => ?_)
  refine r_iast (a := (rR M370 a0 4)) (i := (2 : Int32)) (x := (100 : Int32)) (q := 533) hX hc372 dX12_init_532 rfl (fun M373 => ?_)
  refine r_iinc (x := (2 : Int32)) (v := (3 : Int32)) (q := 536) 1 1 [1, 0] (L1 := [(0, vr a0), (1, vi (3 : Int32))]) hX dX12_init_533 rfl rfl (Nat.le_of_ble_eq_true rfl) rfl rfl ?_
  refine r_goto (q := 519) hX dX12_init_536 (by decide) ?_
  refine r_iload_n (i := 1) (x := (3 : Int32)) (q := 520) 1 hX dX12_init_519 rfl rfl rfl ?_
  refine r_bipush (v := (7 : Int32)) (q := 522) hX dX12_init_520 rfl rfl ?_
  refine r_icmp_geF (tgt := 539) (q := 525) hX dX12_init_522 (by decide) rfl (by decide) ?_
  refine r_aload_n (i := 0) (x := a0) (q := 526) 0 hX dX12_init_525 rfl rfl rfl ?_
  refine r_getR (a := a0) (ci := 12) (kf := 4) (q := 529) hX (he290 _ _ _ (Nat.succ_pos _) (he285 _ _ _ (Nat.succ_pos _) (he280 _ _ _ (Nat.succ_pos _) (he275 _ _ _ (Nat.succ_pos _) (he270 _ _ _ (Nat.succ_pos _) (he265 _ _ _ (Nat.succ_pos _) (he260 _ _ _ (Nat.succ_pos _) (he255 _ _ _ (Nat.succ_pos _) (he250 _ _ _ (Nat.succ_pos _) (he245 _ _ _ (Nat.succ_pos _) (he240 _ _ _ (Nat.succ_pos _) (he235 _ _ _ (Nat.succ_pos _) (he230 _ _ _ (Nat.succ_pos _) (he225 _ _ _ (Nat.succ_pos _) (he220 _ _ _ (Nat.succ_pos _) (he215 _ _ _ (Nat.succ_pos _) (he210 _ _ _ (Nat.succ_pos _) (he205 _ _ _ (Nat.succ_pos _) (he200 _ _ _ (Nat.succ_pos _) (he195 _ _ _ (Nat.succ_pos _) (he190 _ _ _ (Nat.succ_pos _) (he185 _ _ _ (Nat.succ_pos _) (he180 _ _ _ (Nat.succ_pos _) (he175 _ _ _ (Nat.succ_pos _) (he170 _ _ _ (Nat.succ_pos _) (he165 _ _ _ (Nat.succ_pos _) (he160 _ _ _ (Nat.succ_pos _) (he155 _ _ _ (Nat.succ_pos _) (he150 _ _ _ (Nat.succ_pos _) (he145 _ _ _ (Nat.succ_pos _) (he140 _ _ _ (Nat.succ_pos _) (he135 _ _ _ (Nat.succ_pos _) (he130 _ _ _ (Nat.succ_pos _) (he125 _ _ _ (Nat.succ_pos _) (he120 _ _ _ (Nat.succ_pos _) (he115 _ _ _ (Nat.succ_pos _) (he110 _ _ _ (Nat.succ_pos _) (he105 _ _ _ (Nat.succ_pos _) (he100 _ _ _ (Nat.succ_pos _) (he95 _ _ _ (Nat.succ_pos _) (he90 _ _ _ (Nat.succ_pos _) (he85 _ _ _ (Nat.succ_pos _) (he80 _ _ _ (Nat.succ_pos _) (he75 _ _ _ (Nat.succ_pos _) (he70 _ _ _ (Nat.succ_pos _) (he65 _ _ _ (Nat.succ_pos _) (he60 _ _ _ (Nat.succ_pos _) (he55 _ _ _ (Nat.succ_pos _) (he50 _ _ _ (Nat.succ_pos _) (he45 _ _ _ (Nat.succ_pos _) (he40 _ _ _ (Nat.succ_pos _) (he35 _ _ _ (Nat.succ_pos _) (he30 _ _ _ (Nat.succ_pos _) (he25 _ _ _ (Nat.succ_pos _) (he20 _ _ _ (Nat.succ_pos _) (he15 _ _ _ (Nat.succ_pos _) (he10 _ _ _ (Nat.succ_pos _) (he5 _ _ _ (Nat.succ_pos _) hc1)))))))))))))))))))))))))))))))))))))))))))))))))))))))))) flX12_19 rfl dX12_init_526 rfl ?_
  refine r_iload_n (i := 1) (x := (3 : Int32)) (q := 530) 1 hX dX12_init_529 rfl rfl rfl ?_
  refine r_bipush (v := (100 : Int32)) (q := 532) hX dX12_init_530 rfl rfl ?_
  refine r_ck (fun hc375 => ?_)
  refine r_iast (a := (rR M373 a0 4)) (i := (3 : Int32)) (x := (100 : Int32)) (q := 533) hX hc375 dX12_init_532 rfl (fun M376 => ?_)
  refine r_iinc (x := (3 : Int32)) (v := (4 : Int32)) (q := 536) 1 1 [1, 0] (L1 := [(0, vr a0), (1, vi (4 : Int32))]) hX dX12_init_533 rfl rfl (Nat.le_of_ble_eq_true rfl) rfl rfl ?_
  refine r_goto (q := 519) hX dX12_init_536 (by decide) ?_
  refine r_iload_n (i := 1) (x := (4 : Int32)) (q := 520) 1 hX dX12_init_519 rfl rfl rfl ?_
  refine r_bipush (v := (7 : Int32)) (q := 522) hX dX12_init_520 rfl rfl ?_
  refine r_icmp_geF (tgt := 539) (q := 525) hX dX12_init_522 (by decide) rfl (by decide) ?_
  refine r_aload_n (i := 0) (x := a0) (q := 526) 0 hX dX12_init_525 rfl rfl rfl ?_
  refine r_getR (a := a0) (ci := 12) (kf := 4) (q := 529) hX (he290 _ _ _ (Nat.succ_pos _) (he285 _ _ _ (Nat.succ_pos _) (he280 _ _ _ (Nat.succ_pos _) (he275 _ _ _ (Nat.succ_pos _) (he270 _ _ _ (Nat.succ_pos _) (he265 _ _ _ (Nat.succ_pos _) (he260 _ _ _ (Nat.succ_pos _) (he255 _ _ _ (Nat.succ_pos _) (he250 _ _ _ (Nat.succ_pos _) (he245 _ _ _ (Nat.succ_pos _) (he240 _ _ _ (Nat.succ_pos _) (he235 _ _ _ (Nat.succ_pos _) (he230 _ _ _ (Nat.succ_pos _) (he225 _ _ _ (Nat.succ_pos _) (he220 _ _ _ (Nat.succ_pos _) (he215 _ _ _ (Nat.succ_pos _) (he210 _ _ _ (Nat.succ_pos _) (he205 _ _ _ (Nat.succ_pos _) (he200 _ _ _ (Nat.succ_pos _) (he195 _ _ _ (Nat.succ_pos _) (he190 _ _ _ (Nat.succ_pos _) (he185 _ _ _ (Nat.succ_pos _) (he180 _ _ _ (Nat.succ_pos _) (he175 _ _ _ (Nat.succ_pos _) (he170 _ _ _ (Nat.succ_pos _) (he165 _ _ _ (Nat.succ_pos _) (he160 _ _ _ (Nat.succ_pos _) (he155 _ _ _ (Nat.succ_pos _) (he150 _ _ _ (Nat.succ_pos _) (he145 _ _ _ (Nat.succ_pos _) (he140 _ _ _ (Nat.succ_pos _) (he135 _ _ _ (Nat.succ_pos _) (he130 _ _ _ (Nat.succ_pos _) (he125 _ _ _ (Nat.succ_pos _) (he120 _ _ _ (Nat.succ_pos _) (he115 _ _ _ (Nat.succ_pos _) (he110 _ _ _ (Nat.succ_pos _) (he105 _ _ _ (Nat.succ_pos _) (he100 _ _ _ (Nat.succ_pos _) (he95 _ _ _ (Nat.succ_pos _) (he90 _ _ _ (Nat.succ_pos _) (he85 _ _ _ (Nat.succ_pos _) (he80 _ _ _ (Nat.succ_pos _) (he75 _ _ _ (Nat.succ_pos _) (he70 _ _ _ (Nat.succ_pos _) (he65 _ _ _ (Nat.succ_pos _) (he60 _ _ _ (Nat.succ_pos _) (he55 _ _ _ (Nat.succ_pos _) (he50 _ _ _ (Nat.succ_pos _) (he45 _ _ _ (Nat.succ_pos _) (he40 _ _ _ (Nat.succ_pos _) (he35 _ _ _ (Nat.succ_pos _) (he30 _ _ _ (Nat.succ_pos _) (he25 _ _ _ (Nat.succ_pos _) (he20 _ _ _ (Nat.succ_pos _) (he15 _ _ _ (Nat.succ_pos _) (he10 _ _ _ (Nat.succ_pos _) (he5 _ _ _ (Nat.succ_pos _) hc1)))))))))))))))))))))))))))))))))))))))))))))))))))))))))) flX12_19 rfl dX12_init_526 rfl ?_
  refine r_iload_n (i := 1) (x := (4 : Int32)) (q := 530) 1 hX dX12_init_529 rfl rfl rfl ?_
  refine r_bipush (v := (100 : Int32)) (q := 532) hX dX12_init_530 rfl rfl ?_
  refine r_ck (fun hc378 => ?_)
  refine r_iast (a := (rR M376 a0 4)) (i := (4 : Int32)) (x := (100 : Int32)) (q := 533) hX hc378 dX12_init_532 rfl (fun M379 => ?_)
  refine r_iinc (x := (4 : Int32)) (v := (5 : Int32)) (q := 536) 1 1 [1, 0] (L1 := [(0, vr a0), (1, vi (5 : Int32))]) hX dX12_init_533 rfl rfl (Nat.le_of_ble_eq_true rfl) rfl rfl ?_
  refine r_goto (q := 519) hX dX12_init_536 (by decide) ?_
  refine r_iload_n (i := 1) (x := (5 : Int32)) (q := 520) 1 hX dX12_init_519 rfl rfl rfl ?_
  refine r_bipush (v := (7 : Int32)) (q := 522) hX dX12_init_520 rfl rfl ?_
  refine r_icmp_geF (tgt := 539) (q := 525) hX dX12_init_522 (by decide) rfl (by decide) ?_
  refine r_aload_n (i := 0) (x := a0) (q := 526) 0 hX dX12_init_525 rfl rfl rfl ?_
  refine r_getR (a := a0) (ci := 12) (kf := 4) (q := 529) hX (he290 _ _ _ (Nat.succ_pos _) (he285 _ _ _ (Nat.succ_pos _) (he280 _ _ _ (Nat.succ_pos _) (he275 _ _ _ (Nat.succ_pos _) (he270 _ _ _ (Nat.succ_pos _) (he265 _ _ _ (Nat.succ_pos _) (he260 _ _ _ (Nat.succ_pos _) (he255 _ _ _ (Nat.succ_pos _) (he250 _ _ _ (Nat.succ_pos _) (he245 _ _ _ (Nat.succ_pos _) (he240 _ _ _ (Nat.succ_pos _) (he235 _ _ _ (Nat.succ_pos _) (he230 _ _ _ (Nat.succ_pos _) (he225 _ _ _ (Nat.succ_pos _) (he220 _ _ _ (Nat.succ_pos _) (he215 _ _ _ (Nat.succ_pos _) (he210 _ _ _ (Nat.succ_pos _) (he205 _ _ _ (Nat.succ_pos _) (he200 _ _ _ (Nat.succ_pos _) (he195 _ _ _ (Nat.succ_pos _) (he190 _ _ _ (Nat.succ_pos _) (he185 _ _ _ (Nat.succ_pos _) (he180 _ _ _ (Nat.succ_pos _) (he175 _ _ _ (Nat.succ_pos _) (he170 _ _ _ (Nat.succ_pos _) (he165 _ _ _ (Nat.succ_pos _) (he160 _ _ _ (Nat.succ_pos _) (he155 _ _ _ (Nat.succ_pos _) (he150 _ _ _ (Nat.succ_pos _) (he145 _ _ _ (Nat.succ_pos _) (he140 _ _ _ (Nat.succ_pos _) (he135 _ _ _ (Nat.succ_pos _) (he130 _ _ _ (Nat.succ_pos _) (he125 _ _ _ (Nat.succ_pos _) (he120 _ _ _ (Nat.succ_pos _) (he115 _ _ _ (Nat.succ_pos _) (he110 _ _ _ (Nat.succ_pos _) (he105 _ _ _ (Nat.succ_pos _) (he100 _ _ _ (Nat.succ_pos _) (he95 _ _ _ (Nat.succ_pos _) (he90 _ _ _ (Nat.succ_pos _) (he85 _ _ _ (Nat.succ_pos _) (he80 _ _ _ (Nat.succ_pos _) (he75 _ _ _ (Nat.succ_pos _) (he70 _ _ _ (Nat.succ_pos _) (he65 _ _ _ (Nat.succ_pos _) (he60 _ _ _ (Nat.succ_pos _) (he55 _ _ _ (Nat.succ_pos _) (he50 _ _ _ (Nat.succ_pos _) (he45 _ _ _ (Nat.succ_pos _) (he40 _ _ _ (Nat.succ_pos _) (he35 _ _ _ (Nat.succ_pos _) (he30 _ _ _ (Nat.succ_pos _) (he25 _ _ _ (Nat.succ_pos _) (he20 _ _ _ (Nat.succ_pos _) (he15 _ _ _ (Nat.succ_pos _) (he10 _ _ _ (Nat.succ_pos _) (he5 _ _ _ (Nat.succ_pos _) hc1)))))))))))))))))))))))))))))))))))))))))))))))))))))))))) flX12_19 rfl dX12_init_526 rfl ?_
  refine r_iload_n (i := 1) (x := (5 : Int32)) (q := 530) 1 hX dX12_init_529 rfl rfl rfl ?_
  refine r_bipush (v := (100 : Int32)) (q := 532) hX dX12_init_530 rfl rfl ?_
  refine r_ck (fun hc381 => ?_)
  refine r_iast (a := (rR M379 a0 4)) (i := (5 : Int32)) (x := (100 : Int32)) (q := 533) hX hc381 dX12_init_532 rfl (fun M382 => ?_)
  refine r_iinc (x := (5 : Int32)) (v := (6 : Int32)) (q := 536) 1 1 [1, 0] (L1 := [(0, vr a0), (1, vi (6 : Int32))]) hX dX12_init_533 rfl rfl (Nat.le_of_ble_eq_true rfl) rfl rfl ?_
  refine r_goto (q := 519) hX dX12_init_536 (by decide) ?_
  refine r_iload_n (i := 1) (x := (6 : Int32)) (q := 520) 1 hX dX12_init_519 rfl rfl rfl ?_
  refine r_bipush (v := (7 : Int32)) (q := 522) hX dX12_init_520 rfl rfl ?_
  refine r_icmp_geF (tgt := 539) (q := 525) hX dX12_init_522 (by decide) rfl (by decide) ?_
  refine r_aload_n (i := 0) (x := a0) (q := 526) 0 hX dX12_init_525 rfl rfl rfl ?_
  refine r_getR (a := a0) (ci := 12) (kf := 4) (q := 529) hX (he290 _ _ _ (Nat.succ_pos _) (he285 _ _ _ (Nat.succ_pos _) (he280 _ _ _ (Nat.succ_pos _) (he275 _ _ _ (Nat.succ_pos _) (he270 _ _ _ (Nat.succ_pos _) (he265 _ _ _ (Nat.succ_pos _) (he260 _ _ _ (Nat.succ_pos _) (he255 _ _ _ (Nat.succ_pos _) (he250 _ _ _ (Nat.succ_pos _) (he245 _ _ _ (Nat.succ_pos _) (he240 _ _ _ (Nat.succ_pos _) (he235 _ _ _ (Nat.succ_pos _) (he230 _ _ _ (Nat.succ_pos _) (he225 _ _ _ (Nat.succ_pos _) (he220 _ _ _ (Nat.succ_pos _) (he215 _ _ _ (Nat.succ_pos _) (he210 _ _ _ (Nat.succ_pos _) (he205 _ _ _ (Nat.succ_pos _) (he200 _ _ _ (Nat.succ_pos _) (he195 _ _ _ (Nat.succ_pos _) (he190 _ _ _ (Nat.succ_pos _) (he185 _ _ _ (Nat.succ_pos _) (he180 _ _ _ (Nat.succ_pos _) (he175 _ _ _ (Nat.succ_pos _) (he170 _ _ _ (Nat.succ_pos _) (he165 _ _ _ (Nat.succ_pos _) (he160 _ _ _ (Nat.succ_pos _) (he155 _ _ _ (Nat.succ_pos _) (he150 _ _ _ (Nat.succ_pos _) (he145 _ _ _ (Nat.succ_pos _) (he140 _ _ _ (Nat.succ_pos _) (he135 _ _ _ (Nat.succ_pos _) (he130 _ _ _ (Nat.succ_pos _) (he125 _ _ _ (Nat.succ_pos _) (he120 _ _ _ (Nat.succ_pos _) (he115 _ _ _ (Nat.succ_pos _) (he110 _ _ _ (Nat.succ_pos _) (he105 _ _ _ (Nat.succ_pos _) (he100 _ _ _ (Nat.succ_pos _) (he95 _ _ _ (Nat.succ_pos _) (he90 _ _ _ (Nat.succ_pos _) (he85 _ _ _ (Nat.succ_pos _) (he80 _ _ _ (Nat.succ_pos _) (he75 _ _ _ (Nat.succ_pos _) (he70 _ _ _ (Nat.succ_pos _) (he65 _ _ _ (Nat.succ_pos _) (he60 _ _ _ (Nat.succ_pos _) (he55 _ _ _ (Nat.succ_pos _) (he50 _ _ _ (Nat.succ_pos _) (he45 _ _ _ (Nat.succ_pos _) (he40 _ _ _ (Nat.succ_pos _) (he35 _ _ _ (Nat.succ_pos _) (he30 _ _ _ (Nat.succ_pos _) (he25 _ _ _ (Nat.succ_pos _) (he20 _ _ _ (Nat.succ_pos _) (he15 _ _ _ (Nat.succ_pos _) (he10 _ _ _ (Nat.succ_pos _) (he5 _ _ _ (Nat.succ_pos _) hc1)))))))))))))))))))))))))))))))))))))))))))))))))))))))))) flX12_19 rfl dX12_init_526 rfl ?_
  refine r_iload_n (i := 1) (x := (6 : Int32)) (q := 530) 1 hX dX12_init_529 rfl rfl rfl ?_
  refine r_bipush (v := (100 : Int32)) (q := 532) hX dX12_init_530 rfl rfl ?_
  refine r_ck (fun hc384 => ?_)
  refine r_iast (a := (rR M382 a0 4)) (i := (6 : Int32)) (x := (100 : Int32)) (q := 533) hX hc384 dX12_init_532 rfl (fun M385 => ?_)
  refine r_iinc (x := (6 : Int32)) (v := (7 : Int32)) (q := 536) 1 1 [1, 0] (L1 := [(0, vr a0), (1, vi (7 : Int32))]) hX dX12_init_533 rfl rfl (Nat.le_of_ble_eq_true rfl) rfl rfl ?_
  refine r_goto (q := 519) hX dX12_init_536 (by decide) ?_
  refine r_iload_n (i := 1) (x := (7 : Int32)) (q := 520) 1 hX dX12_init_519 rfl rfl rfl ?_
  refine r_bipush (v := (7 : Int32)) (q := 522) hX dX12_init_520 rfl rfl ?_
  refine r_icmp_geT (tgt := 539) hX dX12_init_522 (by decide) (by decide) ?_
  refine r_aload_n (i := 0) (x := a0) (q := 540) 0 hX dX12_init_539 rfl rfl rfl ?_
  refine r_iconst (v := (3 : Int32)) (q := 541) hX dX12_init_540 rfl rfl ?_
  refine r_putI (a := a0) (ci := 12) (kf := 3) (q := 544) hX (he290 _ _ _ (Nat.succ_pos _) (he285 _ _ _ (Nat.succ_pos _) (he280 _ _ _ (Nat.succ_pos _) (he275 _ _ _ (Nat.succ_pos _) (he270 _ _ _ (Nat.succ_pos _) (he265 _ _ _ (Nat.succ_pos _) (he260 _ _ _ (Nat.succ_pos _) (he255 _ _ _ (Nat.succ_pos _) (he250 _ _ _ (Nat.succ_pos _) (he245 _ _ _ (Nat.succ_pos _) (he240 _ _ _ (Nat.succ_pos _) (he235 _ _ _ (Nat.succ_pos _) (he230 _ _ _ (Nat.succ_pos _) (he225 _ _ _ (Nat.succ_pos _) (he220 _ _ _ (Nat.succ_pos _) (he215 _ _ _ (Nat.succ_pos _) (he210 _ _ _ (Nat.succ_pos _) (he205 _ _ _ (Nat.succ_pos _) (he200 _ _ _ (Nat.succ_pos _) (he195 _ _ _ (Nat.succ_pos _) (he190 _ _ _ (Nat.succ_pos _) (he185 _ _ _ (Nat.succ_pos _) (he180 _ _ _ (Nat.succ_pos _) (he175 _ _ _ (Nat.succ_pos _) (he170 _ _ _ (Nat.succ_pos _) (he165 _ _ _ (Nat.succ_pos _) (he160 _ _ _ (Nat.succ_pos _) (he155 _ _ _ (Nat.succ_pos _) (he150 _ _ _ (Nat.succ_pos _) (he145 _ _ _ (Nat.succ_pos _) (he140 _ _ _ (Nat.succ_pos _) (he135 _ _ _ (Nat.succ_pos _) (he130 _ _ _ (Nat.succ_pos _) (he125 _ _ _ (Nat.succ_pos _) (he120 _ _ _ (Nat.succ_pos _) (he115 _ _ _ (Nat.succ_pos _) (he110 _ _ _ (Nat.succ_pos _) (he105 _ _ _ (Nat.succ_pos _) (he100 _ _ _ (Nat.succ_pos _) (he95 _ _ _ (Nat.succ_pos _) (he90 _ _ _ (Nat.succ_pos _) (he85 _ _ _ (Nat.succ_pos _) (he80 _ _ _ (Nat.succ_pos _) (he75 _ _ _ (Nat.succ_pos _) (he70 _ _ _ (Nat.succ_pos _) (he65 _ _ _ (Nat.succ_pos _) (he60 _ _ _ (Nat.succ_pos _) (he55 _ _ _ (Nat.succ_pos _) (he50 _ _ _ (Nat.succ_pos _) (he45 _ _ _ (Nat.succ_pos _) (he40 _ _ _ (Nat.succ_pos _) (he35 _ _ _ (Nat.succ_pos _) (he30 _ _ _ (Nat.succ_pos _) (he25 _ _ _ (Nat.succ_pos _) (he20 _ _ _ (Nat.succ_pos _) (he15 _ _ _ (Nat.succ_pos _) (he10 _ _ _ (Nat.succ_pos _) (he5 _ _ _ (Nat.succ_pos _) hc1)))))))))))))))))))))))))))))))))))))))))))))))))))))))))) flX12_185 rfl rfl (Or.inl rfl) rfl rfl dX12_init_541 rfl (fun M387 => ?_)
  refine r_aload_n (i := 0) (x := a0) (q := 545) 0 hX dX12_init_544 rfl rfl rfl ?_
  refine r_bipush (v := (9 : Int32)) (q := 547) hX dX12_init_545 rfl rfl ?_
  refine r_putI (a := a0) (ci := 12) (kf := 80) (q := 550) hX (he290 _ _ _ (Nat.succ_pos _) (he285 _ _ _ (Nat.succ_pos _) (he280 _ _ _ (Nat.succ_pos _) (he275 _ _ _ (Nat.succ_pos _) (he270 _ _ _ (Nat.succ_pos _) (he265 _ _ _ (Nat.succ_pos _) (he260 _ _ _ (Nat.succ_pos _) (he255 _ _ _ (Nat.succ_pos _) (he250 _ _ _ (Nat.succ_pos _) (he245 _ _ _ (Nat.succ_pos _) (he240 _ _ _ (Nat.succ_pos _) (he235 _ _ _ (Nat.succ_pos _) (he230 _ _ _ (Nat.succ_pos _) (he225 _ _ _ (Nat.succ_pos _) (he220 _ _ _ (Nat.succ_pos _) (he215 _ _ _ (Nat.succ_pos _) (he210 _ _ _ (Nat.succ_pos _) (he205 _ _ _ (Nat.succ_pos _) (he200 _ _ _ (Nat.succ_pos _) (he195 _ _ _ (Nat.succ_pos _) (he190 _ _ _ (Nat.succ_pos _) (he185 _ _ _ (Nat.succ_pos _) (he180 _ _ _ (Nat.succ_pos _) (he175 _ _ _ (Nat.succ_pos _) (he170 _ _ _ (Nat.succ_pos _) (he165 _ _ _ (Nat.succ_pos _) (he160 _ _ _ (Nat.succ_pos _) (he155 _ _ _ (Nat.succ_pos _) (he150 _ _ _ (Nat.succ_pos _) (he145 _ _ _ (Nat.succ_pos _) (he140 _ _ _ (Nat.succ_pos _) (he135 _ _ _ (Nat.succ_pos _) (he130 _ _ _ (Nat.succ_pos _) (he125 _ _ _ (Nat.succ_pos _) (he120 _ _ _ (Nat.succ_pos _) (he115 _ _ _ (Nat.succ_pos _) (he110 _ _ _ (Nat.succ_pos _) (he105 _ _ _ (Nat.succ_pos _) (he100 _ _ _ (Nat.succ_pos _) (he95 _ _ _ (Nat.succ_pos _) (he90 _ _ _ (Nat.succ_pos _) (he85 _ _ _ (Nat.succ_pos _) (he80 _ _ _ (Nat.succ_pos _) (he75 _ _ _ (Nat.succ_pos _) (he70 _ _ _ (Nat.succ_pos _) (he65 _ _ _ (Nat.succ_pos _) (he60 _ _ _ (Nat.succ_pos _) (he55 _ _ _ (Nat.succ_pos _) (he50 _ _ _ (Nat.succ_pos _) (he45 _ _ _ (Nat.succ_pos _) (he40 _ _ _ (Nat.succ_pos _) (he35 _ _ _ (Nat.succ_pos _) (he30 _ _ _ (Nat.succ_pos _) (he25 _ _ _ (Nat.succ_pos _) (he20 _ _ _ (Nat.succ_pos _) (he15 _ _ _ (Nat.succ_pos _) (he10 _ _ _ (Nat.succ_pos _) (he5 _ _ _ (Nat.succ_pos _) hc1)))))))))))))))))))))))))))))))))))))))))))))))))))))))))) flX12_189 rfl rfl (Or.inl rfl) rfl rfl dX12_init_547 rfl (fun M388 => ?_)
  refine r_lf (hK _) ?_
  exact r_vret hM rfl (Nat.le_of_ble_eq_true rfl) (Nat.le_of_ble_eq_true rfl) dX12_init_550
theorem flX12_422 : FL RX12 422 12 64 := ⟨Nat.le_of_ble_eq_true rfl, Nat.le_of_ble_eq_true rfl, gd (hcw6_0 _ (List.mem_of_getElem? (i := 19) rfl)) rfl⟩
theorem flX12_425 : FL RX12 425 12 65 := ⟨Nat.le_of_ble_eq_true rfl, Nat.le_of_ble_eq_true rfl, gd (hcw6_1 _ (List.mem_of_getElem? (i := 0) rfl)) rfl⟩
def mX12_workOff : MD := (yX12_workOff, cX12_workOff, 5, (some .int), 0, 0, 0, 0)
theorem ccX12_workOff : Cc mX12_workOff 0 := ⟨gd (hcw1_0 _ (List.mem_of_getElem? (i := 10) rfl)) rfl, gd (hcw8_0 _ (List.mem_of_getElem? (i := 4) rfl)) rfl, by decide +kernel, by decide +kernel, by decide +kernel⟩
theorem ivX12_workOff : Iv mX12_workOff 12 := ⟨Nat.le_of_ble_eq_true rfl, rfl, gd (hcw8_0 _ (List.mem_of_getElem? (i := 3) rfl)) rfl, gd (hps5 _ (List.mem_of_getElem? (i := 3) rfl)) rfl⟩
noncomputable def fX12_workOff (Z : Shp) (M : Mem) (a0 : Nat) : Option (Int32 × Mem) := (if tg Z a0 = (13, 86) then (pu (wI M a0 64 (0 : Int32)) (fun M2 => (pu (wI M2 a0 65 (-1 : Int32)) (fun M3 => (loop (fun s4 : Int32 × Int32 × Int32 × Mem => (if (rI s4.2.2.2 a0 57) ≤ s4.2.2.1 then some (Sum.inr (s4.2.1, s4.2.2.2)) else (if aok Z (rR s4.2.2.2 a0 62) 100 s4.2.2.1 then (pu ((rI s4.2.2.2 (rR s4.2.2.2 a0 62) (ix s4.2.2.1))) (fun z9 => (if aok Z (rR s4.2.2.2 a0 59) 100 z9 then (Option.bind (if ((rI s4.2.2.2 a0 65) + (1 : Int32)) ≤ (rI s4.2.2.2 (rR s4.2.2.2 a0 59) (ix z9)) then some (rI s4.2.2.2 (rR s4.2.2.2 a0 59) (ix z9)) else some ((rI s4.2.2.2 a0 65) + (1 : Int32))) (fun v14 : Int32 => (pu (wI s4.2.2.2 a0 65 v14) (fun M15 => (Option.bind (if s4.2.1 = (-1 : Int32) then (if aok Z (rR M15 a0 60) 100 z9 then (if (rI M15 a0 65) ≤ (rI M15 (rR M15 a0 60) (ix z9)) then some s4.2.1 else some s4.2.2.1) else none) else some s4.2.1) (fun v19 : Int32 => (if aok Z (rR M15 a0 58) 101 z9 then (Option.bind (if (rI M15 (rR M15 a0 58) (ix z9)) = 0 then (if s4.1 = 0 then some (1 : Int32) else some (0 : Int32)) else some (1 : Int32)) (fun v26 : Int32 => (pu (wI M15 a0 64 ((rI M15 a0 64) + v26)) (fun M28 => (if aok Z (rR M28 a0 58) 101 z9 then (pu ((rI M28 (rR M28 a0 58) (ix z9))) (fun z30 => some (Sum.inl (z30, v19, (s4.2.2.1 + (1 : Int32)), M28)))) else none))))) else none))))))) else none))) else none))) ((0 : Int32), (-1 : Int32), (0 : Int32), M3)))))) else none)
set_option maxRecDepth 20000 in
theorem kX12_workOff (l : Launch) (Z : Shp) (M : Mem) (a0 : Nat) (r : Int32 × Mem) (h : fX12_workOff Z M a0 = some r) : Ct l mX12_workOff [vr a0] Z M ((some (vi r.1)), Z, r.2) := by
  refine Ct.of rfl (Nat.le_of_ble_eq_true rfl) (fun X hM => ?_)
  have hX := hM.1
  refine r_top (mk := fun r => ((some (vi r.1)), Z, r.2)) h (fun K hK => ?_)
  unfold fX12_workOff
  refine r_iconst (v := (0 : Int32)) (q := 1) hX dX12_workOff_0 rfl rfl ?_
  refine r_istore_n (x := (0 : Int32)) (q := 2) 1 [1, 0] (L1 := [(0, vr a0), (1, vi (0 : Int32))]) hX dX12_workOff_1 rfl (Nat.le_of_ble_eq_true rfl) rfl rfl ?_
  refine r_iconst (v := (-1 : Int32)) (q := 3) hX dX12_workOff_2 rfl rfl ?_
  refine r_istore_n (x := (-1 : Int32)) (q := 4) 2 [1, 2, 0] (L1 := [(0, vr a0), (1, vi (0 : Int32)), (2, vi (-1 : Int32))]) hX dX12_workOff_3 rfl (Nat.le_of_ble_eq_true rfl) rfl rfl ?_
  refine r_aload_n (i := 0) (x := a0) (q := 5) 0 hX dX12_workOff_4 rfl rfl rfl ?_
  refine r_iconst (v := (0 : Int32)) (q := 6) hX dX12_workOff_5 rfl rfl ?_
  refine r_ck (fun hc1 => ?_)
  refine r_putI (a := a0) (ci := 12) (kf := 64) (q := 9) hX hc1 flX12_422 rfl rfl (Or.inl rfl) rfl rfl dX12_workOff_6 rfl (fun M2 => ?_)
  refine r_aload_n (i := 0) (x := a0) (q := 10) 0 hX dX12_workOff_9 rfl rfl rfl ?_
  refine r_iconst (v := (-1 : Int32)) (q := 11) hX dX12_workOff_10 rfl rfl ?_
  refine r_putI (a := a0) (ci := 12) (kf := 65) (q := 14) hX hc1 flX12_425 rfl rfl (Or.inl rfl) rfl rfl dX12_workOff_11 rfl (fun M3 => ?_)
  refine r_iconst (v := (0 : Int32)) (q := 15) hX dX12_workOff_14 rfl rfl ?_
  refine r_istore_n (x := (0 : Int32)) (q := 16) 3 [1, 2, 3, 0] (L1 := [(0, vr a0), (1, vi (0 : Int32)), (2, vi (-1 : Int32)), (3, vi (0 : Int32))]) hX dX12_workOff_15 rfl (Nat.le_of_ble_eq_true rfl) rfl rfl ?_
  refine r_loop (Hd := fun (s4 : Int32 × Int32 × Int32 × Mem) (P : Option Res) => Ref mX12_workOff X 0 0 Z s4.2.2.2 16 [(0, vr a0), (1, vi s4.1), (2, vi s4.2.1), (3, vi s4.2.2.1)] [] P) (fun _ => r_none) (fun s4 K1 hn5 hx6 => ?_) ((0 : Int32), (-1 : Int32), (0 : Int32), M3)
  refine r_iload_n (i := 3) (x := s4.2.2.1) (q := 17) 3 hX dX12_workOff_16 rfl rfl rfl ?_
  refine r_aload_n (i := 0) (x := a0) (q := 18) 0 hX dX12_workOff_17 rfl rfl rfl ?_
  refine r_getI (a := a0) (ci := 12) (kf := 57) (q := 21) hX hc1 flX12_419 rfl rfl dX12_workOff_18 rfl ?_
  refine r_icmp_ge (tgt := 135) (q := 24) hX dX12_workOff_21 (by decide) rfl (fun hb7 => ?_) (fun hb7 => ?_)
  · refine r_iload_n (i := 2) (x := s4.2.1) (q := 136) 2 hX dX12_workOff_135 rfl rfl rfl ?_
    refine r_lf ((hx6 _).trans (hK _)) ?_
    exact r_iret hM rfl (Nat.le_of_ble_eq_true rfl) (Nat.le_of_ble_eq_true rfl) dX12_workOff_136
  · refine r_aload_n (i := 0) (x := a0) (q := 25) 0 hX dX12_workOff_24 rfl rfl rfl ?_
    refine r_getR (a := a0) (ci := 12) (kf := 62) (q := 28) hX hc1 flX12_134 rfl dX12_workOff_25 rfl ?_
    refine r_iload_n (i := 3) (x := s4.2.2.1) (q := 29) 3 hX dX12_workOff_28 rfl rfl rfl ?_
    refine r_ck (fun hc8 => ?_)
    refine r_iald (a := (rR s4.2.2.2 a0 62)) (i := s4.2.2.1) (q := 30) hX hc8 dX12_workOff_29 rfl ?_
    refine r_istoreP (x := (rI s4.2.2.2 (rR s4.2.2.2 a0 62) (ix s4.2.2.1))) (q := 32) 4 [1, 2, 3, 4, 0] (fun z9 => [(0, vr a0), (1, vi s4.1), (2, vi s4.2.1), (3, vi s4.2.2.1), (4, vi z9)]) hX dX12_workOff_30 (Nat.le_of_ble_eq_true rfl) (fun _ => rfl) rfl (fun z9 => ?_)
    refine r_aload_n (i := 0) (x := a0) (q := 33) 0 hX dX12_workOff_32 rfl rfl rfl ?_
    refine r_aload_n (i := 0) (x := a0) (q := 34) 0 hX dX12_workOff_33 rfl rfl rfl ?_
    refine r_getI (a := a0) (ci := 12) (kf := 65) (q := 37) hX hc1 flX12_425 rfl rfl dX12_workOff_34 rfl ?_
    refine r_iconst (v := (1 : Int32)) (q := 38) hX dX12_workOff_37 rfl rfl ?_
    refine r_iadd (q := 39) hX dX12_workOff_38 rfl ?_
    refine r_aload_n (i := 0) (x := a0) (q := 40) 0 hX dX12_workOff_39 rfl rfl rfl ?_
    refine r_getR (a := a0) (ci := 12) (kf := 59) (q := 43) hX hc1 flX12_128 rfl dX12_workOff_40 rfl ?_
    refine r_iload (i := 4) (x := z9) (q := 45) 4 hX dX12_workOff_43 rfl rfl ?_
    refine r_ck (fun hc10 => ?_)
    refine r_iald (a := (rR s4.2.2.2 a0 59)) (i := z9) (q := 46) hX hc10 dX12_workOff_45 rfl ?_
    refine r_jn (J := fun (v14 : Int32) (P : Option Res) => Ref mX12_workOff X 0 0 Z s4.2.2.2 65 [(0, vr a0), (1, vi s4.1), (2, vi s4.2.1), (3, vi s4.2.2.1), (4, vi z9)] [vi v14, vr a0] P) (fun v14 => ?_) (fun K1 hj12 => ?_)
    · refine r_putI (a := a0) (ci := 12) (kf := 65) (q := 68) hX hc1 flX12_425 rfl rfl (Or.inl rfl) rfl rfl dX12_workOff_65 rfl (fun M15 => ?_)
      refine r_iload_n (i := 2) (x := s4.2.1) (q := 69) 2 hX dX12_workOff_68 rfl rfl rfl ?_
      refine r_iconst (v := (-1 : Int32)) (q := 70) hX dX12_workOff_69 rfl rfl ?_
      refine r_jn (J := fun (v19 : Int32) (P : Option Res) => Ref mX12_workOff X 0 0 Z M15 92 [(0, vr a0), (1, vi s4.1), (3, vi s4.2.2.1), (4, vi z9)] [vi v19] P) (fun v19 => ?_) (fun K1 hj17 => ?_)
      · refine r_istore_n (x := v19) (q := 93) 2 [1, 2, 0, 3, 4] (L1 := [(0, vr a0), (1, vi s4.1), (2, vi v19), (3, vi s4.2.2.1), (4, vi z9)]) hX dX12_workOff_92 rfl (Nat.le_of_ble_eq_true rfl) rfl rfl ?_
        refine r_aload_n (i := 0) (x := a0) (q := 94) 0 hX dX12_workOff_93 rfl rfl rfl ?_
        refine r_dup (q := 95) hX dX12_workOff_94 rfl rfl ?_
        refine r_getI (a := a0) (ci := 12) (kf := 64) (q := 98) hX hc1 flX12_422 rfl rfl dX12_workOff_95 rfl ?_
        refine r_aload_n (i := 0) (x := a0) (q := 99) 0 hX dX12_workOff_98 rfl rfl rfl ?_
        refine r_getR (a := a0) (ci := 12) (kf := 58) (q := 102) hX hc1 flX12_125 rfl dX12_workOff_99 rfl ?_
        refine r_iload (i := 4) (x := z9) (q := 104) 4 hX dX12_workOff_102 rfl rfl ?_
        refine r_ck (fun hc22 => ?_)
        refine r_zald (a := (rR M15 a0 58)) (i := z9) (q := 105) hX hc22 dX12_workOff_104 rfl ?_
        refine r_jn (J := fun (v26 : Int32) (P : Option Res) => Ref mX12_workOff X 0 0 Z M15 117 [(0, vr a0), (2, vi v19), (3, vi s4.2.2.1), (4, vi z9)] [vi v26, vi (rI M15 a0 64), vr a0] P) (fun v26 => ?_) (fun K1 hj24 => ?_)
        · refine r_iadd (q := 118) hX dX12_workOff_117 rfl ?_
          refine r_putI (a := a0) (ci := 12) (kf := 64) (q := 121) hX hc1 flX12_422 rfl rfl (Or.inl rfl) rfl rfl dX12_workOff_118 rfl (fun M28 => ?_)
          refine r_aload_n (i := 0) (x := a0) (q := 122) 0 hX dX12_workOff_121 rfl rfl rfl ?_
          refine r_getR (a := a0) (ci := 12) (kf := 58) (q := 125) hX hc1 flX12_125 rfl dX12_workOff_122 rfl ?_
          refine r_iload (i := 4) (x := z9) (q := 127) 3 hX dX12_workOff_125 rfl rfl ?_
          refine r_ck (fun hc29 => ?_)
          refine r_zald (a := (rR M28 a0 58)) (i := z9) (q := 128) hX hc29 dX12_workOff_127 rfl ?_
          refine r_istore_nP (x := (rI M28 (rR M28 a0 58) (ix z9))) (q := 129) 1 [1, 0, 2, 3, 4] (fun z30 => [(0, vr a0), (1, vi z30), (2, vi v19), (3, vi s4.2.2.1), (4, vi z9)]) hX dX12_workOff_128 rfl (Nat.le_of_ble_eq_true rfl) (fun _ => rfl) rfl (fun z30 => ?_)
          refine r_iinc (x := s4.2.2.1) (v := (s4.2.2.1 + (1 : Int32))) (q := 132) 3 3 [1, 2, 3, 0, 5] (L1 := [(0, vr a0), (1, vi z30), (2, vi v19), (3, vi (s4.2.2.1 + (1 : Int32))), (4, vi z9)]) hX dX12_workOff_129 rfl rfl (Nat.le_of_ble_eq_true rfl) rfl rfl ?_
          refine r_goto (q := 16) hX dX12_workOff_132 (by decide) ?_
          refine r_l0 ?_
          refine r_sub [0, 1, 2, 3] rfl ?_
          exact hn5 (z30, v19, (s4.2.2.1 + (1 : Int32)), M28)
        · refine r_if_ne (tgt := 112) (q := 108) hX dX12_workOff_105 (by decide) rfl (fun hb23 => ?_) (fun hb23 => ?_)
          · refine r_iload_n (i := 1) (x := s4.1) (q := 109) 1 hX dX12_workOff_108 rfl rfl rfl ?_
            refine r_if_ne (tgt := 116) (q := 112) hX dX12_workOff_109 (by decide) rfl (fun hb27 => ?_) (fun hb27 => ?_)
            · refine r_iconst (v := (1 : Int32)) (q := 113) hX dX12_workOff_112 rfl rfl ?_
              refine r_goto (q := 117) hX dX12_workOff_113 (by decide) ?_
              refine r_l0 ?_
              refine r_sub [0, 2, 3, 4] rfl ?_
              exact hj24 (1 : Int32)
            · refine r_iconst (v := (0 : Int32)) (q := 117) hX dX12_workOff_116 rfl rfl ?_
              refine r_l0 ?_
              refine r_sub [0, 2, 3, 4] rfl ?_
              exact hj24 (0 : Int32)
          · refine r_iconst (v := (1 : Int32)) (q := 113) hX dX12_workOff_112 rfl rfl ?_
            refine r_goto (q := 117) hX dX12_workOff_113 (by decide) ?_
            refine r_l0 ?_
            refine r_sub [0, 2, 3, 4] rfl ?_
            exact hj24 (1 : Int32)
      · refine r_icmp_ne (tgt := 91) (q := 73) hX dX12_workOff_70 (by decide) rfl (fun hb16 => ?_) (fun hb16 => ?_)
        · refine r_aload_n (i := 0) (x := a0) (q := 74) 0 hX dX12_workOff_73 rfl rfl rfl ?_
          refine r_getI (a := a0) (ci := 12) (kf := 65) (q := 77) hX hc1 flX12_425 rfl rfl dX12_workOff_74 rfl ?_
          refine r_aload_n (i := 0) (x := a0) (q := 78) 0 hX dX12_workOff_77 rfl rfl rfl ?_
          refine r_getR (a := a0) (ci := 12) (kf := 60) (q := 81) hX hc1 flX12_131 rfl dX12_workOff_78 rfl ?_
          refine r_iload (i := 4) (x := z9) (q := 83) 4 hX dX12_workOff_81 rfl rfl ?_
          refine r_ck (fun hc20 => ?_)
          refine r_iald (a := (rR M15 a0 60)) (i := z9) (q := 84) hX hc20 dX12_workOff_83 rfl ?_
          refine r_icmp_le (tgt := 91) (q := 87) hX dX12_workOff_84 (by decide) rfl (fun hb21 => ?_) (fun hb21 => ?_)
          · refine r_iload_n (i := 2) (x := s4.2.1) (q := 92) 2 hX dX12_workOff_91 rfl rfl rfl ?_
            refine r_l0 ?_
            refine r_sub [0, 1, 3, 4] rfl ?_
            exact hj17 s4.2.1
          · refine r_iload_n (i := 3) (x := s4.2.2.1) (q := 88) 3 hX dX12_workOff_87 rfl rfl rfl ?_
            refine r_goto (q := 92) hX dX12_workOff_88 (by decide) ?_
            refine r_l0 ?_
            refine r_sub [0, 1, 3, 4] rfl ?_
            exact hj17 s4.2.2.1
        · refine r_iload_n (i := 2) (x := s4.2.1) (q := 92) 2 hX dX12_workOff_91 rfl rfl rfl ?_
          refine r_l0 ?_
          refine r_sub [0, 1, 3, 4] rfl ?_
          exact hj17 s4.2.1
    · refine r_icmp_le (tgt := 58) (q := 49) hX dX12_workOff_46 (by decide) rfl (fun hb11 => ?_) (fun hb11 => ?_)
      · refine r_aload_n (i := 0) (x := a0) (q := 59) 0 hX dX12_workOff_58 rfl rfl rfl ?_
        refine r_getR (a := a0) (ci := 12) (kf := 59) (q := 62) hX hc1 flX12_128 rfl dX12_workOff_59 rfl ?_
        refine r_iload (i := 4) (x := z9) (q := 64) 4 hX dX12_workOff_62 rfl rfl ?_
        refine r_iald (a := (rR s4.2.2.2 a0 59)) (i := z9) (q := 65) hX hc10 dX12_workOff_64 rfl ?_
        refine r_l0 ?_
        exact hj12 (rI s4.2.2.2 (rR s4.2.2.2 a0 59) (ix z9))
      · refine r_aload_n (i := 0) (x := a0) (q := 50) 0 hX dX12_workOff_49 rfl rfl rfl ?_
        refine r_getI (a := a0) (ci := 12) (kf := 65) (q := 53) hX hc1 flX12_425 rfl rfl dX12_workOff_50 rfl ?_
        refine r_iconst (v := (1 : Int32)) (q := 54) hX dX12_workOff_53 rfl rfl ?_
        refine r_iadd (q := 55) hX dX12_workOff_54 rfl ?_
        refine r_goto (q := 65) hX dX12_workOff_55 (by decide) ?_
        refine r_l0 ?_
        exact hj12 ((rI s4.2.2.2 a0 65) + (1 : Int32))
theorem lkX12_431 : Lk RX12 431 yX12_workOff := gd (hcw8_0 _ (List.mem_of_getElem? (i := 1) rfl)) rfl
def mX12_judge : MD := (yX12_judge, cX12_judge, 5, (some .int), 1, 24, 0, 0)
theorem ccX12_judge : Cc mX12_judge 1 := ⟨gd (hcw1_0 _ (List.mem_of_getElem? (i := 10) rfl)) rfl, gd (hcw8_0 _ (List.mem_of_getElem? (i := 12) rfl)) rfl, by decide +kernel, by decide +kernel, by decide +kernel⟩
theorem ivX12_judge : Iv mX12_judge 12 := ⟨Nat.le_of_ble_eq_true rfl, rfl, gd (hcw8_0 _ (List.mem_of_getElem? (i := 10) rfl)) rfl, gd (hcw8_0 _ (List.mem_of_getElem? (i := 11) rfl)) rfl⟩
noncomputable def fX12_judge (Z : Shp) (M : Mem) (a0 : Nat) (x1 : Int32) : Option (Int32 × Mem) := (if tg Z a0 = (13, 86) then (if (rI M a0 57) = 0 then some ((-103 : Int32), M) else (pu (((rI M a0 57) - (1 : Int32))) (fun z3 => (Option.bind (loop (fun s7 : Int32 × Int32 × Int32 × Mem => (if s7.2.2.1 < 0 then some (Sum.inr (s7.1, s7.2.1, s7.2.2.2)) else (if x1 < 0 then some (Sum.inr (s7.1, s7.2.1, s7.2.2.2)) else (if aok Z (rR s7.2.2.2 a0 62) 100 s7.2.2.1 then (pu (wI s7.2.2.2 (rR s7.2.2.2 a0 62) (ix s7.2.2.1) (s7.1 - s7.1 / (8 : Int32) * (8 : Int32))) (fun M13 => (pu ((s7.1 / (8 : Int32))) (fun z14 => (if aok Z (rR M13 a0 62) 100 s7.2.2.1 then (pu ((s7.2.1 ||| ((1 : Int32) <<< ((rI M13 (rR M13 a0 62) (ix s7.2.2.1)) &&& 31)))) (fun z16 => some (Sum.inl (z14, z16, (s7.2.2.1 + (-1 : Int32)), M13)))) else none))))) else none)))) (x1, (0 : Int32), z3, M)) (fun v6 : Int32 × Int32 × Mem => (if x1 < 0 then some ((-102 : Int32), v6.2.2) else (if 0 < v6.1 then some ((-102 : Int32), v6.2.2) else (if v6.2.1 = (((1 : Int32) <<< ((rI v6.2.2 a0 57) &&& 31)) - (1 : Int32)) then (Option.bind (fX12_workOff Z v6.2.2 a0) (fun v20 => (if v20.1 = (-1 : Int32) then some ((rI v20.2 a0 64), v20.2) else some (((-1000 : Int32) - v20.1), v20.2)))) else some ((-102 : Int32), v6.2.2))))))))) else none)
set_option maxRecDepth 20000 in
theorem kX12_judge (l : Launch) (Z : Shp) (M : Mem) (a0 : Nat) (x1 : Int32) (r : Int32 × Mem) (h : fX12_judge Z M a0 x1 = some r) : Ct l mX12_judge [vr a0, vi x1] Z M ((some (vi r.1)), Z, r.2) := by
  refine Ct.of rfl (Nat.le_of_ble_eq_true rfl) (fun X hM => ?_)
  have hX := hM.1
  refine r_top (mk := fun r => ((some (vi r.1)), Z, r.2)) h (fun K hK => ?_)
  unfold fX12_judge
  refine r_aload_n (i := 0) (x := a0) (q := 1) 0 hX dX12_judge_0 rfl rfl rfl ?_
  refine r_ck (fun hc1 => ?_)
  refine r_getI (a := a0) (ci := 12) (kf := 57) (q := 4) hX hc1 flX12_419 rfl rfl dX12_judge_1 rfl ?_
  refine r_if_ne (tgt := 10) (q := 7) hX dX12_judge_4 (by decide) rfl (fun hb2 => ?_) (fun hb2 => ?_)
  · refine r_bipush (v := (-103 : Int32)) (q := 9) hX dX12_judge_7 rfl rfl ?_
    refine r_lf (hK _) ?_
    exact r_iret hM rfl (Nat.le_of_ble_eq_true rfl) (Nat.le_of_ble_eq_true rfl) dX12_judge_9
  · refine r_iload_n (i := 1) (x := x1) (q := 11) 1 hX dX12_judge_10 rfl rfl rfl ?_
    refine r_istore_n (x := x1) (q := 12) 2 [1, 2, 0] (L1 := [(0, vr a0), (1, vi x1), (2, vi x1)]) hX dX12_judge_11 rfl (Nat.le_of_ble_eq_true rfl) rfl rfl ?_
    refine r_iconst (v := (0 : Int32)) (q := 13) hX dX12_judge_12 rfl rfl ?_
    refine r_istore_n (x := (0 : Int32)) (q := 14) 3 [1, 2, 3, 0] (L1 := [(0, vr a0), (1, vi x1), (2, vi x1), (3, vi (0 : Int32))]) hX dX12_judge_13 rfl (Nat.le_of_ble_eq_true rfl) rfl rfl ?_
    refine r_aload_n (i := 0) (x := a0) (q := 15) 0 hX dX12_judge_14 rfl rfl rfl ?_
    refine r_getI (a := a0) (ci := 12) (kf := 57) (q := 18) hX hc1 flX12_419 rfl rfl dX12_judge_15 rfl ?_
    refine r_iconst (v := (1 : Int32)) (q := 19) hX dX12_judge_18 rfl rfl ?_
    refine r_isub (q := 20) hX dX12_judge_19 rfl ?_
    refine r_istoreP (x := ((rI M a0 57) - (1 : Int32))) (q := 22) 4 [1, 2, 3, 4, 0] (fun z3 => [(0, vr a0), (1, vi x1), (2, vi x1), (3, vi (0 : Int32)), (4, vi z3)]) hX dX12_judge_20 (Nat.le_of_ble_eq_true rfl) (fun _ => rfl) rfl (fun z3 => ?_)
    refine r_jn (J := fun (v6 : Int32 × Int32 × Mem) (P : Option Res) => Ref mX12_judge X 0 0 Z v6.2.2 65 [(0, vr a0), (1, vi x1), (2, vi v6.1), (3, vi v6.2.1)] [] P) (fun v6 => ?_) (fun K1 hj4 => ?_)
    · refine r_iload_n (i := 1) (x := x1) (q := 66) 1 hX dX12_judge_65 rfl rfl rfl ?_
      refine r_if_lt (tgt := 85) (q := 69) hX dX12_judge_66 (by decide) rfl (fun hb17 => ?_) (fun hb17 => ?_)
      · refine r_bipush (v := (-102 : Int32)) (q := 87) hX dX12_judge_85 rfl rfl ?_
        refine r_lf (hK _) ?_
        exact r_iret hM rfl (Nat.le_of_ble_eq_true rfl) (Nat.le_of_ble_eq_true rfl) dX12_judge_87
      · refine r_iload_n (i := 2) (x := v6.1) (q := 70) 2 hX dX12_judge_69 rfl rfl rfl ?_
        refine r_if_gt (tgt := 85) (q := 73) hX dX12_judge_70 (by decide) rfl (fun hb18 => ?_) (fun hb18 => ?_)
        · refine r_bipush (v := (-102 : Int32)) (q := 87) hX dX12_judge_85 rfl rfl ?_
          refine r_lf (hK _) ?_
          exact r_iret hM rfl (Nat.le_of_ble_eq_true rfl) (Nat.le_of_ble_eq_true rfl) dX12_judge_87
        · refine r_iload_n (i := 3) (x := v6.2.1) (q := 74) 3 hX dX12_judge_73 rfl rfl rfl ?_
          refine r_iconst (v := (1 : Int32)) (q := 75) hX dX12_judge_74 rfl rfl ?_
          refine r_aload_n (i := 0) (x := a0) (q := 76) 0 hX dX12_judge_75 rfl rfl rfl ?_
          refine r_getI (a := a0) (ci := 12) (kf := 57) (q := 79) hX hc1 flX12_419 rfl rfl dX12_judge_76 rfl ?_
          refine r_ishl (q := 80) hX dX12_judge_79 rfl ?_
          refine r_iconst (v := (1 : Int32)) (q := 81) hX dX12_judge_80 rfl rfl ?_
          refine r_isub (q := 82) hX dX12_judge_81 rfl ?_
          refine r_icmp_eq (tgt := 88) (q := 85) hX dX12_judge_82 (by decide) rfl (fun hb19 => ?_) (fun hb19 => ?_)
          · refine r_aload_n (i := 0) (x := a0) (q := 89) 0 hX dX12_judge_88 rfl rfl rfl ?_
            refine r_bind (fun v20 h21 => ?_)
            refine r_cv (a := a0) (As := []) (st := []) (r := (some (vi v20.1))) (Z1 := Z) (M1 := v20.2) (k1 := 0) (n1 := 0) (st1 := [vi v20.1]) (q := 92) hX (fun l => kX12_workOff l Z v6.2.2 a0 v20 h21) hc1 ivX12_workOff ccX12_workOff (Or.inl lkX12_431) rfl rfl rfl ⟨Nat.le_of_ble_eq_true rfl, Nat.le_of_ble_eq_true rfl, rfl, rfl, Nat.le_of_ble_eq_true rfl, Nat.le_of_ble_eq_true rfl⟩ (Nat.le_of_ble_eq_true rfl) dX12_judge_89 rfl ?_
            refine r_istore (x := v20.1) (q := 94) 4 [1, 2, 3, 4, 0] (L1 := [(0, vr a0), (1, vi x1), (2, vi v6.1), (3, vi v6.2.1), (4, vi v20.1)]) hX dX12_judge_92 (Nat.le_of_ble_eq_true rfl) rfl rfl ?_
            refine r_iload (i := 4) (x := v20.1) (q := 96) 4 hX dX12_judge_94 rfl rfl ?_
            refine r_iconst (v := (-1 : Int32)) (q := 97) hX dX12_judge_96 rfl rfl ?_
            refine r_icmp_ne (tgt := 107) (q := 100) hX dX12_judge_97 (by decide) rfl (fun hb22 => ?_) (fun hb22 => ?_)
            · refine r_aload_n (i := 0) (x := a0) (q := 101) 0 hX dX12_judge_100 rfl rfl rfl ?_
              refine r_getI (a := a0) (ci := 12) (kf := 64) (q := 104) hX hc1 flX12_422 rfl rfl dX12_judge_101 rfl ?_
              refine r_goto (q := 113) hX dX12_judge_104 (by decide) ?_
              refine r_lf (hK _) ?_
              exact r_iret hM rfl (Nat.le_of_ble_eq_true rfl) (Nat.le_of_ble_eq_true rfl) dX12_judge_113
            · refine r_sipush (v := (-1000 : Int32)) (q := 110) hX dX12_judge_107 rfl rfl ?_
              refine r_iload (i := 4) (x := v20.1) (q := 112) 4 hX dX12_judge_110 rfl rfl ?_
              refine r_isub (q := 113) hX dX12_judge_112 rfl ?_
              refine r_lf (hK _) ?_
              exact r_iret hM rfl (Nat.le_of_ble_eq_true rfl) (Nat.le_of_ble_eq_true rfl) dX12_judge_113
          · refine r_bipush (v := (-102 : Int32)) (q := 87) hX dX12_judge_85 rfl rfl ?_
            refine r_lf (hK _) ?_
            exact r_iret hM rfl (Nat.le_of_ble_eq_true rfl) (Nat.le_of_ble_eq_true rfl) dX12_judge_87
    · refine r_loop (Hd := fun (s7 : Int32 × Int32 × Int32 × Mem) (P : Option Res) => Ref mX12_judge X 0 0 Z s7.2.2.2 22 [(0, vr a0), (1, vi x1), (2, vi s7.1), (3, vi s7.2.1), (4, vi s7.2.2.1)] [] P) (fun _ => r_none) (fun s7 K1 hn8 hx9 => ?_) (x1, (0 : Int32), z3, M)
      refine r_iload (i := 4) (x := s7.2.2.1) (q := 24) 4 hX dX12_judge_22 rfl rfl ?_
      refine r_if_lt (tgt := 65) (q := 27) hX dX12_judge_24 (by decide) rfl (fun hb10 => ?_) (fun hb10 => ?_)
      · refine r_lf (hx9 _) ?_
        refine r_sub [0, 1, 2, 3] rfl ?_
        exact hj4 (s7.1, s7.2.1, s7.2.2.2)
      · refine r_iload_n (i := 1) (x := x1) (q := 28) 1 hX dX12_judge_27 rfl rfl rfl ?_
        refine r_if_lt (tgt := 65) (q := 31) hX dX12_judge_28 (by decide) rfl (fun hb11 => ?_) (fun hb11 => ?_)
        · refine r_lf (hx9 _) ?_
          refine r_sub [0, 1, 2, 3] rfl ?_
          exact hj4 (s7.1, s7.2.1, s7.2.2.2)
        · refine r_aload_n (i := 0) (x := a0) (q := 32) 0 hX dX12_judge_31 rfl rfl rfl ?_
          refine r_getR (a := a0) (ci := 12) (kf := 62) (q := 35) hX hc1 flX12_134 rfl dX12_judge_32 rfl ?_
          refine r_iload (i := 4) (x := s7.2.2.1) (q := 37) 4 hX dX12_judge_35 rfl rfl ?_
          refine r_iload_n (i := 2) (x := s7.1) (q := 38) 2 hX dX12_judge_37 rfl rfl rfl ?_
          refine r_bipush (v := (8 : Int32)) (q := 40) hX dX12_judge_38 rfl rfl ?_
          refine r_irem (q := 41) hX dX12_judge_40 (by decide) rfl ?_
          refine r_ck (fun hc12 => ?_)
          refine r_iast (a := (rR s7.2.2.2 a0 62)) (i := s7.2.2.1) (x := (s7.1 - s7.1 / (8 : Int32) * (8 : Int32))) (q := 42) hX hc12 dX12_judge_41 rfl (fun M13 => ?_)
          refine r_iload_n (i := 2) (x := s7.1) (q := 43) 2 hX dX12_judge_42 rfl rfl rfl ?_
          refine r_bipush (v := (8 : Int32)) (q := 45) hX dX12_judge_43 rfl rfl ?_
          refine r_idiv (q := 46) hX dX12_judge_45 (by decide) rfl ?_
          refine r_istore_nP (x := (s7.1 / (8 : Int32))) (q := 47) 2 [1, 2, 0, 4, 5] (fun z14 => [(0, vr a0), (1, vi x1), (2, vi z14), (3, vi s7.2.1), (4, vi s7.2.2.1)]) hX dX12_judge_46 rfl (Nat.le_of_ble_eq_true rfl) (fun _ => rfl) rfl (fun z14 => ?_)
          refine r_iload_n (i := 3) (x := s7.2.1) (q := 48) 3 hX dX12_judge_47 rfl rfl rfl ?_
          refine r_iconst (v := (1 : Int32)) (q := 49) hX dX12_judge_48 rfl rfl ?_
          refine r_aload_n (i := 0) (x := a0) (q := 50) 0 hX dX12_judge_49 rfl rfl rfl ?_
          refine r_getR (a := a0) (ci := 12) (kf := 62) (q := 53) hX hc1 flX12_134 rfl dX12_judge_50 rfl ?_
          refine r_iload (i := 4) (x := s7.2.2.1) (q := 55) 4 hX dX12_judge_53 rfl rfl ?_
          refine r_ck (fun hc15 => ?_)
          refine r_iald (a := (rR M13 a0 62)) (i := s7.2.2.1) (q := 56) hX hc15 dX12_judge_55 rfl ?_
          refine r_ishl (q := 57) hX dX12_judge_56 rfl ?_
          refine r_ior (q := 58) hX dX12_judge_57 rfl ?_
          refine r_istore_nP (x := (s7.2.1 ||| ((1 : Int32) <<< ((rI M13 (rR M13 a0 62) (ix s7.2.2.1)) &&& 31)))) (q := 59) 3 [1, 2, 3, 0, 5] (fun z16 => [(0, vr a0), (1, vi x1), (2, vi z14), (3, vi z16), (4, vi s7.2.2.1)]) hX dX12_judge_58 rfl (Nat.le_of_ble_eq_true rfl) (fun _ => rfl) rfl (fun z16 => ?_)
          refine r_iinc (x := s7.2.2.1) (v := (s7.2.2.1 + (-1 : Int32))) (q := 62) 4 4 [1, 2, 3, 4, 0] (L1 := [(0, vr a0), (1, vi x1), (2, vi z14), (3, vi z16), (4, vi (s7.2.2.1 + (-1 : Int32)))]) hX dX12_judge_59 rfl rfl (Nat.le_of_ble_eq_true rfl) rfl rfl ?_
          refine r_goto (q := 22) hX dX12_judge_62 (by decide) ?_
          refine r_l0 ?_
          exact hn8 (z14, z16, (s7.2.2.1 + (-1 : Int32)), M13)
def mX12_letters : MD := (yX12_letters, cX12_letters, 9, (some .int), 0, 0, 0, 0)
theorem ccX12_letters : Cc mX12_letters 1 := ⟨gd (hcw1_0 _ (List.mem_of_getElem? (i := 10) rfl)) rfl, gd (hcw7_6 _ (List.mem_of_getElem? (i := 14) rfl)) rfl, by decide +kernel, by decide +kernel, by decide +kernel⟩
theorem ivX12_letters : Iv mX12_letters 12 := ⟨Nat.le_of_ble_eq_true rfl, rfl, gd (hcw7_6 _ (List.mem_of_getElem? (i := 12) rfl)) rfl, gd (hcw7_6 _ (List.mem_of_getElem? (i := 13) rfl)) rfl⟩
noncomputable def fX12_letters (Z : Shp) (M : Mem) (a0 : Nat) (y1 : Int64) : Option (Int32 × Mem) := (Option.bind (loop (fun s4 : Int32 × Int32 × Int64 × Int32 => (if (8 : Int32) ≤ s4.2.2.2 then some (Sum.inr (s4.1, s4.2.1)) else (pu (((s4.2.2.1 &&& (255 : Int64)).toInt32)) (fun z8 => (pu (((s4.2.2.1.toUInt64 >>> ((8 : Int32).toInt64.toUInt64 &&& Int64.toUInt64 63)).toInt64)) (fun z9 => (Option.bind (if s4.2.1 = 0 then some (0 : Int32) else (if (126 : Int32) < z8 then some (0 : Int32) else (if z8 = 0 then some (1 : Int32) else (if s4.1 = s4.2.2.2 then some (1 : Int32) else some (0 : Int32))))) (fun v13 : Int32 => (if z8 ≤ 0 then (pu ((s4.1 + (0 : Int32))) (fun z18 => some (Sum.inl (z18, v13, z9, (s4.2.2.2 + (1 : Int32)))))) else (pu ((s4.1 + (1 : Int32))) (fun z19 => some (Sum.inl (z19, v13, z9, (s4.2.2.2 + (1 : Int32))))))))))))))) ((0 : Int32), (1 : Int32), y1, (0 : Int32))) (fun v3 : Int32 × Int32 => (if v3.2 = 0 then some ((-102 : Int32), M) else (if tg Z a0 = (13, 86) then (if ((rI M a0 34) + v3.1) ≤ (60 : Int32) then (loop (fun s23 : Int32 × Mem => (if v3.1 ≤ s23.1 then some (Sum.inr ((rI s23.2 a0 34), s23.2)) else (if aok Z (rR s23.2 a0 33) 100 (rI s23.2 a0 34) then (pu (wI s23.2 (rR s23.2 a0 33) (ix (rI s23.2 a0 34)) ((((y1.toUInt64 >>> (((8 : Int32) * s23.1).toInt64.toUInt64 &&& Int64.toUInt64 63)).toInt64) &&& (255 : Int64)).toInt32)) (fun M28 => (pu (wI M28 a0 34 ((rI M28 a0 34) + (1 : Int32))) (fun M29 => some (Sum.inl ((s23.1 + (1 : Int32)), M29)))))) else none))) ((0 : Int32), M)) else some ((-104 : Int32), M)) else none))))
set_option maxRecDepth 20000 in
theorem kX12_letters (l : Launch) (Z : Shp) (M : Mem) (a0 : Nat) (y1 : Int64) (r : Int32 × Mem) (h : fX12_letters Z M a0 y1 = some r) : Ct l mX12_letters [vr a0, vj y1] Z M ((some (vi r.1)), Z, r.2) := by
  refine Ct.of rfl (Nat.le_of_ble_eq_true rfl) (fun X hM => ?_)
  have hX := hM.1
  refine r_top (mk := fun r => ((some (vi r.1)), Z, r.2)) h (fun K hK => ?_)
  unfold fX12_letters
  refine r_iconst (v := (0 : Int32)) (q := 1) hX dX12_letters_0 rfl rfl ?_
  refine r_istore_n (x := (0 : Int32)) (q := 2) 3 [1, 2, 0] (L1 := [(0, vr a0), (1, vj y1), (3, vi (0 : Int32))]) hX dX12_letters_1 rfl (Nat.le_of_ble_eq_true rfl) rfl rfl ?_
  refine r_iconst (v := (1 : Int32)) (q := 3) hX dX12_letters_2 rfl rfl ?_
  refine r_istore (x := (1 : Int32)) (q := 5) 4 [1, 2, 3, 0] (L1 := [(0, vr a0), (1, vj y1), (3, vi (0 : Int32)), (4, vi (1 : Int32))]) hX dX12_letters_3 (Nat.le_of_ble_eq_true rfl) rfl rfl ?_
  refine r_lload_n (i := 1) (x := y1) (q := 6) 1 hX dX12_letters_5 rfl rfl rfl ?_
  refine r_lstore (x := y1) (q := 8) 5 [1, 2, 3, 4, 0] (L1 := [(0, vr a0), (1, vj y1), (3, vi (0 : Int32)), (4, vi (1 : Int32)), (5, vj y1)]) hX dX12_letters_6 (Nat.le_of_ble_eq_true rfl) rfl rfl ?_
  refine r_iconst (v := (0 : Int32)) (q := 9) hX dX12_letters_8 rfl rfl ?_
  refine r_istore (x := (0 : Int32)) (q := 11) 7 [1, 2, 3, 4, 5, 0] (L1 := [(0, vr a0), (1, vj y1), (3, vi (0 : Int32)), (4, vi (1 : Int32)), (5, vj y1), (7, vi (0 : Int32))]) hX dX12_letters_9 (Nat.le_of_ble_eq_true rfl) rfl rfl ?_
  refine r_jn (J := fun (v3 : Int32 × Int32) (P : Option Res) => Ref mX12_letters X 0 0 Z M 83 [(0, vr a0), (1, vj y1), (3, vi v3.1), (4, vi v3.2)] [] P) (fun v3 => ?_) (fun K1 hj1 => ?_)
  · refine r_iload (i := 4) (x := v3.2) (q := 85) 3 hX dX12_letters_83 rfl rfl ?_
    refine r_if_ne (tgt := 91) (q := 88) hX dX12_letters_85 (by decide) rfl (fun hb20 => ?_) (fun hb20 => ?_)
    · refine r_bipush (v := (-102 : Int32)) (q := 90) hX dX12_letters_88 rfl rfl ?_
      refine r_lf (hK _) ?_
      exact r_iret hM rfl (Nat.le_of_ble_eq_true rfl) (Nat.le_of_ble_eq_true rfl) dX12_letters_90
    · refine r_aload_n (i := 0) (x := a0) (q := 92) 0 hX dX12_letters_91 rfl rfl rfl ?_
      refine r_ck (fun hc21 => ?_)
      refine r_getI (a := a0) (ci := 12) (kf := 34) (q := 95) hX hc21 flX12_323 rfl rfl dX12_letters_92 rfl ?_
      refine r_iload_n (i := 3) (x := v3.1) (q := 96) 2 hX dX12_letters_95 rfl rfl rfl ?_
      refine r_iadd (q := 97) hX dX12_letters_96 rfl ?_
      refine r_bipush (v := (60 : Int32)) (q := 99) hX dX12_letters_97 rfl rfl ?_
      refine r_icmp_le (tgt := 105) (q := 102) hX dX12_letters_99 (by decide) rfl (fun hb22 => ?_) (fun hb22 => ?_)
      · refine r_iconst (v := (0 : Int32)) (q := 106) hX dX12_letters_105 rfl rfl ?_
        refine r_istore (x := (0 : Int32)) (q := 108) 7 [1, 2, 3, 4, 0] (L1 := [(0, vr a0), (1, vj y1), (3, vi v3.1), (4, vi v3.2), (7, vi (0 : Int32))]) hX dX12_letters_106 (Nat.le_of_ble_eq_true rfl) rfl rfl ?_
        refine r_sub [0, 1, 2, 4] rfl ?_
        refine r_loop (Hd := fun (s23 : Int32 × Mem) (P : Option Res) => Ref mX12_letters X 0 0 Z s23.2 108 [(0, vr a0), (1, vj y1), (3, vi v3.1), (7, vi s23.1)] [] P) (fun _ => r_none) (fun s23 K1 hn24 hx25 => ?_) ((0 : Int32), M)
        refine r_iload (i := 7) (x := s23.1) (q := 110) 3 hX dX12_letters_108 rfl rfl ?_
        refine r_iload_n (i := 3) (x := v3.1) (q := 111) 2 hX dX12_letters_110 rfl rfl rfl ?_
        refine r_icmp_ge (tgt := 151) (q := 114) hX dX12_letters_111 (by decide) rfl (fun hb26 => ?_) (fun hb26 => ?_)
        · refine r_aload_n (i := 0) (x := a0) (q := 152) 0 hX dX12_letters_151 rfl rfl rfl ?_
          refine r_getI (a := a0) (ci := 12) (kf := 34) (q := 155) hX hc21 flX12_323 rfl rfl dX12_letters_152 rfl ?_
          refine r_lf ((hx25 _).trans (hK _)) ?_
          exact r_iret hM rfl (Nat.le_of_ble_eq_true rfl) (Nat.le_of_ble_eq_true rfl) dX12_letters_155
        · refine r_aload_n (i := 0) (x := a0) (q := 115) 0 hX dX12_letters_114 rfl rfl rfl ?_
          refine r_getR (a := a0) (ci := 12) (kf := 33) (q := 118) hX hc21 flX12_89 rfl dX12_letters_115 rfl ?_
          refine r_aload_n (i := 0) (x := a0) (q := 119) 0 hX dX12_letters_118 rfl rfl rfl ?_
          refine r_getI (a := a0) (ci := 12) (kf := 34) (q := 122) hX hc21 flX12_323 rfl rfl dX12_letters_119 rfl ?_
          refine r_lload_n (i := 1) (x := y1) (q := 123) 1 hX dX12_letters_122 rfl rfl rfl ?_
          refine r_bipush (v := (8 : Int32)) (q := 125) hX dX12_letters_123 rfl rfl ?_
          refine r_iload (i := 7) (x := s23.1) (q := 127) 3 hX dX12_letters_125 rfl rfl ?_
          refine r_imul (q := 128) hX dX12_letters_127 rfl ?_
          refine r_lushr (q := 129) hX dX12_letters_128 rfl ?_
          refine r_ldc2 (v := (255 : Int64)) (q := 132) hX dX12_letters_129 (gd (hcw7_6 _ (List.mem_of_getElem? (i := 15) rfl)) rfl) rfl ?_
          refine r_land (q := 133) hX dX12_letters_132 rfl ?_
          refine r_l2i (q := 134) hX dX12_letters_133 rfl ?_
          refine r_ck (fun hc27 => ?_)
          refine r_iast (a := (rR s23.2 a0 33)) (i := (rI s23.2 a0 34)) (x := ((((y1.toUInt64 >>> (((8 : Int32) * s23.1).toInt64.toUInt64 &&& Int64.toUInt64 63)).toInt64) &&& (255 : Int64)).toInt32)) (q := 135) hX hc27 dX12_letters_134 rfl (fun M28 => ?_)
          refine r_aload_n (i := 0) (x := a0) (q := 136) 0 hX dX12_letters_135 rfl rfl rfl ?_
          refine r_dup (q := 137) hX dX12_letters_136 rfl rfl ?_
          refine r_getI (a := a0) (ci := 12) (kf := 34) (q := 140) hX hc21 flX12_323 rfl rfl dX12_letters_137 rfl ?_
          refine r_iconst (v := (1 : Int32)) (q := 141) hX dX12_letters_140 rfl rfl ?_
          refine r_iadd (q := 142) hX dX12_letters_141 rfl ?_
          refine r_putI (a := a0) (ci := 12) (kf := 34) (q := 145) hX hc21 flX12_323 rfl rfl (Or.inl rfl) rfl rfl dX12_letters_142 rfl (fun M29 => ?_)
          refine r_iinc (x := s23.1) (v := (s23.1 + (1 : Int32))) (q := 148) 7 3 [1, 2, 3, 0] (L1 := [(0, vr a0), (1, vj y1), (3, vi v3.1), (7, vi (s23.1 + (1 : Int32)))]) hX dX12_letters_145 rfl rfl (Nat.le_of_ble_eq_true rfl) rfl rfl ?_
          refine r_goto (q := 108) hX dX12_letters_148 (by decide) ?_
          refine r_l0 ?_
          exact hn24 ((s23.1 + (1 : Int32)), M29)
      · refine r_bipush (v := (-104 : Int32)) (q := 104) hX dX12_letters_102 rfl rfl ?_
        refine r_lf (hK _) ?_
        exact r_iret hM rfl (Nat.le_of_ble_eq_true rfl) (Nat.le_of_ble_eq_true rfl) dX12_letters_104
  · refine r_loop (Hd := fun (s4 : Int32 × Int32 × Int64 × Int32) (P : Option Res) => Ref mX12_letters X 0 0 Z M 11 [(0, vr a0), (1, vj y1), (3, vi s4.1), (4, vi s4.2.1), (5, vj s4.2.2.1), (7, vi s4.2.2.2)] [] P) (fun _ => r_none) (fun s4 K1 hn5 hx6 => ?_) ((0 : Int32), (1 : Int32), y1, (0 : Int32))
    refine r_iload (i := 7) (x := s4.2.2.2) (q := 13) 5 hX dX12_letters_11 rfl rfl ?_
    refine r_bipush (v := (8 : Int32)) (q := 15) hX dX12_letters_13 rfl rfl ?_
    refine r_icmp_ge (tgt := 83) (q := 18) hX dX12_letters_15 (by decide) rfl (fun hb7 => ?_) (fun hb7 => ?_)
    · refine r_lf (hx6 _) ?_
      refine r_sub [0, 1, 2, 3] rfl ?_
      exact hj1 (s4.1, s4.2.1)
    · refine r_lload (i := 5) (x := s4.2.2.1) (q := 20) 4 hX dX12_letters_18 rfl rfl ?_
      refine r_ldc2 (v := (255 : Int64)) (q := 23) hX dX12_letters_20 (gd (hcw7_6 _ (List.mem_of_getElem? (i := 15) rfl)) rfl) rfl ?_
      refine r_land (q := 24) hX dX12_letters_23 rfl ?_
      refine r_l2i (q := 25) hX dX12_letters_24 rfl ?_
      refine r_istoreP (x := ((s4.2.2.1 &&& (255 : Int64)).toInt32)) (q := 27) 8 [1, 2, 3, 4, 5, 6, 0] (fun z8 => [(0, vr a0), (1, vj y1), (3, vi s4.1), (4, vi s4.2.1), (5, vj s4.2.2.1), (7, vi s4.2.2.2), (8, vi z8)]) hX dX12_letters_25 (Nat.le_of_ble_eq_true rfl) (fun _ => rfl) rfl (fun z8 => ?_)
      refine r_lload (i := 5) (x := s4.2.2.1) (q := 29) 4 hX dX12_letters_27 rfl rfl ?_
      refine r_bipush (v := (8 : Int32)) (q := 31) hX dX12_letters_29 rfl rfl ?_
      refine r_lushr (q := 32) hX dX12_letters_31 rfl ?_
      refine r_lstoreP (x := ((s4.2.2.1.toUInt64 >>> ((8 : Int32).toInt64.toUInt64 &&& Int64.toUInt64 63)).toInt64)) (q := 34) 5 [1, 2, 3, 4, 0, 6, 7] (fun z9 => [(0, vr a0), (1, vj y1), (3, vi s4.1), (4, vi s4.2.1), (5, vj z9), (7, vi s4.2.2.2), (8, vi z8)]) hX dX12_letters_32 (Nat.le_of_ble_eq_true rfl) (fun _ => rfl) rfl (fun z9 => ?_)
      refine r_iload (i := 4) (x := s4.2.1) (q := 36) 3 hX dX12_letters_34 rfl rfl ?_
      refine r_jn (J := fun (v13 : Int32) (P : Option Res) => Ref mX12_letters X 0 0 Z M 62 [(0, vr a0), (1, vj y1), (3, vi s4.1), (5, vj z9), (7, vi s4.2.2.2), (8, vi z8)] [vi v13] P) (fun v13 => ?_) (fun K1 hj11 => ?_)
      · refine r_istore (x := v13) (q := 64) 4 [1, 2, 3, 0, 4, 5, 6] (L1 := [(0, vr a0), (1, vj y1), (3, vi s4.1), (4, vi v13), (5, vj z9), (7, vi s4.2.2.2), (8, vi z8)]) hX dX12_letters_62 (Nat.le_of_ble_eq_true rfl) rfl rfl ?_
        refine r_iload_n (i := 3) (x := s4.1) (q := 65) 2 hX dX12_letters_64 rfl rfl rfl ?_
        refine r_iload (i := 8) (x := z8) (q := 67) 6 hX dX12_letters_65 rfl rfl ?_
        refine r_if_le (tgt := 74) (q := 70) hX dX12_letters_67 (by decide) rfl (fun hb17 => ?_) (fun hb17 => ?_)
        · refine r_iconst (v := (0 : Int32)) (q := 75) hX dX12_letters_74 rfl rfl ?_
          refine r_iadd (q := 76) hX dX12_letters_75 rfl ?_
          refine r_istore_nP (x := (s4.1 + (0 : Int32))) (q := 77) 3 [1, 2, 0, 4, 5, 6, 7] (fun z18 => [(0, vr a0), (1, vj y1), (3, vi z18), (4, vi v13), (5, vj z9), (7, vi s4.2.2.2), (8, vi z8)]) hX dX12_letters_76 rfl (Nat.le_of_ble_eq_true rfl) (fun _ => rfl) rfl (fun z18 => ?_)
          refine r_iinc (x := s4.2.2.2) (v := (s4.2.2.2 + (1 : Int32))) (q := 80) 7 5 [1, 2, 3, 4, 5, 0, 7] (L1 := [(0, vr a0), (1, vj y1), (3, vi z18), (4, vi v13), (5, vj z9), (7, vi (s4.2.2.2 + (1 : Int32))), (8, vi z8)]) hX dX12_letters_77 rfl rfl (Nat.le_of_ble_eq_true rfl) rfl rfl ?_
          refine r_goto (q := 11) hX dX12_letters_80 (by decide) ?_
          refine r_l0 ?_
          refine r_sub [0, 1, 2, 3, 4, 5] rfl ?_
          exact hn5 (z18, v13, z9, (s4.2.2.2 + (1 : Int32)))
        · refine r_iconst (v := (1 : Int32)) (q := 71) hX dX12_letters_70 rfl rfl ?_
          refine r_goto (q := 75) hX dX12_letters_71 (by decide) ?_
          refine r_iadd (q := 76) hX dX12_letters_75 rfl ?_
          refine r_istore_nP (x := (s4.1 + (1 : Int32))) (q := 77) 3 [1, 2, 0, 4, 5, 6, 7] (fun z19 => [(0, vr a0), (1, vj y1), (3, vi z19), (4, vi v13), (5, vj z9), (7, vi s4.2.2.2), (8, vi z8)]) hX dX12_letters_76 rfl (Nat.le_of_ble_eq_true rfl) (fun _ => rfl) rfl (fun z19 => ?_)
          refine r_iinc (x := s4.2.2.2) (v := (s4.2.2.2 + (1 : Int32))) (q := 80) 7 5 [1, 2, 3, 4, 5, 0, 7] (L1 := [(0, vr a0), (1, vj y1), (3, vi z19), (4, vi v13), (5, vj z9), (7, vi (s4.2.2.2 + (1 : Int32))), (8, vi z8)]) hX dX12_letters_77 rfl rfl (Nat.le_of_ble_eq_true rfl) rfl rfl ?_
          refine r_goto (q := 11) hX dX12_letters_80 (by decide) ?_
          refine r_l0 ?_
          refine r_sub [0, 1, 2, 3, 4, 5] rfl ?_
          exact hn5 (z19, v13, z9, (s4.2.2.2 + (1 : Int32)))
      · refine r_if_eq (tgt := 61) (q := 39) hX dX12_letters_36 (by decide) rfl (fun hb10 => ?_) (fun hb10 => ?_)
        · refine r_iconst (v := (0 : Int32)) (q := 62) hX dX12_letters_61 rfl rfl ?_
          refine r_l0 ?_
          refine r_sub [0, 1, 2, 4, 5, 6] rfl ?_
          exact hj11 (0 : Int32)
        · refine r_iload (i := 8) (x := z8) (q := 41) 6 hX dX12_letters_39 rfl rfl ?_
          refine r_bipush (v := (126 : Int32)) (q := 43) hX dX12_letters_41 rfl rfl ?_
          refine r_icmp_gt (tgt := 61) (q := 46) hX dX12_letters_43 (by decide) rfl (fun hb14 => ?_) (fun hb14 => ?_)
          · refine r_iconst (v := (0 : Int32)) (q := 62) hX dX12_letters_61 rfl rfl ?_
            refine r_l0 ?_
            refine r_sub [0, 1, 2, 4, 5, 6] rfl ?_
            exact hj11 (0 : Int32)
          · refine r_iload (i := 8) (x := z8) (q := 48) 6 hX dX12_letters_46 rfl rfl ?_
            refine r_if_eq (tgt := 57) (q := 51) hX dX12_letters_48 (by decide) rfl (fun hb15 => ?_) (fun hb15 => ?_)
            · refine r_iconst (v := (1 : Int32)) (q := 58) hX dX12_letters_57 rfl rfl ?_
              refine r_goto (q := 62) hX dX12_letters_58 (by decide) ?_
              refine r_l0 ?_
              refine r_sub [0, 1, 2, 4, 5, 6] rfl ?_
              exact hj11 (1 : Int32)
            · refine r_iload_n (i := 3) (x := s4.1) (q := 52) 2 hX dX12_letters_51 rfl rfl rfl ?_
              refine r_iload (i := 7) (x := s4.2.2.2) (q := 54) 5 hX dX12_letters_52 rfl rfl ?_
              refine r_icmp_ne (tgt := 61) (q := 57) hX dX12_letters_54 (by decide) rfl (fun hb16 => ?_) (fun hb16 => ?_)
              · refine r_iconst (v := (1 : Int32)) (q := 58) hX dX12_letters_57 rfl rfl ?_
                refine r_goto (q := 62) hX dX12_letters_58 (by decide) ?_
                refine r_l0 ?_
                refine r_sub [0, 1, 2, 4, 5, 6] rfl ?_
                exact hj11 (1 : Int32)
              · refine r_iconst (v := (0 : Int32)) (q := 62) hX dX12_letters_61 rfl rfl ?_
                refine r_l0 ?_
                refine r_sub [0, 1, 2, 4, 5, 6] rfl ?_
                exact hj11 (0 : Int32)
def mX12_lock : MD := (yX12_lock, cX12_lock, 5, (some .int), 1, 25, 0, 0)
theorem ccX12_lock : Cc mX12_lock 3 := ⟨gd (hcw1_0 _ (List.mem_of_getElem? (i := 10) rfl)) rfl, gd (hcw6_11 _ (List.mem_of_getElem? (i := 19) rfl)) rfl, by decide +kernel, by decide +kernel, by decide +kernel⟩
theorem ivX12_lock : Iv mX12_lock 12 := ⟨Nat.le_of_ble_eq_true rfl, rfl, gd (hcw6_11 _ (List.mem_of_getElem? (i := 17) rfl)) rfl, gd (hcw6_11 _ (List.mem_of_getElem? (i := 18) rfl)) rfl⟩
def fX12_lock (Z : Shp) (M : Mem) (a0 : Nat) (x1 : Int32) (x2 : Int32) (x3 : Int32) : Option (Int32 × Mem) := (if (fX12_in (x1.toInt64) (0 : Int64) (6 : Int64)) = 0 then some ((-101 : Int32), M) else (if (fX12_in (x2.toInt64) (0 : Int64) (2 : Int64)) = 0 then some ((-101 : Int32), M) else (js (if x2 = 0 then (if (fX12_in (x3.toInt64) (10 : Int64) (200 : Int64)) = 0 then some (Sum.inr ((-102 : Int32), M)) else some (Sum.inl ())) else (if (fX12_in (x3.toInt64) (0 : Int64) (x2.toInt64)) = 0 then some (Sum.inr ((-102 : Int32), M)) else some (Sum.inl ()))) (fun v6 : Unit => (js (if (2 : Int32) ≤ x2 then some (Sum.inl ()) else (if tg Z a0 = (13, 86) then (if (rI M a0 11) ≤ 0 then some (Sum.inl ()) else some (Sum.inr ((-103 : Int32), M))) else none)) (fun v12 : Unit => (Option.bind (if x2 = 0 then (if tg Z a0 = (13, 86) then (if aok Z (rR M a0 4) 100 x1 then some (rI M (rR M a0 4) (ix x1)) else none) else none) else (if x2 = (1 : Int32) then (if tg Z a0 = (13, 86) then (if aok Z (rR M a0 5) 101 x1 then (if (rI M (rR M a0 5) (ix x1)) = 0 then some (0 : Int32) else some (1 : Int32)) else none) else none) else (if tg Z a0 = (13, 86) then (if aok Z (rR M a0 6) 100 x1 then some (rI M (rR M a0 6) (ix x1)) else none) else none))) (fun v18 : Int32 => (if tg Z a0 = (13, 86) then (Option.bind (if x2 = 0 then some x3 else (if aok Z (rR M a0 4) 100 x1 then some (rI M (rR M a0 4) (ix x1)) else none)) (fun v31 : Int32 => (if aok Z (rR M a0 4) 100 x1 then (pu (wI M (rR M a0 4) (ix x1) v31) (fun M34 => (Option.bind (if x2 = (1 : Int32) then (if x3 = (1 : Int32) then some (1 : Int32) else some (0 : Int32)) else (if aok Z (rR M34 a0 5) 101 x1 then some (rI M34 (rR M34 a0 5) (ix x1)) else none)) (fun v38 : Int32 => (if aok Z (rR M34 a0 5) 101 x1 then (if zb v38 then (pu (wI M34 (rR M34 a0 5) (ix x1) v38) (fun M42 => (if x2 = (2 : Int32) then (if aok Z (rR M42 a0 6) 100 x1 then (pu (wI M42 (rR M42 a0 6) (ix x1) x3) (fun M46 => some (v18, M46))) else none) else (if aok Z (rR M42 a0 6) 100 x1 then (pu (wI M42 (rR M42 a0 6) (ix x1) (rI M42 (rR M42 a0 6) (ix x1))) (fun M48 => some (v18, M48))) else none)))) else none) else none))))) else none))) else none)))))))))
set_option maxRecDepth 20000 in
theorem kX12_lock (l : Launch) (Z : Shp) (M : Mem) (a0 : Nat) (x1 : Int32) (x2 : Int32) (x3 : Int32) (r : Int32 × Mem) (h : fX12_lock Z M a0 x1 x2 x3 = some r) : Ct l mX12_lock [vr a0, vi x1, vi x2, vi x3] Z M ((some (vi r.1)), Z, r.2) := by
  refine Ct.of rfl (Nat.le_of_ble_eq_true rfl) (fun X hM => ?_)
  have hX := hM.1
  refine r_top (mk := fun r => ((some (vi r.1)), Z, r.2)) h (fun K hK => ?_)
  unfold fX12_lock
  refine r_iload_n (i := 1) (x := x1) (q := 1) 1 hX dX12_lock_0 rfl rfl rfl ?_
  refine r_i2l (q := 2) hX dX12_lock_1 rfl ?_
  refine r_lconst (v := (0 : Int64)) (q := 3) hX dX12_lock_2 rfl rfl ?_
  refine r_ldc2 (v := (6 : Int64)) (q := 6) hX dX12_lock_3 (gd (hcw6_11 _ (List.mem_of_getElem? (i := 15) rfl)) rfl) rfl ?_
  refine r_cs (As := [vj (x1.toInt64), vj (0 : Int64), vj (6 : Int64)]) (st := []) (r := (some (vi (fX12_in (x1.toInt64) (0 : Int64) (6 : Int64))))) (Z1 := Z) (M1 := M) (k1 := 0) (n1 := 0) (st1 := [vi (fX12_in (x1.toInt64) (0 : Int64) (6 : Int64))]) (q := 9) hX (fun l => kX12_in l Z M (x1.toInt64) (0 : Int64) (6 : Int64)) stX12_in ccX12_in (Or.inl lkX12_194) rfl rfl rfl ⟨Nat.le_of_ble_eq_true rfl, Nat.le_of_ble_eq_true rfl, rfl, rfl, Nat.le_of_ble_eq_true rfl, Nat.le_of_ble_eq_true rfl⟩ (Nat.le_of_ble_eq_true rfl) dX12_lock_6 rfl ?_
  refine r_if_eq (tgt := 24) (q := 12) hX dX12_lock_9 (by decide) rfl (fun hb1 => ?_) (fun hb1 => ?_)
  · refine r_bipush (v := (-101 : Int32)) (q := 26) hX dX12_lock_24 rfl rfl ?_
    refine r_lf (hK _) ?_
    exact r_iret hM rfl (Nat.le_of_ble_eq_true rfl) (Nat.le_of_ble_eq_true rfl) dX12_lock_26
  · refine r_iload_n (i := 2) (x := x2) (q := 13) 2 hX dX12_lock_12 rfl rfl rfl ?_
    refine r_i2l (q := 14) hX dX12_lock_13 rfl ?_
    refine r_lconst (v := (0 : Int64)) (q := 15) hX dX12_lock_14 rfl rfl ?_
    refine r_ldc2 (v := (2 : Int64)) (q := 18) hX dX12_lock_15 (gd (hcw6_11 _ (List.mem_of_getElem? (i := 5) rfl)) rfl) rfl ?_
    refine r_cs (As := [vj (x2.toInt64), vj (0 : Int64), vj (2 : Int64)]) (st := []) (r := (some (vi (fX12_in (x2.toInt64) (0 : Int64) (2 : Int64))))) (Z1 := Z) (M1 := M) (k1 := 0) (n1 := 0) (st1 := [vi (fX12_in (x2.toInt64) (0 : Int64) (2 : Int64))]) (q := 21) hX (fun l => kX12_in l Z M (x2.toInt64) (0 : Int64) (2 : Int64)) stX12_in ccX12_in (Or.inl lkX12_194) rfl rfl rfl ⟨Nat.le_of_ble_eq_true rfl, Nat.le_of_ble_eq_true rfl, rfl, rfl, Nat.le_of_ble_eq_true rfl, Nat.le_of_ble_eq_true rfl⟩ (Nat.le_of_ble_eq_true rfl) dX12_lock_18 rfl ?_
    refine r_if_ne (tgt := 27) (q := 24) hX dX12_lock_21 (by decide) rfl (fun hb2 => ?_) (fun hb2 => ?_)
    · refine r_bipush (v := (-101 : Int32)) (q := 26) hX dX12_lock_24 rfl rfl ?_
      refine r_lf (hK _) ?_
      exact r_iret hM rfl (Nat.le_of_ble_eq_true rfl) (Nat.le_of_ble_eq_true rfl) dX12_lock_26
    · refine r_iload_n (i := 2) (x := x2) (q := 28) 2 hX dX12_lock_27 rfl rfl rfl ?_
      refine r_js (J := fun (v6 : Unit) (P : Option Res) => Ref mX12_lock X 0 0 Z M 62 [(0, vr a0), (1, vi x1), (2, vi x2), (3, vi x3)] [] P) (fun v6 => ?_) (fun K1 hj4 ho5 => ?_)
      · refine r_iload_n (i := 2) (x := x2) (q := 63) 2 hX dX12_lock_62 rfl rfl rfl ?_
        refine r_iconst (v := (2 : Int32)) (q := 64) hX dX12_lock_63 rfl rfl ?_
        refine r_js (J := fun (v12 : Unit) (P : Option Res) => Ref mX12_lock X 0 0 Z M 77 [(0, vr a0), (1, vi x1), (2, vi x2), (3, vi x3)] [] P) (fun v12 => ?_) (fun K1 hj10 ho11 => ?_)
        · refine r_iload_n (i := 2) (x := x2) (q := 78) 2 hX dX12_lock_77 rfl rfl rfl ?_
          refine r_jn (J := fun (v18 : Int32) (P : Option Res) => Ref mX12_lock X 0 0 Z M 118 [(0, vr a0), (1, vi x1), (2, vi x2), (3, vi x3)] [vi v18] P) (fun v18 => ?_) (fun K1 hj16 => ?_)
          · refine r_istore (x := v18) (q := 120) 4 [1, 2, 3, 4, 0] (L1 := [(0, vr a0), (1, vi x1), (2, vi x2), (3, vi x3), (4, vi v18)]) hX dX12_lock_118 (Nat.le_of_ble_eq_true rfl) rfl rfl ?_
            refine r_aload_n (i := 0) (x := a0) (q := 121) 0 hX dX12_lock_120 rfl rfl rfl ?_
            refine r_ck (fun hc27 => ?_)
            refine r_getR (a := a0) (ci := 12) (kf := 4) (q := 124) hX hc27 flX12_19 rfl dX12_lock_121 rfl ?_
            refine r_iload_n (i := 1) (x := x1) (q := 125) 1 hX dX12_lock_124 rfl rfl rfl ?_
            refine r_iload_n (i := 2) (x := x2) (q := 126) 2 hX dX12_lock_125 rfl rfl rfl ?_
            refine r_jn (J := fun (v31 : Int32) (P : Option Res) => Ref mX12_lock X 0 0 Z M 139 [(0, vr a0), (1, vi x1), (2, vi x2), (3, vi x3), (4, vi v18)] [vi v31, vi x1, vr (rR M a0 4)] P) (fun v31 => ?_) (fun K1 hj29 => ?_)
            · refine r_ck (fun hc33 => ?_)
              refine r_iast (a := (rR M a0 4)) (i := x1) (x := v31) (q := 140) hX hc33 dX12_lock_139 rfl (fun M34 => ?_)
              refine r_aload_n (i := 0) (x := a0) (q := 141) 0 hX dX12_lock_140 rfl rfl rfl ?_
              refine r_getR (a := a0) (ci := 12) (kf := 5) (q := 144) hX hc27 flX12_22 rfl dX12_lock_141 rfl ?_
              refine r_iload_n (i := 1) (x := x1) (q := 145) 1 hX dX12_lock_144 rfl rfl rfl ?_
              refine r_iload_n (i := 2) (x := x2) (q := 146) 2 hX dX12_lock_145 rfl rfl rfl ?_
              refine r_iconst (v := (1 : Int32)) (q := 147) hX dX12_lock_146 rfl rfl ?_
              refine r_jn (J := fun (v38 : Int32) (P : Option Res) => Ref mX12_lock X 0 0 Z M34 169 [(0, vr a0), (1, vi x1), (2, vi x2), (3, vi x3), (4, vi v18)] [vi v38, vi x1, vr (rR M34 a0 5)] P) (fun v38 => ?_) (fun K1 hj36 => ?_)
              · refine r_ck (fun hc41 => ?_)
                refine r_ck (fun hz43 => ?_)
                refine r_zast (a := (rR M34 a0 5)) (i := x1) (x := v38) (q := 170) hX hc41 hz43 dX12_lock_169 rfl (fun M42 => ?_)
                refine r_aload_n (i := 0) (x := a0) (q := 171) 0 hX dX12_lock_170 rfl rfl rfl ?_
                refine r_getR (a := a0) (ci := 12) (kf := 6) (q := 174) hX hc27 flX12_26 rfl dX12_lock_171 rfl ?_
                refine r_iload_n (i := 1) (x := x1) (q := 175) 1 hX dX12_lock_174 rfl rfl rfl ?_
                refine r_iload_n (i := 2) (x := x2) (q := 176) 2 hX dX12_lock_175 rfl rfl rfl ?_
                refine r_iconst (v := (2 : Int32)) (q := 177) hX dX12_lock_176 rfl rfl ?_
                refine r_icmp_ne (tgt := 184) (q := 180) hX dX12_lock_177 (by decide) rfl (fun hb44 => ?_) (fun hb44 => ?_)
                · refine r_iload_n (i := 3) (x := x3) (q := 181) 3 hX dX12_lock_180 rfl rfl rfl ?_
                  refine r_goto (q := 190) hX dX12_lock_181 (by decide) ?_
                  refine r_ck (fun hc45 => ?_)
                  refine r_iast (a := (rR M42 a0 6)) (i := x1) (x := x3) (q := 191) hX hc45 dX12_lock_190 rfl (fun M46 => ?_)
                  refine r_iload (i := 4) (x := v18) (q := 193) 4 hX dX12_lock_191 rfl rfl ?_
                  refine r_lf (hK _) ?_
                  exact r_iret hM rfl (Nat.le_of_ble_eq_true rfl) (Nat.le_of_ble_eq_true rfl) dX12_lock_193
                · refine r_aload_n (i := 0) (x := a0) (q := 185) 0 hX dX12_lock_184 rfl rfl rfl ?_
                  refine r_getR (a := a0) (ci := 12) (kf := 6) (q := 188) hX hc27 flX12_26 rfl dX12_lock_185 rfl ?_
                  refine r_iload_n (i := 1) (x := x1) (q := 189) 1 hX dX12_lock_188 rfl rfl rfl ?_
                  refine r_ck (fun hc47 => ?_)
                  refine r_iald (a := (rR M42 a0 6)) (i := x1) (q := 190) hX hc47 dX12_lock_189 rfl ?_
                  refine r_iast (a := (rR M42 a0 6)) (i := x1) (x := (rI M42 (rR M42 a0 6) (ix x1))) (q := 191) hX hc47 dX12_lock_190 rfl (fun M48 => ?_)
                  refine r_iload (i := 4) (x := v18) (q := 193) 4 hX dX12_lock_191 rfl rfl ?_
                  refine r_lf (hK _) ?_
                  exact r_iret hM rfl (Nat.le_of_ble_eq_true rfl) (Nat.le_of_ble_eq_true rfl) dX12_lock_193
              · refine r_icmp_ne (tgt := 163) (q := 150) hX dX12_lock_147 (by decide) rfl (fun hb35 => ?_) (fun hb35 => ?_)
                · refine r_iload_n (i := 3) (x := x3) (q := 151) 3 hX dX12_lock_150 rfl rfl rfl ?_
                  refine r_iconst (v := (1 : Int32)) (q := 152) hX dX12_lock_151 rfl rfl ?_
                  refine r_icmp_ne (tgt := 159) (q := 155) hX dX12_lock_152 (by decide) rfl (fun hb39 => ?_) (fun hb39 => ?_)
                  · refine r_iconst (v := (1 : Int32)) (q := 156) hX dX12_lock_155 rfl rfl ?_
                    refine r_goto (q := 169) hX dX12_lock_156 (by decide) ?_
                    refine r_l0 ?_
                    exact hj36 (1 : Int32)
                  · refine r_iconst (v := (0 : Int32)) (q := 160) hX dX12_lock_159 rfl rfl ?_
                    refine r_goto (q := 169) hX dX12_lock_160 (by decide) ?_
                    refine r_l0 ?_
                    exact hj36 (0 : Int32)
                · refine r_aload_n (i := 0) (x := a0) (q := 164) 0 hX dX12_lock_163 rfl rfl rfl ?_
                  refine r_getR (a := a0) (ci := 12) (kf := 5) (q := 167) hX hc27 flX12_22 rfl dX12_lock_164 rfl ?_
                  refine r_iload_n (i := 1) (x := x1) (q := 168) 1 hX dX12_lock_167 rfl rfl rfl ?_
                  refine r_ck (fun hc40 => ?_)
                  refine r_zald (a := (rR M34 a0 5)) (i := x1) (q := 169) hX hc40 dX12_lock_168 rfl ?_
                  refine r_l0 ?_
                  exact hj36 (rI M34 (rR M34 a0 5) (ix x1))
            · refine r_if_ne (tgt := 133) (q := 129) hX dX12_lock_126 (by decide) rfl (fun hb28 => ?_) (fun hb28 => ?_)
              · refine r_iload_n (i := 3) (x := x3) (q := 130) 3 hX dX12_lock_129 rfl rfl rfl ?_
                refine r_goto (q := 139) hX dX12_lock_130 (by decide) ?_
                refine r_l0 ?_
                exact hj29 x3
              · refine r_aload_n (i := 0) (x := a0) (q := 134) 0 hX dX12_lock_133 rfl rfl rfl ?_
                refine r_getR (a := a0) (ci := 12) (kf := 4) (q := 137) hX hc27 flX12_19 rfl dX12_lock_134 rfl ?_
                refine r_iload_n (i := 1) (x := x1) (q := 138) 1 hX dX12_lock_137 rfl rfl rfl ?_
                refine r_ck (fun hc32 => ?_)
                refine r_iald (a := (rR M a0 4)) (i := x1) (q := 139) hX hc32 dX12_lock_138 rfl ?_
                refine r_l0 ?_
                exact hj29 (rI M (rR M a0 4) (ix x1))
          · refine r_if_ne (tgt := 90) (q := 81) hX dX12_lock_78 (by decide) rfl (fun hb15 => ?_) (fun hb15 => ?_)
            · refine r_aload_n (i := 0) (x := a0) (q := 82) 0 hX dX12_lock_81 rfl rfl rfl ?_
              refine r_ck (fun hc19 => ?_)
              refine r_getR (a := a0) (ci := 12) (kf := 4) (q := 85) hX hc19 flX12_19 rfl dX12_lock_82 rfl ?_
              refine r_iload_n (i := 1) (x := x1) (q := 86) 1 hX dX12_lock_85 rfl rfl rfl ?_
              refine r_ck (fun hc20 => ?_)
              refine r_iald (a := (rR M a0 4)) (i := x1) (q := 87) hX hc20 dX12_lock_86 rfl ?_
              refine r_goto (q := 118) hX dX12_lock_87 (by decide) ?_
              refine r_l0 ?_
              exact hj16 (rI M (rR M a0 4) (ix x1))
            · refine r_iload_n (i := 2) (x := x2) (q := 91) 2 hX dX12_lock_90 rfl rfl rfl ?_
              refine r_iconst (v := (1 : Int32)) (q := 92) hX dX12_lock_91 rfl rfl ?_
              refine r_icmp_ne (tgt := 112) (q := 95) hX dX12_lock_92 (by decide) rfl (fun hb21 => ?_) (fun hb21 => ?_)
              · refine r_aload_n (i := 0) (x := a0) (q := 96) 0 hX dX12_lock_95 rfl rfl rfl ?_
                refine r_ck (fun hc22 => ?_)
                refine r_getR (a := a0) (ci := 12) (kf := 5) (q := 99) hX hc22 flX12_22 rfl dX12_lock_96 rfl ?_
                refine r_iload_n (i := 1) (x := x1) (q := 100) 1 hX dX12_lock_99 rfl rfl rfl ?_
                refine r_ck (fun hc23 => ?_)
                refine r_zald (a := (rR M a0 5)) (i := x1) (q := 101) hX hc23 dX12_lock_100 rfl ?_
                refine r_if_eq (tgt := 108) (q := 104) hX dX12_lock_101 (by decide) rfl (fun hb24 => ?_) (fun hb24 => ?_)
                · refine r_iconst (v := (0 : Int32)) (q := 109) hX dX12_lock_108 rfl rfl ?_
                  refine r_goto (q := 118) hX dX12_lock_109 (by decide) ?_
                  refine r_l0 ?_
                  exact hj16 (0 : Int32)
                · refine r_iconst (v := (1 : Int32)) (q := 105) hX dX12_lock_104 rfl rfl ?_
                  refine r_goto (q := 118) hX dX12_lock_105 (by decide) ?_
                  refine r_l0 ?_
                  exact hj16 (1 : Int32)
              · refine r_aload_n (i := 0) (x := a0) (q := 113) 0 hX dX12_lock_112 rfl rfl rfl ?_
                refine r_ck (fun hc25 => ?_)
                refine r_getR (a := a0) (ci := 12) (kf := 6) (q := 116) hX hc25 flX12_26 rfl dX12_lock_113 rfl ?_
                refine r_iload_n (i := 1) (x := x1) (q := 117) 1 hX dX12_lock_116 rfl rfl rfl ?_
                refine r_ck (fun hc26 => ?_)
                refine r_iald (a := (rR M a0 6)) (i := x1) (q := 118) hX hc26 dX12_lock_117 rfl ?_
                refine r_l0 ?_
                exact hj16 (rI M (rR M a0 6) (ix x1))
        · refine r_icmp_ge (tgt := 77) (q := 67) hX dX12_lock_64 (by decide) rfl (fun hb9 => ?_) (fun hb9 => ?_)
          · refine r_l0 ?_
            exact hj10 ()
          · refine r_aload_n (i := 0) (x := a0) (q := 68) 0 hX dX12_lock_67 rfl rfl rfl ?_
            refine r_ck (fun hc13 => ?_)
            refine r_getI (a := a0) (ci := 12) (kf := 11) (q := 71) hX hc13 flX12_212 rfl rfl dX12_lock_68 rfl ?_
            refine r_if_le (tgt := 77) (q := 74) hX dX12_lock_71 (by decide) rfl (fun hb14 => ?_) (fun hb14 => ?_)
            · refine r_l0 ?_
              exact hj10 ()
            · refine r_bipush (v := (-103 : Int32)) (q := 76) hX dX12_lock_74 rfl rfl ?_
              refine r_lf ((ho11 _).trans (hK _)) ?_
              exact r_iret hM rfl (Nat.le_of_ble_eq_true rfl) (Nat.le_of_ble_eq_true rfl) dX12_lock_76
      · refine r_if_ne (tgt := 48) (q := 31) hX dX12_lock_28 (by decide) rfl (fun hb3 => ?_) (fun hb3 => ?_)
        · refine r_iload_n (i := 3) (x := x3) (q := 32) 3 hX dX12_lock_31 rfl rfl rfl ?_
          refine r_i2l (q := 33) hX dX12_lock_32 rfl ?_
          refine r_ldc2 (v := (10 : Int64)) (q := 36) hX dX12_lock_33 (gd (hcw7_0 _ (List.mem_of_getElem? (i := 0) rfl)) rfl) rfl ?_
          refine r_ldc2 (v := (200 : Int64)) (q := 39) hX dX12_lock_36 (gd (hcw7_0 _ (List.mem_of_getElem? (i := 1) rfl)) rfl) rfl ?_
          refine r_cs (As := [vj (x3.toInt64), vj (10 : Int64), vj (200 : Int64)]) (st := []) (r := (some (vi (fX12_in (x3.toInt64) (10 : Int64) (200 : Int64))))) (Z1 := Z) (M1 := M) (k1 := 0) (n1 := 0) (st1 := [vi (fX12_in (x3.toInt64) (10 : Int64) (200 : Int64))]) (q := 42) hX (fun l => kX12_in l Z M (x3.toInt64) (10 : Int64) (200 : Int64)) stX12_in ccX12_in (Or.inl lkX12_194) rfl rfl rfl ⟨Nat.le_of_ble_eq_true rfl, Nat.le_of_ble_eq_true rfl, rfl, rfl, Nat.le_of_ble_eq_true rfl, Nat.le_of_ble_eq_true rfl⟩ (Nat.le_of_ble_eq_true rfl) dX12_lock_39 rfl ?_
          refine r_if_ne (tgt := 62) (q := 45) hX dX12_lock_42 (by decide) rfl (fun hb7 => ?_) (fun hb7 => ?_)
          · refine r_goto (q := 59) hX dX12_lock_45 (by decide) ?_
            refine r_bipush (v := (-102 : Int32)) (q := 61) hX dX12_lock_59 rfl rfl ?_
            refine r_lf ((ho5 _).trans (hK _)) ?_
            exact r_iret hM rfl (Nat.le_of_ble_eq_true rfl) (Nat.le_of_ble_eq_true rfl) dX12_lock_61
          · refine r_l0 ?_
            exact hj4 ()
        · refine r_iload_n (i := 3) (x := x3) (q := 49) 3 hX dX12_lock_48 rfl rfl rfl ?_
          refine r_i2l (q := 50) hX dX12_lock_49 rfl ?_
          refine r_lconst (v := (0 : Int64)) (q := 51) hX dX12_lock_50 rfl rfl ?_
          refine r_iload_n (i := 2) (x := x2) (q := 52) 2 hX dX12_lock_51 rfl rfl rfl ?_
          refine r_i2l (q := 53) hX dX12_lock_52 rfl ?_
          refine r_cs (As := [vj (x3.toInt64), vj (0 : Int64), vj (x2.toInt64)]) (st := []) (r := (some (vi (fX12_in (x3.toInt64) (0 : Int64) (x2.toInt64))))) (Z1 := Z) (M1 := M) (k1 := 0) (n1 := 0) (st1 := [vi (fX12_in (x3.toInt64) (0 : Int64) (x2.toInt64))]) (q := 56) hX (fun l => kX12_in l Z M (x3.toInt64) (0 : Int64) (x2.toInt64)) stX12_in ccX12_in (Or.inl lkX12_194) rfl rfl rfl ⟨Nat.le_of_ble_eq_true rfl, Nat.le_of_ble_eq_true rfl, rfl, rfl, Nat.le_of_ble_eq_true rfl, Nat.le_of_ble_eq_true rfl⟩ (Nat.le_of_ble_eq_true rfl) dX12_lock_53 rfl ?_
          refine r_if_ne (tgt := 62) (q := 59) hX dX12_lock_56 (by decide) rfl (fun hb8 => ?_) (fun hb8 => ?_)
          · refine r_bipush (v := (-102 : Int32)) (q := 61) hX dX12_lock_59 rfl rfl ?_
            refine r_lf ((ho5 _).trans (hK _)) ?_
            exact r_iret hM rfl (Nat.le_of_ble_eq_true rfl) (Nat.le_of_ble_eq_true rfl) dX12_lock_61
          · refine r_l0 ?_
            exact hj4 ()
def mX12_lockIs : MD := (yX12_lockIs, cX12_lockIs, 3, (some .int), 1, 25, 0, 0)
theorem ccX12_lockIs : Cc mX12_lockIs 2 := ⟨gd (hcw1_0 _ (List.mem_of_getElem? (i := 10) rfl)) rfl, gd (hcw7_5 _ (List.mem_of_getElem? (i := 16) rfl)) rfl, by decide +kernel, by decide +kernel, by decide +kernel⟩
theorem ivX12_lockIs : Iv mX12_lockIs 12 := ⟨Nat.le_of_ble_eq_true rfl, rfl, gd (hcw7_5 _ (List.mem_of_getElem? (i := 14) rfl)) rfl, gd (hcw7_5 _ (List.mem_of_getElem? (i := 15) rfl)) rfl⟩
noncomputable def fX12_lockIs (Z : Shp) (M : Mem) (a0 : Nat) (x1 : Int32) (x2 : Int32) : Option (Int32) := (if (fX12_in (x1.toInt64) (0 : Int64) (6 : Int64)) = 0 then some (-101 : Int32) else (if tg Z a0 = (13, 86) then (Option.bind (fX12_lockOf Z M a0 x1 x2) (fun v3 => some v3)) else none))
set_option maxRecDepth 20000 in
theorem kX12_lockIs (l : Launch) (Z : Shp) (M : Mem) (a0 : Nat) (x1 : Int32) (x2 : Int32) (r : Int32) (h : fX12_lockIs Z M a0 x1 x2 = some r) : Ct l mX12_lockIs [vr a0, vi x1, vi x2] Z M ((some (vi r)), Z, M) := by
  refine Ct.of rfl (Nat.le_of_ble_eq_true rfl) (fun X hM => ?_)
  have hX := hM.1
  refine r_top (mk := fun r => ((some (vi r)), Z, M)) h (fun K hK => ?_)
  unfold fX12_lockIs
  refine r_iload_n (i := 1) (x := x1) (q := 1) 1 hX dX12_lockIs_0 rfl rfl rfl ?_
  refine r_i2l (q := 2) hX dX12_lockIs_1 rfl ?_
  refine r_lconst (v := (0 : Int64)) (q := 3) hX dX12_lockIs_2 rfl rfl ?_
  refine r_ldc2 (v := (6 : Int64)) (q := 6) hX dX12_lockIs_3 (gd (hcw6_11 _ (List.mem_of_getElem? (i := 15) rfl)) rfl) rfl ?_
  refine r_cs (As := [vj (x1.toInt64), vj (0 : Int64), vj (6 : Int64)]) (st := []) (r := (some (vi (fX12_in (x1.toInt64) (0 : Int64) (6 : Int64))))) (Z1 := Z) (M1 := M) (k1 := 0) (n1 := 0) (st1 := [vi (fX12_in (x1.toInt64) (0 : Int64) (6 : Int64))]) (q := 9) hX (fun l => kX12_in l Z M (x1.toInt64) (0 : Int64) (6 : Int64)) stX12_in ccX12_in (Or.inl lkX12_194) rfl rfl rfl ⟨Nat.le_of_ble_eq_true rfl, Nat.le_of_ble_eq_true rfl, rfl, rfl, Nat.le_of_ble_eq_true rfl, Nat.le_of_ble_eq_true rfl⟩ (Nat.le_of_ble_eq_true rfl) dX12_lockIs_6 rfl ?_
  refine r_if_eq (tgt := 21) (q := 12) hX dX12_lockIs_9 (by decide) rfl (fun hb1 => ?_) (fun hb1 => ?_)
  · refine r_bipush (v := (-101 : Int32)) (q := 23) hX dX12_lockIs_21 rfl rfl ?_
    refine r_lf (hK _) ?_
    exact r_iret hM rfl (Nat.le_of_ble_eq_true rfl) (Nat.le_of_ble_eq_true rfl) dX12_lockIs_23
  · refine r_aload_n (i := 0) (x := a0) (q := 13) 0 hX dX12_lockIs_12 rfl rfl rfl ?_
    refine r_iload_n (i := 1) (x := x1) (q := 14) 1 hX dX12_lockIs_13 rfl rfl rfl ?_
    refine r_iload_n (i := 2) (x := x2) (q := 15) 2 hX dX12_lockIs_14 rfl rfl rfl ?_
    refine r_ck (fun hc2 => ?_)
    refine r_bind (fun v3 h4 => ?_)
    refine r_cv (a := a0) (As := [vi x1, vi x2]) (st := []) (r := (some (vi v3))) (Z1 := Z) (M1 := M) (k1 := 0) (n1 := 0) (st1 := [vi v3]) (q := 18) hX (fun l => kX12_lockOf l Z M a0 x1 x2 v3 h4) hc2 ivX12_lockOf ccX12_lockOf (Or.inl lkX12_310) rfl rfl rfl ⟨Nat.le_of_ble_eq_true rfl, Nat.le_of_ble_eq_true rfl, rfl, rfl, Nat.le_of_ble_eq_true rfl, Nat.le_of_ble_eq_true rfl⟩ (Nat.le_of_ble_eq_true rfl) dX12_lockIs_15 rfl ?_
    refine r_goto (q := 23) hX dX12_lockIs_18 (by decide) ?_
    refine r_lf (hK _) ?_
    exact r_iret hM rfl (Nat.le_of_ble_eq_true rfl) (Nat.le_of_ble_eq_true rfl) dX12_lockIs_23
def mX12_nextOrder : MD := (yX12_nextOrder, cX12_nextOrder, 6, (some .boolean), 0, 0, 0, 0)
theorem ccX12_nextOrder : Cc mX12_nextOrder 0 := ⟨gd (hcw1_0 _ (List.mem_of_getElem? (i := 10) rfl)) rfl, gd (hcw8_0 _ (List.mem_of_getElem? (i := 8) rfl)) rfl, by decide +kernel, by decide +kernel, by decide +kernel⟩
theorem ivX12_nextOrder : Iv mX12_nextOrder 12 := ⟨Nat.le_of_ble_eq_true rfl, rfl, gd (hcw8_0 _ (List.mem_of_getElem? (i := 7) rfl)) rfl, gd (hps5 _ (List.mem_of_getElem? (i := 4) rfl)) rfl⟩
noncomputable def fX12_nextOrder (Z : Shp) (M : Mem) (a0 : Nat) : Option (Int32 × Mem) := (if tg Z a0 = (13, 86) then (pu (((rI M a0 57) - (2 : Int32))) (fun z2 => (Option.bind (loop (fun s6 : Int32 => (if s6 < 0 then some (Sum.inr s6) else (if aok Z (rR M a0 62) 100 s6 then (if aok Z (rR M a0 62) 100 (s6 + (1 : Int32)) then (if (rI M (rR M a0 62) (ix s6)) ≤ (rI M (rR M a0 62) (ix (s6 + (1 : Int32)))) then some (Sum.inr s6) else some (Sum.inl (s6 + (-1 : Int32)))) else none) else none))) z2) (fun v5 : Int32 => (if 0 ≤ v5 then (pu (((rI M a0 57) - (1 : Int32))) (fun z14 => (Option.bind (loop (fun s18 : Int32 => (if aok Z (rR M a0 62) 100 s18 then (if aok Z (rR M a0 62) 100 v5 then (if (rI M (rR M a0 62) (ix v5)) ≤ (rI M (rR M a0 62) (ix s18)) then some (Sum.inr s18) else some (Sum.inl (s18 + (-1 : Int32)))) else none) else none)) z14) (fun v17 : Int32 => (if aok Z (rR M a0 62) 100 v5 then (pu ((rI M (rR M a0 62) (ix v5))) (fun z25 => (if aok Z (rR M a0 62) 100 v17 then (pu (wI M (rR M a0 62) (ix v5) (rI M (rR M a0 62) (ix v17))) (fun M27 => (if aok Z (rR M27 a0 62) 100 v17 then (pu (wI M27 (rR M27 a0 62) (ix v17) z25) (fun M29 => (pu ((v5 + (1 : Int32))) (fun z30 => (pu (((rI M29 a0 57) - (1 : Int32))) (fun z31 => (loop (fun s32 : Int32 × Int32 × Mem => (if s32.2.1 ≤ s32.1 then some (Sum.inr ((1 : Int32), s32.2.2)) else (if aok Z (rR s32.2.2 a0 62) 100 s32.1 then (pu ((rI s32.2.2 (rR s32.2.2 a0 62) (ix s32.1))) (fun z37 => (if aok Z (rR s32.2.2 a0 62) 100 s32.2.1 then (pu (wI s32.2.2 (rR s32.2.2 a0 62) (ix s32.1) (rI s32.2.2 (rR s32.2.2 a0 62) (ix s32.2.1))) (fun M39 => (if aok Z (rR M39 a0 62) 100 s32.2.1 then (pu (wI M39 (rR M39 a0 62) (ix s32.2.1) z37) (fun M41 => some (Sum.inl ((s32.1 + (1 : Int32)), (s32.2.1 + (-1 : Int32)), M41)))) else none))) else none))) else none))) (z30, z31, M29)))))))) else none))) else none))) else none))))) else some ((0 : Int32), M)))))) else none)
set_option maxRecDepth 20000 in
theorem kX12_nextOrder (l : Launch) (Z : Shp) (M : Mem) (a0 : Nat) (r : Int32 × Mem) (h : fX12_nextOrder Z M a0 = some r) : Ct l mX12_nextOrder [vr a0] Z M ((some (vi r.1)), Z, r.2) := by
  refine Ct.of rfl (Nat.le_of_ble_eq_true rfl) (fun X hM => ?_)
  have hX := hM.1
  refine r_top (mk := fun r => ((some (vi r.1)), Z, r.2)) h (fun K hK => ?_)
  unfold fX12_nextOrder
  refine r_aload_n (i := 0) (x := a0) (q := 1) 0 hX dX12_nextOrder_0 rfl rfl rfl ?_
  refine r_ck (fun hc1 => ?_)
  refine r_getI (a := a0) (ci := 12) (kf := 57) (q := 4) hX hc1 flX12_419 rfl rfl dX12_nextOrder_1 rfl ?_
  refine r_iconst (v := (2 : Int32)) (q := 5) hX dX12_nextOrder_4 rfl rfl ?_
  refine r_isub (q := 6) hX dX12_nextOrder_5 rfl ?_
  refine r_istore_nP (x := ((rI M a0 57) - (2 : Int32))) (q := 7) 1 [1, 0] (fun z2 => [(0, vr a0), (1, vi z2)]) hX dX12_nextOrder_6 rfl (Nat.le_of_ble_eq_true rfl) (fun _ => rfl) rfl (fun z2 => ?_)
  refine r_jn (J := fun (v5 : Int32) (P : Option Res) => Ref mX12_nextOrder X 0 0 Z M 34 [(0, vr a0), (1, vi v5)] [] P) (fun v5 => ?_) (fun K1 hj3 => ?_)
  · refine r_iload_n (i := 1) (x := v5) (q := 35) 1 hX dX12_nextOrder_34 rfl rfl rfl ?_
    refine r_if_ge (tgt := 40) (q := 38) hX dX12_nextOrder_35 (by decide) rfl (fun hb13 => ?_) (fun hb13 => ?_)
    · refine r_aload_n (i := 0) (x := a0) (q := 41) 0 hX dX12_nextOrder_40 rfl rfl rfl ?_
      refine r_getI (a := a0) (ci := 12) (kf := 57) (q := 44) hX hc1 flX12_419 rfl rfl dX12_nextOrder_41 rfl ?_
      refine r_iconst (v := (1 : Int32)) (q := 45) hX dX12_nextOrder_44 rfl rfl ?_
      refine r_isub (q := 46) hX dX12_nextOrder_45 rfl ?_
      refine r_istore_nP (x := ((rI M a0 57) - (1 : Int32))) (q := 47) 2 [1, 2, 0] (fun z14 => [(0, vr a0), (1, vi v5), (2, vi z14)]) hX dX12_nextOrder_46 rfl (Nat.le_of_ble_eq_true rfl) (fun _ => rfl) rfl (fun z14 => ?_)
      refine r_jn (J := fun (v17 : Int32) (P : Option Res) => Ref mX12_nextOrder X 0 0 Z M 68 [(0, vr a0), (1, vi v5), (2, vi v17)] [] P) (fun v17 => ?_) (fun K1 hj15 => ?_)
      · refine r_aload_n (i := 0) (x := a0) (q := 69) 0 hX dX12_nextOrder_68 rfl rfl rfl ?_
        refine r_getR (a := a0) (ci := 12) (kf := 62) (q := 72) hX hc1 flX12_134 rfl dX12_nextOrder_69 rfl ?_
        refine r_iload_n (i := 1) (x := v5) (q := 73) 1 hX dX12_nextOrder_72 rfl rfl rfl ?_
        refine r_ck (fun hc24 => ?_)
        refine r_iald (a := (rR M a0 62)) (i := v5) (q := 74) hX hc24 dX12_nextOrder_73 rfl ?_
        refine r_istore_nP (x := (rI M (rR M a0 62) (ix v5))) (q := 75) 3 [1, 2, 3, 0] (fun z25 => [(0, vr a0), (1, vi v5), (2, vi v17), (3, vi z25)]) hX dX12_nextOrder_74 rfl (Nat.le_of_ble_eq_true rfl) (fun _ => rfl) rfl (fun z25 => ?_)
        refine r_aload_n (i := 0) (x := a0) (q := 76) 0 hX dX12_nextOrder_75 rfl rfl rfl ?_
        refine r_getR (a := a0) (ci := 12) (kf := 62) (q := 79) hX hc1 flX12_134 rfl dX12_nextOrder_76 rfl ?_
        refine r_iload_n (i := 1) (x := v5) (q := 80) 1 hX dX12_nextOrder_79 rfl rfl rfl ?_
        refine r_aload_n (i := 0) (x := a0) (q := 81) 0 hX dX12_nextOrder_80 rfl rfl rfl ?_
        refine r_getR (a := a0) (ci := 12) (kf := 62) (q := 84) hX hc1 flX12_134 rfl dX12_nextOrder_81 rfl ?_
        refine r_iload_n (i := 2) (x := v17) (q := 85) 2 hX dX12_nextOrder_84 rfl rfl rfl ?_
        refine r_ck (fun hc26 => ?_)
        refine r_iald (a := (rR M a0 62)) (i := v17) (q := 86) hX hc26 dX12_nextOrder_85 rfl ?_
        refine r_iast (a := (rR M a0 62)) (i := v5) (x := (rI M (rR M a0 62) (ix v17))) (q := 87) hX hc24 dX12_nextOrder_86 rfl (fun M27 => ?_)
        refine r_aload_n (i := 0) (x := a0) (q := 88) 0 hX dX12_nextOrder_87 rfl rfl rfl ?_
        refine r_getR (a := a0) (ci := 12) (kf := 62) (q := 91) hX hc1 flX12_134 rfl dX12_nextOrder_88 rfl ?_
        refine r_iload_n (i := 2) (x := v17) (q := 92) 2 hX dX12_nextOrder_91 rfl rfl rfl ?_
        refine r_iload_n (i := 3) (x := z25) (q := 93) 3 hX dX12_nextOrder_92 rfl rfl rfl ?_
        refine r_ck (fun hc28 => ?_)
        refine r_iast (a := (rR M27 a0 62)) (i := v17) (x := z25) (q := 94) hX hc28 dX12_nextOrder_93 rfl (fun M29 => ?_)
        refine r_iload_n (i := 1) (x := v5) (q := 95) 1 hX dX12_nextOrder_94 rfl rfl rfl ?_
        refine r_iconst (v := (1 : Int32)) (q := 96) hX dX12_nextOrder_95 rfl rfl ?_
        refine r_iadd (q := 97) hX dX12_nextOrder_96 rfl ?_
        refine r_istoreP (x := (v5 + (1 : Int32))) (q := 99) 4 [1, 2, 3, 4, 0] (fun z30 => [(0, vr a0), (1, vi v5), (2, vi v17), (3, vi z25), (4, vi z30)]) hX dX12_nextOrder_97 (Nat.le_of_ble_eq_true rfl) (fun _ => rfl) rfl (fun z30 => ?_)
        refine r_aload_n (i := 0) (x := a0) (q := 100) 0 hX dX12_nextOrder_99 rfl rfl rfl ?_
        refine r_getI (a := a0) (ci := 12) (kf := 57) (q := 103) hX hc1 flX12_419 rfl rfl dX12_nextOrder_100 rfl ?_
        refine r_iconst (v := (1 : Int32)) (q := 104) hX dX12_nextOrder_103 rfl rfl ?_
        refine r_isub (q := 105) hX dX12_nextOrder_104 rfl ?_
        refine r_istoreP (x := ((rI M29 a0 57) - (1 : Int32))) (q := 107) 5 [1, 2, 3, 4, 5, 0] (fun z31 => [(0, vr a0), (1, vi v5), (2, vi v17), (3, vi z25), (4, vi z30), (5, vi z31)]) hX dX12_nextOrder_105 (Nat.le_of_ble_eq_true rfl) (fun _ => rfl) rfl (fun z31 => ?_)
        refine r_sub [0, 4, 5] rfl ?_
        refine r_loop (Hd := fun (s32 : Int32 × Int32 × Mem) (P : Option Res) => Ref mX12_nextOrder X 0 0 Z s32.2.2 107 [(0, vr a0), (4, vi s32.1), (5, vi s32.2.1)] [] P) (fun _ => r_none) (fun s32 K1 hn33 hx34 => ?_) (z30, z31, M29)
        refine r_iload (i := 4) (x := s32.1) (q := 109) 1 hX dX12_nextOrder_107 rfl rfl ?_
        refine r_iload (i := 5) (x := s32.2.1) (q := 111) 2 hX dX12_nextOrder_109 rfl rfl ?_
        refine r_icmp_ge (tgt := 153) (q := 114) hX dX12_nextOrder_111 (by decide) rfl (fun hb35 => ?_) (fun hb35 => ?_)
        · refine r_iconst (v := (1 : Int32)) (q := 154) hX dX12_nextOrder_153 rfl rfl ?_
          refine r_lf ((hx34 _).trans (hK _)) ?_
          exact r_zret hM rfl (Or.inr rfl) (Nat.le_of_ble_eq_true rfl) (Nat.le_of_ble_eq_true rfl) dX12_nextOrder_154
        · refine r_aload_n (i := 0) (x := a0) (q := 115) 0 hX dX12_nextOrder_114 rfl rfl rfl ?_
          refine r_getR (a := a0) (ci := 12) (kf := 62) (q := 118) hX hc1 flX12_134 rfl dX12_nextOrder_115 rfl ?_
          refine r_iload (i := 4) (x := s32.1) (q := 120) 1 hX dX12_nextOrder_118 rfl rfl ?_
          refine r_ck (fun hc36 => ?_)
          refine r_iald (a := (rR s32.2.2 a0 62)) (i := s32.1) (q := 121) hX hc36 dX12_nextOrder_120 rfl ?_
          refine r_istore_nP (x := (rI s32.2.2 (rR s32.2.2 a0 62) (ix s32.1))) (q := 122) 3 [1, 0, 2, 3] (fun z37 => [(0, vr a0), (3, vi z37), (4, vi s32.1), (5, vi s32.2.1)]) hX dX12_nextOrder_121 rfl (Nat.le_of_ble_eq_true rfl) (fun _ => rfl) rfl (fun z37 => ?_)
          refine r_aload_n (i := 0) (x := a0) (q := 123) 0 hX dX12_nextOrder_122 rfl rfl rfl ?_
          refine r_getR (a := a0) (ci := 12) (kf := 62) (q := 126) hX hc1 flX12_134 rfl dX12_nextOrder_123 rfl ?_
          refine r_iload (i := 4) (x := s32.1) (q := 128) 2 hX dX12_nextOrder_126 rfl rfl ?_
          refine r_aload_n (i := 0) (x := a0) (q := 129) 0 hX dX12_nextOrder_128 rfl rfl rfl ?_
          refine r_getR (a := a0) (ci := 12) (kf := 62) (q := 132) hX hc1 flX12_134 rfl dX12_nextOrder_129 rfl ?_
          refine r_iload (i := 5) (x := s32.2.1) (q := 134) 3 hX dX12_nextOrder_132 rfl rfl ?_
          refine r_ck (fun hc38 => ?_)
          refine r_iald (a := (rR s32.2.2 a0 62)) (i := s32.2.1) (q := 135) hX hc38 dX12_nextOrder_134 rfl ?_
          refine r_iast (a := (rR s32.2.2 a0 62)) (i := s32.1) (x := (rI s32.2.2 (rR s32.2.2 a0 62) (ix s32.2.1))) (q := 136) hX hc36 dX12_nextOrder_135 rfl (fun M39 => ?_)
          refine r_aload_n (i := 0) (x := a0) (q := 137) 0 hX dX12_nextOrder_136 rfl rfl rfl ?_
          refine r_getR (a := a0) (ci := 12) (kf := 62) (q := 140) hX hc1 flX12_134 rfl dX12_nextOrder_137 rfl ?_
          refine r_iload (i := 5) (x := s32.2.1) (q := 142) 3 hX dX12_nextOrder_140 rfl rfl ?_
          refine r_iload_n (i := 3) (x := z37) (q := 143) 1 hX dX12_nextOrder_142 rfl rfl rfl ?_
          refine r_ck (fun hc40 => ?_)
          refine r_iast (a := (rR M39 a0 62)) (i := s32.2.1) (x := z37) (q := 144) hX hc40 dX12_nextOrder_143 rfl (fun M41 => ?_)
          refine r_iinc (x := s32.1) (v := (s32.1 + (1 : Int32))) (q := 147) 4 2 [1, 2, 0, 4] (L1 := [(0, vr a0), (3, vi z37), (4, vi (s32.1 + (1 : Int32))), (5, vi s32.2.1)]) hX dX12_nextOrder_144 rfl rfl (Nat.le_of_ble_eq_true rfl) rfl rfl ?_
          refine r_iinc (x := s32.2.1) (v := (s32.2.1 + (-1 : Int32))) (q := 150) 5 3 [1, 2, 3, 0] (L1 := [(0, vr a0), (3, vi z37), (4, vi (s32.1 + (1 : Int32))), (5, vi (s32.2.1 + (-1 : Int32)))]) hX dX12_nextOrder_147 rfl rfl (Nat.le_of_ble_eq_true rfl) rfl rfl ?_
          refine r_goto (q := 107) hX dX12_nextOrder_150 (by decide) ?_
          refine r_l0 ?_
          refine r_sub [0, 2, 3] rfl ?_
          exact hn33 ((s32.1 + (1 : Int32)), (s32.2.1 + (-1 : Int32)), M41)
      · refine r_loop (Hd := fun (s18 : Int32) (P : Option Res) => Ref mX12_nextOrder X 0 0 Z M 47 [(0, vr a0), (1, vi v5), (2, vi s18)] [] P) (fun _ => r_none) (fun s18 K1 hn19 hx20 => ?_) z14
        refine r_aload_n (i := 0) (x := a0) (q := 48) 0 hX dX12_nextOrder_47 rfl rfl rfl ?_
        refine r_getR (a := a0) (ci := 12) (kf := 62) (q := 51) hX hc1 flX12_134 rfl dX12_nextOrder_48 rfl ?_
        refine r_iload_n (i := 2) (x := s18) (q := 52) 2 hX dX12_nextOrder_51 rfl rfl rfl ?_
        refine r_ck (fun hc21 => ?_)
        refine r_iald (a := (rR M a0 62)) (i := s18) (q := 53) hX hc21 dX12_nextOrder_52 rfl ?_
        refine r_aload_n (i := 0) (x := a0) (q := 54) 0 hX dX12_nextOrder_53 rfl rfl rfl ?_
        refine r_getR (a := a0) (ci := 12) (kf := 62) (q := 57) hX hc1 flX12_134 rfl dX12_nextOrder_54 rfl ?_
        refine r_iload_n (i := 1) (x := v5) (q := 58) 1 hX dX12_nextOrder_57 rfl rfl rfl ?_
        refine r_ck (fun hc22 => ?_)
        refine r_iald (a := (rR M a0 62)) (i := v5) (q := 59) hX hc22 dX12_nextOrder_58 rfl ?_
        refine r_icmp_ge (tgt := 68) (q := 62) hX dX12_nextOrder_59 (by decide) rfl (fun hb23 => ?_) (fun hb23 => ?_)
        · refine r_lf (hx20 _) ?_
          exact hj15 s18
        · refine r_iinc (x := s18) (v := (s18 + (-1 : Int32))) (q := 65) 2 2 [1, 2, 0] (L1 := [(0, vr a0), (1, vi v5), (2, vi (s18 + (-1 : Int32)))]) hX dX12_nextOrder_62 rfl rfl (Nat.le_of_ble_eq_true rfl) rfl rfl ?_
          refine r_goto (q := 47) hX dX12_nextOrder_65 (by decide) ?_
          refine r_l0 ?_
          exact hn19 (s18 + (-1 : Int32))
    · refine r_iconst (v := (0 : Int32)) (q := 39) hX dX12_nextOrder_38 rfl rfl ?_
      refine r_lf (hK _) ?_
      exact r_zret hM rfl (Or.inl rfl) (Nat.le_of_ble_eq_true rfl) (Nat.le_of_ble_eq_true rfl) dX12_nextOrder_39
  · refine r_loop (Hd := fun (s6 : Int32) (P : Option Res) => Ref mX12_nextOrder X 0 0 Z M 7 [(0, vr a0), (1, vi s6)] [] P) (fun _ => r_none) (fun s6 K1 hn7 hx8 => ?_) z2
    refine r_iload_n (i := 1) (x := s6) (q := 8) 1 hX dX12_nextOrder_7 rfl rfl rfl ?_
    refine r_if_lt (tgt := 34) (q := 11) hX dX12_nextOrder_8 (by decide) rfl (fun hb9 => ?_) (fun hb9 => ?_)
    · refine r_lf (hx8 _) ?_
      exact hj3 s6
    · refine r_aload_n (i := 0) (x := a0) (q := 12) 0 hX dX12_nextOrder_11 rfl rfl rfl ?_
      refine r_getR (a := a0) (ci := 12) (kf := 62) (q := 15) hX hc1 flX12_134 rfl dX12_nextOrder_12 rfl ?_
      refine r_iload_n (i := 1) (x := s6) (q := 16) 1 hX dX12_nextOrder_15 rfl rfl rfl ?_
      refine r_ck (fun hc10 => ?_)
      refine r_iald (a := (rR M a0 62)) (i := s6) (q := 17) hX hc10 dX12_nextOrder_16 rfl ?_
      refine r_aload_n (i := 0) (x := a0) (q := 18) 0 hX dX12_nextOrder_17 rfl rfl rfl ?_
      refine r_getR (a := a0) (ci := 12) (kf := 62) (q := 21) hX hc1 flX12_134 rfl dX12_nextOrder_18 rfl ?_
      refine r_iload_n (i := 1) (x := s6) (q := 22) 1 hX dX12_nextOrder_21 rfl rfl rfl ?_
      refine r_iconst (v := (1 : Int32)) (q := 23) hX dX12_nextOrder_22 rfl rfl ?_
      refine r_iadd (q := 24) hX dX12_nextOrder_23 rfl ?_
      refine r_ck (fun hc11 => ?_)
      refine r_iald (a := (rR M a0 62)) (i := (s6 + (1 : Int32))) (q := 25) hX hc11 dX12_nextOrder_24 rfl ?_
      refine r_icmp_le (tgt := 34) (q := 28) hX dX12_nextOrder_25 (by decide) rfl (fun hb12 => ?_) (fun hb12 => ?_)
      · refine r_lf (hx8 _) ?_
        exact hj3 s6
      · refine r_iinc (x := s6) (v := (s6 + (-1 : Int32))) (q := 31) 1 1 [1, 0] (L1 := [(0, vr a0), (1, vi (s6 + (-1 : Int32)))]) hX dX12_nextOrder_28 rfl rfl (Nat.le_of_ble_eq_true rfl) rfl rfl ?_
        refine r_goto (q := 7) hX dX12_nextOrder_31 (by decide) ?_
        refine r_l0 ?_
        exact hn7 (s6 + (-1 : Int32))
def mX12_now : MD := (yX12_now, cX12_now, 3, (some .int), 2, 45, 0, 0)
theorem ccX12_now : Cc mX12_now 2 := ⟨gd (hcw1_0 _ (List.mem_of_getElem? (i := 10) rfl)) rfl, gd (hcw7_0 _ (List.mem_of_getElem? (i := 5) rfl)) rfl, by decide +kernel, by decide +kernel, by decide +kernel⟩
theorem ivX12_now : Iv mX12_now 12 := ⟨Nat.le_of_ble_eq_true rfl, rfl, gd (hcw7_0 _ (List.mem_of_getElem? (i := 3) rfl)) rfl, gd (hcw7_0 _ (List.mem_of_getElem? (i := 4) rfl)) rfl⟩
noncomputable def fX12_now (Z : Shp) (M : Mem) (a0 : Nat) (x1 : Int32) (x2 : Int32) : Option (Int32) := (if (fX12_isPound x1) = 0 then some (-101 : Int32) else (if (fX12_in (x2.toInt64) (0 : Int64) (2 : Int64)) = 0 then some (-102 : Int32) else (if tg Z a0 = (13, 86) then (Option.bind (fX12_nowOf Z M a0 x1 x2) (fun v4 => some v4)) else none)))
set_option maxRecDepth 20000 in
theorem kX12_now (l : Launch) (Z : Shp) (M : Mem) (a0 : Nat) (x1 : Int32) (x2 : Int32) (r : Int32) (h : fX12_now Z M a0 x1 x2 = some r) : Ct l mX12_now [vr a0, vi x1, vi x2] Z M ((some (vi r)), Z, M) := by
  refine Ct.of rfl (Nat.le_of_ble_eq_true rfl) (fun X hM => ?_)
  have hX := hM.1
  refine r_top (mk := fun r => ((some (vi r)), Z, M)) h (fun K hK => ?_)
  unfold fX12_now
  refine r_iload_n (i := 1) (x := x1) (q := 1) 1 hX dX12_now_0 rfl rfl rfl ?_
  refine r_cs (As := [vi x1]) (st := []) (r := (some (vi (fX12_isPound x1)))) (Z1 := Z) (M1 := M) (k1 := 0) (n1 := 0) (st1 := [vi (fX12_isPound x1)]) (q := 4) hX (fun l => kX12_isPound l Z M x1) stX12_isPound ccX12_isPound (Or.inl lkX12_198) rfl rfl rfl ⟨Nat.le_of_ble_eq_true rfl, Nat.le_of_ble_eq_true rfl, rfl, rfl, Nat.le_of_ble_eq_true rfl, Nat.le_of_ble_eq_true rfl⟩ (Nat.le_of_ble_eq_true rfl) dX12_now_1 rfl ?_
  refine r_if_ne (tgt := 10) (q := 7) hX dX12_now_4 (by decide) rfl (fun hb1 => ?_) (fun hb1 => ?_)
  · refine r_bipush (v := (-101 : Int32)) (q := 9) hX dX12_now_7 rfl rfl ?_
    refine r_lf (hK _) ?_
    exact r_iret hM rfl (Nat.le_of_ble_eq_true rfl) (Nat.le_of_ble_eq_true rfl) dX12_now_9
  · refine r_iload_n (i := 2) (x := x2) (q := 11) 2 hX dX12_now_10 rfl rfl rfl ?_
    refine r_i2l (q := 12) hX dX12_now_11 rfl ?_
    refine r_lconst (v := (0 : Int64)) (q := 13) hX dX12_now_12 rfl rfl ?_
    refine r_ldc2 (v := (2 : Int64)) (q := 16) hX dX12_now_13 (gd (hcw6_11 _ (List.mem_of_getElem? (i := 5) rfl)) rfl) rfl ?_
    refine r_cs (As := [vj (x2.toInt64), vj (0 : Int64), vj (2 : Int64)]) (st := []) (r := (some (vi (fX12_in (x2.toInt64) (0 : Int64) (2 : Int64))))) (Z1 := Z) (M1 := M) (k1 := 0) (n1 := 0) (st1 := [vi (fX12_in (x2.toInt64) (0 : Int64) (2 : Int64))]) (q := 19) hX (fun l => kX12_in l Z M (x2.toInt64) (0 : Int64) (2 : Int64)) stX12_in ccX12_in (Or.inl lkX12_194) rfl rfl rfl ⟨Nat.le_of_ble_eq_true rfl, Nat.le_of_ble_eq_true rfl, rfl, rfl, Nat.le_of_ble_eq_true rfl, Nat.le_of_ble_eq_true rfl⟩ (Nat.le_of_ble_eq_true rfl) dX12_now_16 rfl ?_
    refine r_if_eq (tgt := 31) (q := 22) hX dX12_now_19 (by decide) rfl (fun hb2 => ?_) (fun hb2 => ?_)
    · refine r_bipush (v := (-102 : Int32)) (q := 33) hX dX12_now_31 rfl rfl ?_
      refine r_lf (hK _) ?_
      exact r_iret hM rfl (Nat.le_of_ble_eq_true rfl) (Nat.le_of_ble_eq_true rfl) dX12_now_33
    · refine r_aload_n (i := 0) (x := a0) (q := 23) 0 hX dX12_now_22 rfl rfl rfl ?_
      refine r_iload_n (i := 1) (x := x1) (q := 24) 1 hX dX12_now_23 rfl rfl rfl ?_
      refine r_iload_n (i := 2) (x := x2) (q := 25) 2 hX dX12_now_24 rfl rfl rfl ?_
      refine r_ck (fun hc3 => ?_)
      refine r_bind (fun v4 h5 => ?_)
      refine r_cv (a := a0) (As := [vi x1, vi x2]) (st := []) (r := (some (vi v4))) (Z1 := Z) (M1 := M) (k1 := 0) (n1 := 0) (st1 := [vi v4]) (q := 28) hX (fun l => kX12_nowOf l Z M a0 x1 x2 v4 h5) hc3 ivX12_nowOf ccX12_nowOf (Or.inl lkX12_206) rfl rfl rfl ⟨Nat.le_of_ble_eq_true rfl, Nat.le_of_ble_eq_true rfl, rfl, rfl, Nat.le_of_ble_eq_true rfl, Nat.le_of_ble_eq_true rfl⟩ (Nat.le_of_ble_eq_true rfl) dX12_now_25 rfl ?_
      refine r_goto (q := 33) hX dX12_now_28 (by decide) ?_
      refine r_lf (hK _) ?_
      exact r_iret hM rfl (Nat.le_of_ble_eq_true rfl) (Nat.le_of_ble_eq_true rfl) dX12_now_33
def mX12_over : MD := (yX12_over, cX12_over, 4, (some .int), 2, 45, 0, 0)
theorem ccX12_over : Cc mX12_over 1 := ⟨gd (hcw1_0 _ (List.mem_of_getElem? (i := 10) rfl)) rfl, gd (hcw8_4 _ (List.mem_of_getElem? (i := 17) rfl)) rfl, by decide +kernel, by decide +kernel, by decide +kernel⟩
theorem ivX12_over : Iv mX12_over 12 := ⟨Nat.le_of_ble_eq_true rfl, rfl, gd (hcw8_4 _ (List.mem_of_getElem? (i := 15) rfl)) rfl, gd (hcw8_4 _ (List.mem_of_getElem? (i := 16) rfl)) rfl⟩
noncomputable def fX12_over (Z : Shp) (M : Mem) (a0 : Nat) (x1 : Int32) : Option (Int32) := (if (fX12_isDay x1) = 0 then some (-102 : Int32) else (loop (fun s2 : Int32 × Int32 => (if tg Z a0 = (13, 86) then (if (rI M a0 21) ≤ s2.2 then some (Sum.inr s2.1) else (Option.bind (fX12_goesOver Z M a0 s2.2 x1) (fun v7 => (if v7 = 0 then (pu ((s2.1 ||| (0 : Int32))) (fun z10 => some (Sum.inl (z10, (s2.2 + (1 : Int32)))))) else (pu ((s2.1 ||| ((1 : Int32) <<< (s2.2 &&& 31)))) (fun z11 => some (Sum.inl (z11, (s2.2 + (1 : Int32)))))))))) else none)) ((0 : Int32), (0 : Int32))))
set_option maxRecDepth 20000 in
theorem kX12_over (l : Launch) (Z : Shp) (M : Mem) (a0 : Nat) (x1 : Int32) (r : Int32) (h : fX12_over Z M a0 x1 = some r) : Ct l mX12_over [vr a0, vi x1] Z M ((some (vi r)), Z, M) := by
  refine Ct.of rfl (Nat.le_of_ble_eq_true rfl) (fun X hM => ?_)
  have hX := hM.1
  refine r_top (mk := fun r => ((some (vi r)), Z, M)) h (fun K hK => ?_)
  unfold fX12_over
  refine r_iload_n (i := 1) (x := x1) (q := 1) 1 hX dX12_over_0 rfl rfl rfl ?_
  refine r_cs (As := [vi x1]) (st := []) (r := (some (vi (fX12_isDay x1)))) (Z1 := Z) (M1 := M) (k1 := 0) (n1 := 0) (st1 := [vi (fX12_isDay x1)]) (q := 4) hX (fun l => kX12_isDay l Z M x1) stX12_isDay ccX12_isDay (Or.inl lkX12_393) rfl rfl rfl ⟨Nat.le_of_ble_eq_true rfl, Nat.le_of_ble_eq_true rfl, rfl, rfl, Nat.le_of_ble_eq_true rfl, Nat.le_of_ble_eq_true rfl⟩ (Nat.le_of_ble_eq_true rfl) dX12_over_1 rfl ?_
  refine r_if_ne (tgt := 10) (q := 7) hX dX12_over_4 (by decide) rfl (fun hb1 => ?_) (fun hb1 => ?_)
  · refine r_bipush (v := (-102 : Int32)) (q := 9) hX dX12_over_7 rfl rfl ?_
    refine r_lf (hK _) ?_
    exact r_iret hM rfl (Nat.le_of_ble_eq_true rfl) (Nat.le_of_ble_eq_true rfl) dX12_over_9
  · refine r_iconst (v := (0 : Int32)) (q := 11) hX dX12_over_10 rfl rfl ?_
    refine r_istore_n (x := (0 : Int32)) (q := 12) 2 [1, 2, 0] (L1 := [(0, vr a0), (1, vi x1), (2, vi (0 : Int32))]) hX dX12_over_11 rfl (Nat.le_of_ble_eq_true rfl) rfl rfl ?_
    refine r_iconst (v := (0 : Int32)) (q := 13) hX dX12_over_12 rfl rfl ?_
    refine r_istore_n (x := (0 : Int32)) (q := 14) 3 [1, 2, 3, 0] (L1 := [(0, vr a0), (1, vi x1), (2, vi (0 : Int32)), (3, vi (0 : Int32))]) hX dX12_over_13 rfl (Nat.le_of_ble_eq_true rfl) rfl rfl ?_
    refine r_loop (Hd := fun (s2 : Int32 × Int32) (P : Option Res) => Ref mX12_over X 0 0 Z M 14 [(0, vr a0), (1, vi x1), (2, vi s2.1), (3, vi s2.2)] [] P) (fun _ => r_none) (fun s2 K1 hn3 hx4 => ?_) ((0 : Int32), (0 : Int32))
    refine r_iload_n (i := 3) (x := s2.2) (q := 15) 3 hX dX12_over_14 rfl rfl rfl ?_
    refine r_aload_n (i := 0) (x := a0) (q := 16) 0 hX dX12_over_15 rfl rfl rfl ?_
    refine r_ck (fun hc5 => ?_)
    refine r_getI (a := a0) (ci := 12) (kf := 21) (q := 19) hX hc5 flX12_215 rfl rfl dX12_over_16 rfl ?_
    refine r_icmp_ge (tgt := 47) (q := 22) hX dX12_over_19 (by decide) rfl (fun hb6 => ?_) (fun hb6 => ?_)
    · refine r_iload_n (i := 2) (x := s2.1) (q := 48) 2 hX dX12_over_47 rfl rfl rfl ?_
      refine r_lf ((hx4 _).trans (hK _)) ?_
      exact r_iret hM rfl (Nat.le_of_ble_eq_true rfl) (Nat.le_of_ble_eq_true rfl) dX12_over_48
    · refine r_iload_n (i := 2) (x := s2.1) (q := 23) 2 hX dX12_over_22 rfl rfl rfl ?_
      refine r_aload_n (i := 0) (x := a0) (q := 24) 0 hX dX12_over_23 rfl rfl rfl ?_
      refine r_iload_n (i := 3) (x := s2.2) (q := 25) 3 hX dX12_over_24 rfl rfl rfl ?_
      refine r_iload_n (i := 1) (x := x1) (q := 26) 1 hX dX12_over_25 rfl rfl rfl ?_
      refine r_bind (fun v7 h8 => ?_)
      refine r_cv (a := a0) (As := [vi s2.2, vi x1]) (st := [vi s2.1]) (r := (some (vi v7))) (Z1 := Z) (M1 := M) (k1 := 0) (n1 := 0) (st1 := [vi v7, vi s2.1]) (q := 29) hX (fun l => kX12_goesOver l Z M a0 s2.2 x1 v7 h8) hc5 ivX12_goesOver ccX12_goesOver (Or.inl lkX12_469) rfl rfl rfl ⟨Nat.le_of_ble_eq_true rfl, Nat.le_of_ble_eq_true rfl, rfl, rfl, Nat.le_of_ble_eq_true rfl, Nat.le_of_ble_eq_true rfl⟩ (Nat.le_of_ble_eq_true rfl) dX12_over_26 rfl ?_
      refine r_if_eq (tgt := 38) (q := 32) hX dX12_over_29 (by decide) rfl (fun hb9 => ?_) (fun hb9 => ?_)
      · refine r_iconst (v := (0 : Int32)) (q := 39) hX dX12_over_38 rfl rfl ?_
        refine r_ior (q := 40) hX dX12_over_39 rfl ?_
        refine r_istore_nP (x := (s2.1 ||| (0 : Int32))) (q := 41) 2 [1, 2, 0, 4] (fun z10 => [(0, vr a0), (1, vi x1), (2, vi z10), (3, vi s2.2)]) hX dX12_over_40 rfl (Nat.le_of_ble_eq_true rfl) (fun _ => rfl) rfl (fun z10 => ?_)
        refine r_iinc (x := s2.2) (v := (s2.2 + (1 : Int32))) (q := 44) 3 3 [1, 2, 3, 0] (L1 := [(0, vr a0), (1, vi x1), (2, vi z10), (3, vi (s2.2 + (1 : Int32)))]) hX dX12_over_41 rfl rfl (Nat.le_of_ble_eq_true rfl) rfl rfl ?_
        refine r_goto (q := 14) hX dX12_over_44 (by decide) ?_
        refine r_l0 ?_
        exact hn3 (z10, (s2.2 + (1 : Int32)))
      · refine r_iconst (v := (1 : Int32)) (q := 33) hX dX12_over_32 rfl rfl ?_
        refine r_iload_n (i := 3) (x := s2.2) (q := 34) 3 hX dX12_over_33 rfl rfl rfl ?_
        refine r_ishl (q := 35) hX dX12_over_34 rfl ?_
        refine r_goto (q := 39) hX dX12_over_35 (by decide) ?_
        refine r_ior (q := 40) hX dX12_over_39 rfl ?_
        refine r_istore_nP (x := (s2.1 ||| ((1 : Int32) <<< (s2.2 &&& 31)))) (q := 41) 2 [1, 2, 0, 4] (fun z11 => [(0, vr a0), (1, vi x1), (2, vi z11), (3, vi s2.2)]) hX dX12_over_40 rfl (Nat.le_of_ble_eq_true rfl) (fun _ => rfl) rfl (fun z11 => ?_)
        refine r_iinc (x := s2.2) (v := (s2.2 + (1 : Int32))) (q := 44) 3 3 [1, 2, 3, 0] (L1 := [(0, vr a0), (1, vi x1), (2, vi z11), (3, vi (s2.2 + (1 : Int32)))]) hX dX12_over_41 rfl rfl (Nat.le_of_ble_eq_true rfl) rfl rfl ?_
        refine r_goto (q := 14) hX dX12_over_44 (by decide) ?_
        refine r_l0 ?_
        exact hn3 (z11, (s2.2 + (1 : Int32)))
def mX12_pass : MD := (yX12_pass, cX12_pass, 5, (some .int), 2, 45, 0, 0)
theorem ccX12_pass : Cc mX12_pass 4 := ⟨gd (hcw1_0 _ (List.mem_of_getElem? (i := 10) rfl)) rfl, gd (hcw8_3 _ (List.mem_of_getElem? (i := 17) rfl)) rfl, by decide +kernel, by decide +kernel, by decide +kernel⟩
theorem ivX12_pass : Iv mX12_pass 12 := ⟨Nat.le_of_ble_eq_true rfl, rfl, gd (hcw8_3 _ (List.mem_of_getElem? (i := 15) rfl)) rfl, gd (hcw8_3 _ (List.mem_of_getElem? (i := 16) rfl)) rfl⟩
noncomputable def fX12_pass (Z : Shp) (M : Mem) (a0 : Nat) (x1 : Int32) (x2 : Int32) (x3 : Int32) (x4 : Int32) : Option (Int32 × Mem) := (if (fX12_isHolder x1) = 0 then some ((-101 : Int32), M) else (if (fX12_isHolder x2) = 0 then some ((-101 : Int32), M) else (if x1 = x2 then some ((-101 : Int32), M) else (if (fX12_in (x3.toInt64) (1 : Int64) (999 : Int64)) = 0 then some ((-102 : Int32), M) else (if tg Z a0 = (13, 86) then (Option.bind (if (rI M a0 75) ≤ 0 then some (0 : Int64) else (if aok Z (rR M a0 79) 100 ((rI M a0 75) - (1 : Int32)) then some ((rI M (rR M a0 79) (ix ((rI M a0 75) - (1 : Int32)))).toInt64) else none)) (fun v9 : Int64 => (if (fX12_in (x4.toInt64) v9 (99 : Int64)) = 0 then some ((-102 : Int32), M) else (Option.bind (fX12_hadOf Z M a0 x1 (99 : Int32)) (fun v12 => (if x3 ≤ v12 then (if (rI M a0 75) = (24 : Int32) then some ((-104 : Int32), M) else (if aok Z (rR M a0 76) 100 (rI M a0 75) then (pu (wI M (rR M a0 76) (ix (rI M a0 75)) x1) (fun M17 => (if aok Z (rR M17 a0 77) 100 (rI M17 a0 75) then (pu (wI M17 (rR M17 a0 77) (ix (rI M17 a0 75)) x2) (fun M19 => (if aok Z (rR M19 a0 78) 100 (rI M19 a0 75) then (pu (wI M19 (rR M19 a0 78) (ix (rI M19 a0 75)) x3) (fun M21 => (if aok Z (rR M21 a0 79) 100 (rI M21 a0 75) then (pu (wI M21 (rR M21 a0 79) (ix (rI M21 a0 75)) x4) (fun M23 => (pu (wI M23 a0 75 ((rI M23 a0 75) + (1 : Int32))) (fun M24 => some ((rI M24 a0 75), M24))))) else none))) else none))) else none))) else none)) else some ((-103 : Int32), M))))))) else none)))))
set_option maxRecDepth 20000 in
theorem kX12_pass (l : Launch) (Z : Shp) (M : Mem) (a0 : Nat) (x1 : Int32) (x2 : Int32) (x3 : Int32) (x4 : Int32) (r : Int32 × Mem) (h : fX12_pass Z M a0 x1 x2 x3 x4 = some r) : Ct l mX12_pass [vr a0, vi x1, vi x2, vi x3, vi x4] Z M ((some (vi r.1)), Z, r.2) := by
  refine Ct.of rfl (Nat.le_of_ble_eq_true rfl) (fun X hM => ?_)
  have hX := hM.1
  refine r_top (mk := fun r => ((some (vi r.1)), Z, r.2)) h (fun K hK => ?_)
  unfold fX12_pass
  refine r_iload_n (i := 1) (x := x1) (q := 1) 1 hX dX12_pass_0 rfl rfl rfl ?_
  refine r_cs (As := [vi x1]) (st := []) (r := (some (vi (fX12_isHolder x1)))) (Z1 := Z) (M1 := M) (k1 := 0) (n1 := 0) (st1 := [vi (fX12_isHolder x1)]) (q := 4) hX (fun l => kX12_isHolder l Z M x1) stX12_isHolder ccX12_isHolder (Or.inl lkX12_460) rfl rfl rfl ⟨Nat.le_of_ble_eq_true rfl, Nat.le_of_ble_eq_true rfl, rfl, rfl, Nat.le_of_ble_eq_true rfl, Nat.le_of_ble_eq_true rfl⟩ (Nat.le_of_ble_eq_true rfl) dX12_pass_1 rfl ?_
  refine r_if_eq (tgt := 19) (q := 7) hX dX12_pass_4 (by decide) rfl (fun hb1 => ?_) (fun hb1 => ?_)
  · refine r_bipush (v := (-101 : Int32)) (q := 21) hX dX12_pass_19 rfl rfl ?_
    refine r_lf (hK _) ?_
    exact r_iret hM rfl (Nat.le_of_ble_eq_true rfl) (Nat.le_of_ble_eq_true rfl) dX12_pass_21
  · refine r_iload_n (i := 2) (x := x2) (q := 8) 2 hX dX12_pass_7 rfl rfl rfl ?_
    refine r_cs (As := [vi x2]) (st := []) (r := (some (vi (fX12_isHolder x2)))) (Z1 := Z) (M1 := M) (k1 := 0) (n1 := 0) (st1 := [vi (fX12_isHolder x2)]) (q := 11) hX (fun l => kX12_isHolder l Z M x2) stX12_isHolder ccX12_isHolder (Or.inl lkX12_460) rfl rfl rfl ⟨Nat.le_of_ble_eq_true rfl, Nat.le_of_ble_eq_true rfl, rfl, rfl, Nat.le_of_ble_eq_true rfl, Nat.le_of_ble_eq_true rfl⟩ (Nat.le_of_ble_eq_true rfl) dX12_pass_8 rfl ?_
    refine r_if_eq (tgt := 19) (q := 14) hX dX12_pass_11 (by decide) rfl (fun hb2 => ?_) (fun hb2 => ?_)
    · refine r_bipush (v := (-101 : Int32)) (q := 21) hX dX12_pass_19 rfl rfl ?_
      refine r_lf (hK _) ?_
      exact r_iret hM rfl (Nat.le_of_ble_eq_true rfl) (Nat.le_of_ble_eq_true rfl) dX12_pass_21
    · refine r_iload_n (i := 1) (x := x1) (q := 15) 1 hX dX12_pass_14 rfl rfl rfl ?_
      refine r_iload_n (i := 2) (x := x2) (q := 16) 2 hX dX12_pass_15 rfl rfl rfl ?_
      refine r_icmp_ne (tgt := 22) (q := 19) hX dX12_pass_16 (by decide) rfl (fun hb3 => ?_) (fun hb3 => ?_)
      · refine r_bipush (v := (-101 : Int32)) (q := 21) hX dX12_pass_19 rfl rfl ?_
        refine r_lf (hK _) ?_
        exact r_iret hM rfl (Nat.le_of_ble_eq_true rfl) (Nat.le_of_ble_eq_true rfl) dX12_pass_21
      · refine r_iload_n (i := 3) (x := x3) (q := 23) 3 hX dX12_pass_22 rfl rfl rfl ?_
        refine r_i2l (q := 24) hX dX12_pass_23 rfl ?_
        refine r_lconst (v := (1 : Int64)) (q := 25) hX dX12_pass_24 rfl rfl ?_
        refine r_ldc2 (v := (999 : Int64)) (q := 28) hX dX12_pass_25 (gd (hcw8_1 _ (List.mem_of_getElem? (i := 1) rfl)) rfl) rfl ?_
        refine r_cs (As := [vj (x3.toInt64), vj (1 : Int64), vj (999 : Int64)]) (st := []) (r := (some (vi (fX12_in (x3.toInt64) (1 : Int64) (999 : Int64))))) (Z1 := Z) (M1 := M) (k1 := 0) (n1 := 0) (st1 := [vi (fX12_in (x3.toInt64) (1 : Int64) (999 : Int64))]) (q := 31) hX (fun l => kX12_in l Z M (x3.toInt64) (1 : Int64) (999 : Int64)) stX12_in ccX12_in (Or.inl lkX12_194) rfl rfl rfl ⟨Nat.le_of_ble_eq_true rfl, Nat.le_of_ble_eq_true rfl, rfl, rfl, Nat.le_of_ble_eq_true rfl, Nat.le_of_ble_eq_true rfl⟩ (Nat.le_of_ble_eq_true rfl) dX12_pass_28 rfl ?_
        refine r_if_eq (tgt := 69) (q := 34) hX dX12_pass_31 (by decide) rfl (fun hb4 => ?_) (fun hb4 => ?_)
        · refine r_bipush (v := (-102 : Int32)) (q := 71) hX dX12_pass_69 rfl rfl ?_
          refine r_lf (hK _) ?_
          exact r_iret hM rfl (Nat.le_of_ble_eq_true rfl) (Nat.le_of_ble_eq_true rfl) dX12_pass_71
        · refine r_iload (i := 4) (x := x4) (q := 36) 4 hX dX12_pass_34 rfl rfl ?_
          refine r_i2l (q := 37) hX dX12_pass_36 rfl ?_
          refine r_aload_n (i := 0) (x := a0) (q := 38) 0 hX dX12_pass_37 rfl rfl rfl ?_
          refine r_ck (fun hc5 => ?_)
          refine r_getI (a := a0) (ci := 12) (kf := 75) (q := 41) hX hc5 flX12_463 rfl rfl dX12_pass_38 rfl ?_
          refine r_jn (J := fun (v9 : Int64) (P : Option Res) => Ref mX12_pass X 0 0 Z M 60 [(0, vr a0), (1, vi x1), (2, vi x2), (3, vi x3), (4, vi x4)] [vj v9, vj (x4.toInt64)] P) (fun v9 => ?_) (fun K1 hj7 => ?_)
          · refine r_ldc2 (v := (99 : Int64)) (q := 63) hX dX12_pass_60 (gd (hcw7_9 _ (List.mem_of_getElem? (i := 11) rfl)) rfl) rfl ?_
            refine r_cs (As := [vj (x4.toInt64), vj v9, vj (99 : Int64)]) (st := []) (r := (some (vi (fX12_in (x4.toInt64) v9 (99 : Int64))))) (Z1 := Z) (M1 := M) (k1 := 0) (n1 := 0) (st1 := [vi (fX12_in (x4.toInt64) v9 (99 : Int64))]) (q := 66) hX (fun l => kX12_in l Z M (x4.toInt64) v9 (99 : Int64)) stX12_in ccX12_in (Or.inl lkX12_194) rfl rfl rfl ⟨Nat.le_of_ble_eq_true rfl, Nat.le_of_ble_eq_true rfl, rfl, rfl, Nat.le_of_ble_eq_true rfl, Nat.le_of_ble_eq_true rfl⟩ (Nat.le_of_ble_eq_true rfl) dX12_pass_63 rfl ?_
            refine r_if_ne (tgt := 72) (q := 69) hX dX12_pass_66 (by decide) rfl (fun hb11 => ?_) (fun hb11 => ?_)
            · refine r_bipush (v := (-102 : Int32)) (q := 71) hX dX12_pass_69 rfl rfl ?_
              refine r_lf (hK _) ?_
              exact r_iret hM rfl (Nat.le_of_ble_eq_true rfl) (Nat.le_of_ble_eq_true rfl) dX12_pass_71
            · refine r_aload_n (i := 0) (x := a0) (q := 73) 0 hX dX12_pass_72 rfl rfl rfl ?_
              refine r_iload_n (i := 1) (x := x1) (q := 74) 1 hX dX12_pass_73 rfl rfl rfl ?_
              refine r_bipush (v := (99 : Int32)) (q := 76) hX dX12_pass_74 rfl rfl ?_
              refine r_bind (fun v12 h13 => ?_)
              refine r_cv (a := a0) (As := [vi x1, vi (99 : Int32)]) (st := []) (r := (some (vi v12))) (Z1 := Z) (M1 := M) (k1 := 0) (n1 := 0) (st1 := [vi v12]) (q := 79) hX (fun l => kX12_hadOf l Z M a0 x1 (99 : Int32) v12 h13) hc5 ivX12_hadOf ccX12_hadOf (Or.inl lkX12_466) rfl rfl rfl ⟨Nat.le_of_ble_eq_true rfl, Nat.le_of_ble_eq_true rfl, rfl, rfl, Nat.le_of_ble_eq_true rfl, Nat.le_of_ble_eq_true rfl⟩ (Nat.le_of_ble_eq_true rfl) dX12_pass_76 rfl ?_
              refine r_iload_n (i := 3) (x := x3) (q := 80) 3 hX dX12_pass_79 rfl rfl rfl ?_
              refine r_icmp_ge (tgt := 86) (q := 83) hX dX12_pass_80 (by decide) rfl (fun hb14 => ?_) (fun hb14 => ?_)
              · refine r_aload_n (i := 0) (x := a0) (q := 87) 0 hX dX12_pass_86 rfl rfl rfl ?_
                refine r_getI (a := a0) (ci := 12) (kf := 75) (q := 90) hX hc5 flX12_463 rfl rfl dX12_pass_87 rfl ?_
                refine r_bipush (v := (24 : Int32)) (q := 92) hX dX12_pass_90 rfl rfl ?_
                refine r_icmp_ne (tgt := 98) (q := 95) hX dX12_pass_92 (by decide) rfl (fun hb15 => ?_) (fun hb15 => ?_)
                · refine r_bipush (v := (-104 : Int32)) (q := 97) hX dX12_pass_95 rfl rfl ?_
                  refine r_lf (hK _) ?_
                  exact r_iret hM rfl (Nat.le_of_ble_eq_true rfl) (Nat.le_of_ble_eq_true rfl) dX12_pass_97
                · refine r_aload_n (i := 0) (x := a0) (q := 99) 0 hX dX12_pass_98 rfl rfl rfl ?_
                  refine r_getR (a := a0) (ci := 12) (kf := 76) (q := 102) hX hc5 flX12_164 rfl dX12_pass_99 rfl ?_
                  refine r_aload_n (i := 0) (x := a0) (q := 103) 0 hX dX12_pass_102 rfl rfl rfl ?_
                  refine r_getI (a := a0) (ci := 12) (kf := 75) (q := 106) hX hc5 flX12_463 rfl rfl dX12_pass_103 rfl ?_
                  refine r_iload_n (i := 1) (x := x1) (q := 107) 1 hX dX12_pass_106 rfl rfl rfl ?_
                  refine r_ck (fun hc16 => ?_)
                  refine r_iast (a := (rR M a0 76)) (i := (rI M a0 75)) (x := x1) (q := 108) hX hc16 dX12_pass_107 rfl (fun M17 => ?_)
                  refine r_aload_n (i := 0) (x := a0) (q := 109) 0 hX dX12_pass_108 rfl rfl rfl ?_
                  refine r_getR (a := a0) (ci := 12) (kf := 77) (q := 112) hX hc5 flX12_167 rfl dX12_pass_109 rfl ?_
                  refine r_aload_n (i := 0) (x := a0) (q := 113) 0 hX dX12_pass_112 rfl rfl rfl ?_
                  refine r_getI (a := a0) (ci := 12) (kf := 75) (q := 116) hX hc5 flX12_463 rfl rfl dX12_pass_113 rfl ?_
                  refine r_iload_n (i := 2) (x := x2) (q := 117) 2 hX dX12_pass_116 rfl rfl rfl ?_
                  refine r_ck (fun hc18 => ?_)
                  refine r_iast (a := (rR M17 a0 77)) (i := (rI M17 a0 75)) (x := x2) (q := 118) hX hc18 dX12_pass_117 rfl (fun M19 => ?_)
                  refine r_aload_n (i := 0) (x := a0) (q := 119) 0 hX dX12_pass_118 rfl rfl rfl ?_
                  refine r_getR (a := a0) (ci := 12) (kf := 78) (q := 122) hX hc5 flX12_170 rfl dX12_pass_119 rfl ?_
                  refine r_aload_n (i := 0) (x := a0) (q := 123) 0 hX dX12_pass_122 rfl rfl rfl ?_
                  refine r_getI (a := a0) (ci := 12) (kf := 75) (q := 126) hX hc5 flX12_463 rfl rfl dX12_pass_123 rfl ?_
                  refine r_iload_n (i := 3) (x := x3) (q := 127) 3 hX dX12_pass_126 rfl rfl rfl ?_
                  refine r_ck (fun hc20 => ?_)
                  refine r_iast (a := (rR M19 a0 78)) (i := (rI M19 a0 75)) (x := x3) (q := 128) hX hc20 dX12_pass_127 rfl (fun M21 => ?_)
                  refine r_aload_n (i := 0) (x := a0) (q := 129) 0 hX dX12_pass_128 rfl rfl rfl ?_
                  refine r_getR (a := a0) (ci := 12) (kf := 79) (q := 132) hX hc5 flX12_173 rfl dX12_pass_129 rfl ?_
                  refine r_aload_n (i := 0) (x := a0) (q := 133) 0 hX dX12_pass_132 rfl rfl rfl ?_
                  refine r_getI (a := a0) (ci := 12) (kf := 75) (q := 136) hX hc5 flX12_463 rfl rfl dX12_pass_133 rfl ?_
                  refine r_iload (i := 4) (x := x4) (q := 138) 4 hX dX12_pass_136 rfl rfl ?_
                  refine r_ck (fun hc22 => ?_)
                  refine r_iast (a := (rR M21 a0 79)) (i := (rI M21 a0 75)) (x := x4) (q := 139) hX hc22 dX12_pass_138 rfl (fun M23 => ?_)
                  refine r_aload_n (i := 0) (x := a0) (q := 140) 0 hX dX12_pass_139 rfl rfl rfl ?_
                  refine r_dup (q := 141) hX dX12_pass_140 rfl rfl ?_
                  refine r_getI (a := a0) (ci := 12) (kf := 75) (q := 144) hX hc5 flX12_463 rfl rfl dX12_pass_141 rfl ?_
                  refine r_iconst (v := (1 : Int32)) (q := 145) hX dX12_pass_144 rfl rfl ?_
                  refine r_iadd (q := 146) hX dX12_pass_145 rfl ?_
                  refine r_putI (a := a0) (ci := 12) (kf := 75) (q := 149) hX hc5 flX12_463 rfl rfl (Or.inl rfl) rfl rfl dX12_pass_146 rfl (fun M24 => ?_)
                  refine r_aload_n (i := 0) (x := a0) (q := 150) 0 hX dX12_pass_149 rfl rfl rfl ?_
                  refine r_getI (a := a0) (ci := 12) (kf := 75) (q := 153) hX hc5 flX12_463 rfl rfl dX12_pass_150 rfl ?_
                  refine r_lf (hK _) ?_
                  exact r_iret hM rfl (Nat.le_of_ble_eq_true rfl) (Nat.le_of_ble_eq_true rfl) dX12_pass_153
              · refine r_bipush (v := (-103 : Int32)) (q := 85) hX dX12_pass_83 rfl rfl ?_
                refine r_lf (hK _) ?_
                exact r_iret hM rfl (Nat.le_of_ble_eq_true rfl) (Nat.le_of_ble_eq_true rfl) dX12_pass_85
          · refine r_if_le (tgt := 59) (q := 44) hX dX12_pass_41 (by decide) rfl (fun hb6 => ?_) (fun hb6 => ?_)
            · refine r_lconst (v := (0 : Int64)) (q := 60) hX dX12_pass_59 rfl rfl ?_
              refine r_l0 ?_
              exact hj7 (0 : Int64)
            · refine r_aload_n (i := 0) (x := a0) (q := 45) 0 hX dX12_pass_44 rfl rfl rfl ?_
              refine r_getR (a := a0) (ci := 12) (kf := 79) (q := 48) hX hc5 flX12_173 rfl dX12_pass_45 rfl ?_
              refine r_aload_n (i := 0) (x := a0) (q := 49) 0 hX dX12_pass_48 rfl rfl rfl ?_
              refine r_getI (a := a0) (ci := 12) (kf := 75) (q := 52) hX hc5 flX12_463 rfl rfl dX12_pass_49 rfl ?_
              refine r_iconst (v := (1 : Int32)) (q := 53) hX dX12_pass_52 rfl rfl ?_
              refine r_isub (q := 54) hX dX12_pass_53 rfl ?_
              refine r_ck (fun hc10 => ?_)
              refine r_iald (a := (rR M a0 79)) (i := ((rI M a0 75) - (1 : Int32))) (q := 55) hX hc10 dX12_pass_54 rfl ?_
              refine r_i2l (q := 56) hX dX12_pass_55 rfl ?_
              refine r_goto (q := 60) hX dX12_pass_56 (by decide) ?_
              refine r_l0 ?_
              exact hj7 ((rI M (rR M a0 79) (ix ((rI M a0 75) - (1 : Int32)))).toInt64)
def mX12_pay : MD := (yX12_pay, cX12_pay, 3, (some .int), 2, 45, 0, 0)
theorem ccX12_pay : Cc mX12_pay 2 := ⟨gd (hcw1_0 _ (List.mem_of_getElem? (i := 10) rfl)) rfl, gd (hcw8_2 _ (List.mem_of_getElem? (i := 12) rfl)) rfl, by decide +kernel, by decide +kernel, by decide +kernel⟩
theorem ivX12_pay : Iv mX12_pay 12 := ⟨Nat.le_of_ble_eq_true rfl, rfl, gd (hcw8_2 _ (List.mem_of_getElem? (i := 10) rfl)) rfl, gd (hcw8_2 _ (List.mem_of_getElem? (i := 11) rfl)) rfl⟩
def fX12_pay (Z : Shp) (M : Mem) (a0 : Nat) (x1 : Int32) (x2 : Int32) : Option (Int32 × Mem) := (if (fX12_isCarrier x1) = 0 then some ((-101 : Int32), M) else (if (fX12_in (x2.toInt64) (0 : Int64) (999999 : Int64)) = 0 then some ((-102 : Int32), M) else (if tg Z a0 = (13, 86) then (if aok Z (rR M a0 71) 100 x1 then (if (rI M (rR M a0 71) (ix x1)) ≤ x2 then (pu (wI M (rR M a0 71) (ix x1) (0 : Int32)) (fun M6 => (if aok Z (rR M6 a0 71) 100 x1 then some ((rI M6 (rR M6 a0 71) (ix x1)), M6) else none))) else (pu (wI M (rR M a0 71) (ix x1) ((rI M (rR M a0 71) (ix x1)) - x2)) (fun M8 => (if aok Z (rR M8 a0 71) 100 x1 then some ((rI M8 (rR M8 a0 71) (ix x1)), M8) else none)))) else none) else none)))
set_option maxRecDepth 20000 in
theorem kX12_pay (l : Launch) (Z : Shp) (M : Mem) (a0 : Nat) (x1 : Int32) (x2 : Int32) (r : Int32 × Mem) (h : fX12_pay Z M a0 x1 x2 = some r) : Ct l mX12_pay [vr a0, vi x1, vi x2] Z M ((some (vi r.1)), Z, r.2) := by
  refine Ct.of rfl (Nat.le_of_ble_eq_true rfl) (fun X hM => ?_)
  have hX := hM.1
  refine r_top (mk := fun r => ((some (vi r.1)), Z, r.2)) h (fun K hK => ?_)
  unfold fX12_pay
  refine r_iload_n (i := 1) (x := x1) (q := 1) 1 hX dX12_pay_0 rfl rfl rfl ?_
  refine r_cs (As := [vi x1]) (st := []) (r := (some (vi (fX12_isCarrier x1)))) (Z1 := Z) (M1 := M) (k1 := 0) (n1 := 0) (st1 := [vi (fX12_isCarrier x1)]) (q := 4) hX (fun l => kX12_isCarrier l Z M x1) stX12_isCarrier ccX12_isCarrier (Or.inl lkX12_451) rfl rfl rfl ⟨Nat.le_of_ble_eq_true rfl, Nat.le_of_ble_eq_true rfl, rfl, rfl, Nat.le_of_ble_eq_true rfl, Nat.le_of_ble_eq_true rfl⟩ (Nat.le_of_ble_eq_true rfl) dX12_pay_1 rfl ?_
  refine r_if_ne (tgt := 10) (q := 7) hX dX12_pay_4 (by decide) rfl (fun hb1 => ?_) (fun hb1 => ?_)
  · refine r_bipush (v := (-101 : Int32)) (q := 9) hX dX12_pay_7 rfl rfl ?_
    refine r_lf (hK _) ?_
    exact r_iret hM rfl (Nat.le_of_ble_eq_true rfl) (Nat.le_of_ble_eq_true rfl) dX12_pay_9
  · refine r_iload_n (i := 2) (x := x2) (q := 11) 2 hX dX12_pay_10 rfl rfl rfl ?_
    refine r_i2l (q := 12) hX dX12_pay_11 rfl ?_
    refine r_lconst (v := (0 : Int64)) (q := 13) hX dX12_pay_12 rfl rfl ?_
    refine r_ldc2 (v := (999999 : Int64)) (q := 16) hX dX12_pay_13 (gd (hcw8_2 _ (List.mem_of_getElem? (i := 16) rfl)) rfl) rfl ?_
    refine r_cs (As := [vj (x2.toInt64), vj (0 : Int64), vj (999999 : Int64)]) (st := []) (r := (some (vi (fX12_in (x2.toInt64) (0 : Int64) (999999 : Int64))))) (Z1 := Z) (M1 := M) (k1 := 0) (n1 := 0) (st1 := [vi (fX12_in (x2.toInt64) (0 : Int64) (999999 : Int64))]) (q := 19) hX (fun l => kX12_in l Z M (x2.toInt64) (0 : Int64) (999999 : Int64)) stX12_in ccX12_in (Or.inl lkX12_194) rfl rfl rfl ⟨Nat.le_of_ble_eq_true rfl, Nat.le_of_ble_eq_true rfl, rfl, rfl, Nat.le_of_ble_eq_true rfl, Nat.le_of_ble_eq_true rfl⟩ (Nat.le_of_ble_eq_true rfl) dX12_pay_16 rfl ?_
    refine r_if_ne (tgt := 25) (q := 22) hX dX12_pay_19 (by decide) rfl (fun hb2 => ?_) (fun hb2 => ?_)
    · refine r_bipush (v := (-102 : Int32)) (q := 24) hX dX12_pay_22 rfl rfl ?_
      refine r_lf (hK _) ?_
      exact r_iret hM rfl (Nat.le_of_ble_eq_true rfl) (Nat.le_of_ble_eq_true rfl) dX12_pay_24
    · refine r_aload_n (i := 0) (x := a0) (q := 26) 0 hX dX12_pay_25 rfl rfl rfl ?_
      refine r_ck (fun hc3 => ?_)
      refine r_getR (a := a0) (ci := 12) (kf := 71) (q := 29) hX hc3 flX12_152 rfl dX12_pay_26 rfl ?_
      refine r_iload_n (i := 1) (x := x1) (q := 30) 1 hX dX12_pay_29 rfl rfl rfl ?_
      refine r_aload_n (i := 0) (x := a0) (q := 31) 0 hX dX12_pay_30 rfl rfl rfl ?_
      refine r_getR (a := a0) (ci := 12) (kf := 71) (q := 34) hX hc3 flX12_152 rfl dX12_pay_31 rfl ?_
      refine r_iload_n (i := 1) (x := x1) (q := 35) 1 hX dX12_pay_34 rfl rfl rfl ?_
      refine r_ck (fun hc4 => ?_)
      refine r_iald (a := (rR M a0 71)) (i := x1) (q := 36) hX hc4 dX12_pay_35 rfl ?_
      refine r_iload_n (i := 2) (x := x2) (q := 37) 2 hX dX12_pay_36 rfl rfl rfl ?_
      refine r_icmp_le (tgt := 51) (q := 40) hX dX12_pay_37 (by decide) rfl (fun hb5 => ?_) (fun hb5 => ?_)
      · refine r_iconst (v := (0 : Int32)) (q := 52) hX dX12_pay_51 rfl rfl ?_
        refine r_iast (a := (rR M a0 71)) (i := x1) (x := (0 : Int32)) (q := 53) hX hc4 dX12_pay_52 rfl (fun M6 => ?_)
        refine r_aload_n (i := 0) (x := a0) (q := 54) 0 hX dX12_pay_53 rfl rfl rfl ?_
        refine r_getR (a := a0) (ci := 12) (kf := 71) (q := 57) hX hc3 flX12_152 rfl dX12_pay_54 rfl ?_
        refine r_iload_n (i := 1) (x := x1) (q := 58) 1 hX dX12_pay_57 rfl rfl rfl ?_
        refine r_ck (fun hc7 => ?_)
        refine r_iald (a := (rR M6 a0 71)) (i := x1) (q := 59) hX hc7 dX12_pay_58 rfl ?_
        refine r_lf (hK _) ?_
        exact r_iret hM rfl (Nat.le_of_ble_eq_true rfl) (Nat.le_of_ble_eq_true rfl) dX12_pay_59
      · refine r_aload_n (i := 0) (x := a0) (q := 41) 0 hX dX12_pay_40 rfl rfl rfl ?_
        refine r_getR (a := a0) (ci := 12) (kf := 71) (q := 44) hX hc3 flX12_152 rfl dX12_pay_41 rfl ?_
        refine r_iload_n (i := 1) (x := x1) (q := 45) 1 hX dX12_pay_44 rfl rfl rfl ?_
        refine r_iald (a := (rR M a0 71)) (i := x1) (q := 46) hX hc4 dX12_pay_45 rfl ?_
        refine r_iload_n (i := 2) (x := x2) (q := 47) 2 hX dX12_pay_46 rfl rfl rfl ?_
        refine r_isub (q := 48) hX dX12_pay_47 rfl ?_
        refine r_goto (q := 52) hX dX12_pay_48 (by decide) ?_
        refine r_iast (a := (rR M a0 71)) (i := x1) (x := ((rI M (rR M a0 71) (ix x1)) - x2)) (q := 53) hX hc4 dX12_pay_52 rfl (fun M8 => ?_)
        refine r_aload_n (i := 0) (x := a0) (q := 54) 0 hX dX12_pay_53 rfl rfl rfl ?_
        refine r_getR (a := a0) (ci := 12) (kf := 71) (q := 57) hX hc3 flX12_152 rfl dX12_pay_54 rfl ?_
        refine r_iload_n (i := 1) (x := x1) (q := 58) 1 hX dX12_pay_57 rfl rfl rfl ?_
        refine r_ck (fun hc9 => ?_)
        refine r_iald (a := (rR M8 a0 71)) (i := x1) (q := 59) hX hc9 dX12_pay_58 rfl ?_
        refine r_lf (hK _) ?_
        exact r_iret hM rfl (Nat.le_of_ble_eq_true rfl) (Nat.le_of_ble_eq_true rfl) dX12_pay_59
def mX12_plan : MD := (yX12_plan, cX12_plan, 11, (some .int), 1, 25, 0, 0)
theorem ccX12_plan : Cc mX12_plan 2 := ⟨gd (hcw1_0 _ (List.mem_of_getElem? (i := 10) rfl)) rfl, gd (hcw8_5 _ (List.mem_of_getElem? (i := 13) rfl)) rfl, by decide +kernel, by decide +kernel, by decide +kernel⟩
theorem ivX12_plan : Iv mX12_plan 12 := ⟨Nat.le_of_ble_eq_true rfl, rfl, gd (hcw8_5 _ (List.mem_of_getElem? (i := 11) rfl)) rfl, gd (hcw8_5 _ (List.mem_of_getElem? (i := 12) rfl)) rfl⟩
noncomputable def fX12_plan (Z : Shp) (M : Mem) (a0 : Nat) (x1 : Int32) (x2 : Int32) : Option (Int32) := (if (fX12_in (x1.toInt64) (0 : Int64) (9999 : Int64)) = 0 then some (-102 : Int32) else (if (fX12_in (x2.toInt64) (0 : Int64) (2 : Int64)) = 0 then some (-102 : Int32) else (Option.bind (loop (fun s6 : Int32 × Int32 × Int32 × Int32 => (if tg Z a0 = (13, 86) then (if ((1 : Int32) <<< ((rI M a0 81) &&& 31)) ≤ s6.2.2.2 then some (Sum.inr (s6.1, s6.2.1, s6.2.2.1)) else (Option.bind (loop (fun s14 : Int32 × Int32 × Int32 × Int32 => (if (rI M a0 81) ≤ s14.2.2.2 then some (Sum.inr (s14.1, s14.2.1, s14.2.2.1)) else (if ((s6.2.2.2 >>> (s14.2.2.2 &&& 31)) &&& (1 : Int32)) = (1 : Int32) then (if aok Z (rR M a0 82) 100 s14.2.2.2 then (pu ((s14.1 + (rI M (rR M a0 82) (ix s14.2.2.2)))) (fun z20 => (if aok Z (rR M a0 83) 100 s14.2.2.2 then (pu ((s14.2.1 + (rI M (rR M a0 83) (ix s14.2.2.2)))) (fun z22 => (if s14.2.2.1 = 0 then some (Sum.inl (z20, z22, (0 : Int32), (s14.2.2.2 + (1 : Int32)))) else (if aok Z (rR M a0 84) 100 s14.2.2.2 then (if (rI M (rR M a0 84) (ix s14.2.2.2)) = (-1 : Int32) then some (Sum.inl (z20, z22, (1 : Int32), (s14.2.2.2 + (1 : Int32)))) else (if ((s6.2.2.2 >>> ((rI M (rR M a0 84) (ix s14.2.2.2)) &&& 31)) &&& (1 : Int32)) = (1 : Int32) then some (Sum.inl (z20, z22, (1 : Int32), (s14.2.2.2 + (1 : Int32)))) else some (Sum.inl (z20, z22, (0 : Int32), (s14.2.2.2 + (1 : Int32)))))) else none)))) else none))) else none) else some (Sum.inl (s14.1, s14.2.1, s14.2.2.1, (s14.2.2.2 + (1 : Int32))))))) ((0 : Int32), (0 : Int32), (1 : Int32), (0 : Int32))) (fun v13 : Int32 × Int32 × Int32 => (if v13.2.2 = 0 then some (Sum.inl (s6.1, s6.2.1, s6.2.2.1, (s6.2.2.2 + (1 : Int32)))) else (if x1 < v13.1 then some (Sum.inl (s6.1, s6.2.1, s6.2.2.1, (s6.2.2.2 + (1 : Int32)))) else (if s6.2.1 < v13.2.1 then some (Sum.inl (s6.2.2.2, v13.2.1, v13.1, (s6.2.2.2 + (1 : Int32)))) else (if v13.2.1 = s6.2.1 then (if s6.2.2.1 ≤ v13.1 then some (Sum.inl (s6.1, s6.2.1, s6.2.2.1, (s6.2.2.2 + (1 : Int32)))) else some (Sum.inl (s6.2.2.2, v13.2.1, v13.1, (s6.2.2.2 + (1 : Int32))))) else some (Sum.inl (s6.1, s6.2.1, s6.2.2.1, (s6.2.2.2 + (1 : Int32))))))))))) else none)) ((0 : Int32), (0 : Int32), (0 : Int32), (1 : Int32))) (fun v5 : Int32 × Int32 × Int32 => (if x2 = 0 then some v5.1 else (if x2 = (1 : Int32) then some v5.2.1 else some v5.2.2))))))
set_option maxRecDepth 20000 in
theorem kX12_plan (l : Launch) (Z : Shp) (M : Mem) (a0 : Nat) (x1 : Int32) (x2 : Int32) (r : Int32) (h : fX12_plan Z M a0 x1 x2 = some r) : Ct l mX12_plan [vr a0, vi x1, vi x2] Z M ((some (vi r)), Z, M) := by
  refine Ct.of rfl (Nat.le_of_ble_eq_true rfl) (fun X hM => ?_)
  have hX := hM.1
  refine r_top (mk := fun r => ((some (vi r)), Z, M)) h (fun K hK => ?_)
  unfold fX12_plan
  refine r_iload_n (i := 1) (x := x1) (q := 1) 1 hX dX12_plan_0 rfl rfl rfl ?_
  refine r_i2l (q := 2) hX dX12_plan_1 rfl ?_
  refine r_lconst (v := (0 : Int64)) (q := 3) hX dX12_plan_2 rfl rfl ?_
  refine r_ldc2 (v := (9999 : Int64)) (q := 6) hX dX12_plan_3 (gd (hcw6_11 _ (List.mem_of_getElem? (i := 6) rfl)) rfl) rfl ?_
  refine r_cs (As := [vj (x1.toInt64), vj (0 : Int64), vj (9999 : Int64)]) (st := []) (r := (some (vi (fX12_in (x1.toInt64) (0 : Int64) (9999 : Int64))))) (Z1 := Z) (M1 := M) (k1 := 0) (n1 := 0) (st1 := [vi (fX12_in (x1.toInt64) (0 : Int64) (9999 : Int64))]) (q := 9) hX (fun l => kX12_in l Z M (x1.toInt64) (0 : Int64) (9999 : Int64)) stX12_in ccX12_in (Or.inl lkX12_194) rfl rfl rfl ⟨Nat.le_of_ble_eq_true rfl, Nat.le_of_ble_eq_true rfl, rfl, rfl, Nat.le_of_ble_eq_true rfl, Nat.le_of_ble_eq_true rfl⟩ (Nat.le_of_ble_eq_true rfl) dX12_plan_6 rfl ?_
  refine r_if_eq (tgt := 24) (q := 12) hX dX12_plan_9 (by decide) rfl (fun hb1 => ?_) (fun hb1 => ?_)
  · refine r_bipush (v := (-102 : Int32)) (q := 26) hX dX12_plan_24 rfl rfl ?_
    refine r_lf (hK _) ?_
    exact r_iret hM rfl (Nat.le_of_ble_eq_true rfl) (Nat.le_of_ble_eq_true rfl) dX12_plan_26
  · refine r_iload_n (i := 2) (x := x2) (q := 13) 2 hX dX12_plan_12 rfl rfl rfl ?_
    refine r_i2l (q := 14) hX dX12_plan_13 rfl ?_
    refine r_lconst (v := (0 : Int64)) (q := 15) hX dX12_plan_14 rfl rfl ?_
    refine r_ldc2 (v := (2 : Int64)) (q := 18) hX dX12_plan_15 (gd (hcw6_11 _ (List.mem_of_getElem? (i := 5) rfl)) rfl) rfl ?_
    refine r_cs (As := [vj (x2.toInt64), vj (0 : Int64), vj (2 : Int64)]) (st := []) (r := (some (vi (fX12_in (x2.toInt64) (0 : Int64) (2 : Int64))))) (Z1 := Z) (M1 := M) (k1 := 0) (n1 := 0) (st1 := [vi (fX12_in (x2.toInt64) (0 : Int64) (2 : Int64))]) (q := 21) hX (fun l => kX12_in l Z M (x2.toInt64) (0 : Int64) (2 : Int64)) stX12_in ccX12_in (Or.inl lkX12_194) rfl rfl rfl ⟨Nat.le_of_ble_eq_true rfl, Nat.le_of_ble_eq_true rfl, rfl, rfl, Nat.le_of_ble_eq_true rfl, Nat.le_of_ble_eq_true rfl⟩ (Nat.le_of_ble_eq_true rfl) dX12_plan_18 rfl ?_
    refine r_if_ne (tgt := 27) (q := 24) hX dX12_plan_21 (by decide) rfl (fun hb2 => ?_) (fun hb2 => ?_)
    · refine r_bipush (v := (-102 : Int32)) (q := 26) hX dX12_plan_24 rfl rfl ?_
      refine r_lf (hK _) ?_
      exact r_iret hM rfl (Nat.le_of_ble_eq_true rfl) (Nat.le_of_ble_eq_true rfl) dX12_plan_26
    · refine r_iconst (v := (0 : Int32)) (q := 28) hX dX12_plan_27 rfl rfl ?_
      refine r_istore_n (x := (0 : Int32)) (q := 29) 3 [1, 2, 3, 0] (L1 := [(0, vr a0), (1, vi x1), (2, vi x2), (3, vi (0 : Int32))]) hX dX12_plan_28 rfl (Nat.le_of_ble_eq_true rfl) rfl rfl ?_
      refine r_iconst (v := (0 : Int32)) (q := 30) hX dX12_plan_29 rfl rfl ?_
      refine r_istore (x := (0 : Int32)) (q := 32) 4 [1, 2, 3, 4, 0] (L1 := [(0, vr a0), (1, vi x1), (2, vi x2), (3, vi (0 : Int32)), (4, vi (0 : Int32))]) hX dX12_plan_30 (Nat.le_of_ble_eq_true rfl) rfl rfl ?_
      refine r_iconst (v := (0 : Int32)) (q := 33) hX dX12_plan_32 rfl rfl ?_
      refine r_istore (x := (0 : Int32)) (q := 35) 5 [1, 2, 3, 4, 5, 0] (L1 := [(0, vr a0), (1, vi x1), (2, vi x2), (3, vi (0 : Int32)), (4, vi (0 : Int32)), (5, vi (0 : Int32))]) hX dX12_plan_33 (Nat.le_of_ble_eq_true rfl) rfl rfl ?_
      refine r_iconst (v := (1 : Int32)) (q := 36) hX dX12_plan_35 rfl rfl ?_
      refine r_istore (x := (1 : Int32)) (q := 38) 6 [1, 2, 3, 4, 5, 6, 0] (L1 := [(0, vr a0), (1, vi x1), (2, vi x2), (3, vi (0 : Int32)), (4, vi (0 : Int32)), (5, vi (0 : Int32)), (6, vi (1 : Int32))]) hX dX12_plan_36 (Nat.le_of_ble_eq_true rfl) rfl rfl ?_
      refine r_jn (J := fun (v5 : Int32 × Int32 × Int32) (P : Option Res) => Ref mX12_plan X 0 0 Z M 199 [(2, vi x2), (3, vi v5.1), (4, vi v5.2.1), (5, vi v5.2.2)] [] P) (fun v5 => ?_) (fun K1 hj3 => ?_)
      · refine r_iload_n (i := 2) (x := x2) (q := 200) 0 hX dX12_plan_199 rfl rfl rfl ?_
        refine r_if_ne (tgt := 207) (q := 203) hX dX12_plan_200 (by decide) rfl (fun hb32 => ?_) (fun hb32 => ?_)
        · refine r_iload_n (i := 3) (x := v5.1) (q := 204) 1 hX dX12_plan_203 rfl rfl rfl ?_
          refine r_goto (q := 219) hX dX12_plan_204 (by decide) ?_
          refine r_lf (hK _) ?_
          exact r_iret hM rfl (Nat.le_of_ble_eq_true rfl) (Nat.le_of_ble_eq_true rfl) dX12_plan_219
        · refine r_iload_n (i := 2) (x := x2) (q := 208) 0 hX dX12_plan_207 rfl rfl rfl ?_
          refine r_iconst (v := (1 : Int32)) (q := 209) hX dX12_plan_208 rfl rfl ?_
          refine r_icmp_ne (tgt := 217) (q := 212) hX dX12_plan_209 (by decide) rfl (fun hb33 => ?_) (fun hb33 => ?_)
          · refine r_iload (i := 4) (x := v5.2.1) (q := 214) 2 hX dX12_plan_212 rfl rfl ?_
            refine r_goto (q := 219) hX dX12_plan_214 (by decide) ?_
            refine r_lf (hK _) ?_
            exact r_iret hM rfl (Nat.le_of_ble_eq_true rfl) (Nat.le_of_ble_eq_true rfl) dX12_plan_219
          · refine r_iload (i := 5) (x := v5.2.2) (q := 219) 3 hX dX12_plan_217 rfl rfl ?_
            refine r_lf (hK _) ?_
            exact r_iret hM rfl (Nat.le_of_ble_eq_true rfl) (Nat.le_of_ble_eq_true rfl) dX12_plan_219
      · refine r_loop (Hd := fun (s6 : Int32 × Int32 × Int32 × Int32) (P : Option Res) => Ref mX12_plan X 0 0 Z M 38 [(0, vr a0), (1, vi x1), (2, vi x2), (3, vi s6.1), (4, vi s6.2.1), (5, vi s6.2.2.1), (6, vi s6.2.2.2)] [] P) (fun _ => r_none) (fun s6 K1 hn7 hx8 => ?_) ((0 : Int32), (0 : Int32), (0 : Int32), (1 : Int32))
        refine r_iload (i := 6) (x := s6.2.2.2) (q := 40) 6 hX dX12_plan_38 rfl rfl ?_
        refine r_iconst (v := (1 : Int32)) (q := 41) hX dX12_plan_40 rfl rfl ?_
        refine r_aload_n (i := 0) (x := a0) (q := 42) 0 hX dX12_plan_41 rfl rfl rfl ?_
        refine r_ck (fun hc9 => ?_)
        refine r_getI (a := a0) (ci := 12) (kf := 81) (q := 45) hX hc9 flX12_472 rfl rfl dX12_plan_42 rfl ?_
        refine r_ishl (q := 46) hX dX12_plan_45 rfl ?_
        refine r_icmp_ge (tgt := 199) (q := 49) hX dX12_plan_46 (by decide) rfl (fun hb10 => ?_) (fun hb10 => ?_)
        · refine r_lf (hx8 _) ?_
          refine r_sub [2, 3, 4, 5] rfl ?_
          exact hj3 (s6.1, s6.2.1, s6.2.2.1)
        · refine r_iconst (v := (0 : Int32)) (q := 50) hX dX12_plan_49 rfl rfl ?_
          refine r_istore (x := (0 : Int32)) (q := 52) 7 [1, 2, 3, 4, 5, 6, 7, 0] (L1 := [(0, vr a0), (1, vi x1), (2, vi x2), (3, vi s6.1), (4, vi s6.2.1), (5, vi s6.2.2.1), (6, vi s6.2.2.2), (7, vi (0 : Int32))]) hX dX12_plan_50 (Nat.le_of_ble_eq_true rfl) rfl rfl ?_
          refine r_iconst (v := (0 : Int32)) (q := 53) hX dX12_plan_52 rfl rfl ?_
          refine r_istore (x := (0 : Int32)) (q := 55) 8 [1, 2, 3, 4, 5, 6, 7, 8, 0] (L1 := [(0, vr a0), (1, vi x1), (2, vi x2), (3, vi s6.1), (4, vi s6.2.1), (5, vi s6.2.2.1), (6, vi s6.2.2.2), (7, vi (0 : Int32)), (8, vi (0 : Int32))]) hX dX12_plan_53 (Nat.le_of_ble_eq_true rfl) rfl rfl ?_
          refine r_iconst (v := (1 : Int32)) (q := 56) hX dX12_plan_55 rfl rfl ?_
          refine r_istore (x := (1 : Int32)) (q := 58) 9 [1, 2, 3, 4, 5, 6, 7, 8, 9, 0] (L1 := [(0, vr a0), (1, vi x1), (2, vi x2), (3, vi s6.1), (4, vi s6.2.1), (5, vi s6.2.2.1), (6, vi s6.2.2.2), (7, vi (0 : Int32)), (8, vi (0 : Int32)), (9, vi (1 : Int32))]) hX dX12_plan_56 (Nat.le_of_ble_eq_true rfl) rfl rfl ?_
          refine r_iconst (v := (0 : Int32)) (q := 59) hX dX12_plan_58 rfl rfl ?_
          refine r_istore (x := (0 : Int32)) (q := 61) 10 [1, 2, 3, 4, 5, 6, 7, 8, 9, 10, 0] (L1 := [(0, vr a0), (1, vi x1), (2, vi x2), (3, vi s6.1), (4, vi s6.2.1), (5, vi s6.2.2.1), (6, vi s6.2.2.2), (7, vi (0 : Int32)), (8, vi (0 : Int32)), (9, vi (1 : Int32)), (10, vi (0 : Int32))]) hX dX12_plan_59 (Nat.le_of_ble_eq_true rfl) rfl rfl ?_
          refine r_jn (J := fun (v13 : Int32 × Int32 × Int32) (P : Option Res) => Ref mX12_plan X 0 0 Z M 150 [(0, vr a0), (1, vi x1), (2, vi x2), (3, vi s6.1), (4, vi s6.2.1), (5, vi s6.2.2.1), (6, vi s6.2.2.2), (7, vi v13.1), (8, vi v13.2.1), (9, vi v13.2.2)] [] P) (fun v13 => ?_) (fun K1 hj11 => ?_)
          · refine r_iload (i := 9) (x := v13.2.2) (q := 152) 9 hX dX12_plan_150 rfl rfl ?_
            refine r_if_eq (tgt := 193) (q := 155) hX dX12_plan_152 (by decide) rfl (fun hb27 => ?_) (fun hb27 => ?_)
            · refine r_iinc (x := s6.2.2.2) (v := (s6.2.2.2 + (1 : Int32))) (q := 196) 6 6 [1, 2, 3, 4, 5, 6, 0, 8, 9, 10] (L1 := [(0, vr a0), (1, vi x1), (2, vi x2), (3, vi s6.1), (4, vi s6.2.1), (5, vi s6.2.2.1), (6, vi (s6.2.2.2 + (1 : Int32))), (7, vi v13.1), (8, vi v13.2.1), (9, vi v13.2.2)]) hX dX12_plan_193 rfl rfl (Nat.le_of_ble_eq_true rfl) rfl rfl ?_
              refine r_goto (q := 38) hX dX12_plan_196 (by decide) ?_
              refine r_l0 ?_
              refine r_sub [0, 1, 2, 3, 4, 5, 6] rfl ?_
              exact hn7 (s6.1, s6.2.1, s6.2.2.1, (s6.2.2.2 + (1 : Int32)))
            · refine r_iload (i := 7) (x := v13.1) (q := 157) 7 hX dX12_plan_155 rfl rfl ?_
              refine r_iload_n (i := 1) (x := x1) (q := 158) 1 hX dX12_plan_157 rfl rfl rfl ?_
              refine r_icmp_gt (tgt := 193) (q := 161) hX dX12_plan_158 (by decide) rfl (fun hb28 => ?_) (fun hb28 => ?_)
              · refine r_iinc (x := s6.2.2.2) (v := (s6.2.2.2 + (1 : Int32))) (q := 196) 6 6 [1, 2, 3, 4, 5, 6, 0, 8, 9, 10] (L1 := [(0, vr a0), (1, vi x1), (2, vi x2), (3, vi s6.1), (4, vi s6.2.1), (5, vi s6.2.2.1), (6, vi (s6.2.2.2 + (1 : Int32))), (7, vi v13.1), (8, vi v13.2.1), (9, vi v13.2.2)]) hX dX12_plan_193 rfl rfl (Nat.le_of_ble_eq_true rfl) rfl rfl ?_
                refine r_goto (q := 38) hX dX12_plan_196 (by decide) ?_
                refine r_l0 ?_
                refine r_sub [0, 1, 2, 3, 4, 5, 6] rfl ?_
                exact hn7 (s6.1, s6.2.1, s6.2.2.1, (s6.2.2.2 + (1 : Int32)))
              · refine r_iload (i := 8) (x := v13.2.1) (q := 163) 8 hX dX12_plan_161 rfl rfl ?_
                refine r_iload (i := 4) (x := s6.2.1) (q := 165) 4 hX dX12_plan_163 rfl rfl ?_
                refine r_icmp_gt (tgt := 182) (q := 168) hX dX12_plan_165 (by decide) rfl (fun hb29 => ?_) (fun hb29 => ?_)
                · refine r_iload (i := 6) (x := s6.2.2.2) (q := 184) 6 hX dX12_plan_182 rfl rfl ?_
                  refine r_istore_n (x := s6.2.2.2) (q := 185) 3 [1, 2, 3, 0, 5, 6, 7, 8, 9, 10] (L1 := [(0, vr a0), (1, vi x1), (2, vi x2), (3, vi s6.2.2.2), (4, vi s6.2.1), (5, vi s6.2.2.1), (6, vi s6.2.2.2), (7, vi v13.1), (8, vi v13.2.1), (9, vi v13.2.2)]) hX dX12_plan_184 rfl (Nat.le_of_ble_eq_true rfl) rfl rfl ?_
                  refine r_iload (i := 8) (x := v13.2.1) (q := 187) 8 hX dX12_plan_185 rfl rfl ?_
                  refine r_istore (x := v13.2.1) (q := 189) 4 [1, 2, 3, 4, 0, 6, 7, 8, 9, 10] (L1 := [(0, vr a0), (1, vi x1), (2, vi x2), (3, vi s6.2.2.2), (4, vi v13.2.1), (5, vi s6.2.2.1), (6, vi s6.2.2.2), (7, vi v13.1), (8, vi v13.2.1), (9, vi v13.2.2)]) hX dX12_plan_187 (Nat.le_of_ble_eq_true rfl) rfl rfl ?_
                  refine r_iload (i := 7) (x := v13.1) (q := 191) 7 hX dX12_plan_189 rfl rfl ?_
                  refine r_istore (x := v13.1) (q := 193) 5 [1, 2, 3, 4, 5, 0, 7, 8, 9, 10] (L1 := [(0, vr a0), (1, vi x1), (2, vi x2), (3, vi s6.2.2.2), (4, vi v13.2.1), (5, vi v13.1), (6, vi s6.2.2.2), (7, vi v13.1), (8, vi v13.2.1), (9, vi v13.2.2)]) hX dX12_plan_191 (Nat.le_of_ble_eq_true rfl) rfl rfl ?_
                  refine r_iinc (x := s6.2.2.2) (v := (s6.2.2.2 + (1 : Int32))) (q := 196) 6 6 [1, 2, 3, 4, 5, 6, 0, 8, 9, 10] (L1 := [(0, vr a0), (1, vi x1), (2, vi x2), (3, vi s6.2.2.2), (4, vi v13.2.1), (5, vi v13.1), (6, vi (s6.2.2.2 + (1 : Int32))), (7, vi v13.1), (8, vi v13.2.1), (9, vi v13.2.2)]) hX dX12_plan_193 rfl rfl (Nat.le_of_ble_eq_true rfl) rfl rfl ?_
                  refine r_goto (q := 38) hX dX12_plan_196 (by decide) ?_
                  refine r_l0 ?_
                  refine r_sub [0, 1, 2, 3, 4, 5, 6] rfl ?_
                  exact hn7 (s6.2.2.2, v13.2.1, v13.1, (s6.2.2.2 + (1 : Int32)))
                · refine r_iload (i := 8) (x := v13.2.1) (q := 170) 8 hX dX12_plan_168 rfl rfl ?_
                  refine r_iload (i := 4) (x := s6.2.1) (q := 172) 4 hX dX12_plan_170 rfl rfl ?_
                  refine r_icmp_ne (tgt := 193) (q := 175) hX dX12_plan_172 (by decide) rfl (fun hb30 => ?_) (fun hb30 => ?_)
                  · refine r_iload (i := 7) (x := v13.1) (q := 177) 7 hX dX12_plan_175 rfl rfl ?_
                    refine r_iload (i := 5) (x := s6.2.2.1) (q := 179) 5 hX dX12_plan_177 rfl rfl ?_
                    refine r_icmp_ge (tgt := 193) (q := 182) hX dX12_plan_179 (by decide) rfl (fun hb31 => ?_) (fun hb31 => ?_)
                    · refine r_iinc (x := s6.2.2.2) (v := (s6.2.2.2 + (1 : Int32))) (q := 196) 6 6 [1, 2, 3, 4, 5, 6, 0, 8, 9, 10] (L1 := [(0, vr a0), (1, vi x1), (2, vi x2), (3, vi s6.1), (4, vi s6.2.1), (5, vi s6.2.2.1), (6, vi (s6.2.2.2 + (1 : Int32))), (7, vi v13.1), (8, vi v13.2.1), (9, vi v13.2.2)]) hX dX12_plan_193 rfl rfl (Nat.le_of_ble_eq_true rfl) rfl rfl ?_
                      refine r_goto (q := 38) hX dX12_plan_196 (by decide) ?_
                      refine r_l0 ?_
                      refine r_sub [0, 1, 2, 3, 4, 5, 6] rfl ?_
                      exact hn7 (s6.1, s6.2.1, s6.2.2.1, (s6.2.2.2 + (1 : Int32)))
                    · refine r_iload (i := 6) (x := s6.2.2.2) (q := 184) 6 hX dX12_plan_182 rfl rfl ?_
                      refine r_istore_n (x := s6.2.2.2) (q := 185) 3 [1, 2, 3, 0, 5, 6, 7, 8, 9, 10] (L1 := [(0, vr a0), (1, vi x1), (2, vi x2), (3, vi s6.2.2.2), (4, vi s6.2.1), (5, vi s6.2.2.1), (6, vi s6.2.2.2), (7, vi v13.1), (8, vi v13.2.1), (9, vi v13.2.2)]) hX dX12_plan_184 rfl (Nat.le_of_ble_eq_true rfl) rfl rfl ?_
                      refine r_iload (i := 8) (x := v13.2.1) (q := 187) 8 hX dX12_plan_185 rfl rfl ?_
                      refine r_istore (x := v13.2.1) (q := 189) 4 [1, 2, 3, 4, 0, 6, 7, 8, 9, 10] (L1 := [(0, vr a0), (1, vi x1), (2, vi x2), (3, vi s6.2.2.2), (4, vi v13.2.1), (5, vi s6.2.2.1), (6, vi s6.2.2.2), (7, vi v13.1), (8, vi v13.2.1), (9, vi v13.2.2)]) hX dX12_plan_187 (Nat.le_of_ble_eq_true rfl) rfl rfl ?_
                      refine r_iload (i := 7) (x := v13.1) (q := 191) 7 hX dX12_plan_189 rfl rfl ?_
                      refine r_istore (x := v13.1) (q := 193) 5 [1, 2, 3, 4, 5, 0, 7, 8, 9, 10] (L1 := [(0, vr a0), (1, vi x1), (2, vi x2), (3, vi s6.2.2.2), (4, vi v13.2.1), (5, vi v13.1), (6, vi s6.2.2.2), (7, vi v13.1), (8, vi v13.2.1), (9, vi v13.2.2)]) hX dX12_plan_191 (Nat.le_of_ble_eq_true rfl) rfl rfl ?_
                      refine r_iinc (x := s6.2.2.2) (v := (s6.2.2.2 + (1 : Int32))) (q := 196) 6 6 [1, 2, 3, 4, 5, 6, 0, 8, 9, 10] (L1 := [(0, vr a0), (1, vi x1), (2, vi x2), (3, vi s6.2.2.2), (4, vi v13.2.1), (5, vi v13.1), (6, vi (s6.2.2.2 + (1 : Int32))), (7, vi v13.1), (8, vi v13.2.1), (9, vi v13.2.2)]) hX dX12_plan_193 rfl rfl (Nat.le_of_ble_eq_true rfl) rfl rfl ?_
                      refine r_goto (q := 38) hX dX12_plan_196 (by decide) ?_
                      refine r_l0 ?_
                      refine r_sub [0, 1, 2, 3, 4, 5, 6] rfl ?_
                      exact hn7 (s6.2.2.2, v13.2.1, v13.1, (s6.2.2.2 + (1 : Int32)))
                  · refine r_iinc (x := s6.2.2.2) (v := (s6.2.2.2 + (1 : Int32))) (q := 196) 6 6 [1, 2, 3, 4, 5, 6, 0, 8, 9, 10] (L1 := [(0, vr a0), (1, vi x1), (2, vi x2), (3, vi s6.1), (4, vi s6.2.1), (5, vi s6.2.2.1), (6, vi (s6.2.2.2 + (1 : Int32))), (7, vi v13.1), (8, vi v13.2.1), (9, vi v13.2.2)]) hX dX12_plan_193 rfl rfl (Nat.le_of_ble_eq_true rfl) rfl rfl ?_
                    refine r_goto (q := 38) hX dX12_plan_196 (by decide) ?_
                    refine r_l0 ?_
                    refine r_sub [0, 1, 2, 3, 4, 5, 6] rfl ?_
                    exact hn7 (s6.1, s6.2.1, s6.2.2.1, (s6.2.2.2 + (1 : Int32)))
          · refine r_loop (Hd := fun (s14 : Int32 × Int32 × Int32 × Int32) (P : Option Res) => Ref mX12_plan X 0 0 Z M 61 [(0, vr a0), (1, vi x1), (2, vi x2), (3, vi s6.1), (4, vi s6.2.1), (5, vi s6.2.2.1), (6, vi s6.2.2.2), (7, vi s14.1), (8, vi s14.2.1), (9, vi s14.2.2.1), (10, vi s14.2.2.2)] [] P) (fun _ => r_none) (fun s14 K1 hn15 hx16 => ?_) ((0 : Int32), (0 : Int32), (1 : Int32), (0 : Int32))
            refine r_iload (i := 10) (x := s14.2.2.2) (q := 63) 10 hX dX12_plan_61 rfl rfl ?_
            refine r_aload_n (i := 0) (x := a0) (q := 64) 0 hX dX12_plan_63 rfl rfl rfl ?_
            refine r_getI (a := a0) (ci := 12) (kf := 81) (q := 67) hX hc9 flX12_472 rfl rfl dX12_plan_64 rfl ?_
            refine r_icmp_ge (tgt := 150) (q := 70) hX dX12_plan_67 (by decide) rfl (fun hb17 => ?_) (fun hb17 => ?_)
            · refine r_lf (hx16 _) ?_
              refine r_sub [0, 1, 2, 3, 4, 5, 6, 7, 8, 9] rfl ?_
              exact hj11 (s14.1, s14.2.1, s14.2.2.1)
            · refine r_iload (i := 6) (x := s6.2.2.2) (q := 72) 6 hX dX12_plan_70 rfl rfl ?_
              refine r_iload (i := 10) (x := s14.2.2.2) (q := 74) 10 hX dX12_plan_72 rfl rfl ?_
              refine r_ishr (q := 75) hX dX12_plan_74 rfl ?_
              refine r_iconst (v := (1 : Int32)) (q := 76) hX dX12_plan_75 rfl rfl ?_
              refine r_iand (q := 77) hX dX12_plan_76 rfl ?_
              refine r_iconst (v := (1 : Int32)) (q := 78) hX dX12_plan_77 rfl rfl ?_
              refine r_icmp_ne (tgt := 144) (q := 81) hX dX12_plan_78 (by decide) rfl (fun hb18 => ?_) (fun hb18 => ?_)
              · refine r_iload (i := 7) (x := s14.1) (q := 83) 7 hX dX12_plan_81 rfl rfl ?_
                refine r_aload_n (i := 0) (x := a0) (q := 84) 0 hX dX12_plan_83 rfl rfl rfl ?_
                refine r_getR (a := a0) (ci := 12) (kf := 82) (q := 87) hX hc9 flX12_176 rfl dX12_plan_84 rfl ?_
                refine r_iload (i := 10) (x := s14.2.2.2) (q := 89) 10 hX dX12_plan_87 rfl rfl ?_
                refine r_ck (fun hc19 => ?_)
                refine r_iald (a := (rR M a0 82)) (i := s14.2.2.2) (q := 90) hX hc19 dX12_plan_89 rfl ?_
                refine r_iadd (q := 91) hX dX12_plan_90 rfl ?_
                refine r_istoreP (x := (s14.1 + (rI M (rR M a0 82) (ix s14.2.2.2)))) (q := 93) 7 [1, 2, 3, 4, 5, 6, 7, 0, 9, 10, 11] (fun z20 => [(0, vr a0), (1, vi x1), (2, vi x2), (3, vi s6.1), (4, vi s6.2.1), (5, vi s6.2.2.1), (6, vi s6.2.2.2), (7, vi z20), (8, vi s14.2.1), (9, vi s14.2.2.1), (10, vi s14.2.2.2)]) hX dX12_plan_91 (Nat.le_of_ble_eq_true rfl) (fun _ => rfl) rfl (fun z20 => ?_)
                refine r_iload (i := 8) (x := s14.2.1) (q := 95) 8 hX dX12_plan_93 rfl rfl ?_
                refine r_aload_n (i := 0) (x := a0) (q := 96) 0 hX dX12_plan_95 rfl rfl rfl ?_
                refine r_getR (a := a0) (ci := 12) (kf := 83) (q := 99) hX hc9 flX12_179 rfl dX12_plan_96 rfl ?_
                refine r_iload (i := 10) (x := s14.2.2.2) (q := 101) 10 hX dX12_plan_99 rfl rfl ?_
                refine r_ck (fun hc21 => ?_)
                refine r_iald (a := (rR M a0 83)) (i := s14.2.2.2) (q := 102) hX hc21 dX12_plan_101 rfl ?_
                refine r_iadd (q := 103) hX dX12_plan_102 rfl ?_
                refine r_istoreP (x := (s14.2.1 + (rI M (rR M a0 83) (ix s14.2.2.2)))) (q := 105) 8 [1, 2, 3, 4, 5, 6, 7, 8, 0, 10, 11] (fun z22 => [(0, vr a0), (1, vi x1), (2, vi x2), (3, vi s6.1), (4, vi s6.2.1), (5, vi s6.2.2.1), (6, vi s6.2.2.2), (7, vi z20), (8, vi z22), (9, vi s14.2.2.1), (10, vi s14.2.2.2)]) hX dX12_plan_103 (Nat.le_of_ble_eq_true rfl) (fun _ => rfl) rfl (fun z22 => ?_)
                refine r_iload (i := 9) (x := s14.2.2.1) (q := 107) 9 hX dX12_plan_105 rfl rfl ?_
                refine r_if_eq (tgt := 141) (q := 110) hX dX12_plan_107 (by decide) rfl (fun hb23 => ?_) (fun hb23 => ?_)
                · refine r_iconst (v := (0 : Int32)) (q := 142) hX dX12_plan_141 rfl rfl ?_
                  refine r_istore (x := (0 : Int32)) (q := 144) 9 [1, 2, 3, 4, 5, 6, 7, 8, 9, 0, 11] (L1 := [(0, vr a0), (1, vi x1), (2, vi x2), (3, vi s6.1), (4, vi s6.2.1), (5, vi s6.2.2.1), (6, vi s6.2.2.2), (7, vi z20), (8, vi z22), (9, vi (0 : Int32)), (10, vi s14.2.2.2)]) hX dX12_plan_142 (Nat.le_of_ble_eq_true rfl) rfl rfl ?_
                  refine r_iinc (x := s14.2.2.2) (v := (s14.2.2.2 + (1 : Int32))) (q := 147) 10 10 [1, 2, 3, 4, 5, 6, 7, 8, 9, 10, 0] (L1 := [(0, vr a0), (1, vi x1), (2, vi x2), (3, vi s6.1), (4, vi s6.2.1), (5, vi s6.2.2.1), (6, vi s6.2.2.2), (7, vi z20), (8, vi z22), (9, vi (0 : Int32)), (10, vi (s14.2.2.2 + (1 : Int32)))]) hX dX12_plan_144 rfl rfl (Nat.le_of_ble_eq_true rfl) rfl rfl ?_
                  refine r_goto (q := 61) hX dX12_plan_147 (by decide) ?_
                  refine r_l0 ?_
                  exact hn15 (z20, z22, (0 : Int32), (s14.2.2.2 + (1 : Int32)))
                · refine r_aload_n (i := 0) (x := a0) (q := 111) 0 hX dX12_plan_110 rfl rfl rfl ?_
                  refine r_getR (a := a0) (ci := 12) (kf := 84) (q := 114) hX hc9 flX12_182 rfl dX12_plan_111 rfl ?_
                  refine r_iload (i := 10) (x := s14.2.2.2) (q := 116) 10 hX dX12_plan_114 rfl rfl ?_
                  refine r_ck (fun hc24 => ?_)
                  refine r_iald (a := (rR M a0 84)) (i := s14.2.2.2) (q := 117) hX hc24 dX12_plan_116 rfl ?_
                  refine r_iconst (v := (-1 : Int32)) (q := 118) hX dX12_plan_117 rfl rfl ?_
                  refine r_icmp_eq (tgt := 137) (q := 121) hX dX12_plan_118 (by decide) rfl (fun hb25 => ?_) (fun hb25 => ?_)
                  · refine r_iconst (v := (1 : Int32)) (q := 138) hX dX12_plan_137 rfl rfl ?_
                    refine r_goto (q := 142) hX dX12_plan_138 (by decide) ?_
                    refine r_istore (x := (1 : Int32)) (q := 144) 9 [1, 2, 3, 4, 5, 6, 7, 8, 9, 0, 11] (L1 := [(0, vr a0), (1, vi x1), (2, vi x2), (3, vi s6.1), (4, vi s6.2.1), (5, vi s6.2.2.1), (6, vi s6.2.2.2), (7, vi z20), (8, vi z22), (9, vi (1 : Int32)), (10, vi s14.2.2.2)]) hX dX12_plan_142 (Nat.le_of_ble_eq_true rfl) rfl rfl ?_
                    refine r_iinc (x := s14.2.2.2) (v := (s14.2.2.2 + (1 : Int32))) (q := 147) 10 10 [1, 2, 3, 4, 5, 6, 7, 8, 9, 10, 0] (L1 := [(0, vr a0), (1, vi x1), (2, vi x2), (3, vi s6.1), (4, vi s6.2.1), (5, vi s6.2.2.1), (6, vi s6.2.2.2), (7, vi z20), (8, vi z22), (9, vi (1 : Int32)), (10, vi (s14.2.2.2 + (1 : Int32)))]) hX dX12_plan_144 rfl rfl (Nat.le_of_ble_eq_true rfl) rfl rfl ?_
                    refine r_goto (q := 61) hX dX12_plan_147 (by decide) ?_
                    refine r_l0 ?_
                    exact hn15 (z20, z22, (1 : Int32), (s14.2.2.2 + (1 : Int32)))
                  · refine r_iload (i := 6) (x := s6.2.2.2) (q := 123) 6 hX dX12_plan_121 rfl rfl ?_
                    refine r_aload_n (i := 0) (x := a0) (q := 124) 0 hX dX12_plan_123 rfl rfl rfl ?_
                    refine r_getR (a := a0) (ci := 12) (kf := 84) (q := 127) hX hc9 flX12_182 rfl dX12_plan_124 rfl ?_
                    refine r_iload (i := 10) (x := s14.2.2.2) (q := 129) 10 hX dX12_plan_127 rfl rfl ?_
                    refine r_iald (a := (rR M a0 84)) (i := s14.2.2.2) (q := 130) hX hc24 dX12_plan_129 rfl ?_
                    refine r_ishr (q := 131) hX dX12_plan_130 rfl ?_
                    refine r_iconst (v := (1 : Int32)) (q := 132) hX dX12_plan_131 rfl rfl ?_
                    refine r_iand (q := 133) hX dX12_plan_132 rfl ?_
                    refine r_iconst (v := (1 : Int32)) (q := 134) hX dX12_plan_133 rfl rfl ?_
                    refine r_icmp_ne (tgt := 141) (q := 137) hX dX12_plan_134 (by decide) rfl (fun hb26 => ?_) (fun hb26 => ?_)
                    · refine r_iconst (v := (1 : Int32)) (q := 138) hX dX12_plan_137 rfl rfl ?_
                      refine r_goto (q := 142) hX dX12_plan_138 (by decide) ?_
                      refine r_istore (x := (1 : Int32)) (q := 144) 9 [1, 2, 3, 4, 5, 6, 7, 8, 9, 0, 11] (L1 := [(0, vr a0), (1, vi x1), (2, vi x2), (3, vi s6.1), (4, vi s6.2.1), (5, vi s6.2.2.1), (6, vi s6.2.2.2), (7, vi z20), (8, vi z22), (9, vi (1 : Int32)), (10, vi s14.2.2.2)]) hX dX12_plan_142 (Nat.le_of_ble_eq_true rfl) rfl rfl ?_
                      refine r_iinc (x := s14.2.2.2) (v := (s14.2.2.2 + (1 : Int32))) (q := 147) 10 10 [1, 2, 3, 4, 5, 6, 7, 8, 9, 10, 0] (L1 := [(0, vr a0), (1, vi x1), (2, vi x2), (3, vi s6.1), (4, vi s6.2.1), (5, vi s6.2.2.1), (6, vi s6.2.2.2), (7, vi z20), (8, vi z22), (9, vi (1 : Int32)), (10, vi (s14.2.2.2 + (1 : Int32)))]) hX dX12_plan_144 rfl rfl (Nat.le_of_ble_eq_true rfl) rfl rfl ?_
                      refine r_goto (q := 61) hX dX12_plan_147 (by decide) ?_
                      refine r_l0 ?_
                      exact hn15 (z20, z22, (1 : Int32), (s14.2.2.2 + (1 : Int32)))
                    · refine r_iconst (v := (0 : Int32)) (q := 142) hX dX12_plan_141 rfl rfl ?_
                      refine r_istore (x := (0 : Int32)) (q := 144) 9 [1, 2, 3, 4, 5, 6, 7, 8, 9, 0, 11] (L1 := [(0, vr a0), (1, vi x1), (2, vi x2), (3, vi s6.1), (4, vi s6.2.1), (5, vi s6.2.2.1), (6, vi s6.2.2.2), (7, vi z20), (8, vi z22), (9, vi (0 : Int32)), (10, vi s14.2.2.2)]) hX dX12_plan_142 (Nat.le_of_ble_eq_true rfl) rfl rfl ?_
                      refine r_iinc (x := s14.2.2.2) (v := (s14.2.2.2 + (1 : Int32))) (q := 147) 10 10 [1, 2, 3, 4, 5, 6, 7, 8, 9, 10, 0] (L1 := [(0, vr a0), (1, vi x1), (2, vi x2), (3, vi s6.1), (4, vi s6.2.1), (5, vi s6.2.2.1), (6, vi s6.2.2.2), (7, vi z20), (8, vi z22), (9, vi (0 : Int32)), (10, vi (s14.2.2.2 + (1 : Int32)))]) hX dX12_plan_144 rfl rfl (Nat.le_of_ble_eq_true rfl) rfl rfl ?_
                      refine r_goto (q := 61) hX dX12_plan_147 (by decide) ?_
                      refine r_l0 ?_
                      exact hn15 (z20, z22, (0 : Int32), (s14.2.2.2 + (1 : Int32)))
              · refine r_iinc (x := s14.2.2.2) (v := (s14.2.2.2 + (1 : Int32))) (q := 147) 10 10 [1, 2, 3, 4, 5, 6, 7, 8, 9, 10, 0] (L1 := [(0, vr a0), (1, vi x1), (2, vi x2), (3, vi s6.1), (4, vi s6.2.1), (5, vi s6.2.2.1), (6, vi s6.2.2.2), (7, vi s14.1), (8, vi s14.2.1), (9, vi s14.2.2.1), (10, vi (s14.2.2.2 + (1 : Int32)))]) hX dX12_plan_144 rfl rfl (Nat.le_of_ble_eq_true rfl) rfl rfl ?_
                refine r_goto (q := 61) hX dX12_plan_147 (by decide) ?_
                refine r_l0 ?_
                exact hn15 (s14.1, s14.2.1, s14.2.2.1, (s14.2.2.2 + (1 : Int32)))
def mX12_pound : MD := (yX12_pound, cX12_pound, 6, (some .int), 2, 45, 0, 0)
theorem ccX12_pound : Cc mX12_pound 3 := ⟨gd (hcw1_0 _ (List.mem_of_getElem? (i := 10) rfl)) rfl, gd (hcw6_10 _ (List.mem_of_getElem? (i := 17) rfl)) rfl, by decide +kernel, by decide +kernel, by decide +kernel⟩
theorem ivX12_pound : Iv mX12_pound 12 := ⟨Nat.le_of_ble_eq_true rfl, rfl, gd (hcw6_10 _ (List.mem_of_getElem? (i := 15) rfl)) rfl, gd (hcw6_10 _ (List.mem_of_getElem? (i := 16) rfl)) rfl⟩
noncomputable def fX12_pound (Z : Shp) (M : Mem) (a0 : Nat) (x1 : Int32) (x2 : Int32) (x3 : Int32) : Option (Int32 × Mem) := (if (fX12_isPound x1) = 0 then some ((-101 : Int32), M) else (if (fX12_in (x2.toInt64) (0 : Int64) (2 : Int64)) = 0 then some ((-101 : Int32), M) else (Option.bind (if x2 = (1 : Int32) then (if tg Z a0 = (13, 86) then (if aok Z (rR M a0 0) 100 x1 then (if (rI M (rR M a0 0) (ix x1)) ≤ (100 : Int32) then some (100 : Int32) else some (rI M (rR M a0 0) (ix x1))) else none) else none) else some (0 : Int32)) (fun v6 : Int32 => (Option.bind (if x2 = 0 then (if tg Z a0 = (13, 86) then (if aok Z (rR M a0 1) 100 x1 then some ((rI M (rR M a0 1) (ix x1)).toInt64) else none) else none) else some (9999 : Int64)) (fun v13 : Int64 => (if (fX12_in (x3.toInt64) (v6.toInt64) v13) = 0 then some ((-102 : Int32), M) else (if tg Z a0 = (13, 86) then (Option.bind (fX12_nowOf Z M a0 x1 x2) (fun v18 => (Option.bind (if x2 = 0 then some x3 else (if aok Z (rR M a0 0) 100 x1 then some (rI M (rR M a0 0) (ix x1)) else none)) (fun v23 : Int32 => (if aok Z (rR M a0 0) 100 x1 then (pu (wI M (rR M a0 0) (ix x1) v23) (fun M26 => (Option.bind (if x2 = (1 : Int32) then some x3 else (if aok Z (rR M26 a0 1) 100 x1 then some (rI M26 (rR M26 a0 1) (ix x1)) else none)) (fun v30 : Int32 => (if aok Z (rR M26 a0 1) 100 x1 then (pu (wI M26 (rR M26 a0 1) (ix x1) v30) (fun M33 => (if x2 = (2 : Int32) then (if aok Z (rR M33 a0 2) 100 x1 then (pu (wI M33 (rR M33 a0 2) (ix x1) x3) (fun M36 => some (v18, M36))) else none) else (if aok Z (rR M33 a0 2) 100 x1 then (pu (wI M33 (rR M33 a0 2) (ix x1) (rI M33 (rR M33 a0 2) (ix x1))) (fun M38 => some (v18, M38))) else none)))) else none))))) else none))))) else none))))))))
set_option maxRecDepth 20000 in
theorem kX12_pound (l : Launch) (Z : Shp) (M : Mem) (a0 : Nat) (x1 : Int32) (x2 : Int32) (x3 : Int32) (r : Int32 × Mem) (h : fX12_pound Z M a0 x1 x2 x3 = some r) : Ct l mX12_pound [vr a0, vi x1, vi x2, vi x3] Z M ((some (vi r.1)), Z, r.2) := by
  refine Ct.of rfl (Nat.le_of_ble_eq_true rfl) (fun X hM => ?_)
  have hX := hM.1
  refine r_top (mk := fun r => ((some (vi r.1)), Z, r.2)) h (fun K hK => ?_)
  unfold fX12_pound
  refine r_iload_n (i := 1) (x := x1) (q := 1) 1 hX dX12_pound_0 rfl rfl rfl ?_
  refine r_cs (As := [vi x1]) (st := []) (r := (some (vi (fX12_isPound x1)))) (Z1 := Z) (M1 := M) (k1 := 0) (n1 := 0) (st1 := [vi (fX12_isPound x1)]) (q := 4) hX (fun l => kX12_isPound l Z M x1) stX12_isPound ccX12_isPound (Or.inl lkX12_198) rfl rfl rfl ⟨Nat.le_of_ble_eq_true rfl, Nat.le_of_ble_eq_true rfl, rfl, rfl, Nat.le_of_ble_eq_true rfl, Nat.le_of_ble_eq_true rfl⟩ (Nat.le_of_ble_eq_true rfl) dX12_pound_1 rfl ?_
  refine r_if_eq (tgt := 19) (q := 7) hX dX12_pound_4 (by decide) rfl (fun hb1 => ?_) (fun hb1 => ?_)
  · refine r_bipush (v := (-101 : Int32)) (q := 21) hX dX12_pound_19 rfl rfl ?_
    refine r_lf (hK _) ?_
    exact r_iret hM rfl (Nat.le_of_ble_eq_true rfl) (Nat.le_of_ble_eq_true rfl) dX12_pound_21
  · refine r_iload_n (i := 2) (x := x2) (q := 8) 2 hX dX12_pound_7 rfl rfl rfl ?_
    refine r_i2l (q := 9) hX dX12_pound_8 rfl ?_
    refine r_lconst (v := (0 : Int64)) (q := 10) hX dX12_pound_9 rfl rfl ?_
    refine r_ldc2 (v := (2 : Int64)) (q := 13) hX dX12_pound_10 (gd (hcw6_11 _ (List.mem_of_getElem? (i := 5) rfl)) rfl) rfl ?_
    refine r_cs (As := [vj (x2.toInt64), vj (0 : Int64), vj (2 : Int64)]) (st := []) (r := (some (vi (fX12_in (x2.toInt64) (0 : Int64) (2 : Int64))))) (Z1 := Z) (M1 := M) (k1 := 0) (n1 := 0) (st1 := [vi (fX12_in (x2.toInt64) (0 : Int64) (2 : Int64))]) (q := 16) hX (fun l => kX12_in l Z M (x2.toInt64) (0 : Int64) (2 : Int64)) stX12_in ccX12_in (Or.inl lkX12_194) rfl rfl rfl ⟨Nat.le_of_ble_eq_true rfl, Nat.le_of_ble_eq_true rfl, rfl, rfl, Nat.le_of_ble_eq_true rfl, Nat.le_of_ble_eq_true rfl⟩ (Nat.le_of_ble_eq_true rfl) dX12_pound_13 rfl ?_
    refine r_if_ne (tgt := 22) (q := 19) hX dX12_pound_16 (by decide) rfl (fun hb2 => ?_) (fun hb2 => ?_)
    · refine r_bipush (v := (-101 : Int32)) (q := 21) hX dX12_pound_19 rfl rfl ?_
      refine r_lf (hK _) ?_
      exact r_iret hM rfl (Nat.le_of_ble_eq_true rfl) (Nat.le_of_ble_eq_true rfl) dX12_pound_21
    · refine r_iload_n (i := 2) (x := x2) (q := 23) 2 hX dX12_pound_22 rfl rfl rfl ?_
      refine r_iconst (v := (1 : Int32)) (q := 24) hX dX12_pound_23 rfl rfl ?_
      refine r_jn (J := fun (v6 : Int32) (P : Option Res) => Ref mX12_pound X 0 0 Z M 53 [(0, vr a0), (1, vi x1), (2, vi x2), (3, vi x3)] [vi v6] P) (fun v6 => ?_) (fun K1 hj4 => ?_)
      · refine r_istore (x := v6) (q := 55) 4 [1, 2, 3, 4, 0] (L1 := [(0, vr a0), (1, vi x1), (2, vi x2), (3, vi x3), (4, vi v6)]) hX dX12_pound_53 (Nat.le_of_ble_eq_true rfl) rfl rfl ?_
        refine r_iload_n (i := 3) (x := x3) (q := 56) 3 hX dX12_pound_55 rfl rfl rfl ?_
        refine r_i2l (q := 57) hX dX12_pound_56 rfl ?_
        refine r_iload (i := 4) (x := v6) (q := 59) 4 hX dX12_pound_57 rfl rfl ?_
        refine r_i2l (q := 60) hX dX12_pound_59 rfl ?_
        refine r_iload_n (i := 2) (x := x2) (q := 61) 2 hX dX12_pound_60 rfl rfl rfl ?_
        refine r_jn (J := fun (v13 : Int64) (P : Option Res) => Ref mX12_pound X 0 0 Z M 77 [(0, vr a0), (1, vi x1), (2, vi x2), (3, vi x3)] [vj v13, vj (v6.toInt64), vj (x3.toInt64)] P) (fun v13 => ?_) (fun K1 hj11 => ?_)
        · refine r_cs (As := [vj (x3.toInt64), vj (v6.toInt64), vj v13]) (st := []) (r := (some (vi (fX12_in (x3.toInt64) (v6.toInt64) v13)))) (Z1 := Z) (M1 := M) (k1 := 0) (n1 := 0) (st1 := [vi (fX12_in (x3.toInt64) (v6.toInt64) v13)]) (q := 80) hX (fun l => kX12_in l Z M (x3.toInt64) (v6.toInt64) v13) stX12_in ccX12_in (Or.inl lkX12_194) rfl rfl rfl ⟨Nat.le_of_ble_eq_true rfl, Nat.le_of_ble_eq_true rfl, rfl, rfl, Nat.le_of_ble_eq_true rfl, Nat.le_of_ble_eq_true rfl⟩ (Nat.le_of_ble_eq_true rfl) dX12_pound_77 rfl ?_
          refine r_if_ne (tgt := 86) (q := 83) hX dX12_pound_80 (by decide) rfl (fun hb16 => ?_) (fun hb16 => ?_)
          · refine r_bipush (v := (-102 : Int32)) (q := 85) hX dX12_pound_83 rfl rfl ?_
            refine r_lf (hK _) ?_
            exact r_iret hM rfl (Nat.le_of_ble_eq_true rfl) (Nat.le_of_ble_eq_true rfl) dX12_pound_85
          · refine r_aload_n (i := 0) (x := a0) (q := 87) 0 hX dX12_pound_86 rfl rfl rfl ?_
            refine r_iload_n (i := 1) (x := x1) (q := 88) 1 hX dX12_pound_87 rfl rfl rfl ?_
            refine r_iload_n (i := 2) (x := x2) (q := 89) 2 hX dX12_pound_88 rfl rfl rfl ?_
            refine r_ck (fun hc17 => ?_)
            refine r_bind (fun v18 h19 => ?_)
            refine r_cv (a := a0) (As := [vi x1, vi x2]) (st := []) (r := (some (vi v18))) (Z1 := Z) (M1 := M) (k1 := 0) (n1 := 0) (st1 := [vi v18]) (q := 92) hX (fun l => kX12_nowOf l Z M a0 x1 x2 v18 h19) hc17 ivX12_nowOf ccX12_nowOf (Or.inl lkX12_206) rfl rfl rfl ⟨Nat.le_of_ble_eq_true rfl, Nat.le_of_ble_eq_true rfl, rfl, rfl, Nat.le_of_ble_eq_true rfl, Nat.le_of_ble_eq_true rfl⟩ (Nat.le_of_ble_eq_true rfl) dX12_pound_89 rfl ?_
            refine r_istore (x := v18) (q := 94) 5 [1, 2, 3, 4, 0] (L1 := [(0, vr a0), (1, vi x1), (2, vi x2), (3, vi x3), (5, vi v18)]) hX dX12_pound_92 (Nat.le_of_ble_eq_true rfl) rfl rfl ?_
            refine r_aload_n (i := 0) (x := a0) (q := 95) 0 hX dX12_pound_94 rfl rfl rfl ?_
            refine r_getR (a := a0) (ci := 12) (kf := 0) (q := 98) hX hc17 flX12_7 rfl dX12_pound_95 rfl ?_
            refine r_iload_n (i := 1) (x := x1) (q := 99) 1 hX dX12_pound_98 rfl rfl rfl ?_
            refine r_iload_n (i := 2) (x := x2) (q := 100) 2 hX dX12_pound_99 rfl rfl rfl ?_
            refine r_jn (J := fun (v23 : Int32) (P : Option Res) => Ref mX12_pound X 0 0 Z M 113 [(0, vr a0), (1, vi x1), (2, vi x2), (3, vi x3), (5, vi v18)] [vi v23, vi x1, vr (rR M a0 0)] P) (fun v23 => ?_) (fun K1 hj21 => ?_)
            · refine r_ck (fun hc25 => ?_)
              refine r_iast (a := (rR M a0 0)) (i := x1) (x := v23) (q := 114) hX hc25 dX12_pound_113 rfl (fun M26 => ?_)
              refine r_aload_n (i := 0) (x := a0) (q := 115) 0 hX dX12_pound_114 rfl rfl rfl ?_
              refine r_getR (a := a0) (ci := 12) (kf := 1) (q := 118) hX hc17 flX12_13 rfl dX12_pound_115 rfl ?_
              refine r_iload_n (i := 1) (x := x1) (q := 119) 1 hX dX12_pound_118 rfl rfl rfl ?_
              refine r_iload_n (i := 2) (x := x2) (q := 120) 2 hX dX12_pound_119 rfl rfl rfl ?_
              refine r_iconst (v := (1 : Int32)) (q := 121) hX dX12_pound_120 rfl rfl ?_
              refine r_jn (J := fun (v30 : Int32) (P : Option Res) => Ref mX12_pound X 0 0 Z M26 134 [(0, vr a0), (1, vi x1), (2, vi x2), (3, vi x3), (5, vi v18)] [vi v30, vi x1, vr (rR M26 a0 1)] P) (fun v30 => ?_) (fun K1 hj28 => ?_)
              · refine r_ck (fun hc32 => ?_)
                refine r_iast (a := (rR M26 a0 1)) (i := x1) (x := v30) (q := 135) hX hc32 dX12_pound_134 rfl (fun M33 => ?_)
                refine r_aload_n (i := 0) (x := a0) (q := 136) 0 hX dX12_pound_135 rfl rfl rfl ?_
                refine r_getR (a := a0) (ci := 12) (kf := 2) (q := 139) hX hc17 flX12_16 rfl dX12_pound_136 rfl ?_
                refine r_iload_n (i := 1) (x := x1) (q := 140) 1 hX dX12_pound_139 rfl rfl rfl ?_
                refine r_iload_n (i := 2) (x := x2) (q := 141) 2 hX dX12_pound_140 rfl rfl rfl ?_
                refine r_iconst (v := (2 : Int32)) (q := 142) hX dX12_pound_141 rfl rfl ?_
                refine r_icmp_ne (tgt := 149) (q := 145) hX dX12_pound_142 (by decide) rfl (fun hb34 => ?_) (fun hb34 => ?_)
                · refine r_iload_n (i := 3) (x := x3) (q := 146) 3 hX dX12_pound_145 rfl rfl rfl ?_
                  refine r_goto (q := 155) hX dX12_pound_146 (by decide) ?_
                  refine r_ck (fun hc35 => ?_)
                  refine r_iast (a := (rR M33 a0 2)) (i := x1) (x := x3) (q := 156) hX hc35 dX12_pound_155 rfl (fun M36 => ?_)
                  refine r_iload (i := 5) (x := v18) (q := 158) 4 hX dX12_pound_156 rfl rfl ?_
                  refine r_lf (hK _) ?_
                  exact r_iret hM rfl (Nat.le_of_ble_eq_true rfl) (Nat.le_of_ble_eq_true rfl) dX12_pound_158
                · refine r_aload_n (i := 0) (x := a0) (q := 150) 0 hX dX12_pound_149 rfl rfl rfl ?_
                  refine r_getR (a := a0) (ci := 12) (kf := 2) (q := 153) hX hc17 flX12_16 rfl dX12_pound_150 rfl ?_
                  refine r_iload_n (i := 1) (x := x1) (q := 154) 1 hX dX12_pound_153 rfl rfl rfl ?_
                  refine r_ck (fun hc37 => ?_)
                  refine r_iald (a := (rR M33 a0 2)) (i := x1) (q := 155) hX hc37 dX12_pound_154 rfl ?_
                  refine r_iast (a := (rR M33 a0 2)) (i := x1) (x := (rI M33 (rR M33 a0 2) (ix x1))) (q := 156) hX hc37 dX12_pound_155 rfl (fun M38 => ?_)
                  refine r_iload (i := 5) (x := v18) (q := 158) 4 hX dX12_pound_156 rfl rfl ?_
                  refine r_lf (hK _) ?_
                  exact r_iret hM rfl (Nat.le_of_ble_eq_true rfl) (Nat.le_of_ble_eq_true rfl) dX12_pound_158
              · refine r_icmp_ne (tgt := 128) (q := 124) hX dX12_pound_121 (by decide) rfl (fun hb27 => ?_) (fun hb27 => ?_)
                · refine r_iload_n (i := 3) (x := x3) (q := 125) 3 hX dX12_pound_124 rfl rfl rfl ?_
                  refine r_goto (q := 134) hX dX12_pound_125 (by decide) ?_
                  refine r_l0 ?_
                  exact hj28 x3
                · refine r_aload_n (i := 0) (x := a0) (q := 129) 0 hX dX12_pound_128 rfl rfl rfl ?_
                  refine r_getR (a := a0) (ci := 12) (kf := 1) (q := 132) hX hc17 flX12_13 rfl dX12_pound_129 rfl ?_
                  refine r_iload_n (i := 1) (x := x1) (q := 133) 1 hX dX12_pound_132 rfl rfl rfl ?_
                  refine r_ck (fun hc31 => ?_)
                  refine r_iald (a := (rR M26 a0 1)) (i := x1) (q := 134) hX hc31 dX12_pound_133 rfl ?_
                  refine r_l0 ?_
                  exact hj28 (rI M26 (rR M26 a0 1) (ix x1))
            · refine r_if_ne (tgt := 107) (q := 103) hX dX12_pound_100 (by decide) rfl (fun hb20 => ?_) (fun hb20 => ?_)
              · refine r_iload_n (i := 3) (x := x3) (q := 104) 3 hX dX12_pound_103 rfl rfl rfl ?_
                refine r_goto (q := 113) hX dX12_pound_104 (by decide) ?_
                refine r_l0 ?_
                exact hj21 x3
              · refine r_aload_n (i := 0) (x := a0) (q := 108) 0 hX dX12_pound_107 rfl rfl rfl ?_
                refine r_getR (a := a0) (ci := 12) (kf := 0) (q := 111) hX hc17 flX12_7 rfl dX12_pound_108 rfl ?_
                refine r_iload_n (i := 1) (x := x1) (q := 112) 1 hX dX12_pound_111 rfl rfl rfl ?_
                refine r_ck (fun hc24 => ?_)
                refine r_iald (a := (rR M a0 0)) (i := x1) (q := 113) hX hc24 dX12_pound_112 rfl ?_
                refine r_l0 ?_
                exact hj21 (rI M (rR M a0 0) (ix x1))
        · refine r_if_ne (tgt := 74) (q := 64) hX dX12_pound_61 (by decide) rfl (fun hb10 => ?_) (fun hb10 => ?_)
          · refine r_aload_n (i := 0) (x := a0) (q := 65) 0 hX dX12_pound_64 rfl rfl rfl ?_
            refine r_ck (fun hc14 => ?_)
            refine r_getR (a := a0) (ci := 12) (kf := 1) (q := 68) hX hc14 flX12_13 rfl dX12_pound_65 rfl ?_
            refine r_iload_n (i := 1) (x := x1) (q := 69) 1 hX dX12_pound_68 rfl rfl rfl ?_
            refine r_ck (fun hc15 => ?_)
            refine r_iald (a := (rR M a0 1)) (i := x1) (q := 70) hX hc15 dX12_pound_69 rfl ?_
            refine r_i2l (q := 71) hX dX12_pound_70 rfl ?_
            refine r_goto (q := 77) hX dX12_pound_71 (by decide) ?_
            refine r_l0 ?_
            refine r_sub [0, 1, 2, 3] rfl ?_
            exact hj11 ((rI M (rR M a0 1) (ix x1)).toInt64)
          · refine r_ldc2 (v := (9999 : Int64)) (q := 77) hX dX12_pound_74 (gd (hcw6_11 _ (List.mem_of_getElem? (i := 6) rfl)) rfl) rfl ?_
            refine r_l0 ?_
            refine r_sub [0, 1, 2, 3] rfl ?_
            exact hj11 (9999 : Int64)
      · refine r_icmp_ne (tgt := 52) (q := 27) hX dX12_pound_24 (by decide) rfl (fun hb3 => ?_) (fun hb3 => ?_)
        · refine r_aload_n (i := 0) (x := a0) (q := 28) 0 hX dX12_pound_27 rfl rfl rfl ?_
          refine r_ck (fun hc7 => ?_)
          refine r_getR (a := a0) (ci := 12) (kf := 0) (q := 31) hX hc7 flX12_7 rfl dX12_pound_28 rfl ?_
          refine r_iload_n (i := 1) (x := x1) (q := 32) 1 hX dX12_pound_31 rfl rfl rfl ?_
          refine r_ck (fun hc8 => ?_)
          refine r_iald (a := (rR M a0 0)) (i := x1) (q := 33) hX hc8 dX12_pound_32 rfl ?_
          refine r_bipush (v := (100 : Int32)) (q := 35) hX dX12_pound_33 rfl rfl ?_
          refine r_icmp_le (tgt := 47) (q := 38) hX dX12_pound_35 (by decide) rfl (fun hb9 => ?_) (fun hb9 => ?_)
          · refine r_bipush (v := (100 : Int32)) (q := 49) hX dX12_pound_47 rfl rfl ?_
            refine r_goto (q := 53) hX dX12_pound_49 (by decide) ?_
            refine r_l0 ?_
            exact hj4 (100 : Int32)
          · refine r_aload_n (i := 0) (x := a0) (q := 39) 0 hX dX12_pound_38 rfl rfl rfl ?_
            refine r_getR (a := a0) (ci := 12) (kf := 0) (q := 42) hX hc7 flX12_7 rfl dX12_pound_39 rfl ?_
            refine r_iload_n (i := 1) (x := x1) (q := 43) 1 hX dX12_pound_42 rfl rfl rfl ?_
            refine r_iald (a := (rR M a0 0)) (i := x1) (q := 44) hX hc8 dX12_pound_43 rfl ?_
            refine r_goto (q := 53) hX dX12_pound_44 (by decide) ?_
            refine r_l0 ?_
            exact hj4 (rI M (rR M a0 0) (ix x1))
        · refine r_iconst (v := (0 : Int32)) (q := 53) hX dX12_pound_52 rfl rfl ?_
          refine r_l0 ?_
          exact hj4 (0 : Int32)
