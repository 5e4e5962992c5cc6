def mJ6_bitCount_0f7a4 : MD := (yJ6_bitCount_0f7a4, cJ6_bitCount_0f7a4, 1, (some .int), 0, 0, 0, 0)
theorem ccJ6_bitCount_0f7a4 : Cc mJ6_bitCount_0f7a4 1 := ⟨gd (hcw1_0 _ (List.mem_of_getElem? (i := 17) rfl)) rfl, gd (hcw4_10 _ (List.mem_of_getElem? (i := 17) rfl)) rfl, by decide +kernel, by decide +kernel, by decide +kernel⟩
theorem stJ6_bitCount_0f7a4 : Cond.static (yN mJ6_bitCount_0f7a4) ∈ lw_gd := gd (hcw4_10 _ (List.mem_of_getElem? (i := 16) rfl)) rfl
def fJ6_bitCount_0f7a4 (x0 : Int32) : Int32 := (pu ((x0 - (((x0.toUInt32 >>> ((1 : Int32).toUInt32 &&& Int32.toUInt32 31)).toInt32) &&& (1431655765 : Int32)))) (fun z1 => (pu (((z1 &&& (858993459 : Int32)) + (((z1.toUInt32 >>> ((2 : Int32).toUInt32 &&& Int32.toUInt32 31)).toInt32) &&& (858993459 : Int32)))) (fun z2 => (pu (((z2 + ((z2.toUInt32 >>> ((4 : Int32).toUInt32 &&& Int32.toUInt32 31)).toInt32)) &&& (252645135 : Int32))) (fun z3 => (pu ((z3 + ((z3.toUInt32 >>> ((8 : Int32).toUInt32 &&& Int32.toUInt32 31)).toInt32))) (fun z4 => (pu ((z4 + ((z4.toUInt32 >>> ((16 : Int32).toUInt32 &&& Int32.toUInt32 31)).toInt32))) (fun z5 => (z5 &&& (63 : Int32))))))))))))
def gJ6_bitCount_0f7a4 (x0 : Int32) : Option (Int32) := (pu ((x0 - (((x0.toUInt32 >>> ((1 : Int32).toUInt32 &&& Int32.toUInt32 31)).toInt32) &&& (1431655765 : Int32)))) (fun z1 => (pu (((z1 &&& (858993459 : Int32)) + (((z1.toUInt32 >>> ((2 : Int32).toUInt32 &&& Int32.toUInt32 31)).toInt32) &&& (858993459 : Int32)))) (fun z2 => (pu (((z2 + ((z2.toUInt32 >>> ((4 : Int32).toUInt32 &&& Int32.toUInt32 31)).toInt32)) &&& (252645135 : Int32))) (fun z3 => (pu ((z3 + ((z3.toUInt32 >>> ((8 : Int32).toUInt32 &&& Int32.toUInt32 31)).toInt32))) (fun z4 => (pu ((z4 + ((z4.toUInt32 >>> ((16 : Int32).toUInt32 &&& Int32.toUInt32 31)).toInt32))) (fun z5 => some (z5 &&& (63 : Int32))))))))))))
theorem eJ6_bitCount_0f7a4 (x0 : Int32) : gJ6_bitCount_0f7a4 x0 = some (fJ6_bitCount_0f7a4 x0) := rfl
set_option maxRecDepth 20000 in
theorem kJ6_bitCount_0f7a4 (l : Launch) (Z : Shp) (M : Mem) (x0 : Int32) : Ct l mJ6_bitCount_0f7a4 [vi x0] Z M ((some (vi (fJ6_bitCount_0f7a4 x0))), Z, M) := by
  refine Ct.of (by decide +kernel) (Nat.le_of_ble_eq_true rfl) (fun X hM => ?_)
  have hX := hM.1
  refine r_top (mk := fun r => ((some (vi r)), Z, M)) (eJ6_bitCount_0f7a4 x0) (fun K hK => ?_)
  unfold gJ6_bitCount_0f7a4
  refine r_iload_n (i := 0) (x := x0) (q := 1) 0 hX dJ6_bitCount_0f7a4_0 rfl rfl rfl ?_
  refine r_iload_n (i := 0) (x := x0) (q := 2) 0 hX dJ6_bitCount_0f7a4_1 rfl rfl rfl ?_
  refine r_iconst (v := (1 : Int32)) (q := 3) hX dJ6_bitCount_0f7a4_2 rfl rfl ?_
  refine r_iushr (q := 4) hX dJ6_bitCount_0f7a4_3 rfl ?_
  refine r_ldcw (v := (1431655765 : Int32)) (q := 7) hX dJ6_bitCount_0f7a4_4 (gd (hcw4_10 _ (List.mem_of_getElem? (i := 18) rfl)) rfl) rfl ?_
  refine r_iand (q := 8) hX dJ6_bitCount_0f7a4_7 rfl ?_
  refine r_isub (q := 9) hX dJ6_bitCount_0f7a4_8 rfl ?_
  refine r_istore_nP (x := (x0 - (((x0.toUInt32 >>> ((1 : Int32).toUInt32 &&& Int32.toUInt32 31)).toInt32) &&& (1431655765 : Int32)))) (q := 10) 0 [0] (fun z1 => [(0, vi z1)]) hX dJ6_bitCount_0f7a4_9 rfl (Nat.le_of_ble_eq_true rfl) (fun _ => rfl) rfl (fun z1 => ?_)
  refine r_iload_n (i := 0) (x := z1) (q := 11) 0 hX dJ6_bitCount_0f7a4_10 rfl rfl rfl ?_
  refine r_ldcw (v := (858993459 : Int32)) (q := 14) hX dJ6_bitCount_0f7a4_11 (gd (hcw4_10 _ (List.mem_of_getElem? (i := 19) rfl)) rfl) rfl ?_
  refine r_iand (q := 15) hX dJ6_bitCount_0f7a4_14 rfl ?_
  refine r_iload_n (i := 0) (x := z1) (q := 16) 0 hX dJ6_bitCount_0f7a4_15 rfl rfl rfl ?_
  refine r_iconst (v := (2 : Int32)) (q := 17) hX dJ6_bitCount_0f7a4_16 rfl rfl ?_
  refine r_iushr (q := 18) hX dJ6_bitCount_0f7a4_17 rfl ?_
  refine r_ldcw (v := (858993459 : Int32)) (q := 21) hX dJ6_bitCount_0f7a4_18 (gd (hcw4_10 _ (List.mem_of_getElem? (i := 19) rfl)) rfl) rfl ?_
  refine r_iand (q := 22) hX dJ6_bitCount_0f7a4_21 rfl ?_
  refine r_iadd (q := 23) hX dJ6_bitCount_0f7a4_22 rfl ?_
  refine r_istore_nP (x := ((z1 &&& (858993459 : Int32)) + (((z1.toUInt32 >>> ((2 : Int32).toUInt32 &&& Int32.toUInt32 31)).toInt32) &&& (858993459 : Int32)))) (q := 24) 0 [0] (fun z2 => [(0, vi z2)]) hX dJ6_bitCount_0f7a4_23 rfl (Nat.le_of_ble_eq_true rfl) (fun _ => rfl) rfl (fun z2 => ?_)
  refine r_iload_n (i := 0) (x := z2) (q := 25) 0 hX dJ6_bitCount_0f7a4_24 rfl rfl rfl ?_
  refine r_iload_n (i := 0) (x := z2) (q := 26) 0 hX dJ6_bitCount_0f7a4_25 rfl rfl rfl ?_
  refine r_iconst (v := (4 : Int32)) (q := 27) hX dJ6_bitCount_0f7a4_26 rfl rfl ?_
  refine r_iushr (q := 28) hX dJ6_bitCount_0f7a4_27 rfl ?_
  refine r_iadd (q := 29) hX dJ6_bitCount_0f7a4_28 rfl ?_
  refine r_ldcw (v := (252645135 : Int32)) (q := 32) hX dJ6_bitCount_0f7a4_29 (gd (hcw4_11 _ (List.mem_of_getElem? (i := 0) rfl)) rfl) rfl ?_
  refine r_iand (q := 33) hX dJ6_bitCount_0f7a4_32 rfl ?_
  refine r_istore_nP (x := ((z2 + ((z2.toUInt32 >>> ((4 : Int32).toUInt32 &&& Int32.toUInt32 31)).toInt32)) &&& (252645135 : Int32))) (q := 34) 0 [0] (fun z3 => [(0, vi z3)]) hX dJ6_bitCount_0f7a4_33 rfl (Nat.le_of_ble_eq_true rfl) (fun _ => rfl) rfl (fun z3 => ?_)
  refine r_iload_n (i := 0) (x := z3) (q := 35) 0 hX dJ6_bitCount_0f7a4_34 rfl rfl rfl ?_
  refine r_iload_n (i := 0) (x := z3) (q := 36) 0 hX dJ6_bitCount_0f7a4_35 rfl rfl rfl ?_
  refine r_bipush (v := (8 : Int32)) (q := 38) hX dJ6_bitCount_0f7a4_36 rfl rfl ?_
  refine r_iushr (q := 39) hX dJ6_bitCount_0f7a4_38 rfl ?_
  refine r_iadd (q := 40) hX dJ6_bitCount_0f7a4_39 rfl ?_
  refine r_istore_nP (x := (z3 + ((z3.toUInt32 >>> ((8 : Int32).toUInt32 &&& Int32.toUInt32 31)).toInt32))) (q := 41) 0 [0] (fun z4 => [(0, vi z4)]) hX dJ6_bitCount_0f7a4_40 rfl (Nat.le_of_ble_eq_true rfl) (fun _ => rfl) rfl (fun z4 => ?_)
  refine r_iload_n (i := 0) (x := z4) (q := 42) 0 hX dJ6_bitCount_0f7a4_41 rfl rfl rfl ?_
  refine r_iload_n (i := 0) (x := z4) (q := 43) 0 hX dJ6_bitCount_0f7a4_42 rfl rfl rfl ?_
  refine r_bipush (v := (16 : Int32)) (q := 45) hX dJ6_bitCount_0f7a4_43 rfl rfl ?_
  refine r_iushr (q := 46) hX dJ6_bitCount_0f7a4_45 rfl ?_
  refine r_iadd (q := 47) hX dJ6_bitCount_0f7a4_46 rfl ?_
  refine r_istore_nP (x := (z4 + ((z4.toUInt32 >>> ((16 : Int32).toUInt32 &&& Int32.toUInt32 31)).toInt32))) (q := 48) 0 [0] (fun z5 => [(0, vi z5)]) hX dJ6_bitCount_0f7a4_47 rfl (Nat.le_of_ble_eq_true rfl) (fun _ => rfl) rfl (fun z5 => ?_)
  refine r_iload_n (i := 0) (x := z5) (q := 49) 0 hX dJ6_bitCount_0f7a4_48 rfl rfl rfl ?_
  refine r_bipush (v := (63 : Int32)) (q := 51) hX dJ6_bitCount_0f7a4_49 rfl rfl ?_
  refine r_iand (q := 52) hX dJ6_bitCount_0f7a4_51 rfl ?_
  refine r_lf (hK _) ?_
  exact r_iret hM rfl (Nat.le_of_ble_eq_true rfl) (Nat.le_of_ble_eq_true rfl) dJ6_bitCount_0f7a4_52
def mJ7_fill_53178 : MD := (yJ7_fill_53178, cJ7_fill_53178, 4, none, 0, 0, 0, 0)
theorem ccJ7_fill_53178 : Cc mJ7_fill_53178 2 := ⟨gd (hcw1_0 _ (List.mem_of_getElem? (i := 15) rfl)) rfl, gd (hcw4_4 _ (List.mem_of_getElem? (i := 14) rfl)) rfl, by decide +kernel, by decide +kernel, by decide +kernel⟩
theorem stJ7_fill_53178 : Cond.static (yN mJ7_fill_53178) ∈ lw_gd := gd (hcw4_4 _ (List.mem_of_getElem? (i := 13) rfl)) rfl
noncomputable def fJ7_fill_53178 (Z : Shp) (M : Mem) (a0 : Nat) (x1 : Int32) : Option (Mem) := (if (tg Z a0).1 = 100 then (pu ((nI (tg Z a0).2)) (fun z2 => (loop (fun s3 : Int32 × Mem => (if z2 ≤ s3.1 then some (Sum.inr s3.2) else (if aok Z a0 100 s3.1 then (pu (wI s3.2 a0 (ix s3.1) x1) (fun M8 => some (Sum.inl ((s3.1 + (1 : Int32)), M8)))) else none))) ((0 : Int32), M)))) else none)
set_option maxRecDepth 20000 in
theorem kJ7_fill_53178 (l : Launch) (Z : Shp) (M : Mem) (a0 : Nat) (x1 : Int32) (r : Mem) (h : fJ7_fill_53178 Z M a0 x1 = some r) : Ct l mJ7_fill_53178 [vr a0, vi x1] Z M (none, Z, r) := by
  refine Ct.of (by decide +kernel) (Nat.le_of_ble_eq_true rfl) (fun X hM => ?_)
  have hX := hM.1
  refine r_top (mk := fun r => (none, Z, r)) h (fun K hK => ?_)
  unfold fJ7_fill_53178
  refine r_iconst (v := (0 : Int32)) (q := 1) hX dJ7_fill_53178_0 rfl rfl ?_
  refine r_istore_n (x := (0 : Int32)) (q := 2) 2 [1, 2, 0] (L1 := [(0, vr a0), (1, vi x1), (2, vi (0 : Int32))]) hX dJ7_fill_53178_1 rfl (Nat.le_of_ble_eq_true rfl) rfl rfl ?_
  refine r_aload_n (i := 0) (x := a0) (q := 3) 0 hX dJ7_fill_53178_2 rfl rfl rfl ?_
  refine r_ck (fun hc1 => ?_)
  refine r_alen (a := a0) (q := 4) hX arL_100 hc1 dJ7_fill_53178_3 rfl ?_
  refine r_istore_nP (x := (nI (tg Z a0).2)) (q := 5) 3 [1, 2, 3, 0] (fun z2 => [(0, vr a0), (1, vi x1), (2, vi (0 : Int32)), (3, vi z2)]) hX dJ7_fill_53178_4 rfl (Nat.le_of_ble_eq_true rfl) (fun _ => rfl) rfl (fun z2 => ?_)
  refine r_loop (Hd := fun (s3 : Int32 × Mem) (P : Option Res) => Ref mJ7_fill_53178 X 0 0 Z s3.2 5 [(0, vr a0), (1, vi x1), (2, vi s3.1), (3, vi z2)] [] P) (fun _ => r_none) (fun s3 K1 hn4 hx5 => ?_) ((0 : Int32), M)
  refine r_iload_n (i := 2) (x := s3.1) (q := 6) 2 hX dJ7_fill_53178_5 rfl rfl rfl ?_
  refine r_iload_n (i := 3) (x := z2) (q := 7) 3 hX dJ7_fill_53178_6 rfl rfl rfl ?_
  refine r_icmp_ge (tgt := 20) (q := 10) hX dJ7_fill_53178_7 (by decide) rfl (fun hb6 => ?_) (fun hb6 => ?_)
  · refine r_lf ((hx5 _).trans (hK _)) ?_
    exact r_vret hM rfl (Nat.le_of_ble_eq_true rfl) (Nat.le_of_ble_eq_true rfl) dJ7_fill_53178_20
  · refine r_aload_n (i := 0) (x := a0) (q := 11) 0 hX dJ7_fill_53178_10 rfl rfl rfl ?_
    refine r_iload_n (i := 2) (x := s3.1) (q := 12) 2 hX dJ7_fill_53178_11 rfl rfl rfl ?_
    refine r_iload_n (i := 1) (x := x1) (q := 13) 1 hX dJ7_fill_53178_12 rfl rfl rfl ?_
    refine r_ck (fun hc7 => ?_)
    refine r_iast (a := a0) (i := s3.1) (x := x1) (q := 14) hX hc7 dJ7_fill_53178_13 rfl (fun M8 => ?_)
    refine r_iinc (x := s3.1) (v := (s3.1 + (1 : Int32))) (q := 17) 2 2 [1, 2, 0, 4] (L1 := [(0, vr a0), (1, vi x1), (2, vi (s3.1 + (1 : Int32))), (3, vi z2)]) hX dJ7_fill_53178_14 rfl rfl (Nat.le_of_ble_eq_true rfl) rfl rfl ?_
    refine r_goto (q := 5) hX dJ7_fill_53178_17 (by decide) ?_
    refine r_l0 ?_
    exact hn4 ((s3.1 + (1 : Int32)), M8)
theorem flX0_31 : FL RX0 31 0 2 := ⟨Nat.le_of_ble_eq_true rfl, Nat.le_of_ble_eq_true rfl, gd (hcw1_10 _ (List.mem_of_getElem? (i := 5) rfl)) rfl⟩
theorem flX0_11 : FL RX0 11 0 0 := ⟨Nat.le_of_ble_eq_true rfl, Nat.le_of_ble_eq_true rfl, gd (hcw1_10 _ (List.mem_of_getElem? (i := 3) rfl)) rfl⟩
theorem flX0_15 : FL RX0 15 0 1 := ⟨Nat.le_of_ble_eq_true rfl, Nat.le_of_ble_eq_true rfl, gd (hcw1_10 _ (List.mem_of_getElem? (i := 4) rfl)) rfl⟩
def mX0_add : MD := (yX0_add, cX0_add, 3, (some .int), 0, 0, 0, 0)
theorem ccX0_add : Cc mX0_add 2 := ⟨gd (hcw1_0 _ (List.mem_of_getElem? (i := 7) rfl)) rfl, gd (hcw4_9 _ (List.mem_of_getElem? (i := 0) rfl)) rfl, by decide +kernel, by decide +kernel, by decide +kernel⟩
theorem ivX0_add : Iv mX0_add 0 := ⟨Nat.le_of_ble_eq_true rfl, rfl, gd (hcw4_8 _ (List.mem_of_getElem? (i := 18) rfl)) rfl, gd (hcw4_8 _ (List.mem_of_getElem? (i := 19) rfl)) rfl⟩
def fX0_add (Z : Shp) (M : Mem) (a0 : Nat) (x1 : Int32) (x2 : Int32) : Option (Int32 × Mem) := (if tg Z a0 = (1, 9) then (if (rI M a0 2) < (10 : Int32) then (if aok Z (rR M a0 0) 100 (rI M a0 2) then (pu (wI M (rR M a0 0) (ix (rI M a0 2)) x1) (fun M4 => (if aok Z (rR M4 a0 1) 100 (rI M4 a0 2) then (pu (wI M4 (rR M4 a0 1) (ix (rI M4 a0 2)) x2) (fun M6 => (pu (wI M6 a0 2 ((rI M6 a0 2) + (1 : Int32))) (fun M7 => some ((rI M6 a0 2), M7))))) else none))) else none) else some ((-104 : Int32), M)) else none)
set_option maxRecDepth 20000 in
theorem kX0_add (l : Launch) (Z : Shp) (M : Mem) (a0 : Nat) (x1 : Int32) (x2 : Int32) (r : Int32 × Mem) (h : fX0_add Z M a0 x1 x2 = some r) : Ct l mX0_add [vr a0, vi x1, vi x2] Z M ((some (vi r.1)), Z, r.2) := by
  refine Ct.of rfl (Nat.le_of_ble_eq_true rfl) (fun X hM => ?_)
  have hX := hM.1
  refine r_top (mk := fun r => ((some (vi r.1)), Z, r.2)) h (fun K hK => ?_)
  unfold fX0_add
  refine r_aload_n (i := 0) (x := a0) (q := 1) 0 hX dX0_add_0 rfl rfl rfl ?_
  refine r_ck (fun hc1 => ?_)
  refine r_getI (a := a0) (ci := 0) (kf := 2) (q := 4) hX hc1 flX0_31 rfl rfl dX0_add_1 rfl ?_
  refine r_bipush (v := (10 : Int32)) (q := 6) hX dX0_add_4 rfl rfl ?_
  refine r_icmp_lt (tgt := 12) (q := 9) hX dX0_add_6 (by decide) rfl (fun hb2 => ?_) (fun hb2 => ?_)
  · refine r_aload_n (i := 0) (x := a0) (q := 13) 0 hX dX0_add_12 rfl rfl rfl ?_
    refine r_getR (a := a0) (ci := 0) (kf := 0) (q := 16) hX hc1 flX0_11 rfl dX0_add_13 rfl ?_
    refine r_aload_n (i := 0) (x := a0) (q := 17) 0 hX dX0_add_16 rfl rfl rfl ?_
    refine r_getI (a := a0) (ci := 0) (kf := 2) (q := 20) hX hc1 flX0_31 rfl rfl dX0_add_17 rfl ?_
    refine r_iload_n (i := 1) (x := x1) (q := 21) 1 hX dX0_add_20 rfl rfl rfl ?_
    refine r_ck (fun hc3 => ?_)
    refine r_iast (a := (rR M a0 0)) (i := (rI M a0 2)) (x := x1) (q := 22) hX hc3 dX0_add_21 rfl (fun M4 => ?_)
    refine r_aload_n (i := 0) (x := a0) (q := 23) 0 hX dX0_add_22 rfl rfl rfl ?_
    refine r_getR (a := a0) (ci := 0) (kf := 1) (q := 26) hX hc1 flX0_15 rfl dX0_add_23 rfl ?_
    refine r_aload_n (i := 0) (x := a0) (q := 27) 0 hX dX0_add_26 rfl rfl rfl ?_
    refine r_getI (a := a0) (ci := 0) (kf := 2) (q := 30) hX hc1 flX0_31 rfl rfl dX0_add_27 rfl ?_
    refine r_iload_n (i := 2) (x := x2) (q := 31) 2 hX dX0_add_30 rfl rfl rfl ?_
    refine r_ck (fun hc5 => ?_)
    refine r_iast (a := (rR M4 a0 1)) (i := (rI M4 a0 2)) (x := x2) (q := 32) hX hc5 dX0_add_31 rfl (fun M6 => ?_)
    refine r_aload_n (i := 0) (x := a0) (q := 33) 0 hX dX0_add_32 rfl rfl rfl ?_
    refine r_dup (q := 34) hX dX0_add_33 rfl rfl ?_
    refine r_getI (a := a0) (ci := 0) (kf := 2) (q := 37) hX hc1 flX0_31 rfl rfl dX0_add_34 rfl ?_
    refine r_dup_x1 (q := 38) hX dX0_add_37 rfl rfl rfl ?_
    refine r_iconst (v := (1 : Int32)) (q := 39) hX dX0_add_38 rfl rfl ?_
    refine r_iadd (q := 40) hX dX0_add_39 rfl ?_
    refine r_putI (a := a0) (ci := 0) (kf := 2) (q := 43) hX hc1 flX0_31 rfl rfl (Or.inl rfl) rfl rfl dX0_add_40 rfl (fun M7 => ?_)
    refine r_lf (hK _) ?_
    exact r_iret hM rfl (Nat.le_of_ble_eq_true rfl) (Nat.le_of_ble_eq_true rfl) dX0_add_43
  · refine r_bipush (v := (-104 : Int32)) (q := 11) hX dX0_add_9 rfl rfl ?_
    refine r_lf (hK _) ?_
    exact r_iret hM rfl (Nat.le_of_ble_eq_true rfl) (Nat.le_of_ble_eq_true rfl) dX0_add_11
def mX11_mix : MD := (yX11_mix, cX11_mix, 4, (some .long), 0, 0, 0, 0)
theorem ccX11_mix : Cc mX11_mix 2 := ⟨gd (hcw1_0 _ (List.mem_of_getElem? (i := 1) rfl)) rfl, gd (hcw5_7 _ (List.mem_of_getElem? (i := 3) rfl)) rfl, by decide +kernel, by decide +kernel, by decide +kernel⟩
theorem stX11_mix : Cond.static (yN mX11_mix) ∈ lw_gd := gd (hcw5_7 _ (List.mem_of_getElem? (i := 2) rfl)) rfl
def fX11_mix (y0 : Int64) (y1 : Int64) : Int64 := (((31 : Int64) * y0) + y1)
def gX11_mix (y0 : Int64) (y1 : Int64) : Option (Int64) := some (((31 : Int64) * y0) + y1)
theorem eX11_mix (y0 : Int64) (y1 : Int64) : gX11_mix y0 y1 = some (fX11_mix y0 y1) := rfl
set_option maxRecDepth 20000 in
theorem kX11_mix (l : Launch) (Z : Shp) (M : Mem) (y0 : Int64) (y1 : Int64) : Ct l mX11_mix [vj y0, vj y1] Z M ((some (vj (fX11_mix y0 y1))), Z, M) := by
  refine Ct.of rfl (Nat.le_of_ble_eq_true rfl) (fun X hM => ?_)
  have hX := hM.1
  refine r_top (mk := fun r => ((some (vj r)), Z, M)) (eX11_mix y0 y1) (fun K hK => ?_)
  unfold gX11_mix
  refine r_ldc2 (v := (31 : Int64)) (q := 3) hX dX11_mix_0 (gd (hcw5_7 _ (List.mem_of_getElem? (i := 4) rfl)) rfl) rfl ?_
  refine r_lload_n (i := 0) (x := y0) (q := 4) 0 hX dX11_mix_3 rfl rfl rfl ?_
  refine r_lmul (q := 5) hX dX11_mix_4 rfl ?_
  refine r_lload_n (i := 2) (x := y1) (q := 6) 1 hX dX11_mix_5 rfl rfl rfl ?_
  refine r_ladd (q := 7) hX dX11_mix_6 rfl ?_
  refine r_lf (hK _) ?_
  exact r_lret hM rfl (Nat.le_of_ble_eq_true rfl) (Nat.le_of_ble_eq_true rfl) dX11_mix_7
theorem lkX0_70 : LkN RX0 70 yX11_mix "CanalCompany" := bd (hcw5_8 _ (List.mem_of_getElem? (i := 13) rfl)) rfl
theorem flX0_18 : FL RX0 18 0 3 := ⟨Nat.le_of_ble_eq_true rfl, Nat.le_of_ble_eq_true rfl, gd (hcw1_10 _ (List.mem_of_getElem? (i := 7) rfl)) rfl⟩
theorem flX0_22 : FL RX0 22 0 4 := ⟨Nat.le_of_ble_eq_true rfl, Nat.le_of_ble_eq_true rfl, gd (hcw1_10 _ (List.mem_of_getElem? (i := 8) rfl)) rfl⟩
theorem flX0_25 : FL RX0 25 0 5 := ⟨Nat.le_of_ble_eq_true rfl, Nat.le_of_ble_eq_true rfl, gd (hcw1_10 _ (List.mem_of_getElem? (i := 9) rfl)) rfl⟩
def mX0_addTo : MD := (yX0_addTo, cX0_addTo, 6, (some .long), 1, 23, 0, 0)
theorem ccX0_addTo : Cc mX0_addTo 1 := ⟨gd (hcw1_0 _ (List.mem_of_getElem? (i := 7) rfl)) rfl, gd (hcw5_8 _ (List.mem_of_getElem? (i := 12) rfl)) rfl, by decide +kernel, by decide +kernel, by decide +kernel⟩
theorem ivX0_addTo : Iv mX0_addTo 0 := ⟨Nat.le_of_ble_eq_true rfl, rfl, gd (hcw5_8 _ (List.mem_of_getElem? (i := 10) rfl)) rfl, gd (hcw5_8 _ (List.mem_of_getElem? (i := 11) rfl)) rfl⟩
noncomputable def fX0_addTo (Z : Shp) (M : Mem) (a0 : Nat) (y1 : Int64) : Option (Int64) := (Option.bind (loop (fun s4 : Int64 × Int32 => (if tg Z a0 = (1, 9) then (if (rI M a0 2) ≤ s4.2 then some (Sum.inr s4.1) else (if aok Z (rR M a0 0) 100 s4.2 then (if aok Z (rR M a0 1) 100 s4.2 then (pu ((fX11_mix (fX11_mix s4.1 ((rI M (rR M a0 0) (ix s4.2)).toInt64)) ((rI M (rR M a0 1) (ix s4.2)).toInt64))) (fun z11 => some (Sum.inl (z11, (s4.2 + (1 : Int32)))))) else none) else none)) else none)) (y1, (0 : Int32))) (fun v3 : Int64 => (loop (fun s12 : Int64 × Int32 => (if (8 : Int32) ≤ s12.2 then some (Sum.inr s12.1) else (if tg Z a0 = (1, 9) then (if aok Z (rR M a0 3) 101 s12.2 then (if (rI M (rR M a0 3) (ix s12.2)) = 0 then some (Sum.inl (s12.1, (s12.2 + (1 : Int32)))) else (if aok Z (rR M a0 4) 100 s12.2 then (if aok Z (rR M a0 5) 100 s12.2 then (pu ((fX11_mix (fX11_mix s12.1 ((rI M (rR M a0 4) (ix s12.2)).toInt64)) ((rI M (rR M a0 5) (ix s12.2)).toInt64))) (fun z21 => some (Sum.inl (z21, (s12.2 + (1 : Int32)))))) else none) else none)) else none) else none))) (v3, (0 : Int32)))))
set_option maxRecDepth 20000 in
theorem kX0_addTo (l : Launch) (Z : Shp) (M : Mem) (a0 : Nat) (y1 : Int64) (r : Int64) (h : fX0_addTo Z M a0 y1 = some r) : Ct l mX0_addTo [vr a0, vj y1] Z M ((some (vj r)), Z, M) := by
  refine Ct.of rfl (Nat.le_of_ble_eq_true rfl) (fun X hM => ?_)
  have hX := hM.1
  refine r_top (mk := fun r => ((some (vj r)), Z, M)) h (fun K hK => ?_)
  unfold fX0_addTo
  refine r_lload_n (i := 1) (x := y1) (q := 1) 1 hX dX0_addTo_0 rfl rfl rfl ?_
  refine r_lstore_n (x := y1) (q := 2) 3 [1, 2, 0] (L1 := [(0, vr a0), (1, vj y1), (3, vj y1)]) hX dX0_addTo_1 rfl (Nat.le_of_ble_eq_true rfl) rfl rfl ?_
  refine r_iconst (v := (0 : Int32)) (q := 3) hX dX0_addTo_2 rfl rfl ?_
  refine r_istore (x := (0 : Int32)) (q := 5) 5 [1, 2, 3, 0] (L1 := [(0, vr a0), (1, vj y1), (3, vj y1), (5, vi (0 : Int32))]) hX dX0_addTo_3 (Nat.le_of_ble_eq_true rfl) rfl rfl ?_
  refine r_jn (J := fun (v3 : Int64) (P : Option Res) => Ref mX0_addTo X 0 0 Z M 44 [(0, vr a0), (3, vj v3)] [] P) (fun v3 => ?_) (fun K1 hj1 => ?_)
  · refine r_iconst (v := (0 : Int32)) (q := 45) hX dX0_addTo_44 rfl rfl ?_
    refine r_istore (x := (0 : Int32)) (q := 47) 5 [1, 2, 0] (L1 := [(0, vr a0), (3, vj v3), (5, vi (0 : Int32))]) hX dX0_addTo_45 (Nat.le_of_ble_eq_true rfl) rfl rfl ?_
    refine r_loop (Hd := fun (s12 : Int64 × Int32) (P : Option Res) => Ref mX0_addTo X 0 0 Z M 47 [(0, vr a0), (3, vj s12.1), (5, vi s12.2)] [] P) (fun _ => r_none) (fun s12 K1 hn13 hx14 => ?_) (v3, (0 : Int32))
    refine r_iload (i := 5) (x := s12.2) (q := 49) 2 hX dX0_addTo_47 rfl rfl ?_
    refine r_bipush (v := (8 : Int32)) (q := 51) hX dX0_addTo_49 rfl rfl ?_
    refine r_icmp_ge (tgt := 94) (q := 54) hX dX0_addTo_51 (by decide) rfl (fun hb15 => ?_) (fun hb15 => ?_)
    · refine r_lload_n (i := 3) (x := s12.1) (q := 95) 1 hX dX0_addTo_94 rfl rfl rfl ?_
      refine r_lf ((hx14 _).trans (hK _)) ?_
      exact r_lret hM rfl (Nat.le_of_ble_eq_true rfl) (Nat.le_of_ble_eq_true rfl) dX0_addTo_95
    · refine r_aload_n (i := 0) (x := a0) (q := 55) 0 hX dX0_addTo_54 rfl rfl rfl ?_
      refine r_ck (fun hc16 => ?_)
      refine r_getR (a := a0) (ci := 0) (kf := 3) (q := 58) hX hc16 flX0_18 rfl dX0_addTo_55 rfl ?_
      refine r_iload (i := 5) (x := s12.2) (q := 60) 2 hX dX0_addTo_58 rfl rfl ?_
      refine r_ck (fun hc17 => ?_)
      refine r_zald (a := (rR M a0 3)) (i := s12.2) (q := 61) hX hc17 dX0_addTo_60 rfl ?_
      refine r_if_eq (tgt := 88) (q := 64) hX dX0_addTo_61 (by decide) rfl (fun hb18 => ?_) (fun hb18 => ?_)
      · refine r_iinc (x := s12.2) (v := (s12.2 + (1 : Int32))) (q := 91) 5 2 [1, 2, 0] (L1 := [(0, vr a0), (3, vj s12.1), (5, vi (s12.2 + (1 : Int32)))]) hX dX0_addTo_88 rfl rfl (Nat.le_of_ble_eq_true rfl) rfl rfl ?_
        refine r_goto (q := 47) hX dX0_addTo_91 (by decide) ?_
        refine r_l0 ?_
        exact hn13 (s12.1, (s12.2 + (1 : Int32)))
      · refine r_lload_n (i := 3) (x := s12.1) (q := 65) 1 hX dX0_addTo_64 rfl rfl rfl ?_
        refine r_aload_n (i := 0) (x := a0) (q := 66) 0 hX dX0_addTo_65 rfl rfl rfl ?_
        refine r_getR (a := a0) (ci := 0) (kf := 4) (q := 69) hX hc16 flX0_22 rfl dX0_addTo_66 rfl ?_
        refine r_iload (i := 5) (x := s12.2) (q := 71) 2 hX dX0_addTo_69 rfl rfl ?_
        refine r_ck (fun hc19 => ?_)
        refine r_iald (a := (rR M a0 4)) (i := s12.2) (q := 72) hX hc19 dX0_addTo_71 rfl ?_
        refine r_i2l (q := 73) hX dX0_addTo_72 rfl ?_
        refine r_cs (As := [vj s12.1, vj ((rI M (rR M a0 4) (ix s12.2)).toInt64)]) (st := []) (r := (some (vj (fX11_mix s12.1 ((rI M (rR M a0 4) (ix s12.2)).toInt64))))) (Z1 := Z) (M1 := M) (k1 := 0) (n1 := 0) (st1 := [vj (fX11_mix s12.1 ((rI M (rR M a0 4) (ix s12.2)).toInt64))]) (q := 76) hX (fun l => kX11_mix l Z M s12.1 ((rI M (rR M a0 4) (ix s12.2)).toInt64)) stX11_mix ccX11_mix (Or.inr ⟨_, lkX0_70⟩) rfl rfl rfl ⟨Nat.le_of_ble_eq_true rfl, Nat.le_of_ble_eq_true rfl, rfl, rfl, Nat.le_of_ble_eq_true rfl, Nat.le_of_ble_eq_true rfl⟩ (Nat.le_of_ble_eq_true rfl) dX0_addTo_73 rfl ?_
        refine r_aload_n (i := 0) (x := a0) (q := 77) 0 hX dX0_addTo_76 rfl rfl rfl ?_
        refine r_getR (a := a0) (ci := 0) (kf := 5) (q := 80) hX hc16 flX0_25 rfl dX0_addTo_77 rfl ?_
        refine r_iload (i := 5) (x := s12.2) (q := 82) 2 hX dX0_addTo_80 rfl rfl ?_
        refine r_ck (fun hc20 => ?_)
        refine r_iald (a := (rR M a0 5)) (i := s12.2) (q := 83) hX hc20 dX0_addTo_82 rfl ?_
        refine r_i2l (q := 84) hX dX0_addTo_83 rfl ?_
        refine r_cs (As := [vj (fX11_mix s12.1 ((rI M (rR M a0 4) (ix s12.2)).toInt64)), vj ((rI M (rR M a0 5) (ix s12.2)).toInt64)]) (st := []) (r := (some (vj (fX11_mix (fX11_mix s12.1 ((rI M (rR M a0 4) (ix s12.2)).toInt64)) ((rI M (rR M a0 5) (ix s12.2)).toInt64))))) (Z1 := Z) (M1 := M) (k1 := 0) (n1 := 0) (st1 := [vj (fX11_mix (fX11_mix s12.1 ((rI M (rR M a0 4) (ix s12.2)).toInt64)) ((rI M (rR M a0 5) (ix s12.2)).toInt64))]) (q := 87) hX (fun l => kX11_mix l Z M (fX11_mix s12.1 ((rI M (rR M a0 4) (ix s12.2)).toInt64)) ((rI M (rR M a0 5) (ix s12.2)).toInt64)) stX11_mix ccX11_mix (Or.inr ⟨_, lkX0_70⟩) rfl rfl rfl ⟨Nat.le_of_ble_eq_true rfl, Nat.le_of_ble_eq_true rfl, rfl, rfl, Nat.le_of_ble_eq_true rfl, Nat.le_of_ble_eq_true rfl⟩ (Nat.le_of_ble_eq_true rfl) dX0_addTo_84 rfl ?_
        refine r_lstore_nP (x := (fX11_mix (fX11_mix s12.1 ((rI M (rR M a0 4) (ix s12.2)).toInt64)) ((rI M (rR M a0 5) (ix s12.2)).toInt64))) (q := 88) 3 [1, 0, 3] (fun z21 => [(0, vr a0), (3, vj z21), (5, vi s12.2)]) hX dX0_addTo_87 rfl (Nat.le_of_ble_eq_true rfl) (fun _ => rfl) rfl (fun z21 => ?_)
        refine r_iinc (x := s12.2) (v := (s12.2 + (1 : Int32))) (q := 91) 5 2 [1, 2, 0] (L1 := [(0, vr a0), (3, vj z21), (5, vi (s12.2 + (1 : Int32)))]) hX dX0_addTo_88 rfl rfl (Nat.le_of_ble_eq_true rfl) rfl rfl ?_
        refine r_goto (q := 47) hX dX0_addTo_91 (by decide) ?_
        refine r_l0 ?_
        exact hn13 (z21, (s12.2 + (1 : Int32)))
  · refine r_sub [0, 2, 3] rfl ?_
    refine r_loop (Hd := fun (s4 : Int64 × Int32) (P : Option Res) => Ref mX0_addTo X 0 0 Z M 5 [(0, vr a0), (3, vj s4.1), (5, vi s4.2)] [] P) (fun _ => r_none) (fun s4 K1 hn5 hx6 => ?_) (y1, (0 : Int32))
    refine r_iload (i := 5) (x := s4.2) (q := 7) 2 hX dX0_addTo_5 rfl rfl ?_
    refine r_aload_n (i := 0) (x := a0) (q := 8) 0 hX dX0_addTo_7 rfl rfl rfl ?_
    refine r_ck (fun hc7 => ?_)
    refine r_getI (a := a0) (ci := 0) (kf := 2) (q := 11) hX hc7 flX0_31 rfl rfl dX0_addTo_8 rfl ?_
    refine r_icmp_ge (tgt := 44) (q := 14) hX dX0_addTo_11 (by decide) rfl (fun hb8 => ?_) (fun hb8 => ?_)
    · refine r_lf (hx6 _) ?_
      refine r_sub [0, 1] rfl ?_
      exact hj1 s4.1
    · refine r_lload_n (i := 3) (x := s4.1) (q := 15) 1 hX dX0_addTo_14 rfl rfl rfl ?_
      refine r_aload_n (i := 0) (x := a0) (q := 16) 0 hX dX0_addTo_15 rfl rfl rfl ?_
      refine r_getR (a := a0) (ci := 0) (kf := 0) (q := 19) hX hc7 flX0_11 rfl dX0_addTo_16 rfl ?_
      refine r_iload (i := 5) (x := s4.2) (q := 21) 2 hX dX0_addTo_19 rfl rfl ?_
      refine r_ck (fun hc9 => ?_)
      refine r_iald (a := (rR M a0 0)) (i := s4.2) (q := 22) hX hc9 dX0_addTo_21 rfl ?_
      refine r_i2l (q := 23) hX dX0_addTo_22 rfl ?_
      refine r_cs (As := [vj s4.1, vj ((rI M (rR M a0 0) (ix s4.2)).toInt64)]) (st := []) (r := (some (vj (fX11_mix s4.1 ((rI M (rR M a0 0) (ix s4.2)).toInt64))))) (Z1 := Z) (M1 := M) (k1 := 0) (n1 := 0) (st1 := [vj (fX11_mix s4.1 ((rI M (rR M a0 0) (ix s4.2)).toInt64))]) (q := 26) hX (fun l => kX11_mix l Z M s4.1 ((rI M (rR M a0 0) (ix s4.2)).toInt64)) stX11_mix ccX11_mix (Or.inr ⟨_, lkX0_70⟩) rfl rfl rfl ⟨Nat.le_of_ble_eq_true rfl, Nat.le_of_ble_eq_true rfl, rfl, rfl, Nat.le_of_ble_eq_true rfl, Nat.le_of_ble_eq_true rfl⟩ (Nat.le_of_ble_eq_true rfl) dX0_addTo_23 rfl ?_
      refine r_aload_n (i := 0) (x := a0) (q := 27) 0 hX dX0_addTo_26 rfl rfl rfl ?_
      refine r_getR (a := a0) (ci := 0) (kf := 1) (q := 30) hX hc7 flX0_15 rfl dX0_addTo_27 rfl ?_
      refine r_iload (i := 5) (x := s4.2) (q := 32) 2 hX dX0_addTo_30 rfl rfl ?_
      refine r_ck (fun hc10 => ?_)
      refine r_iald (a := (rR M a0 1)) (i := s4.2) (q := 33) hX hc10 dX0_addTo_32 rfl ?_
      refine r_i2l (q := 34) hX dX0_addTo_33 rfl ?_
      refine r_cs (As := [vj (fX11_mix s4.1 ((rI M (rR M a0 0) (ix s4.2)).toInt64)), vj ((rI M (rR M a0 1) (ix s4.2)).toInt64)]) (st := []) (r := (some (vj (fX11_mix (fX11_mix s4.1 ((rI M (rR M a0 0) (ix s4.2)).toInt64)) ((rI M (rR M a0 1) (ix s4.2)).toInt64))))) (Z1 := Z) (M1 := M) (k1 := 0) (n1 := 0) (st1 := [vj (fX11_mix (fX11_mix s4.1 ((rI M (rR M a0 0) (ix s4.2)).toInt64)) ((rI M (rR M a0 1) (ix s4.2)).toInt64))]) (q := 37) hX (fun l => kX11_mix l Z M (fX11_mix s4.1 ((rI M (rR M a0 0) (ix s4.2)).toInt64)) ((rI M (rR M a0 1) (ix s4.2)).toInt64)) stX11_mix ccX11_mix (Or.inr ⟨_, lkX0_70⟩) rfl rfl rfl ⟨Nat.le_of_ble_eq_true rfl, Nat.le_of_ble_eq_true rfl, rfl, rfl, Nat.le_of_ble_eq_true rfl, Nat.le_of_ble_eq_true rfl⟩ (Nat.le_of_ble_eq_true rfl) dX0_addTo_34 rfl ?_
      refine r_lstore_nP (x := (fX11_mix (fX11_mix s4.1 ((rI M (rR M a0 0) (ix s4.2)).toInt64)) ((rI M (rR M a0 1) (ix s4.2)).toInt64))) (q := 38) 3 [1, 0, 3] (fun z11 => [(0, vr a0), (3, vj z11), (5, vi s4.2)]) hX dX0_addTo_37 rfl (Nat.le_of_ble_eq_true rfl) (fun _ => rfl) rfl (fun z11 => ?_)
      refine r_iinc (x := s4.2) (v := (s4.2 + (1 : Int32))) (q := 41) 5 2 [1, 2, 0] (L1 := [(0, vr a0), (3, vj z11), (5, vi (s4.2 + (1 : Int32)))]) hX dX0_addTo_38 rfl rfl (Nat.le_of_ble_eq_true rfl) rfl rfl ?_
      refine r_goto (q := 5) hX dX0_addTo_41 (by decide) ?_
      refine r_l0 ?_
      exact hn5 (z11, (s4.2 + (1 : Int32)))
theorem flX0_28 : FL RX0 28 0 6 := ⟨Nat.le_of_ble_eq_true rfl, Nat.le_of_ble_eq_true rfl, gd (hcw1_10 _ (List.mem_of_getElem? (i := 10) rfl)) rfl⟩
def mX0_explains : MD := (yX0_explains, cX0_explains, 2, (some .boolean), 1, 13, 0, 0)
theorem ccX0_explains : Cc mX0_explains 0 := ⟨gd (hcw1_0 _ (List.mem_of_getElem? (i := 7) rfl)) rfl, gd (hcw4_11 _ (List.mem_of_getElem? (i := 4) rfl)) rfl, by decide +kernel, by decide +kernel, by decide +kernel⟩
theorem ivX0_explains : Iv mX0_explains 0 := ⟨Nat.le_of_ble_eq_true rfl, rfl, gd (hcw4_11 _ (List.mem_of_getElem? (i := 3) rfl)) rfl, gd (hps2 _ (List.mem_of_getElem? (i := 8) rfl)) rfl⟩
noncomputable def fX0_explains (Z : Shp) (M : Mem) (a0 : Nat) : Option (Int32) := (loop (fun s1 : Int32 => (if (8 : Int32) ≤ s1 then some (Sum.inr (1 : Int32)) else (if tg Z a0 = (1, 9) then (if aok Z (rR M a0 3) 101 s1 then (if (rI M (rR M a0 3) (ix s1)) = 0 then some (Sum.inl (s1 + (1 : Int32))) else (if aok Z (rR M a0 6) 100 s1 then (if aok Z (rR M a0 4) 100 s1 then (if aok Z (rR M a0 5) 100 s1 then (if (abI ((rI M (rR M a0 6) (ix s1)) - (rI M (rR M a0 4) (ix s1)))) ≤ (rI M (rR M a0 5) (ix s1)) then some (Sum.inl (s1 + (1 : Int32))) else some (Sum.inr (0 : Int32))) else none) else none) else none)) else none) else none))) (0 : Int32))
set_option maxRecDepth 20000 in
theorem kX0_explains (l : Launch) (Z : Shp) (M : Mem) (a0 : Nat) (r : Int32) (h : fX0_explains Z M a0 = some r) : Ct l mX0_explains [vr a0] Z M ((some (vi r)), Z, M) := by
  refine Ct.of rfl (Nat.le_of_ble_eq_true rfl) (fun X hM => ?_)
  have hX := hM.1
  refine r_top (mk := fun r => ((some (vi r)), Z, M)) h (fun K hK => ?_)
  unfold fX0_explains
  refine r_iconst (v := (0 : Int32)) (q := 1) hX dX0_explains_0 rfl rfl ?_
  refine r_istore_n (x := (0 : Int32)) (q := 2) 1 [1, 0] (L1 := [(0, vr a0), (1, vi (0 : Int32))]) hX dX0_explains_1 rfl (Nat.le_of_ble_eq_true rfl) rfl rfl ?_
  refine r_loop (Hd := fun (s1 : Int32) (P : Option Res) => Ref mX0_explains X 0 0 Z M 2 [(0, vr a0), (1, vi s1)] [] P) (fun _ => r_none) (fun s1 K1 hn2 hx3 => ?_) (0 : Int32)
  refine r_iload_n (i := 1) (x := s1) (q := 3) 1 hX dX0_explains_2 rfl rfl rfl ?_
  refine r_bipush (v := (8 : Int32)) (q := 5) hX dX0_explains_3 rfl rfl ?_
  refine r_icmp_ge (tgt := 50) (q := 8) hX dX0_explains_5 (by decide) rfl (fun hb4 => ?_) (fun hb4 => ?_)
  · refine r_iconst (v := (1 : Int32)) (q := 51) hX dX0_explains_50 rfl rfl ?_
    refine r_lf ((hx3 _).trans (hK _)) ?_
    exact r_zret hM rfl (Or.inr rfl) (Nat.le_of_ble_eq_true rfl) (Nat.le_of_ble_eq_true rfl) dX0_explains_51
  · refine r_aload_n (i := 0) (x := a0) (q := 9) 0 hX dX0_explains_8 rfl rfl rfl ?_
    refine r_ck (fun hc5 => ?_)
    refine r_getR (a := a0) (ci := 0) (kf := 3) (q := 12) hX hc5 flX0_18 rfl dX0_explains_9 rfl ?_
    refine r_iload_n (i := 1) (x := s1) (q := 13) 1 hX dX0_explains_12 rfl rfl rfl ?_
    refine r_ck (fun hc6 => ?_)
    refine r_zald (a := (rR M a0 3)) (i := s1) (q := 14) hX hc6 dX0_explains_13 rfl ?_
    refine r_if_eq (tgt := 44) (q := 17) hX dX0_explains_14 (by decide) rfl (fun hb7 => ?_) (fun hb7 => ?_)
    · refine r_iinc (x := s1) (v := (s1 + (1 : Int32))) (q := 47) 1 1 [1, 0] (L1 := [(0, vr a0), (1, vi (s1 + (1 : Int32)))]) hX dX0_explains_44 rfl rfl (Nat.le_of_ble_eq_true rfl) rfl rfl ?_
      refine r_goto (q := 2) hX dX0_explains_47 (by decide) ?_
      refine r_l0 ?_
      exact hn2 (s1 + (1 : Int32))
    · refine r_aload_n (i := 0) (x := a0) (q := 18) 0 hX dX0_explains_17 rfl rfl rfl ?_
      refine r_getR (a := a0) (ci := 0) (kf := 6) (q := 21) hX hc5 flX0_28 rfl dX0_explains_18 rfl ?_
      refine r_iload_n (i := 1) (x := s1) (q := 22) 1 hX dX0_explains_21 rfl rfl rfl ?_
      refine r_ck (fun hc8 => ?_)
      refine r_iald (a := (rR M a0 6)) (i := s1) (q := 23) hX hc8 dX0_explains_22 rfl ?_
      refine r_aload_n (i := 0) (x := a0) (q := 24) 0 hX dX0_explains_23 rfl rfl rfl ?_
      refine r_getR (a := a0) (ci := 0) (kf := 4) (q := 27) hX hc5 flX0_22 rfl dX0_explains_24 rfl ?_
      refine r_iload_n (i := 1) (x := s1) (q := 28) 1 hX dX0_explains_27 rfl rfl rfl ?_
      refine r_ck (fun hc9 => ?_)
      refine r_iald (a := (rR M a0 4)) (i := s1) (q := 29) hX hc9 dX0_explains_28 rfl ?_
      refine r_isub (q := 30) hX dX0_explains_29 rfl ?_
      refine r_mabs (q := 33) hX (gd (hcw4_11 _ (List.mem_of_getElem? (i := 5) rfl)) rfl) (Nat.le_of_ble_eq_true rfl) (Nat.le_of_ble_eq_true rfl) (Nat.le_of_ble_eq_true rfl) (Nat.le_of_ble_eq_true rfl) dX0_explains_30 rfl ?_
      refine r_aload_n (i := 0) (x := a0) (q := 34) 0 hX dX0_explains_33 rfl rfl rfl ?_
      refine r_getR (a := a0) (ci := 0) (kf := 5) (q := 37) hX hc5 flX0_25 rfl dX0_explains_34 rfl ?_
      refine r_iload_n (i := 1) (x := s1) (q := 38) 1 hX dX0_explains_37 rfl rfl rfl ?_
      refine r_ck (fun hc10 => ?_)
      refine r_iald (a := (rR M a0 5)) (i := s1) (q := 39) hX hc10 dX0_explains_38 rfl ?_
      refine r_icmp_le (tgt := 44) (q := 42) hX dX0_explains_39 (by decide) rfl (fun hb11 => ?_) (fun hb11 => ?_)
      · refine r_iinc (x := s1) (v := (s1 + (1 : Int32))) (q := 47) 1 1 [1, 0] (L1 := [(0, vr a0), (1, vi (s1 + (1 : Int32)))]) hX dX0_explains_44 rfl rfl (Nat.le_of_ble_eq_true rfl) rfl rfl ?_
        refine r_goto (q := 2) hX dX0_explains_47 (by decide) ?_
        refine r_l0 ?_
        exact hn2 (s1 + (1 : Int32))
      · refine r_iconst (v := (0 : Int32)) (q := 43) hX dX0_explains_42 rfl rfl ?_
        refine r_lf ((hx3 _).trans (hK _)) ?_
        exact r_zret hM rfl (Or.inl rfl) (Nat.le_of_ble_eq_true rfl) (Nat.le_of_ble_eq_true rfl) dX0_explains_43
def mX0_forget : MD := (yX0_forget, cX0_forget, 2, none, 0, 0, 0, 0)
theorem ccX0_forget : Cc mX0_forget 0 := ⟨gd (hcw1_0 _ (List.mem_of_getElem? (i := 7) rfl)) rfl, gd (hcw4_10 _ (List.mem_of_getElem? (i := 0) rfl)) rfl, by decide +kernel, by decide +kernel, by decide +kernel⟩
theorem ivX0_forget : Iv mX0_forget 0 := ⟨Nat.le_of_ble_eq_true rfl, rfl, gd (hcw4_9 _ (List.mem_of_getElem? (i := 18) rfl)) rfl, gd (hcw4_9 _ (List.mem_of_getElem? (i := 19) rfl)) rfl⟩
noncomputable def fX0_forget (Z : Shp) (M : Mem) (a0 : Nat) : Option (Mem) := (loop (fun s1 : Int32 × Mem => (if (8 : Int32) ≤ s1.1 then some (Sum.inr s1.2) else (if tg Z a0 = (1, 9) then (if aok Z (rR s1.2 a0 3) 101 s1.1 then (pu (wI s1.2 (rR s1.2 a0 3) (ix s1.1) (0 : Int32)) (fun M7 => some (Sum.inl ((s1.1 + (1 : Int32)), M7)))) else none) else none))) ((0 : Int32), M))
set_option maxRecDepth 20000 in
theorem kX0_forget (l : Launch) (Z : Shp) (M : Mem) (a0 : Nat) (r : Mem) (h : fX0_forget Z M a0 = some r) : Ct l mX0_forget [vr a0] Z M (none, Z, r) := by
  refine Ct.of rfl (Nat.le_of_ble_eq_true rfl) (fun X hM => ?_)
  have hX := hM.1
  refine r_top (mk := fun r => (none, Z, r)) h (fun K hK => ?_)
  unfold fX0_forget
  refine r_iconst (v := (0 : Int32)) (q := 1) hX dX0_forget_0 rfl rfl ?_
  refine r_istore_n (x := (0 : Int32)) (q := 2) 1 [1, 0] (L1 := [(0, vr a0), (1, vi (0 : Int32))]) hX dX0_forget_1 rfl (Nat.le_of_ble_eq_true rfl) rfl rfl ?_
  refine r_loop (Hd := fun (s1 : Int32 × Mem) (P : Option Res) => Ref mX0_forget X 0 0 Z s1.2 2 [(0, vr a0), (1, vi s1.1)] [] P) (fun _ => r_none) (fun s1 K1 hn2 hx3 => ?_) ((0 : Int32), M)
  refine r_iload_n (i := 1) (x := s1.1) (q := 3) 1 hX dX0_forget_2 rfl rfl rfl ?_
  refine r_bipush (v := (8 : Int32)) (q := 5) hX dX0_forget_3 rfl rfl ?_
  refine r_icmp_ge (tgt := 21) (q := 8) hX dX0_forget_5 (by decide) rfl (fun hb4 => ?_) (fun hb4 => ?_)
  · refine r_lf ((hx3 _).trans (hK _)) ?_
    exact r_vret hM rfl (Nat.le_of_ble_eq_true rfl) (Nat.le_of_ble_eq_true rfl) dX0_forget_21
  · refine r_aload_n (i := 0) (x := a0) (q := 9) 0 hX dX0_forget_8 rfl rfl rfl ?_
    refine r_ck (fun hc5 => ?_)
    refine r_getR (a := a0) (ci := 0) (kf := 3) (q := 12) hX hc5 flX0_18 rfl dX0_forget_9 rfl ?_
    refine r_iload_n (i := 1) (x := s1.1) (q := 13) 1 hX dX0_forget_12 rfl rfl rfl ?_
    refine r_iconst (v := (0 : Int32)) (q := 14) hX dX0_forget_13 rfl rfl ?_
    refine r_ck (fun hc6 => ?_)
    refine r_zast (a := (rR s1.2 a0 3)) (i := s1.1) (x := (0 : Int32)) (q := 15) hX hc6 (Or.inl rfl) dX0_forget_14 rfl (fun M7 => ?_)
    refine r_iinc (x := s1.1) (v := (s1.1 + (1 : Int32))) (q := 18) 1 1 [1, 0] (L1 := [(0, vr a0), (1, vi (s1.1 + (1 : Int32)))]) hX dX0_forget_15 rfl rfl (Nat.le_of_ble_eq_true rfl) rfl rfl ?_
    refine r_goto (q := 2) hX dX0_forget_18 (by decide) ?_
    refine r_l0 ?_
    exact hn2 ((s1.1 + (1 : Int32)), M7)
def mX0_init : MD := (yX0_init, cX0_init, 1, none, 1, 12, 6, 52)
theorem ccX0_init : Cc mX0_init 0 := ⟨gd (hcw1_0 _ (List.mem_of_getElem? (i := 7) rfl)) rfl, gd (hcw1_10 _ (List.mem_of_getElem? (i := 1) rfl)) rfl, by decide +kernel, by decide +kernel, by decide +kernel⟩
theorem imX0_init : Cond.instanceMethod (yN mX0_init) ∈ lw_gd := gd (hcw1_10 _ (List.mem_of_getElem? (i := 0) rfl)) rfl
def fX0_init (Z : Shp) (M : Mem) (a0 : Nat) : Option (Shp × Mem) := (if tg Z a0 = (1, 9) then (pu2 (Z ++ [(100, ix (10 : Int32))]) (nw M (Z.length + 2)) (fun Z2 M3 => (pu (wR M3 a0 0 (Z.length + 2)) (fun M6 => (pu2 (Z2 ++ [(100, ix (10 : Int32))]) (nw M6 (Z2.length + 2)) (fun Z7 M8 => (pu (wR M8 a0 1 (Z2.length + 2)) (fun M11 => (pu2 (Z7 ++ [(101, ix (8 : Int32))]) (nw M11 (Z7.length + 2)) (fun Z12 M13 => (pu (wR M13 a0 3 (Z7.length + 2)) (fun M16 => (pu2 (Z12 ++ [(100, ix (8 : Int32))]) (nw M16 (Z12.length + 2)) (fun Z17 M18 => (pu (wR M18 a0 4 (Z12.length + 2)) (fun M21 => (pu2 (Z17 ++ [(100, ix (8 : Int32))]) (nw M21 (Z17.length + 2)) (fun Z22 M23 => (pu (wR M23 a0 5 (Z17.length + 2)) (fun M26 => (pu2 (Z22 ++ [(100, ix (8 : Int32))]) (nw M26 (Z22.length + 2)) (fun Z27 M28 => (pu (wR M28 a0 6 (Z22.length + 2)) (fun M31 => some (Z27, M31))))))))))))))))))))))))) else none)
set_option maxRecDepth 20000 in
theorem kX0_init (l : Launch) (Z : Shp) (M : Mem) (a0 : Nat) (r : Shp × Mem) (h : fX0_init Z M a0 = some r) : Ct l mX0_init [vr a0] Z M (none, r.1, r.2) := by
  refine Ct.of rfl (Nat.le_of_ble_eq_true rfl) (fun X hM => ?_)
  have hX := hM.1
  refine r_top (mk := fun r => (none, r.1, r.2)) h (fun K hK => ?_)
  unfold fX0_init
  refine r_aload_n (i := 0) (x := a0) (q := 1) 0 hX dX0_init_0 rfl rfl rfl ?_
  refine r_ck (fun hc1 => ?_)
  refine r_objI (ci := 0) (q := 4) hX (gd (hcw1_10 _ (List.mem_of_getElem? (i := 2) rfl)) rfl) hc1 (Nat.le_of_ble_eq_true rfl) (Nat.le_of_ble_eq_true rfl) dX0_init_1 rfl ?_
  refine r_aload_n (i := 0) (x := a0) (q := 5) 0 hX dX0_init_4 rfl rfl rfl ?_
  refine r_bipush (v := (10 : Int32)) (q := 7) hX dX0_init_5 rfl rfl ?_
  refine r_newa (cap := 10) (k1 := 1) (n1 := 10) (q := 9) hX arP_i ⟨by decide, by decide⟩ rfl (Nat.le_of_ble_eq_true rfl) rfl (Nat.le_of_ble_eq_true rfl) (Nat.le_of_ble_eq_true rfl) dX0_init_7 rfl (fun Z2 M3 hc4 he5 => ?_)
  refine r_putR (a := a0) (ci := 0) (kf := 0) (q := 12) hX (he5 _ _ _ (Nat.succ_pos _) hc1) flX0_11 rfl (Or.inr ⟨rfl, rfl, rfl⟩) nf_arr dX0_init_9 rfl (fun M6 => ?_)
  refine r_aload_n (i := 0) (x := a0) (q := 13) 0 hX dX0_init_12 rfl rfl rfl ?_
  refine r_bipush (v := (10 : Int32)) (q := 15) hX dX0_init_13 rfl rfl ?_
  refine r_newa (cap := 10) (k1 := 2) (n1 := 20) (q := 17) hX arP_i ⟨by decide, by decide⟩ rfl (Nat.le_of_ble_eq_true rfl) rfl (Nat.le_of_ble_eq_true rfl) (Nat.le_of_ble_eq_true rfl) dX0_init_15 rfl (fun Z7 M8 hc9 he10 => ?_)
  refine r_putR (a := a0) (ci := 0) (kf := 1) (q := 20) hX (he10 _ _ _ (Nat.succ_pos _) (he5 _ _ _ (Nat.succ_pos _) hc1)) flX0_15 rfl (Or.inr ⟨rfl, rfl, rfl⟩) nf_arr dX0_init_17 rfl (fun M11 => ?_)
  refine r_aload_n (i := 0) (x := a0) (q := 21) 0 hX dX0_init_20 rfl rfl rfl ?_
  refine r_bipush (v := (8 : Int32)) (q := 23) hX dX0_init_21 rfl rfl ?_
  refine r_newa (cap := 8) (k1 := 3) (n1 := 28) (q := 25) hX arP_z ⟨by decide, by decide⟩ rfl (Nat.le_of_ble_eq_true rfl) rfl (Nat.le_of_ble_eq_true rfl) (Nat.le_of_ble_eq_true rfl) dX0_init_23 rfl (fun Z12 M13 hc14 he15 => ?_)
  refine r_putR (a := a0) (ci := 0) (kf := 3) (q := 28) hX (he15 _ _ _ (Nat.succ_pos _) (he10 _ _ _ (Nat.succ_pos _) (he5 _ _ _ (Nat.succ_pos _) hc1))) flX0_18 rfl (Or.inr ⟨rfl, rfl, rfl⟩) nf_arr dX0_init_25 rfl (fun M16 => ?_)
  refine r_aload_n (i := 0) (x := a0) (q := 29) 0 hX dX0_init_28 rfl rfl rfl ?_
  refine r_bipush (v := (8 : Int32)) (q := 31) hX dX0_init_29 rfl rfl ?_
  refine r_newa (cap := 8) (k1 := 4) (n1 := 36) (q := 33) hX arP_i ⟨by decide, by decide⟩ rfl (Nat.le_of_ble_eq_true rfl) rfl (Nat.le_of_ble_eq_true rfl) (Nat.le_of_ble_eq_true rfl) dX0_init_31 rfl (fun Z17 M18 hc19 he20 => ?_)
  refine r_putR (a := a0) (ci := 0) (kf := 4) (q := 36) hX (he20 _ _ _ (Nat.succ_pos _) (he15 _ _ _ (Nat.succ_pos _) (he10 _ _ _ (Nat.succ_pos _) (he5 _ _ _ (Nat.succ_pos _) hc1)))) flX0_22 rfl (Or.inr ⟨rfl, rfl, rfl⟩) nf_arr dX0_init_33 rfl (fun M21 => ?_)
  refine r_aload_n (i := 0) (x := a0) (q := 37) 0 hX dX0_init_36 rfl rfl rfl ?_
  refine r_bipush (v := (8 : Int32)) (q := 39) hX dX0_init_37 rfl rfl ?_
  refine r_newa (cap := 8) (k1 := 5) (n1 := 44) (q := 41) hX arP_i ⟨by decide, by decide⟩ rfl (Nat.le_of_ble_eq_true rfl) rfl (Nat.le_of_ble_eq_true rfl) (Nat.le_of_ble_eq_true rfl) dX0_init_39 rfl (fun Z22 M23 hc24 he25 => ?_)
  refine r_putR (a := a0) (ci := 0) (kf := 5) (q := 44) hX (he25 _ _ _ (Nat.succ_pos _) (he20 _ _ _ (Nat.succ_pos _) (he15 _ _ _ (Nat.succ_pos _) (he10 _ _ _ (Nat.succ_pos _) (he5 _ _ _ (Nat.succ_pos _) hc1))))) flX0_25 rfl (Or.inr ⟨rfl, rfl, rfl⟩) nf_arr dX0_init_41 rfl (fun M26 => ?_)
  refine r_aload_n (i := 0) (x := a0) (q := 45) 0 hX dX0_init_44 rfl rfl rfl ?_
  refine r_bipush (v := (8 : Int32)) (q := 47) hX dX0_init_45 rfl rfl ?_
  refine r_newa (cap := 8) (k1 := 6) (n1 := 52) (q := 49) hX arP_i ⟨by decide, by decide⟩ rfl (Nat.le_of_ble_eq_true rfl) rfl (Nat.le_of_ble_eq_true rfl) (Nat.le_of_ble_eq_true rfl) dX0_init_47 rfl (fun Z27 M28 hc29 he30 => ?_)
  refine r_putR (a := a0) (ci := 0) (kf := 6) (q := 52) hX (he30 _ _ _ (Nat.succ_pos _) (he25 _ _ _ (Nat.succ_pos _) (he20 _ _ _ (Nat.succ_pos _) (he15 _ _ _ (Nat.succ_pos _) (he10 _ _ _ (Nat.succ_pos _) (he5 _ _ _ (Nat.succ_pos _) hc1)))))) flX0_28 rfl (Or.inr ⟨rfl, rfl, rfl⟩) nf_arr dX0_init_49 rfl (fun M31 => ?_)
  refine r_lf (hK _) ?_
  exact r_vret hM rfl (Nat.le_of_ble_eq_true rfl) (Nat.le_of_ble_eq_true rfl) dX0_init_52
def mX0_note : MD := (yX0_note, cX0_note, 4, none, 0, 0, 0, 0)
theorem ccX0_note : Cc mX0_note 3 := ⟨gd (hcw1_0 _ (List.mem_of_getElem? (i := 7) rfl)) rfl, gd (hcw4_9 _ (List.mem_of_getElem? (i := 8) rfl)) rfl, by decide +kernel, by decide +kernel, by decide +kernel⟩
theorem ivX0_note : Iv mX0_note 0 := ⟨Nat.le_of_ble_eq_true rfl, rfl, gd (hcw4_9 _ (List.mem_of_getElem? (i := 6) rfl)) rfl, gd (hcw4_9 _ (List.mem_of_getElem? (i := 7) rfl)) rfl⟩
def fX0_note (Z : Shp) (M : Mem) (a0 : Nat) (x1 : Int32) (x2 : Int32) (x3 : Int32) : Option (Mem) := (if tg Z a0 = (1, 9) then (if aok Z (rR M a0 3) 101 x1 then (pu (wI M (rR M a0 3) (ix x1) (1 : Int32)) (fun M3 => (if aok Z (rR M3 a0 4) 100 x1 then (pu (wI M3 (rR M3 a0 4) (ix x1) x2) (fun M5 => (if aok Z (rR M5 a0 5) 100 x1 then (pu (wI M5 (rR M5 a0 5) (ix x1) x3) (fun M7 => some M7)) else none))) else none))) else none) else none)
set_option maxRecDepth 20000 in
theorem kX0_note (l : Launch) (Z : Shp) (M : Mem) (a0 : Nat) (x1 : Int32) (x2 : Int32) (x3 : Int32) (r : Mem) (h : fX0_note Z M a0 x1 x2 x3 = some r) : Ct l mX0_note [vr a0, vi x1, vi x2, vi x3] Z M (none, Z, r) := by
  refine Ct.of rfl (Nat.le_of_ble_eq_true rfl) (fun X hM => ?_)
  have hX := hM.1
  refine r_top (mk := fun r => (none, Z, r)) h (fun K hK => ?_)
  unfold fX0_note
  refine r_aload_n (i := 0) (x := a0) (q := 1) 0 hX dX0_note_0 rfl rfl rfl ?_
  refine r_ck (fun hc1 => ?_)
  refine r_getR (a := a0) (ci := 0) (kf := 3) (q := 4) hX hc1 flX0_18 rfl dX0_note_1 rfl ?_
  refine r_iload_n (i := 1) (x := x1) (q := 5) 1 hX dX0_note_4 rfl rfl rfl ?_
  refine r_iconst (v := (1 : Int32)) (q := 6) hX dX0_note_5 rfl rfl ?_
  refine r_ck (fun hc2 => ?_)
  refine r_zast (a := (rR M a0 3)) (i := x1) (x := (1 : Int32)) (q := 7) hX hc2 (Or.inr rfl) dX0_note_6 rfl (fun M3 => ?_)
  refine r_aload_n (i := 0) (x := a0) (q := 8) 0 hX dX0_note_7 rfl rfl rfl ?_
  refine r_getR (a := a0) (ci := 0) (kf := 4) (q := 11) hX hc1 flX0_22 rfl dX0_note_8 rfl ?_
  refine r_iload_n (i := 1) (x := x1) (q := 12) 1 hX dX0_note_11 rfl rfl rfl ?_
  refine r_iload_n (i := 2) (x := x2) (q := 13) 2 hX dX0_note_12 rfl rfl rfl ?_
  refine r_ck (fun hc4 => ?_)
  refine r_iast (a := (rR M3 a0 4)) (i := x1) (x := x2) (q := 14) hX hc4 dX0_note_13 rfl (fun M5 => ?_)
  refine r_aload_n (i := 0) (x := a0) (q := 15) 0 hX dX0_note_14 rfl rfl rfl ?_
  refine r_getR (a := a0) (ci := 0) (kf := 5) (q := 18) hX hc1 flX0_25 rfl dX0_note_15 rfl ?_
  refine r_iload_n (i := 1) (x := x1) (q := 19) 1 hX dX0_note_18 rfl rfl rfl ?_
  refine r_iload_n (i := 3) (x := x3) (q := 20) 3 hX dX0_note_19 rfl rfl rfl ?_
  refine r_ck (fun hc6 => ?_)
  refine r_iast (a := (rR M5 a0 5)) (i := x1) (x := x3) (q := 21) hX hc6 dX0_note_20 rfl (fun M7 => ?_)
  refine r_lf (hK _) ?_
  exact r_vret hM rfl (Nat.le_of_ble_eq_true rfl) (Nat.le_of_ble_eq_true rfl) dX0_note_21
def mX0_readings : MD := (yX0_readings, cX0_readings, 3, (some .int), 0, 0, 0, 0)
theorem ccX0_readings : Cc mX0_readings 0 := ⟨gd (hcw1_0 _ (List.mem_of_getElem? (i := 7) rfl)) rfl, gd (hcw4_9 _ (List.mem_of_getElem? (i := 16) rfl)) rfl, by decide +kernel, by decide +kernel, by decide +kernel⟩
theorem ivX0_readings : Iv mX0_readings 0 := ⟨Nat.le_of_ble_eq_true rfl, rfl, gd (hcw4_9 _ (List.mem_of_getElem? (i := 14) rfl)) rfl, gd (hcw4_9 _ (List.mem_of_getElem? (i := 15) rfl)) rfl⟩
noncomputable def fX0_readings (Z : Shp) (M : Mem) (a0 : Nat) : Option (Int32) := (loop (fun s1 : Int32 × Int32 => (if (8 : Int32) ≤ s1.2 then some (Sum.inr s1.1) else (if tg Z a0 = (1, 9) then (if aok Z (rR M a0 3) 101 s1.2 then (if (rI M (rR M a0 3) (ix s1.2)) = 0 then (pu ((s1.1 + (0 : Int32))) (fun z8 => some (Sum.inl (z8, (s1.2 + (1 : Int32)))))) else (pu ((s1.1 + (1 : Int32))) (fun z9 => some (Sum.inl (z9, (s1.2 + (1 : Int32))))))) else none) else none))) ((0 : Int32), (0 : Int32)))
set_option maxRecDepth 20000 in
theorem kX0_readings (l : Launch) (Z : Shp) (M : Mem) (a0 : Nat) (r : Int32) (h : fX0_readings Z M a0 = some r) : Ct l mX0_readings [vr a0] Z M ((some (vi r)), Z, M) := by
  refine Ct.of rfl (Nat.le_of_ble_eq_true rfl) (fun X hM => ?_)
  have hX := hM.1
  refine r_top (mk := fun r => ((some (vi r)), Z, M)) h (fun K hK => ?_)
  unfold fX0_readings
  refine r_iconst (v := (0 : Int32)) (q := 1) hX dX0_readings_0 rfl rfl ?_
  refine r_istore_n (x := (0 : Int32)) (q := 2) 1 [1, 0] (L1 := [(0, vr a0), (1, vi (0 : Int32))]) hX dX0_readings_1 rfl (Nat.le_of_ble_eq_true rfl) rfl rfl ?_
  refine r_iconst (v := (0 : Int32)) (q := 3) hX dX0_readings_2 rfl rfl ?_
  refine r_istore_n (x := (0 : Int32)) (q := 4) 2 [1, 2, 0] (L1 := [(0, vr a0), (1, vi (0 : Int32)), (2, vi (0 : Int32))]) hX dX0_readings_3 rfl (Nat.le_of_ble_eq_true rfl) rfl rfl ?_
  refine r_loop (Hd := fun (s1 : Int32 × Int32) (P : Option Res) => Ref mX0_readings X 0 0 Z M 4 [(0, vr a0), (1, vi s1.1), (2, vi s1.2)] [] P) (fun _ => r_none) (fun s1 K1 hn2 hx3 => ?_) ((0 : Int32), (0 : Int32))
  refine r_iload_n (i := 2) (x := s1.2) (q := 5) 2 hX dX0_readings_4 rfl rfl rfl ?_
  refine r_bipush (v := (8 : Int32)) (q := 7) hX dX0_readings_5 rfl rfl ?_
  refine r_icmp_ge (tgt := 33) (q := 10) hX dX0_readings_7 (by decide) rfl (fun hb4 => ?_) (fun hb4 => ?_)
  · refine r_iload_n (i := 1) (x := s1.1) (q := 34) 1 hX dX0_readings_33 rfl rfl rfl ?_
    refine r_lf ((hx3 _).trans (hK _)) ?_
    exact r_iret hM rfl (Nat.le_of_ble_eq_true rfl) (Nat.le_of_ble_eq_true rfl) dX0_readings_34
  · refine r_iload_n (i := 1) (x := s1.1) (q := 11) 1 hX dX0_readings_10 rfl rfl rfl ?_
    refine r_aload_n (i := 0) (x := a0) (q := 12) 0 hX dX0_readings_11 rfl rfl rfl ?_
    refine r_ck (fun hc5 => ?_)
    refine r_getR (a := a0) (ci := 0) (kf := 3) (q := 15) hX hc5 flX0_18 rfl dX0_readings_12 rfl ?_
    refine r_iload_n (i := 2) (x := s1.2) (q := 16) 2 hX dX0_readings_15 rfl rfl rfl ?_
    refine r_ck (fun hc6 => ?_)
    refine r_zald (a := (rR M a0 3)) (i := s1.2) (q := 17) hX hc6 dX0_readings_16 rfl ?_
    refine r_if_eq (tgt := 24) (q := 20) hX dX0_readings_17 (by decide) rfl (fun hb7 => ?_) (fun hb7 => ?_)
    · refine r_iconst (v := (0 : Int32)) (q := 25) hX dX0_readings_24 rfl rfl ?_
      refine r_iadd (q := 26) hX dX0_readings_25 rfl ?_
      refine r_istore_nP (x := (s1.1 + (0 : Int32))) (q := 27) 1 [1, 0, 3] (fun z8 => [(0, vr a0), (1, vi z8), (2, vi s1.2)]) hX dX0_readings_26 rfl (Nat.le_of_ble_eq_true rfl) (fun _ => rfl) rfl (fun z8 => ?_)
      refine r_iinc (x := s1.2) (v := (s1.2 + (1 : Int32))) (q := 30) 2 2 [1, 2, 0] (L1 := [(0, vr a0), (1, vi z8), (2, vi (s1.2 + (1 : Int32)))]) hX dX0_readings_27 rfl rfl (Nat.le_of_ble_eq_true rfl) rfl rfl ?_
      refine r_goto (q := 4) hX dX0_readings_30 (by decide) ?_
      refine r_l0 ?_
      exact hn2 (z8, (s1.2 + (1 : Int32)))
    · refine r_iconst (v := (1 : Int32)) (q := 21) hX dX0_readings_20 rfl rfl ?_
      refine r_goto (q := 25) hX dX0_readings_21 (by decide) ?_
      refine r_iadd (q := 26) hX dX0_readings_25 rfl ?_
      refine r_istore_nP (x := (s1.1 + (1 : Int32))) (q := 27) 1 [1, 0, 3] (fun z9 => [(0, vr a0), (1, vi z9), (2, vi s1.2)]) hX dX0_readings_26 rfl (Nat.le_of_ble_eq_true rfl) (fun _ => rfl) rfl (fun z9 => ?_)
      refine r_iinc (x := s1.2) (v := (s1.2 + (1 : Int32))) (q := 30) 2 2 [1, 2, 0] (L1 := [(0, vr a0), (1, vi z9), (2, vi (s1.2 + (1 : Int32)))]) hX dX0_readings_27 rfl rfl (Nat.le_of_ble_eq_true rfl) rfl rfl ?_
      refine r_goto (q := 4) hX dX0_readings_30 (by decide) ?_
      refine r_l0 ?_
      exact hn2 (z9, (s1.2 + (1 : Int32)))
def mX11_hasBit : MD := (yX11_hasBit, cX11_hasBit, 2, (some .boolean), 0, 0, 0, 0)
theorem ccX11_hasBit : Cc mX11_hasBit 2 := ⟨gd (hcw1_0 _ (List.mem_of_getElem? (i := 1) rfl)) rfl, gd (hcw4_5 _ (List.mem_of_getElem? (i := 9) rfl)) rfl, by decide +kernel, by decide +kernel, by decide +kernel⟩
theorem stX11_hasBit : Cond.static (yN mX11_hasBit) ∈ lw_gd := gd (hcw4_5 _ (List.mem_of_getElem? (i := 8) rfl)) rfl
def fX11_hasBit (x0 : Int32) (x1 : Int32) : Int32 := (if ((x0 >>> (x1 &&& 31)) &&& (1 : Int32)) = 0 then (0 : Int32) else (1 : Int32))
def gX11_hasBit (x0 : Int32) (x1 : Int32) : Option (Int32) := (if ((x0 >>> (x1 &&& 31)) &&& (1 : Int32)) = 0 then some (0 : Int32) else some (1 : Int32))
theorem eX11_hasBit (x0 : Int32) (x1 : Int32) : gX11_hasBit x0 x1 = some (fX11_hasBit x0 x1) := by
  unfold gX11_hasBit fX11_hasBit
  try simp only [pu]
  (repeat' split) <;> rfl
theorem bX11_hasBit (x0 : Int32) (x1 : Int32) : zb (fX11_hasBit x0 x1) := by
  unfold fX11_hasBit
  try simp only [pu]
  (repeat' split) <;> first | exact Or.inl rfl | exact Or.inr rfl
set_option maxRecDepth 20000 in
theorem kX11_hasBit (l : Launch) (Z : Shp) (M : Mem) (x0 : Int32) (x1 : Int32) : Ct l mX11_hasBit [vi x0, vi x1] Z M ((some (vi (fX11_hasBit x0 x1))), Z, M) := by
  refine Ct.of rfl (Nat.le_of_ble_eq_true rfl) (fun X hM => ?_)
  have hX := hM.1
  refine r_top (mk := fun r => ((some (vi r)), Z, M)) (eX11_hasBit x0 x1) (fun K hK => ?_)
  unfold gX11_hasBit
  refine r_iload_n (i := 0) (x := x0) (q := 1) 0 hX dX11_hasBit_0 rfl rfl rfl ?_
  refine r_iload_n (i := 1) (x := x1) (q := 2) 1 hX dX11_hasBit_1 rfl rfl rfl ?_
  refine r_ishr (q := 3) hX dX11_hasBit_2 rfl ?_
  refine r_iconst (v := (1 : Int32)) (q := 4) hX dX11_hasBit_3 rfl rfl ?_
  refine r_iand (q := 5) hX dX11_hasBit_4 rfl ?_
  refine r_if_eq (tgt := 12) (q := 8) hX dX11_hasBit_5 (by decide) rfl (fun hb1 => ?_) (fun hb1 => ?_)
  · refine r_iconst (v := (0 : Int32)) (q := 13) hX dX11_hasBit_12 rfl rfl ?_
    refine r_lf (hK _) ?_
    exact r_zret hM rfl (Or.inl rfl) (Nat.le_of_ble_eq_true rfl) (Nat.le_of_ble_eq_true rfl) dX11_hasBit_13
  · refine r_iconst (v := (1 : Int32)) (q := 9) hX dX11_hasBit_8 rfl rfl ?_
    refine r_goto (q := 13) hX dX11_hasBit_9 (by decide) ?_
    refine r_lf (hK _) ?_
    exact r_zret hM rfl (Or.inr rfl) (Nat.le_of_ble_eq_true rfl) (Nat.le_of_ble_eq_true rfl) dX11_hasBit_13
theorem lkX0_61 : LkN RX0 61 yX11_hasBit "CanalCompany" := bd (hcw4_10 _ (List.mem_of_getElem? (i := 14) rfl)) rfl
def mX0_turnTo : MD := (yX0_turnTo, cX0_turnTo, 4, none, 1, 21, 0, 0)
theorem ccX0_turnTo : Cc mX0_turnTo 1 := ⟨gd (hcw1_0 _ (List.mem_of_getElem? (i := 7) rfl)) rfl, gd (hcw4_10 _ (List.mem_of_getElem? (i := 13) rfl)) rfl, by decide +kernel, by decide +kernel, by decide +kernel⟩
theorem ivX0_turnTo : Iv mX0_turnTo 0 := ⟨Nat.le_of_ble_eq_true rfl, rfl, gd (hcw4_10 _ (List.mem_of_getElem? (i := 12) rfl)) rfl, gd (hps2 _ (List.mem_of_getElem? (i := 7) rfl)) rfl⟩
noncomputable def fX0_turnTo (Z : Shp) (M : Mem) (a0 : Nat) (x1 : Int32) : Option (Mem) := (pu ((x1 ^^^ (x1 - (1 : Int32)))) (fun z1 => (loop (fun s2 : Int32 × Mem => (if tg Z a0 = (1, 9) then (if (rI s2.2 a0 2) ≤ s2.1 then some (Sum.inr s2.2) else (if (z1 >>> (s2.1 &&& 31)) = 0 then some (Sum.inr s2.2) else (if aok Z (rR s2.2 a0 0) 100 s2.1 then (if aok Z (rR s2.2 a0 6) 100 (rI s2.2 (rR s2.2 a0 0) (ix s2.1)) then (if (fX11_hasBit x1 s2.1) = 0 then (if aok Z (rR s2.2 a0 1) 100 s2.1 then (pu (wI s2.2 (rR s2.2 a0 6) (ix (rI s2.2 (rR s2.2 a0 0) (ix s2.1))) ((rI s2.2 (rR s2.2 a0 6) (ix (rI s2.2 (rR s2.2 a0 0) (ix s2.1)))) + (-(rI s2.2 (rR s2.2 a0 1) (ix s2.1))))) (fun M12 => some (Sum.inl ((s2.1 + (1 : Int32)), M12)))) else none) else (if aok Z (rR s2.2 a0 1) 100 s2.1 then (pu (wI s2.2 (rR s2.2 a0 6) (ix (rI s2.2 (rR s2.2 a0 0) (ix s2.1))) ((rI s2.2 (rR s2.2 a0 6) (ix (rI s2.2 (rR s2.2 a0 0) (ix s2.1)))) + (rI s2.2 (rR s2.2 a0 1) (ix s2.1)))) (fun M14 => some (Sum.inl ((s2.1 + (1 : Int32)), M14)))) else none)) else none) else none))) else none)) ((0 : Int32), M))))
set_option maxRecDepth 20000 in
theorem kX0_turnTo (l : Launch) (Z : Shp) (M : Mem) (a0 : Nat) (x1 : Int32) (r : Mem) (h : fX0_turnTo Z M a0 x1 = some r) : Ct l mX0_turnTo [vr a0, vi x1] Z M (none, Z, r) := by
  refine Ct.of rfl (Nat.le_of_ble_eq_true rfl) (fun X hM => ?_)
  have hX := hM.1
  refine r_top (mk := fun r => (none, Z, r)) h (fun K hK => ?_)
  unfold fX0_turnTo
  refine r_iload_n (i := 1) (x := x1) (q := 1) 1 hX dX0_turnTo_0 rfl rfl rfl ?_
  refine r_iload_n (i := 1) (x := x1) (q := 2) 1 hX dX0_turnTo_1 rfl rfl rfl ?_
  refine r_iconst (v := (1 : Int32)) (q := 3) hX dX0_turnTo_2 rfl rfl ?_
  refine r_isub (q := 4) hX dX0_turnTo_3 rfl ?_
  refine r_ixor (q := 5) hX dX0_turnTo_4 rfl ?_
  refine r_istore_nP (x := (x1 ^^^ (x1 - (1 : Int32)))) (q := 6) 2 [1, 2, 0] (fun z1 => [(0, vr a0), (1, vi x1), (2, vi z1)]) hX dX0_turnTo_5 rfl (Nat.le_of_ble_eq_true rfl) (fun _ => rfl) rfl (fun z1 => ?_)
  refine r_iconst (v := (0 : Int32)) (q := 7) hX dX0_turnTo_6 rfl rfl ?_
  refine r_istore_n (x := (0 : Int32)) (q := 8) 3 [1, 2, 3, 0] (L1 := [(0, vr a0), (1, vi x1), (2, vi z1), (3, vi (0 : Int32))]) hX dX0_turnTo_7 rfl (Nat.le_of_ble_eq_true rfl) rfl rfl ?_
  refine r_loop (Hd := fun (s2 : Int32 × Mem) (P : Option Res) => Ref mX0_turnTo X 0 0 Z s2.2 8 [(0, vr a0), (1, vi x1), (2, vi z1), (3, vi s2.1)] [] P) (fun _ => r_none) (fun s2 K1 hn3 hx4 => ?_) ((0 : Int32), M)
  refine r_iload_n (i := 3) (x := s2.1) (q := 9) 3 hX dX0_turnTo_8 rfl rfl rfl ?_
  refine r_aload_n (i := 0) (x := a0) (q := 10) 0 hX dX0_turnTo_9 rfl rfl rfl ?_
  refine r_ck (fun hc5 => ?_)
  refine r_getI (a := a0) (ci := 0) (kf := 2) (q := 13) hX hc5 flX0_31 rfl rfl dX0_turnTo_10 rfl ?_
  refine r_icmp_ge (tgt := 66) (q := 16) hX dX0_turnTo_13 (by decide) rfl (fun hb6 => ?_) (fun hb6 => ?_)
  · refine r_lf ((hx4 _).trans (hK _)) ?_
    exact r_vret hM rfl (Nat.le_of_ble_eq_true rfl) (Nat.le_of_ble_eq_true rfl) dX0_turnTo_66
  · refine r_iload_n (i := 2) (x := z1) (q := 17) 2 hX dX0_turnTo_16 rfl rfl rfl ?_
    refine r_iload_n (i := 3) (x := s2.1) (q := 18) 3 hX dX0_turnTo_17 rfl rfl rfl ?_
    refine r_ishr (q := 19) hX dX0_turnTo_18 rfl ?_
    refine r_if_eq (tgt := 66) (q := 22) hX dX0_turnTo_19 (by decide) rfl (fun hb7 => ?_) (fun hb7 => ?_)
    · refine r_lf ((hx4 _).trans (hK _)) ?_
      exact r_vret hM rfl (Nat.le_of_ble_eq_true rfl) (Nat.le_of_ble_eq_true rfl) dX0_turnTo_66
    · refine r_aload_n (i := 0) (x := a0) (q := 23) 0 hX dX0_turnTo_22 rfl rfl rfl ?_
      refine r_getR (a := a0) (ci := 0) (kf := 6) (q := 26) hX hc5 flX0_28 rfl dX0_turnTo_23 rfl ?_
      refine r_aload_n (i := 0) (x := a0) (q := 27) 0 hX dX0_turnTo_26 rfl rfl rfl ?_
      refine r_getR (a := a0) (ci := 0) (kf := 0) (q := 30) hX hc5 flX0_11 rfl dX0_turnTo_27 rfl ?_
      refine r_iload_n (i := 3) (x := s2.1) (q := 31) 3 hX dX0_turnTo_30 rfl rfl rfl ?_
      refine r_ck (fun hc8 => ?_)
      refine r_iald (a := (rR s2.2 a0 0)) (i := s2.1) (q := 32) hX hc8 dX0_turnTo_31 rfl ?_
      refine r_dup2 (q := 33) hX dX0_turnTo_32 rfl rfl rfl ?_
      refine r_ck (fun hc9 => ?_)
      refine r_iald (a := (rR s2.2 a0 6)) (i := (rI s2.2 (rR s2.2 a0 0) (ix s2.1))) (q := 34) hX hc9 dX0_turnTo_33 rfl ?_
      refine r_iload_n (i := 1) (x := x1) (q := 35) 1 hX dX0_turnTo_34 rfl rfl rfl ?_
      refine r_iload_n (i := 3) (x := s2.1) (q := 36) 3 hX dX0_turnTo_35 rfl rfl rfl ?_
      refine r_cs (As := [vi x1, vi s2.1]) (st := [vi (rI s2.2 (rR s2.2 a0 6) (ix (rI s2.2 (rR s2.2 a0 0) (ix s2.1)))), vi (rI s2.2 (rR s2.2 a0 0) (ix s2.1)), vr (rR s2.2 a0 6)]) (r := (some (vi (fX11_hasBit x1 s2.1)))) (Z1 := Z) (M1 := s2.2) (k1 := 0) (n1 := 0) (st1 := [vi (fX11_hasBit x1 s2.1), vi (rI s2.2 (rR s2.2 a0 6) (ix (rI s2.2 (rR s2.2 a0 0) (ix s2.1)))), vi (rI s2.2 (rR s2.2 a0 0) (ix s2.1)), vr (rR s2.2 a0 6)]) (q := 39) hX (fun l => kX11_hasBit l Z s2.2 x1 s2.1) stX11_hasBit ccX11_hasBit (Or.inr ⟨_, lkX0_61⟩) rfl rfl rfl ⟨Nat.le_of_ble_eq_true rfl, Nat.le_of_ble_eq_true rfl, rfl, rfl, Nat.le_of_ble_eq_true rfl, Nat.le_of_ble_eq_true rfl⟩ (Nat.le_of_ble_eq_true rfl) dX0_turnTo_36 rfl ?_
      refine r_if_eq (tgt := 51) (q := 42) hX dX0_turnTo_39 (by decide) rfl (fun hb10 => ?_) (fun hb10 => ?_)
      · refine r_aload_n (i := 0) (x := a0) (q := 52) 0 hX dX0_turnTo_51 rfl rfl rfl ?_
        refine r_getR (a := a0) (ci := 0) (kf := 1) (q := 55) hX hc5 flX0_15 rfl dX0_turnTo_52 rfl ?_
        refine r_iload_n (i := 3) (x := s2.1) (q := 56) 3 hX dX0_turnTo_55 rfl rfl rfl ?_
        refine r_ck (fun hc11 => ?_)
        refine r_iald (a := (rR s2.2 a0 1)) (i := s2.1) (q := 57) hX hc11 dX0_turnTo_56 rfl ?_
        refine r_ineg (q := 58) hX dX0_turnTo_57 rfl ?_
        refine r_iadd (q := 59) hX dX0_turnTo_58 rfl ?_
        refine r_iast (a := (rR s2.2 a0 6)) (i := (rI s2.2 (rR s2.2 a0 0) (ix s2.1))) (x := ((rI s2.2 (rR s2.2 a0 6) (ix (rI s2.2 (rR s2.2 a0 0) (ix s2.1)))) + (-(rI s2.2 (rR s2.2 a0 1) (ix s2.1))))) (q := 60) hX hc9 dX0_turnTo_59 rfl (fun M12 => ?_)
        refine r_iinc (x := s2.1) (v := (s2.1 + (1 : Int32))) (q := 63) 3 3 [1, 2, 3, 0] (L1 := [(0, vr a0), (1, vi x1), (2, vi z1), (3, vi (s2.1 + (1 : Int32)))]) hX dX0_turnTo_60 rfl rfl (Nat.le_of_ble_eq_true rfl) rfl rfl ?_
        refine r_goto (q := 8) hX dX0_turnTo_63 (by decide) ?_
        refine r_l0 ?_
        exact hn3 ((s2.1 + (1 : Int32)), M12)
      · refine r_aload_n (i := 0) (x := a0) (q := 43) 0 hX dX0_turnTo_42 rfl rfl rfl ?_
        refine r_getR (a := a0) (ci := 0) (kf := 1) (q := 46) hX hc5 flX0_15 rfl dX0_turnTo_43 rfl ?_
        refine r_iload_n (i := 3) (x := s2.1) (q := 47) 3 hX dX0_turnTo_46 rfl rfl rfl ?_
        refine r_ck (fun hc13 => ?_)
        refine r_iald (a := (rR s2.2 a0 1)) (i := s2.1) (q := 48) hX hc13 dX0_turnTo_47 rfl ?_
        refine r_goto (q := 58) hX dX0_turnTo_48 (by decide) ?_
        refine r_iadd (q := 59) hX dX0_turnTo_58 rfl ?_
        refine r_iast (a := (rR s2.2 a0 6)) (i := (rI s2.2 (rR s2.2 a0 0) (ix s2.1))) (x := ((rI s2.2 (rR s2.2 a0 6) (ix (rI s2.2 (rR s2.2 a0 0) (ix s2.1)))) + (rI s2.2 (rR s2.2 a0 1) (ix s2.1)))) (q := 60) hX hc9 dX0_turnTo_59 rfl (fun M14 => ?_)
        refine r_iinc (x := s2.1) (v := (s2.1 + (1 : Int32))) (q := 63) 3 3 [1, 2, 3, 0] (L1 := [(0, vr a0), (1, vi x1), (2, vi z1), (3, vi (s2.1 + (1 : Int32)))]) hX dX0_turnTo_60 rfl rfl (Nat.le_of_ble_eq_true rfl) rfl rfl ?_
        refine r_goto (q := 8) hX dX0_turnTo_63 (by decide) ?_
        refine r_l0 ?_
        exact hn3 ((s2.1 + (1 : Int32)), M14)
theorem flX0_35 : FL RX0 35 0 7 := ⟨Nat.le_of_ble_eq_true rfl, Nat.le_of_ble_eq_true rfl, gd (hcw1_10 _ (List.mem_of_getElem? (i := 11) rfl)) rfl⟩
theorem flX0_38 : FL RX0 38 0 8 := ⟨Nat.le_of_ble_eq_true rfl, Nat.le_of_ble_eq_true rfl, gd (hcw1_10 _ (List.mem_of_getElem? (i := 13) rfl)) rfl⟩
theorem lkX0_41 : Lk RX0 41 yJ7_fill_53178 := gd (hcw4_10 _ (List.mem_of_getElem? (i := 9) rfl)) rfl
theorem lkX0_47 : Lk RX0 47 yX0_turnTo := gd (hcw4_10 _ (List.mem_of_getElem? (i := 10) rfl)) rfl
theorem lkX0_51 : Lk RX0 51 yJ6_bitCount_0f7a4 := gd (hcw4_10 _ (List.mem_of_getElem? (i := 15) rfl)) rfl
theorem lkX0_57 : Lk RX0 57 yX0_explains := gd (hcw4_11 _ (List.mem_of_getElem? (i := 1) rfl)) rfl
def mX0_search : MD := (yX0_search, cX0_search, 4, none, 2, 44, 0, 0)
theorem ccX0_search : Cc mX0_search 0 := ⟨gd (hcw1_0 _ (List.mem_of_getElem? (i := 7) rfl)) rfl, gd (hcw4_10 _ (List.mem_of_getElem? (i := 8) rfl)) rfl, by decide +kernel, by decide +kernel, by decide +kernel⟩
theorem ivX0_search : Iv mX0_search 0 := ⟨Nat.le_of_ble_eq_true rfl, rfl, gd (hcw4_10 _ (List.mem_of_getElem? (i := 6) rfl)) rfl, gd (hcw4_10 _ (List.mem_of_getElem? (i := 7) rfl)) rfl⟩
noncomputable def fX0_search (Z : Shp) (M : Mem) (a0 : Nat) : Option (Mem) := (if tg Z a0 = (1, 9) then (pu (wI M a0 7 (-1 : Int32)) (fun M2 => (pu (wI M2 a0 8 (0 : Int32)) (fun M3 => (pu (((rI M3 a0 2) + (1 : Int32))) (fun z4 => (Option.bind (fJ7_fill_53178 Z M3 (rR M3 a0 6) (0 : Int32)) (fun v5 => (loop (fun s7 : Int32 × Int32 × Mem => (if ((1 : Int32) <<< ((rI s7.2.2 a0 2) &&& 31)) ≤ s7.2.1 then some (Sum.inr s7.2.2) else (Option.bind (if s7.2.1 ≤ 0 then some s7.2.2 else (Option.bind (fX0_turnTo Z s7.2.2 a0 s7.2.1) (fun v15 => some v15))) (fun v14 : Mem => (pu ((fJ6_bitCount_0f7a4 s7.2.1)) (fun z17 => (if s7.1 < z17 then some (Sum.inl (s7.1, (s7.2.1 + (1 : Int32)), v14)) else (Option.bind (fX0_explains Z v14 a0) (fun v19 => (if v19 = 0 then some (Sum.inl (s7.1, (s7.2.1 + (1 : Int32)), v14)) else (Option.bind (if z17 = s7.1 then some ((rI v14 a0 8) + (1 : Int32)) else some (0 : Int32)) (fun v25 : Int32 => (pu (wI v14 a0 8 v25) (fun M26 => (if z17 = s7.1 then (pu (wI M26 a0 7 (rI M26 a0 7)) (fun M28 => some (Sum.inl (z17, (s7.2.1 + (1 : Int32)), M28)))) else (pu (wI M26 a0 7 s7.2.1) (fun M29 => some (Sum.inl (z17, (s7.2.1 + (1 : Int32)), M29))))))))))))))))))) (z4, (0 : Int32), v5)))))))))) else none)
set_option maxRecDepth 20000 in
theorem kX0_search (l : Launch) (Z : Shp) (M : Mem) (a0 : Nat) (r : Mem) (h : fX0_search Z M a0 = some r) : Ct l mX0_search [vr a0] Z M (none, Z, r) := by
  refine Ct.of rfl (Nat.le_of_ble_eq_true rfl) (fun X hM => ?_)
  have hX := hM.1
  refine r_top (mk := fun r => (none, Z, r)) h (fun K hK => ?_)
  unfold fX0_search
  refine r_aload_n (i := 0) (x := a0) (q := 1) 0 hX dX0_search_0 rfl rfl rfl ?_
  refine r_iconst (v := (-1 : Int32)) (q := 2) hX dX0_search_1 rfl rfl ?_
  refine r_ck (fun hc1 => ?_)
  refine r_putI (a := a0) (ci := 0) (kf := 7) (q := 5) hX hc1 flX0_35 rfl rfl (Or.inl rfl) rfl rfl dX0_search_2 rfl (fun M2 => ?_)
  refine r_aload_n (i := 0) (x := a0) (q := 6) 0 hX dX0_search_5 rfl rfl rfl ?_
  refine r_iconst (v := (0 : Int32)) (q := 7) hX dX0_search_6 rfl rfl ?_
  refine r_putI (a := a0) (ci := 0) (kf := 8) (q := 10) hX hc1 flX0_38 rfl rfl (Or.inl rfl) rfl rfl dX0_search_7 rfl (fun M3 => ?_)
  refine r_aload_n (i := 0) (x := a0) (q := 11) 0 hX dX0_search_10 rfl rfl rfl ?_
  refine r_getI (a := a0) (ci := 0) (kf := 2) (q := 14) hX hc1 flX0_31 rfl rfl dX0_search_11 rfl ?_
  refine r_iconst (v := (1 : Int32)) (q := 15) hX dX0_search_14 rfl rfl ?_
  refine r_iadd (q := 16) hX dX0_search_15 rfl ?_
  refine r_istore_nP (x := ((rI M3 a0 2) + (1 : Int32))) (q := 17) 1 [1, 0] (fun z4 => [(0, vr a0), (1, vi z4)]) hX dX0_search_16 rfl (Nat.le_of_ble_eq_true rfl) (fun _ => rfl) rfl (fun z4 => ?_)
  refine r_aload_n (i := 0) (x := a0) (q := 18) 0 hX dX0_search_17 rfl rfl rfl ?_
  refine r_getR (a := a0) (ci := 0) (kf := 6) (q := 21) hX hc1 flX0_28 rfl dX0_search_18 rfl ?_
  refine r_iconst (v := (0 : Int32)) (q := 22) hX dX0_search_21 rfl rfl ?_
  refine r_bind (fun v5 h6 => ?_)
  refine r_cs (As := [vr (rR M3 a0 6), vi (0 : Int32)]) (st := []) (r := none) (Z1 := Z) (M1 := v5) (k1 := 0) (n1 := 0) (st1 := []) (q := 25) hX (fun l => kJ7_fill_53178 l Z M3 (rR M3 a0 6) (0 : Int32) v5 h6) stJ7_fill_53178 ccJ7_fill_53178 (Or.inl lkX0_41) rfl rfl rfl ⟨Nat.le_of_ble_eq_true rfl, Nat.le_of_ble_eq_true rfl, rfl, rfl, Nat.le_of_ble_eq_true rfl, Nat.le_of_ble_eq_true rfl⟩ (Nat.le_of_ble_eq_true rfl) dX0_search_22 rfl ?_
  refine r_iconst (v := (0 : Int32)) (q := 26) hX dX0_search_25 rfl rfl ?_
  refine r_istore_n (x := (0 : Int32)) (q := 27) 2 [1, 2, 0] (L1 := [(0, vr a0), (1, vi z4), (2, vi (0 : Int32))]) hX dX0_search_26 rfl (Nat.le_of_ble_eq_true rfl) rfl rfl ?_
  refine r_loop (Hd := fun (s7 : Int32 × Int32 × Mem) (P : Option Res) => Ref mX0_search X 0 0 Z s7.2.2 27 [(0, vr a0), (1, vi s7.1), (2, vi s7.2.1)] [] P) (fun _ => r_none) (fun s7 K1 hn8 hx9 => ?_) (z4, (0 : Int32), v5)
  refine r_iload_n (i := 2) (x := s7.2.1) (q := 28) 2 hX dX0_search_27 rfl rfl rfl ?_
  refine r_iconst (v := (1 : Int32)) (q := 29) hX dX0_search_28 rfl rfl ?_
  refine r_aload_n (i := 0) (x := a0) (q := 30) 0 hX dX0_search_29 rfl rfl rfl ?_
  refine r_getI (a := a0) (ci := 0) (kf := 2) (q := 33) hX hc1 flX0_31 rfl rfl dX0_search_30 rfl ?_
  refine r_ishl (q := 34) hX dX0_search_33 rfl ?_
  refine r_icmp_ge (tgt := 110) (q := 37) hX dX0_search_34 (by decide) rfl (fun hb10 => ?_) (fun hb10 => ?_)
  · refine r_lf ((hx9 _).trans (hK _)) ?_
    exact r_vret hM rfl (Nat.le_of_ble_eq_true rfl) (Nat.le_of_ble_eq_true rfl) dX0_search_110
  · refine r_iload_n (i := 2) (x := s7.2.1) (q := 38) 2 hX dX0_search_37 rfl rfl rfl ?_
    refine r_jn (J := fun (v14 : Mem) (P : Option Res) => Ref mX0_search X 0 0 Z v14 46 [(0, vr a0), (1, vi s7.1), (2, vi s7.2.1)] [] P) (fun v14 => ?_) (fun K1 hj12 => ?_)
    · refine r_iload_n (i := 2) (x := s7.2.1) (q := 47) 2 hX dX0_search_46 rfl rfl rfl ?_
      refine r_cs (As := [vi s7.2.1]) (st := []) (r := (some (vi (fJ6_bitCount_0f7a4 s7.2.1)))) (Z1 := Z) (M1 := v14) (k1 := 0) (n1 := 0) (st1 := [vi (fJ6_bitCount_0f7a4 s7.2.1)]) (q := 50) hX (fun l => kJ6_bitCount_0f7a4 l Z v14 s7.2.1) stJ6_bitCount_0f7a4 ccJ6_bitCount_0f7a4 (Or.inl lkX0_51) rfl rfl rfl ⟨Nat.le_of_ble_eq_true rfl, Nat.le_of_ble_eq_true rfl, rfl, rfl, Nat.le_of_ble_eq_true rfl, Nat.le_of_ble_eq_true rfl⟩ (Nat.le_of_ble_eq_true rfl) dX0_search_47 rfl ?_
      refine r_istore_nP (x := (fJ6_bitCount_0f7a4 s7.2.1)) (q := 51) 3 [1, 2, 3, 0] (fun z17 => [(0, vr a0), (1, vi s7.1), (2, vi s7.2.1), (3, vi z17)]) hX dX0_search_50 rfl (Nat.le_of_ble_eq_true rfl) (fun _ => rfl) rfl (fun z17 => ?_)
      refine r_iload_n (i := 3) (x := z17) (q := 52) 3 hX dX0_search_51 rfl rfl rfl ?_
      refine r_iload_n (i := 1) (x := s7.1) (q := 53) 1 hX dX0_search_52 rfl rfl rfl ?_
      refine r_icmp_gt (tgt := 104) (q := 56) hX dX0_search_53 (by decide) rfl (fun hb18 => ?_) (fun hb18 => ?_)
      · refine r_iinc (x := s7.2.1) (v := (s7.2.1 + (1 : Int32))) (q := 107) 2 2 [1, 2, 0, 4] (L1 := [(0, vr a0), (1, vi s7.1), (2, vi (s7.2.1 + (1 : Int32))), (3, vi z17)]) hX dX0_search_104 rfl rfl (Nat.le_of_ble_eq_true rfl) rfl rfl ?_
        refine r_goto (q := 27) hX dX0_search_107 (by decide) ?_
        refine r_l0 ?_
        refine r_sub [0, 1, 2] rfl ?_
        exact hn8 (s7.1, (s7.2.1 + (1 : Int32)), v14)
      · refine r_aload_n (i := 0) (x := a0) (q := 57) 0 hX dX0_search_56 rfl rfl rfl ?_
        refine r_bind (fun v19 h20 => ?_)
        refine r_cv (a := a0) (As := []) (st := []) (r := (some (vi v19))) (Z1 := Z) (M1 := v14) (k1 := 0) (n1 := 0) (st1 := [vi v19]) (q := 60) hX (fun l => kX0_explains l Z v14 a0 v19 h20) hc1 ivX0_explains ccX0_explains (Or.inl lkX0_57) rfl rfl rfl ⟨Nat.le_of_ble_eq_true rfl, Nat.le_of_ble_eq_true rfl, rfl, rfl, Nat.le_of_ble_eq_true rfl, Nat.le_of_ble_eq_true rfl⟩ (Nat.le_of_ble_eq_true rfl) dX0_search_57 rfl ?_
        refine r_if_ne (tgt := 66) (q := 63) hX dX0_search_60 (by decide) rfl (fun hb21 => ?_) (fun hb21 => ?_)
        · refine r_goto (q := 104) hX dX0_search_63 (by decide) ?_
          refine r_iinc (x := s7.2.1) (v := (s7.2.1 + (1 : Int32))) (q := 107) 2 2 [1, 2, 0, 4] (L1 := [(0, vr a0), (1, vi s7.1), (2, vi (s7.2.1 + (1 : Int32))), (3, vi z17)]) hX dX0_search_104 rfl rfl (Nat.le_of_ble_eq_true rfl) rfl rfl ?_
          refine r_goto (q := 27) hX dX0_search_107 (by decide) ?_
          refine r_l0 ?_
          refine r_sub [0, 1, 2] rfl ?_
          exact hn8 (s7.1, (s7.2.1 + (1 : Int32)), v14)
        · refine r_aload_n (i := 0) (x := a0) (q := 67) 0 hX dX0_search_66 rfl rfl rfl ?_
          refine r_iload_n (i := 3) (x := z17) (q := 68) 3 hX dX0_search_67 rfl rfl rfl ?_
          refine r_iload_n (i := 1) (x := s7.1) (q := 69) 1 hX dX0_search_68 rfl rfl rfl ?_
          refine r_jn (J := fun (v25 : Int32) (P : Option Res) => Ref mX0_search X 0 0 Z v14 82 [(0, vr a0), (1, vi s7.1), (2, vi s7.2.1), (3, vi z17)] [vi v25, vr a0] P) (fun v25 => ?_) (fun K1 hj23 => ?_)
          · refine r_putI (a := a0) (ci := 0) (kf := 8) (q := 85) hX hc1 flX0_38 rfl rfl (Or.inl rfl) rfl rfl dX0_search_82 rfl (fun M26 => ?_)
            refine r_aload_n (i := 0) (x := a0) (q := 86) 0 hX dX0_search_85 rfl rfl rfl ?_
            refine r_iload_n (i := 3) (x := z17) (q := 87) 3 hX dX0_search_86 rfl rfl rfl ?_
            refine r_iload_n (i := 1) (x := s7.1) (q := 88) 1 hX dX0_search_87 rfl rfl rfl ?_
            refine r_icmp_ne (tgt := 98) (q := 91) hX dX0_search_88 (by decide) rfl (fun hb27 => ?_) (fun hb27 => ?_)
            · refine r_aload_n (i := 0) (x := a0) (q := 92) 0 hX dX0_search_91 rfl rfl rfl ?_
              refine r_getI (a := a0) (ci := 0) (kf := 7) (q := 95) hX hc1 flX0_35 rfl rfl dX0_search_92 rfl ?_
              refine r_goto (q := 99) hX dX0_search_95 (by decide) ?_
              refine r_putI (a := a0) (ci := 0) (kf := 7) (q := 102) hX hc1 flX0_35 rfl rfl (Or.inl rfl) rfl rfl dX0_search_99 rfl (fun M28 => ?_)
              refine r_iload_n (i := 3) (x := z17) (q := 103) 3 hX dX0_search_102 rfl rfl rfl ?_
              refine r_istore_n (x := z17) (q := 104) 1 [1, 0, 3, 4] (L1 := [(0, vr a0), (1, vi z17), (2, vi s7.2.1), (3, vi z17)]) hX dX0_search_103 rfl (Nat.le_of_ble_eq_true rfl) rfl rfl ?_
              refine r_iinc (x := s7.2.1) (v := (s7.2.1 + (1 : Int32))) (q := 107) 2 2 [1, 2, 0, 4] (L1 := [(0, vr a0), (1, vi z17), (2, vi (s7.2.1 + (1 : Int32))), (3, vi z17)]) hX dX0_search_104 rfl rfl (Nat.le_of_ble_eq_true rfl) rfl rfl ?_
              refine r_goto (q := 27) hX dX0_search_107 (by decide) ?_
              refine r_l0 ?_
              refine r_sub [0, 1, 2] rfl ?_
              exact hn8 (z17, (s7.2.1 + (1 : Int32)), M28)
            · refine r_iload_n (i := 2) (x := s7.2.1) (q := 99) 2 hX dX0_search_98 rfl rfl rfl ?_
              refine r_putI (a := a0) (ci := 0) (kf := 7) (q := 102) hX hc1 flX0_35 rfl rfl (Or.inl rfl) rfl rfl dX0_search_99 rfl (fun M29 => ?_)
              refine r_iload_n (i := 3) (x := z17) (q := 103) 3 hX dX0_search_102 rfl rfl rfl ?_
              refine r_istore_n (x := z17) (q := 104) 1 [1, 0, 3, 4] (L1 := [(0, vr a0), (1, vi z17), (2, vi s7.2.1), (3, vi z17)]) hX dX0_search_103 rfl (Nat.le_of_ble_eq_true rfl) rfl rfl ?_
              refine r_iinc (x := s7.2.1) (v := (s7.2.1 + (1 : Int32))) (q := 107) 2 2 [1, 2, 0, 4] (L1 := [(0, vr a0), (1, vi z17), (2, vi (s7.2.1 + (1 : Int32))), (3, vi z17)]) hX dX0_search_104 rfl rfl (Nat.le_of_ble_eq_true rfl) rfl rfl ?_
              refine r_goto (q := 27) hX dX0_search_107 (by decide) ?_
              refine r_l0 ?_
              refine r_sub [0, 1, 2] rfl ?_
              exact hn8 (z17, (s7.2.1 + (1 : Int32)), M29)
          · refine r_icmp_ne (tgt := 81) (q := 72) hX dX0_search_69 (by decide) rfl (fun hb22 => ?_) (fun hb22 => ?_)
            · refine r_aload_n (i := 0) (x := a0) (q := 73) 0 hX dX0_search_72 rfl rfl rfl ?_
              refine r_getI (a := a0) (ci := 0) (kf := 8) (q := 76) hX hc1 flX0_38 rfl rfl dX0_search_73 rfl ?_
              refine r_iconst (v := (1 : Int32)) (q := 77) hX dX0_search_76 rfl rfl ?_
              refine r_iadd (q := 78) hX dX0_search_77 rfl ?_
              refine r_goto (q := 82) hX dX0_search_78 (by decide) ?_
              refine r_l0 ?_
              exact hj23 ((rI v14 a0 8) + (1 : Int32))
            · refine r_iconst (v := (0 : Int32)) (q := 82) hX dX0_search_81 rfl rfl ?_
              refine r_l0 ?_
              exact hj23 (0 : Int32)
    · refine r_if_le (tgt := 46) (q := 41) hX dX0_search_38 (by decide) rfl (fun hb11 => ?_) (fun hb11 => ?_)
      · refine r_l0 ?_
        exact hj12 s7.2.2
      · refine r_aload_n (i := 0) (x := a0) (q := 42) 0 hX dX0_search_41 rfl rfl rfl ?_
        refine r_iload_n (i := 2) (x := s7.2.1) (q := 43) 2 hX dX0_search_42 rfl rfl rfl ?_
        refine r_bind (fun v15 h16 => ?_)
        refine r_cv (a := a0) (As := [vi s7.2.1]) (st := []) (r := none) (Z1 := Z) (M1 := v15) (k1 := 0) (n1 := 0) (st1 := []) (q := 46) hX (fun l => kX0_turnTo l Z s7.2.2 a0 s7.2.1 v15 h16) hc1 ivX0_turnTo ccX0_turnTo (Or.inl lkX0_47) rfl rfl rfl ⟨Nat.le_of_ble_eq_true rfl, Nat.le_of_ble_eq_true rfl, rfl, rfl, Nat.le_of_ble_eq_true rfl, Nat.le_of_ble_eq_true rfl⟩ (Nat.le_of_ble_eq_true rfl) dX0_search_43 rfl ?_
        refine r_l0 ?_
        exact hj12 v15
theorem flX10_21 : FL RX10 21 10 3 := ⟨Nat.le_of_ble_eq_true rfl, Nat.le_of_ble_eq_true rfl, gd (hcw2_2 _ (List.mem_of_getElem? (i := 1) rfl)) rfl⟩
theorem flX10_11 : FL RX10 11 10 0 := ⟨Nat.le_of_ble_eq_true rfl, Nat.le_of_ble_eq_true rfl, gd (hcw2_1 _ (List.mem_of_getElem? (i := 18) rfl)) rfl⟩
theorem flX10_15 : FL RX10 15 10 1 := ⟨Nat.le_of_ble_eq_true rfl, Nat.le_of_ble_eq_true rfl, gd (hcw2_1 _ (List.mem_of_getElem? (i := 19) rfl)) rfl⟩
theorem flX10_18 : FL RX10 18 10 2 := ⟨Nat.le_of_ble_eq_true rfl, Nat.le_of_ble_eq_true rfl, gd (hcw2_2 _ (List.mem_of_getElem? (i := 0) rfl)) rfl⟩
def mX10_add : MD := (yX10_add, cX10_add, 4, (some .int), 0, 0, 0, 0)
theorem ccX10_add : Cc mX10_add 3 := ⟨gd (hcw1_0 _ (List.mem_of_getElem? (i := 9) rfl)) rfl, gd (hcw5_4 _ (List.mem_of_getElem? (i := 11) rfl)) rfl, by decide +kernel, by decide +kernel, by decide +kernel⟩
theorem ivX10_add : Iv mX10_add 10 := ⟨Nat.le_of_ble_eq_true rfl, rfl, gd (hcw5_4 _ (List.mem_of_getElem? (i := 9) rfl)) rfl, gd (hcw5_4 _ (List.mem_of_getElem? (i := 10) rfl)) rfl⟩
def fX10_add (Z : Shp) (M : Mem) (a0 : Nat) (x1 : Int32) (x2 : Int32) (x3 : Int32) : Option (Int32 × Mem) := (if tg Z a0 = (11, 4) then (if (rI M a0 3) < (8 : Int32) then (if aok Z (rR M a0 0) 100 (rI M a0 3) then (pu (wI M (rR M a0 0) (ix (rI M a0 3)) x1) (fun M4 => (if aok Z (rR M4 a0 1) 100 (rI M4 a0 3) then (pu (wI M4 (rR M4 a0 1) (ix (rI M4 a0 3)) x2) (fun M6 => (if aok Z (rR M6 a0 2) 100 (rI M6 a0 3) then (pu (wI M6 (rR M6 a0 2) (ix (rI M6 a0 3)) x3) (fun M8 => (pu (wI M8 a0 3 ((rI M8 a0 3) + (1 : Int32))) (fun M9 => some ((rI M8 a0 3), M9))))) else none))) else none))) else none) else some ((-104 : Int32), M)) else none)
set_option maxRecDepth 20000 in
theorem kX10_add (l : Launch) (Z : Shp) (M : Mem) (a0 : Nat) (x1 : Int32) (x2 : Int32) (x3 : Int32) (r : Int32 × Mem) (h : fX10_add Z M a0 x1 x2 x3 = some r) : Ct l mX10_add [vr a0, vi x1, vi x2, vi x3] Z M ((some (vi r.1)), Z, r.2) := by
  refine Ct.of rfl (Nat.le_of_ble_eq_true rfl) (fun X hM => ?_)
  have hX := hM.1
  refine r_top (mk := fun r => ((some (vi r.1)), Z, r.2)) h (fun K hK => ?_)
  unfold fX10_add
  refine r_aload_n (i := 0) (x := a0) (q := 1) 0 hX dX10_add_0 rfl rfl rfl ?_
  refine r_ck (fun hc1 => ?_)
  refine r_getI (a := a0) (ci := 10) (kf := 3) (q := 4) hX hc1 flX10_21 rfl rfl dX10_add_1 rfl ?_
  refine r_bipush (v := (8 : Int32)) (q := 6) hX dX10_add_4 rfl rfl ?_
  refine r_icmp_lt (tgt := 12) (q := 9) hX dX10_add_6 (by decide) rfl (fun hb2 => ?_) (fun hb2 => ?_)
  · refine r_aload_n (i := 0) (x := a0) (q := 13) 0 hX dX10_add_12 rfl rfl rfl ?_
    refine r_getR (a := a0) (ci := 10) (kf := 0) (q := 16) hX hc1 flX10_11 rfl dX10_add_13 rfl ?_
    refine r_aload_n (i := 0) (x := a0) (q := 17) 0 hX dX10_add_16 rfl rfl rfl ?_
    refine r_getI (a := a0) (ci := 10) (kf := 3) (q := 20) hX hc1 flX10_21 rfl rfl dX10_add_17 rfl ?_
    refine r_iload_n (i := 1) (x := x1) (q := 21) 1 hX dX10_add_20 rfl rfl rfl ?_
    refine r_ck (fun hc3 => ?_)
    refine r_iast (a := (rR M a0 0)) (i := (rI M a0 3)) (x := x1) (q := 22) hX hc3 dX10_add_21 rfl (fun M4 => ?_)
    refine r_aload_n (i := 0) (x := a0) (q := 23) 0 hX dX10_add_22 rfl rfl rfl ?_
    refine r_getR (a := a0) (ci := 10) (kf := 1) (q := 26) hX hc1 flX10_15 rfl dX10_add_23 rfl ?_
    refine r_aload_n (i := 0) (x := a0) (q := 27) 0 hX dX10_add_26 rfl rfl rfl ?_
    refine r_getI (a := a0) (ci := 10) (kf := 3) (q := 30) hX hc1 flX10_21 rfl rfl dX10_add_27 rfl ?_
    refine r_iload_n (i := 2) (x := x2) (q := 31) 2 hX dX10_add_30 rfl rfl rfl ?_
    refine r_ck (fun hc5 => ?_)
    refine r_iast (a := (rR M4 a0 1)) (i := (rI M4 a0 3)) (x := x2) (q := 32) hX hc5 dX10_add_31 rfl (fun M6 => ?_)
    refine r_aload_n (i := 0) (x := a0) (q := 33) 0 hX dX10_add_32 rfl rfl rfl ?_
    refine r_getR (a := a0) (ci := 10) (kf := 2) (q := 36) hX hc1 flX10_18 rfl dX10_add_33 rfl ?_
    refine r_aload_n (i := 0) (x := a0) (q := 37) 0 hX dX10_add_36 rfl rfl rfl ?_
    refine r_getI (a := a0) (ci := 10) (kf := 3) (q := 40) hX hc1 flX10_21 rfl rfl dX10_add_37 rfl ?_
    refine r_iload_n (i := 3) (x := x3) (q := 41) 3 hX dX10_add_40 rfl rfl rfl ?_
    refine r_ck (fun hc7 => ?_)
    refine r_iast (a := (rR M6 a0 2)) (i := (rI M6 a0 3)) (x := x3) (q := 42) hX hc7 dX10_add_41 rfl (fun M8 => ?_)
    refine r_aload_n (i := 0) (x := a0) (q := 43) 0 hX dX10_add_42 rfl rfl rfl ?_
    refine r_dup (q := 44) hX dX10_add_43 rfl rfl ?_
    refine r_getI (a := a0) (ci := 10) (kf := 3) (q := 47) hX hc1 flX10_21 rfl rfl dX10_add_44 rfl ?_
    refine r_dup_x1 (q := 48) hX dX10_add_47 rfl rfl rfl ?_
    refine r_iconst (v := (1 : Int32)) (q := 49) hX dX10_add_48 rfl rfl ?_
    refine r_iadd (q := 50) hX dX10_add_49 rfl ?_
    refine r_putI (a := a0) (ci := 10) (kf := 3) (q := 53) hX hc1 flX10_21 rfl rfl (Or.inl rfl) rfl rfl dX10_add_50 rfl (fun M9 => ?_)
    refine r_lf (hK _) ?_
    exact r_iret hM rfl (Nat.le_of_ble_eq_true rfl) (Nat.le_of_ble_eq_true rfl) dX10_add_53
  · refine r_bipush (v := (-104 : Int32)) (q := 11) hX dX10_add_9 rfl rfl ?_
    refine r_lf (hK _) ?_
    exact r_iret hM rfl (Nat.le_of_ble_eq_true rfl) (Nat.le_of_ble_eq_true rfl) dX10_add_11
theorem lkX10_47 : LkN RX10 47 yX11_mix "CanalCompany" := bd (hcw5_9 _ (List.mem_of_getElem? (i := 3) rfl)) rfl
def mX10_addTo : MD := (yX10_addTo, cX10_addTo, 6, (some .long), 1, 23, 0, 0)
theorem ccX10_addTo : Cc mX10_addTo 1 := ⟨gd (hcw1_0 _ (List.mem_of_getElem? (i := 9) rfl)) rfl, gd (hcw5_9 _ (List.mem_of_getElem? (i := 2) rfl)) rfl, by decide +kernel, by decide +kernel, by decide +kernel⟩
theorem ivX10_addTo : Iv mX10_addTo 10 := ⟨Nat.le_of_ble_eq_true rfl, rfl, gd (hcw5_9 _ (List.mem_of_getElem? (i := 0) rfl)) rfl, gd (hcw5_9 _ (List.mem_of_getElem? (i := 1) rfl)) rfl⟩
noncomputable def fX10_addTo (Z : Shp) (M : Mem) (a0 : Nat) (y1 : Int64) : Option (Int64) := (loop (fun s1 : Int64 × Int32 => (if tg Z a0 = (11, 4) then (if (rI M a0 3) ≤ s1.2 then some (Sum.inr s1.1) else (if aok Z (rR M a0 0) 100 s1.2 then (if aok Z (rR M a0 1) 100 s1.2 then (if aok Z (rR M a0 2) 100 s1.2 then (pu ((fX11_mix (fX11_mix (fX11_mix s1.1 ((rI M (rR M a0 0) (ix s1.2)).toInt64)) ((rI M (rR M a0 1) (ix s1.2)).toInt64)) ((rI M (rR M a0 2) (ix s1.2)).toInt64))) (fun z9 => some (Sum.inl (z9, (s1.2 + (1 : Int32)))))) else none) else none) else none)) else none)) (y1, (0 : Int32)))
set_option maxRecDepth 20000 in
theorem kX10_addTo (l : Launch) (Z : Shp) (M : Mem) (a0 : Nat) (y1 : Int64) (r : Int64) (h : fX10_addTo Z M a0 y1 = some r) : Ct l mX10_addTo [vr a0, vj y1] Z M ((some (vj r)), Z, M) := by
  refine Ct.of rfl (Nat.le_of_ble_eq_true rfl) (fun X hM => ?_)
  have hX := hM.1
  refine r_top (mk := fun r => ((some (vj r)), Z, M)) h (fun K hK => ?_)
  unfold fX10_addTo
  refine r_lload_n (i := 1) (x := y1) (q := 1) 1 hX dX10_addTo_0 rfl rfl rfl ?_
  refine r_lstore_n (x := y1) (q := 2) 3 [1, 2, 0] (L1 := [(0, vr a0), (1, vj y1), (3, vj y1)]) hX dX10_addTo_1 rfl (Nat.le_of_ble_eq_true rfl) rfl rfl ?_
  refine r_iconst (v := (0 : Int32)) (q := 3) hX dX10_addTo_2 rfl rfl ?_
  refine r_istore (x := (0 : Int32)) (q := 5) 5 [1, 2, 3, 0] (L1 := [(0, vr a0), (1, vj y1), (3, vj y1), (5, vi (0 : Int32))]) hX dX10_addTo_3 (Nat.le_of_ble_eq_true rfl) rfl rfl ?_
  refine r_sub [0, 2, 3] rfl ?_
  refine r_loop (Hd := fun (s1 : Int64 × Int32) (P : Option Res) => Ref mX10_addTo X 0 0 Z M 5 [(0, vr a0), (3, vj s1.1), (5, vi s1.2)] [] P) (fun _ => r_none) (fun s1 K1 hn2 hx3 => ?_) (y1, (0 : Int32))
  refine r_iload (i := 5) (x := s1.2) (q := 7) 2 hX dX10_addTo_5 rfl rfl ?_
  refine r_aload_n (i := 0) (x := a0) (q := 8) 0 hX dX10_addTo_7 rfl rfl rfl ?_
  refine r_ck (fun hc4 => ?_)
  refine r_getI (a := a0) (ci := 10) (kf := 3) (q := 11) hX hc4 flX10_21 rfl rfl dX10_addTo_8 rfl ?_
  refine r_icmp_ge (tgt := 55) (q := 14) hX dX10_addTo_11 (by decide) rfl (fun hb5 => ?_) (fun hb5 => ?_)
  · refine r_lload_n (i := 3) (x := s1.1) (q := 56) 1 hX dX10_addTo_55 rfl rfl rfl ?_
    refine r_lf ((hx3 _).trans (hK _)) ?_
    exact r_lret hM rfl (Nat.le_of_ble_eq_true rfl) (Nat.le_of_ble_eq_true rfl) dX10_addTo_56
  · refine r_lload_n (i := 3) (x := s1.1) (q := 15) 1 hX dX10_addTo_14 rfl rfl rfl ?_
    refine r_aload_n (i := 0) (x := a0) (q := 16) 0 hX dX10_addTo_15 rfl rfl rfl ?_
    refine r_getR (a := a0) (ci := 10) (kf := 0) (q := 19) hX hc4 flX10_11 rfl dX10_addTo_16 rfl ?_
    refine r_iload (i := 5) (x := s1.2) (q := 21) 2 hX dX10_addTo_19 rfl rfl ?_
    refine r_ck (fun hc6 => ?_)
    refine r_iald (a := (rR M a0 0)) (i := s1.2) (q := 22) hX hc6 dX10_addTo_21 rfl ?_
    refine r_i2l (q := 23) hX dX10_addTo_22 rfl ?_
    refine r_cs (As := [vj s1.1, vj ((rI M (rR M a0 0) (ix s1.2)).toInt64)]) (st := []) (r := (some (vj (fX11_mix s1.1 ((rI M (rR M a0 0) (ix s1.2)).toInt64))))) (Z1 := Z) (M1 := M) (k1 := 0) (n1 := 0) (st1 := [vj (fX11_mix s1.1 ((rI M (rR M a0 0) (ix s1.2)).toInt64))]) (q := 26) hX (fun l => kX11_mix l Z M s1.1 ((rI M (rR M a0 0) (ix s1.2)).toInt64)) stX11_mix ccX11_mix (Or.inr ⟨_, lkX10_47⟩) rfl rfl rfl ⟨Nat.le_of_ble_eq_true rfl, Nat.le_of_ble_eq_true rfl, rfl, rfl, Nat.le_of_ble_eq_true rfl, Nat.le_of_ble_eq_true rfl⟩ (Nat.le_of_ble_eq_true rfl) dX10_addTo_23 rfl ?_
    refine r_aload_n (i := 0) (x := a0) (q := 27) 0 hX dX10_addTo_26 rfl rfl rfl ?_
    refine r_getR (a := a0) (ci := 10) (kf := 1) (q := 30) hX hc4 flX10_15 rfl dX10_addTo_27 rfl ?_
    refine r_iload (i := 5) (x := s1.2) (q := 32) 2 hX dX10_addTo_30 rfl rfl ?_
    refine r_ck (fun hc7 => ?_)
    refine r_iald (a := (rR M a0 1)) (i := s1.2) (q := 33) hX hc7 dX10_addTo_32 rfl ?_
    refine r_i2l (q := 34) hX dX10_addTo_33 rfl ?_
    refine r_cs (As := [vj (fX11_mix s1.1 ((rI M (rR M a0 0) (ix s1.2)).toInt64)), vj ((rI M (rR M a0 1) (ix s1.2)).toInt64)]) (st := []) (r := (some (vj (fX11_mix (fX11_mix s1.1 ((rI M (rR M a0 0) (ix s1.2)).toInt64)) ((rI M (rR M a0 1) (ix s1.2)).toInt64))))) (Z1 := Z) (M1 := M) (k1 := 0) (n1 := 0) (st1 := [vj (fX11_mix (fX11_mix s1.1 ((rI M (rR M a0 0) (ix s1.2)).toInt64)) ((rI M (rR M a0 1) (ix s1.2)).toInt64))]) (q := 37) hX (fun l => kX11_mix l Z M (fX11_mix s1.1 ((rI M (rR M a0 0) (ix s1.2)).toInt64)) ((rI M (rR M a0 1) (ix s1.2)).toInt64)) stX11_mix ccX11_mix (Or.inr ⟨_, lkX10_47⟩) rfl rfl rfl ⟨Nat.le_of_ble_eq_true rfl, Nat.le_of_ble_eq_true rfl, rfl, rfl, Nat.le_of_ble_eq_true rfl, Nat.le_of_ble_eq_true rfl⟩ (Nat.le_of_ble_eq_true rfl) dX10_addTo_34 rfl ?_
    refine r_aload_n (i := 0) (x := a0) (q := 38) 0 hX dX10_addTo_37 rfl rfl rfl ?_
    refine r_getR (a := a0) (ci := 10) (kf := 2) (q := 41) hX hc4 flX10_18 rfl dX10_addTo_38 rfl ?_
    refine r_iload (i := 5) (x := s1.2) (q := 43) 2 hX dX10_addTo_41 rfl rfl ?_
    refine r_ck (fun hc8 => ?_)
    refine r_iald (a := (rR M a0 2)) (i := s1.2) (q := 44) hX hc8 dX10_addTo_43 rfl ?_
    refine r_i2l (q := 45) hX dX10_addTo_44 rfl ?_
    refine r_cs (As := [vj (fX11_mix (fX11_mix s1.1 ((rI M (rR M a0 0) (ix s1.2)).toInt64)) ((rI M (rR M a0 1) (ix s1.2)).toInt64)), vj ((rI M (rR M a0 2) (ix s1.2)).toInt64)]) (st := []) (r := (some (vj (fX11_mix (fX11_mix (fX11_mix s1.1 ((rI M (rR M a0 0) (ix s1.2)).toInt64)) ((rI M (rR M a0 1) (ix s1.2)).toInt64)) ((rI M (rR M a0 2) (ix s1.2)).toInt64))))) (Z1 := Z) (M1 := M) (k1 := 0) (n1 := 0) (st1 := [vj (fX11_mix (fX11_mix (fX11_mix s1.1 ((rI M (rR M a0 0) (ix s1.2)).toInt64)) ((rI M (rR M a0 1) (ix s1.2)).toInt64)) ((rI M (rR M a0 2) (ix s1.2)).toInt64))]) (q := 48) hX (fun l => kX11_mix l Z M (fX11_mix (fX11_mix s1.1 ((rI M (rR M a0 0) (ix s1.2)).toInt64)) ((rI M (rR M a0 1) (ix s1.2)).toInt64)) ((rI M (rR M a0 2) (ix s1.2)).toInt64)) stX11_mix ccX11_mix (Or.inr ⟨_, lkX10_47⟩) rfl rfl rfl ⟨Nat.le_of_ble_eq_true rfl, Nat.le_of_ble_eq_true rfl, rfl, rfl, Nat.le_of_ble_eq_true rfl, Nat.le_of_ble_eq_true rfl⟩ (Nat.le_of_ble_eq_true rfl) dX10_addTo_45 rfl ?_
    refine r_lstore_nP (x := (fX11_mix (fX11_mix (fX11_mix s1.1 ((rI M (rR M a0 0) (ix s1.2)).toInt64)) ((rI M (rR M a0 1) (ix s1.2)).toInt64)) ((rI M (rR M a0 2) (ix s1.2)).toInt64))) (q := 49) 3 [1, 0, 3] (fun z9 => [(0, vr a0), (3, vj z9), (5, vi s1.2)]) hX dX10_addTo_48 rfl (Nat.le_of_ble_eq_true rfl) (fun _ => rfl) rfl (fun z9 => ?_)
    refine r_iinc (x := s1.2) (v := (s1.2 + (1 : Int32))) (q := 52) 5 2 [1, 2, 0] (L1 := [(0, vr a0), (3, vj z9), (5, vi (s1.2 + (1 : Int32)))]) hX dX10_addTo_49 rfl rfl (Nat.le_of_ble_eq_true rfl) rfl rfl ?_
    refine r_goto (q := 5) hX dX10_addTo_52 (by decide) ?_
    refine r_l0 ?_
    exact hn2 (z9, (s1.2 + (1 : Int32)))
theorem lkX10_29 : LkN RX10 29 yX11_hasBit "CanalCompany" := bd (hcw5_5 _ (List.mem_of_getElem? (i := 8) rfl)) rfl
def mX10_sumOver : MD := (yX10_sumOver, cX10_sumOver, 5, (some .int), 1, 21, 0, 0)
theorem ccX10_sumOver : Cc mX10_sumOver 2 := ⟨gd (hcw1_0 _ (List.mem_of_getElem? (i := 9) rfl)) rfl, gd (hcw5_5 _ (List.mem_of_getElem? (i := 7) rfl)) rfl, by decide +kernel, by decide +kernel, by decide +kernel⟩
theorem ivX10_sumOver : Iv mX10_sumOver 10 := ⟨Nat.le_of_ble_eq_true rfl, rfl, gd (hcw5_5 _ (List.mem_of_getElem? (i := 6) rfl)) rfl, gd (hps2 _ (List.mem_of_getElem? (i := 13) rfl)) rfl⟩
noncomputable def fX10_sumOver (Z : Shp) (M : Mem) (a0 : Nat) (a1 : Nat) (x2 : Int32) : Option (Int32) := (loop (fun s1 : Int32 × Int32 => (if tg Z a0 = (11, 4) then (if (rI M a0 3) ≤ s1.2 then some (Sum.inr s1.1) else (if (fX11_hasBit x2 s1.2) = 0 then (pu ((s1.1 + (0 : Int32))) (fun z7 => some (Sum.inl (z7, (s1.2 + (1 : Int32)))))) else (if aok Z a1 100 s1.2 then (pu ((s1.1 + (rI M a1 (ix s1.2)))) (fun z9 => some (Sum.inl (z9, (s1.2 + (1 : Int32)))))) else none))) else none)) ((0 : Int32), (0 : Int32)))
set_option maxRecDepth 20000 in
theorem kX10_sumOver (l : Launch) (Z : Shp) (M : Mem) (a0 : Nat) (a1 : Nat) (x2 : Int32) (r : Int32) (h : fX10_sumOver Z M a0 a1 x2 = some r) : Ct l mX10_sumOver [vr a0, vr a1, vi x2] Z M ((some (vi r)), Z, M) := by
  refine Ct.of rfl (Nat.le_of_ble_eq_true rfl) (fun X hM => ?_)
  have hX := hM.1
  refine r_top (mk := fun r => ((some (vi r)), Z, M)) h (fun K hK => ?_)
  unfold fX10_sumOver
  refine r_iconst (v := (0 : Int32)) (q := 1) hX dX10_sumOver_0 rfl rfl ?_
  refine r_istore_n (x := (0 : Int32)) (q := 2) 3 [1, 2, 3, 0] (L1 := [(0, vr a0), (1, vr a1), (2, vi x2), (3, vi (0 : Int32))]) hX dX10_sumOver_1 rfl (Nat.le_of_ble_eq_true rfl) rfl rfl ?_
  refine r_iconst (v := (0 : Int32)) (q := 3) hX dX10_sumOver_2 rfl rfl ?_
  refine r_istore (x := (0 : Int32)) (q := 5) 4 [1, 2, 3, 4, 0] (L1 := [(0, vr a0), (1, vr a1), (2, vi x2), (3, vi (0 : Int32)), (4, vi (0 : Int32))]) hX dX10_sumOver_3 (Nat.le_of_ble_eq_true rfl) rfl rfl ?_
  refine r_loop (Hd := fun (s1 : Int32 × Int32) (P : Option Res) => Ref mX10_sumOver X 0 0 Z M 5 [(0, vr a0), (1, vr a1), (2, vi x2), (3, vi s1.1), (4, vi s1.2)] [] P) (fun _ => r_none) (fun s1 K1 hn2 hx3 => ?_) ((0 : Int32), (0 : Int32))
  refine r_iload (i := 4) (x := s1.2) (q := 7) 4 hX dX10_sumOver_5 rfl rfl ?_
  refine r_aload_n (i := 0) (x := a0) (q := 8) 0 hX dX10_sumOver_7 rfl rfl rfl ?_
  refine r_ck (fun hc4 => ?_)
  refine r_getI (a := a0) (ci := 10) (kf := 3) (q := 11) hX hc4 flX10_21 rfl rfl dX10_sumOver_8 rfl ?_
  refine r_icmp_ge (tgt := 40) (q := 14) hX dX10_sumOver_11 (by decide) rfl (fun hb5 => ?_) (fun hb5 => ?_)
  · refine r_iload_n (i := 3) (x := s1.1) (q := 41) 3 hX dX10_sumOver_40 rfl rfl rfl ?_
    refine r_lf ((hx3 _).trans (hK _)) ?_
    exact r_iret hM rfl (Nat.le_of_ble_eq_true rfl) (Nat.le_of_ble_eq_true rfl) dX10_sumOver_41
  · refine r_iload_n (i := 3) (x := s1.1) (q := 15) 3 hX dX10_sumOver_14 rfl rfl rfl ?_
    refine r_iload_n (i := 2) (x := x2) (q := 16) 2 hX dX10_sumOver_15 rfl rfl rfl ?_
    refine r_iload (i := 4) (x := s1.2) (q := 18) 4 hX dX10_sumOver_16 rfl rfl ?_
    refine r_cs (As := [vi x2, vi s1.2]) (st := [vi s1.1]) (r := (some (vi (fX11_hasBit x2 s1.2)))) (Z1 := Z) (M1 := M) (k1 := 0) (n1 := 0) (st1 := [vi (fX11_hasBit x2 s1.2), vi s1.1]) (q := 21) hX (fun l => kX11_hasBit l Z M x2 s1.2) stX11_hasBit ccX11_hasBit (Or.inr ⟨_, lkX10_29⟩) rfl rfl rfl ⟨Nat.le_of_ble_eq_true rfl, Nat.le_of_ble_eq_true rfl, rfl, rfl, Nat.le_of_ble_eq_true rfl, Nat.le_of_ble_eq_true rfl⟩ (Nat.le_of_ble_eq_true rfl) dX10_sumOver_18 rfl ?_
    refine r_if_eq (tgt := 31) (q := 24) hX dX10_sumOver_21 (by decide) rfl (fun hb6 => ?_) (fun hb6 => ?_)
    · refine r_iconst (v := (0 : Int32)) (q := 32) hX dX10_sumOver_31 rfl rfl ?_
      refine r_iadd (q := 33) hX dX10_sumOver_32 rfl ?_
      refine r_istore_nP (x := (s1.1 + (0 : Int32))) (q := 34) 3 [1, 2, 3, 0, 5] (fun z7 => [(0, vr a0), (1, vr a1), (2, vi x2), (3, vi z7), (4, vi s1.2)]) hX dX10_sumOver_33 rfl (Nat.le_of_ble_eq_true rfl) (fun _ => rfl) rfl (fun z7 => ?_)
      refine r_iinc (x := s1.2) (v := (s1.2 + (1 : Int32))) (q := 37) 4 4 [1, 2, 3, 4, 0] (L1 := [(0, vr a0), (1, vr a1), (2, vi x2), (3, vi z7), (4, vi (s1.2 + (1 : Int32)))]) hX dX10_sumOver_34 rfl rfl (Nat.le_of_ble_eq_true rfl) rfl rfl ?_
      refine r_goto (q := 5) hX dX10_sumOver_37 (by decide) ?_
      refine r_l0 ?_
      exact hn2 (z7, (s1.2 + (1 : Int32)))
    · refine r_aload_n (i := 1) (x := a1) (q := 25) 1 hX dX10_sumOver_24 rfl rfl rfl ?_
      refine r_iload (i := 4) (x := s1.2) (q := 27) 4 hX dX10_sumOver_25 rfl rfl ?_
      refine r_ck (fun hc8 => ?_)
      refine r_iald (a := a1) (i := s1.2) (q := 28) hX hc8 dX10_sumOver_27 rfl ?_
      refine r_goto (q := 32) hX dX10_sumOver_28 (by decide) ?_
      refine r_iadd (q := 33) hX dX10_sumOver_32 rfl ?_
      refine r_istore_nP (x := (s1.1 + (rI M a1 (ix s1.2)))) (q := 34) 3 [1, 2, 3, 0, 5] (fun z9 => [(0, vr a0), (1, vr a1), (2, vi x2), (3, vi z9), (4, vi s1.2)]) hX dX10_sumOver_33 rfl (Nat.le_of_ble_eq_true rfl) (fun _ => rfl) rfl (fun z9 => ?_)
      refine r_iinc (x := s1.2) (v := (s1.2 + (1 : Int32))) (q := 37) 4 4 [1, 2, 3, 4, 0] (L1 := [(0, vr a0), (1, vr a1), (2, vi x2), (3, vi z9), (4, vi (s1.2 + (1 : Int32)))]) hX dX10_sumOver_34 rfl rfl (Nat.le_of_ble_eq_true rfl) rfl rfl ?_
      refine r_goto (q := 5) hX dX10_sumOver_37 (by decide) ?_
      refine r_l0 ?_
      exact hn2 (z9, (s1.2 + (1 : Int32)))
theorem lkX10_25 : Lk RX10 25 yX10_sumOver := gd (hcw5_5 _ (List.mem_of_getElem? (i := 4) rfl)) rfl
def mX10_costOf : MD := (yX10_costOf, cX10_costOf, 2, (some .int), 2, 45, 0, 0)
theorem ccX10_costOf : Cc mX10_costOf 1 := ⟨gd (hcw1_0 _ (List.mem_of_getElem? (i := 9) rfl)) rfl, gd (hcw5_5 _ (List.mem_of_getElem? (i := 3) rfl)) rfl, by decide +kernel, by decide +kernel, by decide +kernel⟩
theorem ivX10_costOf : Iv mX10_costOf 10 := ⟨Nat.le_of_ble_eq_true rfl, rfl, gd (hcw5_5 _ (List.mem_of_getElem? (i := 1) rfl)) rfl, gd (hcw5_5 _ (List.mem_of_getElem? (i := 2) rfl)) rfl⟩
noncomputable def fX10_costOf (Z : Shp) (M : Mem) (a0 : Nat) (x1 : Int32) : Option (Int32) := (if tg Z a0 = (11, 4) then (Option.bind (fX10_sumOver Z M a0 (rR M a0 0) x1) (fun v2 => some v2)) else none)
set_option maxRecDepth 20000 in
theorem kX10_costOf (l : Launch) (Z : Shp) (M : Mem) (a0 : Nat) (x1 : Int32) (r : Int32) (h : fX10_costOf Z M a0 x1 = some r) : Ct l mX10_costOf [vr a0, vi x1] Z M ((some (vi r)), Z, M) := by
  refine Ct.of rfl (Nat.le_of_ble_eq_true rfl) (fun X hM => ?_)
  have hX := hM.1
  refine r_top (mk := fun r => ((some (vi r)), Z, M)) h (fun K hK => ?_)
  unfold fX10_costOf
  refine r_aload_n (i := 0) (x := a0) (q := 1) 0 hX dX10_costOf_0 rfl rfl rfl ?_
  refine r_aload_n (i := 0) (x := a0) (q := 2) 0 hX dX10_costOf_1 rfl rfl rfl ?_
  refine r_ck (fun hc1 => ?_)
  refine r_getR (a := a0) (ci := 10) (kf := 0) (q := 5) hX hc1 flX10_11 rfl dX10_costOf_2 rfl ?_
  refine r_iload_n (i := 1) (x := x1) (q := 6) 1 hX dX10_costOf_5 rfl rfl rfl ?_
  refine r_bind (fun v2 h3 => ?_)
  refine r_cv (a := a0) (As := [vr (rR M a0 0), vi x1]) (st := []) (r := (some (vi v2))) (Z1 := Z) (M1 := M) (k1 := 0) (n1 := 0) (st1 := [vi v2]) (q := 9) hX (fun l => kX10_sumOver l Z M a0 (rR M a0 0) x1 v2 h3) hc1 ivX10_sumOver ccX10_sumOver (Or.inl lkX10_25) rfl rfl rfl ⟨Nat.le_of_ble_eq_true rfl, Nat.le_of_ble_eq_true rfl, rfl, rfl, Nat.le_of_ble_eq_true rfl, Nat.le_of_ble_eq_true rfl⟩ (Nat.le_of_ble_eq_true rfl) dX10_costOf_6 rfl ?_
  refine r_lf (hK _) ?_
  exact r_iret hM rfl (Nat.le_of_ble_eq_true rfl) (Nat.le_of_ble_eq_true rfl) dX10_costOf_9
def mX10_isComplete : MD := (yX10_isComplete, cX10_isComplete, 3, (some .boolean), 1, 21, 0, 0)
theorem ccX10_isComplete : Cc mX10_isComplete 1 := ⟨gd (hcw1_0 _ (List.mem_of_getElem? (i := 9) rfl)) rfl, gd (hcw5_5 _ (List.mem_of_getElem? (i := 12) rfl)) rfl, by decide +kernel, by decide +kernel, by decide +kernel⟩
theorem ivX10_isComplete : Iv mX10_isComplete 10 := ⟨Nat.le_of_ble_eq_true rfl, rfl, gd (hcw5_5 _ (List.mem_of_getElem? (i := 11) rfl)) rfl, gd (hps2 _ (List.mem_of_getElem? (i := 14) rfl)) rfl⟩
noncomputable def fX10_isComplete (Z : Shp) (M : Mem) (a0 : Nat) (x1 : Int32) : Option (Int32) := (loop (fun s1 : Int32 => (if tg Z a0 = (11, 4) then (if (rI M a0 3) ≤ s1 then some (Sum.inr (1 : Int32)) else (if (fX11_hasBit x1 s1) = 0 then some (Sum.inl (s1 + (1 : Int32))) else (if aok Z (rR M a0 2) 100 s1 then (if (rI M (rR M a0 2) (ix s1)) = (-1 : Int32) then some (Sum.inl (s1 + (1 : Int32))) else (if (fX11_hasBit x1 (rI M (rR M a0 2) (ix s1))) = 0 then some (Sum.inr (0 : Int32)) else some (Sum.inl (s1 + (1 : Int32))))) else none))) else none)) (0 : Int32))
set_option maxRecDepth 20000 in
theorem kX10_isComplete (l : Launch) (Z : Shp) (M : Mem) (a0 : Nat) (x1 : Int32) (r : Int32) (h : fX10_isComplete Z M a0 x1 = some r) : Ct l mX10_isComplete [vr a0, vi x1] Z M ((some (vi r)), Z, M) := by
  refine Ct.of rfl (Nat.le_of_ble_eq_true rfl) (fun X hM => ?_)
  have hX := hM.1
  refine r_top (mk := fun r => ((some (vi r)), Z, M)) h (fun K hK => ?_)
  unfold fX10_isComplete
  refine r_iconst (v := (0 : Int32)) (q := 1) hX dX10_isComplete_0 rfl rfl ?_
  refine r_istore_n (x := (0 : Int32)) (q := 2) 2 [1, 2, 0] (L1 := [(0, vr a0), (1, vi x1), (2, vi (0 : Int32))]) hX dX10_isComplete_1 rfl (Nat.le_of_ble_eq_true rfl) rfl rfl ?_
  refine r_loop (Hd := fun (s1 : Int32) (P : Option Res) => Ref mX10_isComplete X 0 0 Z M 2 [(0, vr a0), (1, vi x1), (2, vi s1)] [] P) (fun _ => r_none) (fun s1 K1 hn2 hx3 => ?_) (0 : Int32)
  refine r_iload_n (i := 2) (x := s1) (q := 3) 2 hX dX10_isComplete_2 rfl rfl rfl ?_
  refine r_aload_n (i := 0) (x := a0) (q := 4) 0 hX dX10_isComplete_3 rfl rfl rfl ?_
  refine r_ck (fun hc4 => ?_)
  refine r_getI (a := a0) (ci := 10) (kf := 3) (q := 7) hX hc4 flX10_21 rfl rfl dX10_isComplete_4 rfl ?_
  refine r_icmp_ge (tgt := 49) (q := 10) hX dX10_isComplete_7 (by decide) rfl (fun hb5 => ?_) (fun hb5 => ?_)
  · refine r_iconst (v := (1 : Int32)) (q := 50) hX dX10_isComplete_49 rfl rfl ?_
    refine r_lf ((hx3 _).trans (hK _)) ?_
    exact r_zret hM rfl (Or.inr rfl) (Nat.le_of_ble_eq_true rfl) (Nat.le_of_ble_eq_true rfl) dX10_isComplete_50
  · refine r_iload_n (i := 1) (x := x1) (q := 11) 1 hX dX10_isComplete_10 rfl rfl rfl ?_
    refine r_iload_n (i := 2) (x := s1) (q := 12) 2 hX dX10_isComplete_11 rfl rfl rfl ?_
    refine r_cs (As := [vi x1, vi s1]) (st := []) (r := (some (vi (fX11_hasBit x1 s1)))) (Z1 := Z) (M1 := M) (k1 := 0) (n1 := 0) (st1 := [vi (fX11_hasBit x1 s1)]) (q := 15) hX (fun l => kX11_hasBit l Z M x1 s1) stX11_hasBit ccX11_hasBit (Or.inr ⟨_, lkX10_29⟩) rfl rfl rfl ⟨Nat.le_of_ble_eq_true rfl, Nat.le_of_ble_eq_true rfl, rfl, rfl, Nat.le_of_ble_eq_true rfl, Nat.le_of_ble_eq_true rfl⟩ (Nat.le_of_ble_eq_true rfl) dX10_isComplete_12 rfl ?_
    refine r_if_eq (tgt := 43) (q := 18) hX dX10_isComplete_15 (by decide) rfl (fun hb6 => ?_) (fun hb6 => ?_)
    · refine r_iinc (x := s1) (v := (s1 + (1 : Int32))) (q := 46) 2 2 [1, 2, 0] (L1 := [(0, vr a0), (1, vi x1), (2, vi (s1 + (1 : Int32)))]) hX dX10_isComplete_43 rfl rfl (Nat.le_of_ble_eq_true rfl) rfl rfl ?_
      refine r_goto (q := 2) hX dX10_isComplete_46 (by decide) ?_
      refine r_l0 ?_
      exact hn2 (s1 + (1 : Int32))
    · refine r_aload_n (i := 0) (x := a0) (q := 19) 0 hX dX10_isComplete_18 rfl rfl rfl ?_
      refine r_getR (a := a0) (ci := 10) (kf := 2) (q := 22) hX hc4 flX10_18 rfl dX10_isComplete_19 rfl ?_
      refine r_iload_n (i := 2) (x := s1) (q := 23) 2 hX dX10_isComplete_22 rfl rfl rfl ?_
      refine r_ck (fun hc7 => ?_)
      refine r_iald (a := (rR M a0 2)) (i := s1) (q := 24) hX hc7 dX10_isComplete_23 rfl ?_
      refine r_iconst (v := (-1 : Int32)) (q := 25) hX dX10_isComplete_24 rfl rfl ?_
      refine r_icmp_eq (tgt := 43) (q := 28) hX dX10_isComplete_25 (by decide) rfl (fun hb8 => ?_) (fun hb8 => ?_)
      · refine r_iinc (x := s1) (v := (s1 + (1 : Int32))) (q := 46) 2 2 [1, 2, 0] (L1 := [(0, vr a0), (1, vi x1), (2, vi (s1 + (1 : Int32)))]) hX dX10_isComplete_43 rfl rfl (Nat.le_of_ble_eq_true rfl) rfl rfl ?_
        refine r_goto (q := 2) hX dX10_isComplete_46 (by decide) ?_
        refine r_l0 ?_
        exact hn2 (s1 + (1 : Int32))
      · refine r_iload_n (i := 1) (x := x1) (q := 29) 1 hX dX10_isComplete_28 rfl rfl rfl ?_
        refine r_aload_n (i := 0) (x := a0) (q := 30) 0 hX dX10_isComplete_29 rfl rfl rfl ?_
        refine r_getR (a := a0) (ci := 10) (kf := 2) (q := 33) hX hc4 flX10_18 rfl dX10_isComplete_30 rfl ?_
        refine r_iload_n (i := 2) (x := s1) (q := 34) 2 hX dX10_isComplete_33 rfl rfl rfl ?_
        refine r_iald (a := (rR M a0 2)) (i := s1) (q := 35) hX hc7 dX10_isComplete_34 rfl ?_
        refine r_cs (As := [vi x1, vi (rI M (rR M a0 2) (ix s1))]) (st := []) (r := (some (vi (fX11_hasBit x1 (rI M (rR M a0 2) (ix s1)))))) (Z1 := Z) (M1 := M) (k1 := 0) (n1 := 0) (st1 := [vi (fX11_hasBit x1 (rI M (rR M a0 2) (ix s1)))]) (q := 38) hX (fun l => kX11_hasBit l Z M x1 (rI M (rR M a0 2) (ix s1))) stX11_hasBit ccX11_hasBit (Or.inr ⟨_, lkX10_29⟩) rfl rfl rfl ⟨Nat.le_of_ble_eq_true rfl, Nat.le_of_ble_eq_true rfl, rfl, rfl, Nat.le_of_ble_eq_true rfl, Nat.le_of_ble_eq_true rfl⟩ (Nat.le_of_ble_eq_true rfl) dX10_isComplete_35 rfl ?_
        refine r_if_ne (tgt := 43) (q := 41) hX dX10_isComplete_38 (by decide) rfl (fun hb9 => ?_) (fun hb9 => ?_)
        · refine r_iconst (v := (0 : Int32)) (q := 42) hX dX10_isComplete_41 rfl rfl ?_
          refine r_lf ((hx3 _).trans (hK _)) ?_
          exact r_zret hM rfl (Or.inl rfl) (Nat.le_of_ble_eq_true rfl) (Nat.le_of_ble_eq_true rfl) dX10_isComplete_42
        · refine r_iinc (x := s1) (v := (s1 + (1 : Int32))) (q := 46) 2 2 [1, 2, 0] (L1 := [(0, vr a0), (1, vi x1), (2, vi (s1 + (1 : Int32)))]) hX dX10_isComplete_43 rfl rfl (Nat.le_of_ble_eq_true rfl) rfl rfl ?_
          refine r_goto (q := 2) hX dX10_isComplete_46 (by decide) ?_
          refine r_l0 ?_
          exact hn2 (s1 + (1 : Int32))
def mX10_given : MD := (yX10_given, cX10_given, 2, (some .int), 2, 45, 0, 0)
theorem ccX10_given : Cc mX10_given 1 := ⟨gd (hcw1_0 _ (List.mem_of_getElem? (i := 9) rfl)) rfl, gd (hcw5_6 _ (List.mem_of_getElem? (i := 0) rfl)) rfl, by decide +kernel, by decide +kernel, by decide +kernel⟩
theorem ivX10_given : Iv mX10_given 10 := ⟨Nat.le_of_ble_eq_true rfl, rfl, gd (hcw5_5 _ (List.mem_of_getElem? (i := 18) rfl)) rfl, gd (hcw5_5 _ (List.mem_of_getElem? (i := 19) rfl)) rfl⟩
noncomputable def fX10_given (Z : Shp) (M : Mem) (a0 : Nat) (x1 : Int32) : Option (Int32) := (if tg Z a0 = (11, 4) then (Option.bind (fX10_sumOver Z M a0 (rR M a0 1) x1) (fun v2 => some v2)) else none)
set_option maxRecDepth 20000 in
theorem kX10_given (l : Launch) (Z : Shp) (M : Mem) (a0 : Nat) (x1 : Int32) (r : Int32) (h : fX10_given Z M a0 x1 = some r) : Ct l mX10_given [vr a0, vi x1] Z M ((some (vi r)), Z, M) := by
  refine Ct.of rfl (Nat.le_of_ble_eq_true rfl) (fun X hM => ?_)
  have hX := hM.1
  refine r_top (mk := fun r => ((some (vi r)), Z, M)) h (fun K hK => ?_)
  unfold fX10_given
  refine r_aload_n (i := 0) (x := a0) (q := 1) 0 hX dX10_given_0 rfl rfl rfl ?_
  refine r_aload_n (i := 0) (x := a0) (q := 2) 0 hX dX10_given_1 rfl rfl rfl ?_
  refine r_ck (fun hc1 => ?_)
  refine r_getR (a := a0) (ci := 10) (kf := 1) (q := 5) hX hc1 flX10_15 rfl dX10_given_2 rfl ?_
  refine r_iload_n (i := 1) (x := x1) (q := 6) 1 hX dX10_given_5 rfl rfl rfl ?_
  refine r_bind (fun v2 h3 => ?_)
  refine r_cv (a := a0) (As := [vr (rR M a0 1), vi x1]) (st := []) (r := (some (vi v2))) (Z1 := Z) (M1 := M) (k1 := 0) (n1 := 0) (st1 := [vi v2]) (q := 9) hX (fun l => kX10_sumOver l Z M a0 (rR M a0 1) x1 v2 h3) hc1 ivX10_sumOver ccX10_sumOver (Or.inl lkX10_25) rfl rfl rfl ⟨Nat.le_of_ble_eq_true rfl, Nat.le_of_ble_eq_true rfl, rfl, rfl, Nat.le_of_ble_eq_true rfl, Nat.le_of_ble_eq_true rfl⟩ (Nat.le_of_ble_eq_true rfl) dX10_given_6 rfl ?_
  refine r_lf (hK _) ?_
  exact r_iret hM rfl (Nat.le_of_ble_eq_true rfl) (Nat.le_of_ble_eq_true rfl) dX10_given_9
theorem lkX10_44 : Lk RX10 44 yX10_given := gd (hcw5_5 _ (List.mem_of_getElem? (i := 17) rfl)) rfl
theorem lkX10_33 : Lk RX10 33 yX10_costOf := gd (hcw5_5 _ (List.mem_of_getElem? (i := 0) rfl)) rfl
def mX10_isBetter : MD := (yX10_isBetter, cX10_isBetter, 4, (some .boolean), 3, 66, 0, 0)
theorem ccX10_isBetter : Cc mX10_isBetter 2 := ⟨gd (hcw1_0 _ (List.mem_of_getElem? (i := 9) rfl)) rfl, gd (hcw5_5 _ (List.mem_of_getElem? (i := 16) rfl)) rfl, by decide +kernel, by decide +kernel, by decide +kernel⟩
theorem ivX10_isBetter : Iv mX10_isBetter 10 := ⟨Nat.le_of_ble_eq_true rfl, rfl, gd (hcw5_5 _ (List.mem_of_getElem? (i := 15) rfl)) rfl, gd (hps2 _ (List.mem_of_getElem? (i := 15) rfl)) rfl⟩
noncomputable def fX10_isBetter (Z : Shp) (M : Mem) (a0 : Nat) (x1 : Int32) (x2 : Int32) : Option (Int32) := (if tg Z a0 = (11, 4) then (Option.bind (fX10_given Z M a0 x1) (fun v2 => (Option.bind (fX10_given Z M a0 x2) (fun v4 => (pu ((v2 - v4)) (fun z6 => (if 0 < z6 then some (1 : Int32) else (if z6 = 0 then (Option.bind (fX10_costOf Z M a0 x1) (fun v9 => (Option.bind (fX10_costOf Z M a0 x2) (fun v11 => (if v11 ≤ v9 then some (0 : Int32) else some (1 : Int32)))))) else some (0 : Int32))))))))) else none)
set_option maxRecDepth 20000 in
theorem kX10_isBetter (l : Launch) (Z : Shp) (M : Mem) (a0 : Nat) (x1 : Int32) (x2 : Int32) (r : Int32) (h : fX10_isBetter Z M a0 x1 x2 = some r) : Ct l mX10_isBetter [vr a0, vi x1, vi x2] Z M ((some (vi r)), Z, M) := by
  refine Ct.of rfl (Nat.le_of_ble_eq_true rfl) (fun X hM => ?_)
  have hX := hM.1
  refine r_top (mk := fun r => ((some (vi r)), Z, M)) h (fun K hK => ?_)
  unfold fX10_isBetter
  refine r_aload_n (i := 0) (x := a0) (q := 1) 0 hX dX10_isBetter_0 rfl rfl rfl ?_
  refine r_iload_n (i := 1) (x := x1) (q := 2) 1 hX dX10_isBetter_1 rfl rfl rfl ?_
  refine r_ck (fun hc1 => ?_)
  refine r_bind (fun v2 h3 => ?_)
  refine r_cv (a := a0) (As := [vi x1]) (st := []) (r := (some (vi v2))) (Z1 := Z) (M1 := M) (k1 := 0) (n1 := 0) (st1 := [vi v2]) (q := 5) hX (fun l => kX10_given l Z M a0 x1 v2 h3) hc1 ivX10_given ccX10_given (Or.inl lkX10_44) rfl rfl rfl ⟨Nat.le_of_ble_eq_true rfl, Nat.le_of_ble_eq_true rfl, rfl, rfl, Nat.le_of_ble_eq_true rfl, Nat.le_of_ble_eq_true rfl⟩ (Nat.le_of_ble_eq_true rfl) dX10_isBetter_2 rfl ?_
  refine r_aload_n (i := 0) (x := a0) (q := 6) 0 hX dX10_isBetter_5 rfl rfl rfl ?_
  refine r_iload_n (i := 2) (x := x2) (q := 7) 2 hX dX10_isBetter_6 rfl rfl rfl ?_
  refine r_bind (fun v4 h5 => ?_)
  refine r_cv (a := a0) (As := [vi x2]) (st := [vi v2]) (r := (some (vi v4))) (Z1 := Z) (M1 := M) (k1 := 0) (n1 := 0) (st1 := [vi v4, vi v2]) (q := 10) hX (fun l => kX10_given l Z M a0 x2 v4 h5) hc1 ivX10_given ccX10_given (Or.inl lkX10_44) rfl rfl rfl ⟨Nat.le_of_ble_eq_true rfl, Nat.le_of_ble_eq_true rfl, rfl, rfl, Nat.le_of_ble_eq_true rfl, Nat.le_of_ble_eq_true rfl⟩ (Nat.le_of_ble_eq_true rfl) dX10_isBetter_7 rfl ?_
  refine r_isub (q := 11) hX dX10_isBetter_10 rfl ?_
  refine r_istore_nP (x := (v2 - v4)) (q := 12) 3 [1, 2, 3, 0] (fun z6 => [(0, vr a0), (1, vi x1), (2, vi x2), (3, vi z6)]) hX dX10_isBetter_11 rfl (Nat.le_of_ble_eq_true rfl) (fun _ => rfl) rfl (fun z6 => ?_)
  refine r_iload_n (i := 3) (x := z6) (q := 13) 3 hX dX10_isBetter_12 rfl rfl rfl ?_
  refine r_if_gt (tgt := 33) (q := 16) hX dX10_isBetter_13 (by decide) rfl (fun hb7 => ?_) (fun hb7 => ?_)
  · refine r_iconst (v := (1 : Int32)) (q := 34) hX dX10_isBetter_33 rfl rfl ?_
    refine r_goto (q := 38) hX dX10_isBetter_34 (by decide) ?_
    refine r_lf (hK _) ?_
    exact r_zret hM rfl (Or.inr rfl) (Nat.le_of_ble_eq_true rfl) (Nat.le_of_ble_eq_true rfl) dX10_isBetter_38
  · refine r_iload_n (i := 3) (x := z6) (q := 17) 3 hX dX10_isBetter_16 rfl rfl rfl ?_
    refine r_if_ne (tgt := 37) (q := 20) hX dX10_isBetter_17 (by decide) rfl (fun hb8 => ?_) (fun hb8 => ?_)
    · refine r_aload_n (i := 0) (x := a0) (q := 21) 0 hX dX10_isBetter_20 rfl rfl rfl ?_
      refine r_iload_n (i := 1) (x := x1) (q := 22) 1 hX dX10_isBetter_21 rfl rfl rfl ?_
      refine r_bind (fun v9 h10 => ?_)
      refine r_cv (a := a0) (As := [vi x1]) (st := []) (r := (some (vi v9))) (Z1 := Z) (M1 := M) (k1 := 0) (n1 := 0) (st1 := [vi v9]) (q := 25) hX (fun l => kX10_costOf l Z M a0 x1 v9 h10) hc1 ivX10_costOf ccX10_costOf (Or.inl lkX10_33) rfl rfl rfl ⟨Nat.le_of_ble_eq_true rfl, Nat.le_of_ble_eq_true rfl, rfl, rfl, Nat.le_of_ble_eq_true rfl, Nat.le_of_ble_eq_true rfl⟩ (Nat.le_of_ble_eq_true rfl) dX10_isBetter_22 rfl ?_
      refine r_aload_n (i := 0) (x := a0) (q := 26) 0 hX dX10_isBetter_25 rfl rfl rfl ?_
      refine r_iload_n (i := 2) (x := x2) (q := 27) 2 hX dX10_isBetter_26 rfl rfl rfl ?_
      refine r_bind (fun v11 h12 => ?_)
      refine r_cv (a := a0) (As := [vi x2]) (st := [vi v9]) (r := (some (vi v11))) (Z1 := Z) (M1 := M) (k1 := 0) (n1 := 0) (st1 := [vi v11, vi v9]) (q := 30) hX (fun l => kX10_costOf l Z M a0 x2 v11 h12) hc1 ivX10_costOf ccX10_costOf (Or.inl lkX10_33) rfl rfl rfl ⟨Nat.le_of_ble_eq_true rfl, Nat.le_of_ble_eq_true rfl, rfl, rfl, Nat.le_of_ble_eq_true rfl, Nat.le_of_ble_eq_true rfl⟩ (Nat.le_of_ble_eq_true rfl) dX10_isBetter_27 rfl ?_
      refine r_icmp_ge (tgt := 37) (q := 33) hX dX10_isBetter_30 (by decide) rfl (fun hb13 => ?_) (fun hb13 => ?_)
      · refine r_iconst (v := (0 : Int32)) (q := 38) hX dX10_isBetter_37 rfl rfl ?_
        refine r_lf (hK _) ?_
        exact r_zret hM rfl (Or.inl rfl) (Nat.le_of_ble_eq_true rfl) (Nat.le_of_ble_eq_true rfl) dX10_isBetter_38
      · refine r_iconst (v := (1 : Int32)) (q := 34) hX dX10_isBetter_33 rfl rfl ?_
        refine r_goto (q := 38) hX dX10_isBetter_34 (by decide) ?_
        refine r_lf (hK _) ?_
        exact r_zret hM rfl (Or.inr rfl) (Nat.le_of_ble_eq_true rfl) (Nat.le_of_ble_eq_true rfl) dX10_isBetter_38
    · refine r_iconst (v := (0 : Int32)) (q := 38) hX dX10_isBetter_37 rfl rfl ?_
      refine r_lf (hK _) ?_
      exact r_zret hM rfl (Or.inl rfl) (Nat.le_of_ble_eq_true rfl) (Nat.le_of_ble_eq_true rfl) dX10_isBetter_38
theorem lkX10_37 : Lk RX10 37 yX10_isComplete := gd (hcw5_5 _ (List.mem_of_getElem? (i := 9) rfl)) rfl
theorem lkX10_41 : Lk RX10 41 yX10_isBetter := gd (hcw5_5 _ (List.mem_of_getElem? (i := 13) rfl)) rfl
def mX10_bestSet : MD := (yX10_bestSet, cX10_bestSet, 4, (some .int), 4, 89, 0, 0)
theorem ccX10_bestSet : Cc mX10_bestSet 1 := ⟨gd (hcw1_0 _ (List.mem_of_getElem? (i := 9) rfl)) rfl, gd (hcw5_4 _ (List.mem_of_getElem? (i := 19) rfl)) rfl, by decide +kernel, by decide +kernel, by decide +kernel⟩
theorem ivX10_bestSet : Iv mX10_bestSet 10 := ⟨Nat.le_of_ble_eq_true rfl, rfl, gd (hcw5_4 _ (List.mem_of_getElem? (i := 17) rfl)) rfl, gd (hcw5_4 _ (List.mem_of_getElem? (i := 18) rfl)) rfl⟩
noncomputable def fX10_bestSet (Z : Shp) (M : Mem) (a0 : Nat) (x1 : Int32) : Option (Int32) := (loop (fun s1 : Int32 × Int32 => (if tg Z a0 = (11, 4) then (if ((1 : Int32) <<< ((rI M a0 3) &&& 31)) ≤ s1.2 then some (Sum.inr s1.1) else (Option.bind (fX10_costOf Z M a0 s1.2) (fun v6 => (if x1 < v6 then some (Sum.inl (s1.1, (s1.2 + (1 : Int32)))) else (Option.bind (fX10_isComplete Z M a0 s1.2) (fun v9 => (if v9 = 0 then some (Sum.inl (s1.1, (s1.2 + (1 : Int32)))) else (Option.bind (fX10_isBetter Z M a0 s1.2 s1.1) (fun v12 => (if v12 = 0 then some (Sum.inl (s1.1, (s1.2 + (1 : Int32)))) else some (Sum.inl (s1.2, (s1.2 + (1 : Int32)))))))))))))) else none)) ((0 : Int32), (1 : Int32)))
set_option maxRecDepth 20000 in
theorem kX10_bestSet (l : Launch) (Z : Shp) (M : Mem) (a0 : Nat) (x1 : Int32) (r : Int32) (h : fX10_bestSet Z M a0 x1 = some r) : Ct l mX10_bestSet [vr a0, vi x1] Z M ((some (vi r)), Z, M) := by
  refine Ct.of rfl (Nat.le_of_ble_eq_true rfl) (fun X hM => ?_)
  have hX := hM.1
  refine r_top (mk := fun r => ((some (vi r)), Z, M)) h (fun K hK => ?_)
  unfold fX10_bestSet
  refine r_iconst (v := (0 : Int32)) (q := 1) hX dX10_bestSet_0 rfl rfl ?_
  refine r_istore_n (x := (0 : Int32)) (q := 2) 2 [1, 2, 0] (L1 := [(0, vr a0), (1, vi x1), (2, vi (0 : Int32))]) hX dX10_bestSet_1 rfl (Nat.le_of_ble_eq_true rfl) rfl rfl ?_
  refine r_iconst (v := (1 : Int32)) (q := 3) hX dX10_bestSet_2 rfl rfl ?_
  refine r_istore_n (x := (1 : Int32)) (q := 4) 3 [1, 2, 3, 0] (L1 := [(0, vr a0), (1, vi x1), (2, vi (0 : Int32)), (3, vi (1 : Int32))]) hX dX10_bestSet_3 rfl (Nat.le_of_ble_eq_true rfl) rfl rfl ?_
  refine r_loop (Hd := fun (s1 : Int32 × Int32) (P : Option Res) => Ref mX10_bestSet X 0 0 Z M 4 [(0, vr a0), (1, vi x1), (2, vi s1.1), (3, vi s1.2)] [] P) (fun _ => r_none) (fun s1 K1 hn2 hx3 => ?_) ((0 : Int32), (1 : Int32))
  refine r_iload_n (i := 3) (x := s1.2) (q := 5) 3 hX dX10_bestSet_4 rfl rfl rfl ?_
  refine r_iconst (v := (1 : Int32)) (q := 6) hX dX10_bestSet_5 rfl rfl ?_
  refine r_aload_n (i := 0) (x := a0) (q := 7) 0 hX dX10_bestSet_6 rfl rfl rfl ?_
  refine r_ck (fun hc4 => ?_)
  refine r_getI (a := a0) (ci := 10) (kf := 3) (q := 10) hX hc4 flX10_21 rfl rfl dX10_bestSet_7 rfl ?_
  refine r_ishl (q := 11) hX dX10_bestSet_10 rfl ?_
  refine r_icmp_ge (tgt := 48) (q := 14) hX dX10_bestSet_11 (by decide) rfl (fun hb5 => ?_) (fun hb5 => ?_)
  · refine r_iload_n (i := 2) (x := s1.1) (q := 49) 2 hX dX10_bestSet_48 rfl rfl rfl ?_
    refine r_lf ((hx3 _).trans (hK _)) ?_
    exact r_iret hM rfl (Nat.le_of_ble_eq_true rfl) (Nat.le_of_ble_eq_true rfl) dX10_bestSet_49
  · refine r_aload_n (i := 0) (x := a0) (q := 15) 0 hX dX10_bestSet_14 rfl rfl rfl ?_
    refine r_iload_n (i := 3) (x := s1.2) (q := 16) 3 hX dX10_bestSet_15 rfl rfl rfl ?_
    refine r_bind (fun v6 h7 => ?_)
    refine r_cv (a := a0) (As := [vi s1.2]) (st := []) (r := (some (vi v6))) (Z1 := Z) (M1 := M) (k1 := 0) (n1 := 0) (st1 := [vi v6]) (q := 19) hX (fun l => kX10_costOf l Z M a0 s1.2 v6 h7) hc4 ivX10_costOf ccX10_costOf (Or.inl lkX10_33) rfl rfl rfl ⟨Nat.le_of_ble_eq_true rfl, Nat.le_of_ble_eq_true rfl, rfl, rfl, Nat.le_of_ble_eq_true rfl, Nat.le_of_ble_eq_true rfl⟩ (Nat.le_of_ble_eq_true rfl) dX10_bestSet_16 rfl ?_
    refine r_iload_n (i := 1) (x := x1) (q := 20) 1 hX dX10_bestSet_19 rfl rfl rfl ?_
    refine r_icmp_gt (tgt := 42) (q := 23) hX dX10_bestSet_20 (by decide) rfl (fun hb8 => ?_) (fun hb8 => ?_)
    · refine r_iinc (x := s1.2) (v := (s1.2 + (1 : Int32))) (q := 45) 3 3 [1, 2, 3, 0] (L1 := [(0, vr a0), (1, vi x1), (2, vi s1.1), (3, vi (s1.2 + (1 : Int32)))]) hX dX10_bestSet_42 rfl rfl (Nat.le_of_ble_eq_true rfl) rfl rfl ?_
      refine r_goto (q := 4) hX dX10_bestSet_45 (by decide) ?_
      refine r_l0 ?_
      exact hn2 (s1.1, (s1.2 + (1 : Int32)))
    · refine r_aload_n (i := 0) (x := a0) (q := 24) 0 hX dX10_bestSet_23 rfl rfl rfl ?_
      refine r_iload_n (i := 3) (x := s1.2) (q := 25) 3 hX dX10_bestSet_24 rfl rfl rfl ?_
      refine r_bind (fun v9 h10 => ?_)
      refine r_cv (a := a0) (As := [vi s1.2]) (st := []) (r := (some (vi v9))) (Z1 := Z) (M1 := M) (k1 := 0) (n1 := 0) (st1 := [vi v9]) (q := 28) hX (fun l => kX10_isComplete l Z M a0 s1.2 v9 h10) hc4 ivX10_isComplete ccX10_isComplete (Or.inl lkX10_37) rfl rfl rfl ⟨Nat.le_of_ble_eq_true rfl, Nat.le_of_ble_eq_true rfl, rfl, rfl, Nat.le_of_ble_eq_true rfl, Nat.le_of_ble_eq_true rfl⟩ (Nat.le_of_ble_eq_true rfl) dX10_bestSet_25 rfl ?_
      refine r_if_eq (tgt := 42) (q := 31) hX dX10_bestSet_28 (by decide) rfl (fun hb11 => ?_) (fun hb11 => ?_)
      · refine r_iinc (x := s1.2) (v := (s1.2 + (1 : Int32))) (q := 45) 3 3 [1, 2, 3, 0] (L1 := [(0, vr a0), (1, vi x1), (2, vi s1.1), (3, vi (s1.2 + (1 : Int32)))]) hX dX10_bestSet_42 rfl rfl (Nat.le_of_ble_eq_true rfl) rfl rfl ?_
        refine r_goto (q := 4) hX dX10_bestSet_45 (by decide) ?_
        refine r_l0 ?_
        exact hn2 (s1.1, (s1.2 + (1 : Int32)))
      · refine r_aload_n (i := 0) (x := a0) (q := 32) 0 hX dX10_bestSet_31 rfl rfl rfl ?_
        refine r_iload_n (i := 3) (x := s1.2) (q := 33) 3 hX dX10_bestSet_32 rfl rfl rfl ?_
        refine r_iload_n (i := 2) (x := s1.1) (q := 34) 2 hX dX10_bestSet_33 rfl rfl rfl ?_
        refine r_bind (fun v12 h13 => ?_)
        refine r_cv (a := a0) (As := [vi s1.2, vi s1.1]) (st := []) (r := (some (vi v12))) (Z1 := Z) (M1 := M) (k1 := 0) (n1 := 0) (st1 := [vi v12]) (q := 37) hX (fun l => kX10_isBetter l Z M a0 s1.2 s1.1 v12 h13) hc4 ivX10_isBetter ccX10_isBetter (Or.inl lkX10_41) rfl rfl rfl ⟨Nat.le_of_ble_eq_true rfl, Nat.le_of_ble_eq_true rfl, rfl, rfl, Nat.le_of_ble_eq_true rfl, Nat.le_of_ble_eq_true rfl⟩ (Nat.le_of_ble_eq_true rfl) dX10_bestSet_34 rfl ?_
        refine r_if_eq (tgt := 42) (q := 40) hX dX10_bestSet_37 (by decide) rfl (fun hb14 => ?_) (fun hb14 => ?_)
        · refine r_iinc (x := s1.2) (v := (s1.2 + (1 : Int32))) (q := 45) 3 3 [1, 2, 3, 0] (L1 := [(0, vr a0), (1, vi x1), (2, vi s1.1), (3, vi (s1.2 + (1 : Int32)))]) hX dX10_bestSet_42 rfl rfl (Nat.le_of_ble_eq_true rfl) rfl rfl ?_
          refine r_goto (q := 4) hX dX10_bestSet_45 (by decide) ?_
          refine r_l0 ?_
          exact hn2 (s1.1, (s1.2 + (1 : Int32)))
        · refine r_iload_n (i := 3) (x := s1.2) (q := 41) 3 hX dX10_bestSet_40 rfl rfl rfl ?_
          refine r_istore_n (x := s1.2) (q := 42) 2 [1, 2, 0, 4] (L1 := [(0, vr a0), (1, vi x1), (2, vi s1.2), (3, vi s1.2)]) hX dX10_bestSet_41 rfl (Nat.le_of_ble_eq_true rfl) rfl rfl ?_
          refine r_iinc (x := s1.2) (v := (s1.2 + (1 : Int32))) (q := 45) 3 3 [1, 2, 3, 0] (L1 := [(0, vr a0), (1, vi x1), (2, vi s1.2), (3, vi (s1.2 + (1 : Int32)))]) hX dX10_bestSet_42 rfl rfl (Nat.le_of_ble_eq_true rfl) rfl rfl ?_
          refine r_goto (q := 4) hX dX10_bestSet_45 (by decide) ?_
          refine r_l0 ?_
          exact hn2 (s1.2, (s1.2 + (1 : Int32)))
def mX10_init : MD := (yX10_init, cX10_init, 1, none, 1, 12, 3, 24)
theorem ccX10_init : Cc mX10_init 0 := ⟨gd (hcw1_0 _ (List.mem_of_getElem? (i := 9) rfl)) rfl, gd (hcw2_1 _ (List.mem_of_getElem? (i := 16) rfl)) rfl, by decide +kernel, by decide +kernel, by decide +kernel⟩
theorem imX10_init : Cond.instanceMethod (yN mX10_init) ∈ lw_gd := gd (hcw2_1 _ (List.mem_of_getElem? (i := 15) rfl)) rfl
def fX10_init (Z : Shp) (M : Mem) (a0 : Nat) : Option (Shp × Mem) := (if tg Z a0 = (11, 4) then (pu2 (Z ++ [(100, ix (8 : Int32))]) (nw M (Z.length + 2)) (fun Z2 M3 => (pu (wR M3 a0 0 (Z.length + 2)) (fun M6 => (pu2 (Z2 ++ [(100, ix (8 : Int32))]) (nw M6 (Z2.length + 2)) (fun Z7 M8 => (pu (wR M8 a0 1 (Z2.length + 2)) (fun M11 => (pu2 (Z7 ++ [(100, ix (8 : Int32))]) (nw M11 (Z7.length + 2)) (fun Z12 M13 => (pu (wR M13 a0 2 (Z7.length + 2)) (fun M16 => some (Z12, M16))))))))))))) else none)
set_option maxRecDepth 20000 in
theorem kX10_init (l : Launch) (Z : Shp) (M : Mem) (a0 : Nat) (r : Shp × Mem) (h : fX10_init Z M a0 = some r) : Ct l mX10_init [vr a0] Z M (none, r.1, r.2) := by
  refine Ct.of rfl (Nat.le_of_ble_eq_true rfl) (fun X hM => ?_)
  have hX := hM.1
  refine r_top (mk := fun r => (none, r.1, r.2)) h (fun K hK => ?_)
  unfold fX10_init
  refine r_aload_n (i := 0) (x := a0) (q := 1) 0 hX dX10_init_0 rfl rfl rfl ?_
  refine r_ck (fun hc1 => ?_)
  refine r_objI (ci := 10) (q := 4) hX (gd (hcw2_1 _ (List.mem_of_getElem? (i := 17) rfl)) rfl) hc1 (Nat.le_of_ble_eq_true rfl) (Nat.le_of_ble_eq_true rfl) dX10_init_1 rfl ?_
  refine r_aload_n (i := 0) (x := a0) (q := 5) 0 hX dX10_init_4 rfl rfl rfl ?_
  refine r_bipush (v := (8 : Int32)) (q := 7) hX dX10_init_5 rfl rfl ?_
  refine r_newa (cap := 8) (k1 := 1) (n1 := 8) (q := 9) hX arP_i ⟨by decide, by decide⟩ rfl (Nat.le_of_ble_eq_true rfl) rfl (Nat.le_of_ble_eq_true rfl) (Nat.le_of_ble_eq_true rfl) dX10_init_7 rfl (fun Z2 M3 hc4 he5 => ?_)
  refine r_putR (a := a0) (ci := 10) (kf := 0) (q := 12) hX (he5 _ _ _ (Nat.succ_pos _) hc1) flX10_11 rfl (Or.inr ⟨rfl, rfl, rfl⟩) nf_arr dX10_init_9 rfl (fun M6 => ?_)
  refine r_aload_n (i := 0) (x := a0) (q := 13) 0 hX dX10_init_12 rfl rfl rfl ?_
  refine r_bipush (v := (8 : Int32)) (q := 15) hX dX10_init_13 rfl rfl ?_
  refine r_newa (cap := 8) (k1 := 2) (n1 := 16) (q := 17) hX arP_i ⟨by decide, by decide⟩ rfl (Nat.le_of_ble_eq_true rfl) rfl (Nat.le_of_ble_eq_true rfl) (Nat.le_of_ble_eq_true rfl) dX10_init_15 rfl (fun Z7 M8 hc9 he10 => ?_)
  refine r_putR (a := a0) (ci := 10) (kf := 1) (q := 20) hX (he10 _ _ _ (Nat.succ_pos _) (he5 _ _ _ (Nat.succ_pos _) hc1)) flX10_15 rfl (Or.inr ⟨rfl, rfl, rfl⟩) nf_arr dX10_init_17 rfl (fun M11 => ?_)
  refine r_aload_n (i := 0) (x := a0) (q := 21) 0 hX dX10_init_20 rfl rfl rfl ?_
  refine r_bipush (v := (8 : Int32)) (q := 23) hX dX10_init_21 rfl rfl ?_
  refine r_newa (cap := 8) (k1 := 3) (n1 := 24) (q := 25) hX arP_i ⟨by decide, by decide⟩ rfl (Nat.le_of_ble_eq_true rfl) rfl (Nat.le_of_ble_eq_true rfl) (Nat.le_of_ble_eq_true rfl) dX10_init_23 rfl (fun Z12 M13 hc14 he15 => ?_)
  refine r_putR (a := a0) (ci := 10) (kf := 2) (q := 28) hX (he15 _ _ _ (Nat.succ_pos _) (he10 _ _ _ (Nat.succ_pos _) (he5 _ _ _ (Nat.succ_pos _) hc1))) flX10_18 rfl (Or.inr ⟨rfl, rfl, rfl⟩) nf_arr dX10_init_25 rfl (fun M16 => ?_)
  refine r_lf (hK _) ?_
  exact r_vret hM rfl (Nat.le_of_ble_eq_true rfl) (Nat.le_of_ble_eq_true rfl) dX10_init_28
def mX11_within : MD := (yX11_within, cX11_within, 3, (some .boolean), 0, 0, 0, 0)
theorem ccX11_within : Cc mX11_within 3 := ⟨gd (hcw1_0 _ (List.mem_of_getElem? (i := 1) rfl)) rfl, gd (hcw2_4 _ (List.mem_of_getElem? (i := 1) rfl)) rfl, by decide +kernel, by decide +kernel, by decide +kernel⟩
theorem stX11_within : Cond.static (yN mX11_within) ∈ lw_gd := gd (hcw2_4 _ (List.mem_of_getElem? (i := 0) rfl)) rfl
def fX11_within (x0 : Int32) (x1 : Int32) (x2 : Int32) : Int32 := (if x0 < x1 then (0 : Int32) else (if x2 < x0 then (0 : Int32) else (1 : Int32)))
def gX11_within (x0 : Int32) (x1 : Int32) (x2 : Int32) : Option (Int32) := (if x0 < x1 then some (0 : Int32) else (if x2 < x0 then some (0 : Int32) else some (1 : Int32)))
theorem eX11_within (x0 : Int32) (x1 : Int32) (x2 : Int32) : gX11_within x0 x1 x2 = some (fX11_within x0 x1 x2) := by
  unfold gX11_within fX11_within
  try simp only [pu]
  (repeat' split) <;> rfl
theorem bX11_within (x0 : Int32) (x1 : Int32) (x2 : Int32) : zb (fX11_within x0 x1 x2) := by
  unfold fX11_within
  try simp only [pu]
  (repeat' split) <;> first | exact Or.inl rfl | exact Or.inr rfl
set_option maxRecDepth 20000 in
theorem kX11_within (l : Launch) (Z : Shp) (M : Mem) (x0 : Int32) (x1 : Int32) (x2 : Int32) : Ct l mX11_within [vi x0, vi x1, vi x2] Z M ((some (vi (fX11_within x0 x1 x2))), Z, M) := by
  refine Ct.of rfl (Nat.le_of_ble_eq_true rfl) (fun X hM => ?_)
  have hX := hM.1
  refine r_top (mk := fun r => ((some (vi r)), Z, M)) (eX11_within x0 x1 x2) (fun K hK => ?_)
  unfold gX11_within
  refine r_iload_n (i := 0) (x := x0) (q := 1) 0 hX dX11_within_0 rfl rfl rfl ?_
  refine r_iload_n (i := 1) (x := x1) (q := 2) 1 hX dX11_within_1 rfl rfl rfl ?_
  refine r_icmp_lt (tgt := 14) (q := 5) hX dX11_within_2 (by decide) rfl (fun hb1 => ?_) (fun hb1 => ?_)
  · refine r_iconst (v := (0 : Int32)) (q := 15) hX dX11_within_14 rfl rfl ?_
    refine r_lf (hK _) ?_
    exact r_zret hM rfl (Or.inl rfl) (Nat.le_of_ble_eq_true rfl) (Nat.le_of_ble_eq_true rfl) dX11_within_15
  · refine r_iload_n (i := 0) (x := x0) (q := 6) 0 hX dX11_within_5 rfl rfl rfl ?_
    refine r_iload_n (i := 2) (x := x2) (q := 7) 2 hX dX11_within_6 rfl rfl rfl ?_
    refine r_icmp_gt (tgt := 14) (q := 10) hX dX11_within_7 (by decide) rfl (fun hb2 => ?_) (fun hb2 => ?_)
    · refine r_iconst (v := (0 : Int32)) (q := 15) hX dX11_within_14 rfl rfl ?_
      refine r_lf (hK _) ?_
      exact r_zret hM rfl (Or.inl rfl) (Nat.le_of_ble_eq_true rfl) (Nat.le_of_ble_eq_true rfl) dX11_within_15
    · refine r_iconst (v := (1 : Int32)) (q := 11) hX dX11_within_10 rfl rfl ?_
      refine r_goto (q := 15) hX dX11_within_11 (by decide) ?_
      refine r_lf (hK _) ?_
      exact r_zret hM rfl (Or.inr rfl) (Nat.le_of_ble_eq_true rfl) (Nat.le_of_ble_eq_true rfl) dX11_within_15
theorem flX3_48 : FL RX3 48 3 5 := ⟨Nat.le_of_ble_eq_true rfl, Nat.le_of_ble_eq_true rfl, gd (hcw1_4 _ (List.mem_of_getElem? (i := 16) rfl)) rfl⟩
theorem lkX3_44 : LkN RX3 44 yX11_within "CanalCompany" := bd (hcw2_3 _ (List.mem_of_getElem? (i := 19) rfl)) rfl
theorem flX3_25 : FL RX3 25 3 2 := ⟨Nat.le_of_ble_eq_true rfl, Nat.le_of_ble_eq_true rfl, gd (hcw1_4 _ (List.mem_of_getElem? (i := 12) rfl)) rfl⟩
def mX3_takerNumbered : MD := (yX3_takerNumbered, cX3_takerNumbered, 2, (some (.object "CanalCompany$Taker")), 1, 22, 0, 0)
theorem ccX3_takerNumbered : Cc mX3_takerNumbered 1 := ⟨gd (hcw1_0 _ (List.mem_of_getElem? (i := 2) rfl)) rfl, gd (hcw2_8 _ (List.mem_of_getElem? (i := 6) rfl)) rfl, by decide +kernel, by decide +kernel, by decide +kernel⟩
theorem ivX3_takerNumbered : Iv mX3_takerNumbered 3 := ⟨Nat.le_of_ble_eq_true rfl, rfl, gd (hcw2_8 _ (List.mem_of_getElem? (i := 4) rfl)) rfl, gd (hcw2_8 _ (List.mem_of_getElem? (i := 5) rfl)) rfl⟩
def fX3_takerNumbered (Z : Shp) (M : Mem) (a0 : Nat) (x1 : Int32) : Option (Nat) := (if tg Z a0 = (4, 11) then (if (fX11_within x1 (0 : Int32) ((rI M a0 5) - (1 : Int32))) = 0 then some 0 else (if aok Z (rR M a0 2) 112 x1 then some (rR M (rR M a0 2) (ix x1)) else none)) else none)
set_option maxRecDepth 20000 in
theorem kX3_takerNumbered (l : Launch) (Z : Shp) (M : Mem) (a0 : Nat) (x1 : Int32) (r : Nat) (h : fX3_takerNumbered Z M a0 x1 = some r) : Ct l mX3_takerNumbered [vr a0, vi x1] Z M ((some (vr r)), Z, M) := by
  refine Ct.of rfl (Nat.le_of_ble_eq_true rfl) (fun X hM => ?_)
  have hX := hM.1
  refine r_top (mk := fun r => ((some (vr r)), Z, M)) h (fun K hK => ?_)
  unfold fX3_takerNumbered
  refine r_iload_n (i := 1) (x := x1) (q := 1) 1 hX dX3_takerNumbered_0 rfl rfl rfl ?_
  refine r_iconst (v := (0 : Int32)) (q := 2) hX dX3_takerNumbered_1 rfl rfl ?_
  refine r_aload_n (i := 0) (x := a0) (q := 3) 0 hX dX3_takerNumbered_2 rfl rfl rfl ?_
  refine r_ck (fun hc1 => ?_)
  refine r_getI (a := a0) (ci := 3) (kf := 5) (q := 6) hX hc1 flX3_48 rfl rfl dX3_takerNumbered_3 rfl ?_
  refine r_iconst (v := (1 : Int32)) (q := 7) hX dX3_takerNumbered_6 rfl rfl ?_
  refine r_isub (q := 8) hX dX3_takerNumbered_7 rfl ?_
  refine r_cs (As := [vi x1, vi (0 : Int32), vi ((rI M a0 5) - (1 : Int32))]) (st := []) (r := (some (vi (fX11_within x1 (0 : Int32) ((rI M a0 5) - (1 : Int32)))))) (Z1 := Z) (M1 := M) (k1 := 0) (n1 := 0) (st1 := [vi (fX11_within x1 (0 : Int32) ((rI M a0 5) - (1 : Int32)))]) (q := 11) hX (fun l => kX11_within l Z M x1 (0 : Int32) ((rI M a0 5) - (1 : Int32))) stX11_within ccX11_within (Or.inr ⟨_, lkX3_44⟩) rfl rfl rfl ⟨Nat.le_of_ble_eq_true rfl, Nat.le_of_ble_eq_true rfl, rfl, rfl, Nat.le_of_ble_eq_true rfl, Nat.le_of_ble_eq_true rfl⟩ (Nat.le_of_ble_eq_true rfl) dX3_takerNumbered_8 rfl ?_
  refine r_if_eq (tgt := 23) (q := 14) hX dX3_takerNumbered_11 (by decide) rfl (fun hb2 => ?_) (fun hb2 => ?_)
  · refine r_null (q := 24) hX dX3_takerNumbered_23 rfl ?_
    refine r_lf (hK _) ?_
    exact r_aret hM rfl (Or.inl ⟨_, rfl⟩) (Nat.le_of_ble_eq_true rfl) (Nat.le_of_ble_eq_true rfl) dX3_takerNumbered_24
  · refine r_aload_n (i := 0) (x := a0) (q := 15) 0 hX dX3_takerNumbered_14 rfl rfl rfl ?_
    refine r_getR (a := a0) (ci := 3) (kf := 2) (q := 18) hX hc1 flX3_25 rfl dX3_takerNumbered_15 rfl ?_
    refine r_iload_n (i := 1) (x := x1) (q := 19) 1 hX dX3_takerNumbered_18 rfl rfl rfl ?_
    refine r_ck (fun hc3 => ?_)
    refine r_aald (a := (rR M a0 2)) (i := x1) (q := 20) hX arT_112 hc3 dX3_takerNumbered_19 rfl ?_
    refine r_goto (q := 24) hX dX3_takerNumbered_20 (by decide) ?_
    refine r_lf (hK _) ?_
    exact r_aret hM rfl (Or.inl ⟨_, rfl⟩) (Nat.le_of_ble_eq_true rfl) (Nat.le_of_ble_eq_true rfl) dX3_takerNumbered_24
theorem flX7_7 : FL RX7 7 7 0 := ⟨Nat.le_of_ble_eq_true rfl, Nat.le_of_ble_eq_true rfl, gd (hcw2_6 _ (List.mem_of_getElem? (i := 14) rfl)) rfl⟩
theorem lkX7_22 : LkN RX7 22 yX11_within "CanalCompany" := bd (hcw2_9 _ (List.mem_of_getElem? (i := 3) rfl)) rfl
theorem flX7_16 : FL RX7 16 7 2 := ⟨Nat.le_of_ble_eq_true rfl, Nat.le_of_ble_eq_true rfl, gd (hcw2_6 _ (List.mem_of_getElem? (i := 18) rfl)) rfl⟩
theorem flX7_28 : FL RX7 28 6 1 := ⟨Nat.le_of_ble_eq_true rfl, Nat.le_of_ble_eq_true rfl, gd (hcw1_2 _ (List.mem_of_getElem? (i := 10) rfl)) rfl⟩
theorem flX7_33 : FL RX7 33 6 0 := ⟨Nat.le_of_ble_eq_true rfl, Nat.le_of_ble_eq_true rfl, gd (hcw1_2 _ (List.mem_of_getElem? (i := 6) rfl)) rfl⟩
def mX7_takes : MD := (yX7_takes, cX7_takes, 3, (some .int), 1, 22, 0, 0)
theorem ccX7_takes : Cc mX7_takes 2 := ⟨gd (hcw1_0 _ (List.mem_of_getElem? (i := 12) rfl)) rfl, gd (hcw2_9 _ (List.mem_of_getElem? (i := 2) rfl)) rfl, by decide +kernel, by decide +kernel, by decide +kernel⟩
theorem ivX7_takes : Iv mX7_takes 7 := ⟨Nat.le_of_ble_eq_true rfl, rfl, gd (hcw2_9 _ (List.mem_of_getElem? (i := 0) rfl)) rfl, gd (hcw2_9 _ (List.mem_of_getElem? (i := 1) rfl)) rfl⟩
def fX7_takes (Z : Shp) (M : Mem) (a0 : Nat) (x1 : Int32) (a2 : Nat) : Option (Int32) := (if tg Z a0 = (8, 5) then (if (rI M a0 0) = (1 : Int32) then (if (fX11_within (x1 - x1 / (24 : Int32) * (24 : Int32)) (6 : Int32) (17 : Int32)) = 0 then some (0 : Int32) else some (rI M a0 2)) else (if (rI M a0 0) = (2 : Int32) then (if tg Z a2 = (7, 3) then (if (rI M a2 1) = 0 then some (0 : Int32) else (if ¬ (rI M a2 1) = 0 then some (((rI M a0 2) * (rI M a2 0)) / (rI M a2 1)) else none)) else none) else (if (rI M a0 0) = (3 : Int32) then some (-(rI M a0 2)) else (if (rI M a0 0) = (4 : Int32) then some ((-2 : Int32) * (rI M a0 2)) else some (rI M a0 2))))) else none)
set_option maxRecDepth 20000 in
theorem kX7_takes (l : Launch) (Z : Shp) (M : Mem) (a0 : Nat) (x1 : Int32) (a2 : Nat) (r : Int32) (h : fX7_takes Z M a0 x1 a2 = some r) : Ct l mX7_takes [vr a0, vi x1, vr a2] Z M ((some (vi r)), Z, M) := by
  refine Ct.of rfl (Nat.le_of_ble_eq_true rfl) (fun X hM => ?_)
  have hX := hM.1
  refine r_top (mk := fun r => ((some (vi r)), Z, M)) h (fun K hK => ?_)
  unfold fX7_takes
  refine r_aload_n (i := 0) (x := a0) (q := 1) 0 hX dX7_takes_0 rfl rfl rfl ?_
  refine r_ck (fun hc1 => ?_)
  refine r_getI (a := a0) (ci := 7) (kf := 0) (q := 4) hX hc1 flX7_7 rfl rfl dX7_takes_1 rfl ?_
  refine r_ite (fun hb2 => ?_) (fun hb2 => ?_)
  · refine r_tswI (off := 32) (q := 36) hX hb2 dX7_takes_4 (by decide) (by decide) ?_
    refine r_iload_n (i := 1) (x := x1) (q := 37) 1 hX dX7_takes_36 rfl rfl rfl ?_
    refine r_bipush (v := (24 : Int32)) (q := 39) hX dX7_takes_37 rfl rfl ?_
    refine r_irem (q := 40) hX dX7_takes_39 (by decide) rfl ?_
    refine r_bipush (v := (6 : Int32)) (q := 42) hX dX7_takes_40 rfl rfl ?_
    refine r_bipush (v := (17 : Int32)) (q := 44) hX dX7_takes_42 rfl rfl ?_
    refine r_cs (As := [vi (x1 - x1 / (24 : Int32) * (24 : Int32)), vi (6 : Int32), vi (17 : Int32)]) (st := []) (r := (some (vi (fX11_within (x1 - x1 / (24 : Int32) * (24 : Int32)) (6 : Int32) (17 : Int32))))) (Z1 := Z) (M1 := M) (k1 := 0) (n1 := 0) (st1 := [vi (fX11_within (x1 - x1 / (24 : Int32) * (24 : Int32)) (6 : Int32) (17 : Int32))]) (q := 47) hX (fun l => kX11_within l Z M (x1 - x1 / (24 : Int32) * (24 : Int32)) (6 : Int32) (17 : Int32)) stX11_within ccX11_within (Or.inr ⟨_, lkX7_22⟩) rfl rfl rfl ⟨Nat.le_of_ble_eq_true rfl, Nat.le_of_ble_eq_true rfl, rfl, rfl, Nat.le_of_ble_eq_true rfl, Nat.le_of_ble_eq_true rfl⟩ (Nat.le_of_ble_eq_true rfl) dX7_takes_44 rfl ?_
    refine r_if_eq (tgt := 57) (q := 50) hX dX7_takes_47 (by decide) rfl (fun hb3 => ?_) (fun hb3 => ?_)
    · refine r_iconst (v := (0 : Int32)) (q := 58) hX dX7_takes_57 rfl rfl ?_
      refine r_lf (hK _) ?_
      exact r_iret hM rfl (Nat.le_of_ble_eq_true rfl) (Nat.le_of_ble_eq_true rfl) dX7_takes_58
    · refine r_aload_n (i := 0) (x := a0) (q := 51) 0 hX dX7_takes_50 rfl rfl rfl ?_
      refine r_getI (a := a0) (ci := 7) (kf := 2) (q := 54) hX hc1 flX7_16 rfl rfl dX7_takes_51 rfl ?_
      refine r_goto (q := 58) hX dX7_takes_54 (by decide) ?_
      refine r_lf (hK _) ?_
      exact r_iret hM rfl (Nat.le_of_ble_eq_true rfl) (Nat.le_of_ble_eq_true rfl) dX7_takes_58
  · refine r_ite (fun hb4 => ?_) (fun hb4 => ?_)
    · refine r_tswI (off := 55) (q := 59) hX hb4 dX7_takes_4 (by decide) (by decide) ?_
      refine r_aload_n (i := 2) (x := a2) (q := 60) 2 hX dX7_takes_59 rfl rfl rfl ?_
      refine r_ck (fun hc5 => ?_)
      refine r_getI (a := a2) (ci := 6) (kf := 1) (q := 63) hX hc5 flX7_28 rfl rfl dX7_takes_60 rfl ?_
      refine r_if_ne (tgt := 70) (q := 66) hX dX7_takes_63 (by decide) rfl (fun hb6 => ?_) (fun hb6 => ?_)
      · refine r_iconst (v := (0 : Int32)) (q := 67) hX dX7_takes_66 rfl rfl ?_
        refine r_goto (q := 84) hX dX7_takes_67 (by decide) ?_
        refine r_lf (hK _) ?_
        exact r_iret hM rfl (Nat.le_of_ble_eq_true rfl) (Nat.le_of_ble_eq_true rfl) dX7_takes_84
      · refine r_aload_n (i := 0) (x := a0) (q := 71) 0 hX dX7_takes_70 rfl rfl rfl ?_
        refine r_getI (a := a0) (ci := 7) (kf := 2) (q := 74) hX hc1 flX7_16 rfl rfl dX7_takes_71 rfl ?_
        refine r_aload_n (i := 2) (x := a2) (q := 75) 2 hX dX7_takes_74 rfl rfl rfl ?_
        refine r_getI (a := a2) (ci := 6) (kf := 0) (q := 78) hX hc5 flX7_33 rfl rfl dX7_takes_75 rfl ?_
        refine r_imul (q := 79) hX dX7_takes_78 rfl ?_
        refine r_aload_n (i := 2) (x := a2) (q := 80) 2 hX dX7_takes_79 rfl rfl rfl ?_
        refine r_getI (a := a2) (ci := 6) (kf := 1) (q := 83) hX hc5 flX7_28 rfl rfl dX7_takes_80 rfl ?_
        refine r_ck (fun hd7 => ?_)
        refine r_idiv (q := 84) hX dX7_takes_83 hd7 rfl ?_
        refine r_lf (hK _) ?_
        exact r_iret hM rfl (Nat.le_of_ble_eq_true rfl) (Nat.le_of_ble_eq_true rfl) dX7_takes_84
    · refine r_ite (fun hb8 => ?_) (fun hb8 => ?_)
      · refine r_tswI (off := 81) (q := 85) hX hb8 dX7_takes_4 (by decide) (by decide) ?_
        refine r_aload_n (i := 0) (x := a0) (q := 86) 0 hX dX7_takes_85 rfl rfl rfl ?_
        refine r_getI (a := a0) (ci := 7) (kf := 2) (q := 89) hX hc1 flX7_16 rfl rfl dX7_takes_86 rfl ?_
        refine r_ineg (q := 90) hX dX7_takes_89 rfl ?_
        refine r_lf (hK _) ?_
        exact r_iret hM rfl (Nat.le_of_ble_eq_true rfl) (Nat.le_of_ble_eq_true rfl) dX7_takes_90
      · refine r_ite (fun hb9 => ?_) (fun hb9 => ?_)
        · refine r_tswI (off := 87) (q := 91) hX hb9 dX7_takes_4 (by decide) (by decide) ?_
          refine r_bipush (v := (-2 : Int32)) (q := 93) hX dX7_takes_91 rfl rfl ?_
          refine r_aload_n (i := 0) (x := a0) (q := 94) 0 hX dX7_takes_93 rfl rfl rfl ?_
          refine r_getI (a := a0) (ci := 7) (kf := 2) (q := 97) hX hc1 flX7_16 rfl rfl dX7_takes_94 rfl ?_
          refine r_imul (q := 98) hX dX7_takes_97 rfl ?_
          refine r_lf (hK _) ?_
          exact r_iret hM rfl (Nat.le_of_ble_eq_true rfl) (Nat.le_of_ble_eq_true rfl) dX7_takes_98
        · refine r_tswO (cs := [(1 : Int32), (2 : Int32), (3 : Int32), (4 : Int32)]) (q := 99) hX ⟨hb2, ⟨hb4, ⟨hb8, ⟨hb9, trivial⟩⟩⟩⟩ dX7_takes_4 (by decide) (by decide) ?_
          refine r_aload_n (i := 0) (x := a0) (q := 100) 0 hX dX7_takes_99 rfl rfl rfl ?_
          refine r_getI (a := a0) (ci := 7) (kf := 2) (q := 103) hX hc1 flX7_16 rfl rfl dX7_takes_100 rfl ?_
          refine r_lf (hK _) ?_
          exact r_iret hM rfl (Nat.le_of_ble_eq_true rfl) (Nat.le_of_ble_eq_true rfl) dX7_takes_103
theorem flX3_11 : FL RX3 11 3 0 := ⟨Nat.le_of_ble_eq_true rfl, Nat.le_of_ble_eq_true rfl, gd (hcw1_4 _ (List.mem_of_getElem? (i := 9) rfl)) rfl⟩
theorem flX3_67 : FL RX3 67 7 1 := ⟨Nat.le_of_ble_eq_true rfl, Nat.le_of_ble_eq_true rfl, gd (hcw2_6 _ (List.mem_of_getElem? (i := 17) rfl)) rfl⟩
theorem lkX3_68 : Lk RX3 68 yX7_takes := gd (hcw2_8 _ (List.mem_of_getElem? (i := 19) rfl)) rfl
def mX3_wantedBy : MD := (yX3_wantedBy, cX3_wantedBy, 3, (some .int), 2, 44, 0, 0)
theorem ccX3_wantedBy : Cc mX3_wantedBy 2 := ⟨gd (hcw1_0 _ (List.mem_of_getElem? (i := 2) rfl)) rfl, gd (hcw2_8 _ (List.mem_of_getElem? (i := 18) rfl)) rfl, by decide +kernel, by decide +kernel, by decide +kernel⟩
theorem ivX3_wantedBy : Iv mX3_wantedBy 3 := ⟨Nat.le_of_ble_eq_true rfl, rfl, gd (hcw2_8 _ (List.mem_of_getElem? (i := 16) rfl)) rfl, gd (hcw2_8 _ (List.mem_of_getElem? (i := 17) rfl)) rfl⟩
noncomputable def fX3_wantedBy (Z : Shp) (M : Mem) (a0 : Nat) (a1 : Nat) (x2 : Int32) : Option (Int32) := (if tg Z a0 = (4, 11) then (if tg Z a1 = (8, 5) then (if aok Z (rR M a0 0) 110 (rI M a1 1) then (Option.bind (fX7_takes Z M a1 x2 (rR M (rR M a0 0) (ix (rI M a1 1)))) (fun v4 => some v4)) else none) else none) else none)
set_option maxRecDepth 20000 in
theorem kX3_wantedBy (l : Launch) (Z : Shp) (M : Mem) (a0 : Nat) (a1 : Nat) (x2 : Int32) (r : Int32) (h : fX3_wantedBy Z M a0 a1 x2 = some r) : Ct l mX3_wantedBy [vr a0, vr a1, vi x2] Z M ((some (vi r)), Z, M) := by
  refine Ct.of rfl (Nat.le_of_ble_eq_true rfl) (fun X hM => ?_)
  have hX := hM.1
  refine r_top (mk := fun r => ((some (vi r)), Z, M)) h (fun K hK => ?_)
  unfold fX3_wantedBy
  refine r_aload_n (i := 1) (x := a1) (q := 1) 1 hX dX3_wantedBy_0 rfl rfl rfl ?_
  refine r_iload_n (i := 2) (x := x2) (q := 2) 2 hX dX3_wantedBy_1 rfl rfl rfl ?_
  refine r_aload_n (i := 0) (x := a0) (q := 3) 0 hX dX3_wantedBy_2 rfl rfl rfl ?_
  refine r_ck (fun hc1 => ?_)
  refine r_getR (a := a0) (ci := 3) (kf := 0) (q := 6) hX hc1 flX3_11 rfl dX3_wantedBy_3 rfl ?_
  refine r_aload_n (i := 1) (x := a1) (q := 7) 1 hX dX3_wantedBy_6 rfl rfl rfl ?_
  refine r_ck (fun hc2 => ?_)
  refine r_getI (a := a1) (ci := 7) (kf := 1) (q := 10) hX hc2 flX3_67 rfl rfl dX3_wantedBy_7 rfl ?_
  refine r_ck (fun hc3 => ?_)
  refine r_aald (a := (rR M a0 0)) (i := (rI M a1 1)) (q := 11) hX arT_110 hc3 dX3_wantedBy_10 rfl ?_
  refine r_bind (fun v4 h5 => ?_)
  refine r_cv (a := a1) (As := [vi x2, vr (rR M (rR M a0 0) (ix (rI M a1 1)))]) (st := []) (r := (some (vi v4))) (Z1 := Z) (M1 := M) (k1 := 0) (n1 := 0) (st1 := [vi v4]) (q := 14) hX (fun l => kX7_takes l Z M a1 x2 (rR M (rR M a0 0) (ix (rI M a1 1))) v4 h5) hc2 ivX7_takes ccX7_takes (Or.inl lkX3_68) rfl rfl rfl ⟨Nat.le_of_ble_eq_true rfl, Nat.le_of_ble_eq_true rfl, rfl, rfl, Nat.le_of_ble_eq_true rfl, Nat.le_of_ble_eq_true rfl⟩ (Nat.le_of_ble_eq_true rfl) dX3_wantedBy_11 rfl ?_
  refine r_lf (hK _) ?_
  exact r_iret hM rfl (Nat.le_of_ble_eq_true rfl) (Nat.le_of_ble_eq_true rfl) dX3_wantedBy_14
def mX7_cost : MD := (yX7_cost, cX7_cost, 1, (some .int), 0, 0, 0, 0)
theorem ccX7_cost : Cc mX7_cost 0 := ⟨gd (hcw1_0 _ (List.mem_of_getElem? (i := 12) rfl)) rfl, gd (hcw2_9 _ (List.mem_of_getElem? (i := 7) rfl)) rfl, by decide +kernel, by decide +kernel, by decide +kernel⟩
theorem ivX7_cost : Iv mX7_cost 7 := ⟨Nat.le_of_ble_eq_true rfl, rfl, gd (hcw2_9 _ (List.mem_of_getElem? (i := 5) rfl)) rfl, gd (hcw2_9 _ (List.mem_of_getElem? (i := 6) rfl)) rfl⟩
def fX7_cost (Z : Shp) (M : Mem) (a0 : Nat) : Option (Int32) := (if tg Z a0 = (8, 5) then (if (rI M a0 0) = (1 : Int32) then some (3 : Int32) else (if (rI M a0 0) = (2 : Int32) then some (0 : Int32) else (if (rI M a0 0) = (3 : Int32) then some (1 : Int32) else (if (rI M a0 0) = (4 : Int32) then some ((1 : Int32) + ((rI M a0 2) / (10 : Int32))) else some (0 : Int32))))) else none)
set_option maxRecDepth 20000 in
theorem kX7_cost (l : Launch) (Z : Shp) (M : Mem) (a0 : Nat) (r : Int32) (h : fX7_cost Z M a0 = some r) : Ct l mX7_cost [vr a0] Z M ((some (vi r)), Z, M) := by
  refine Ct.of rfl (Nat.le_of_ble_eq_true rfl) (fun X hM => ?_)
  have hX := hM.1
  refine r_top (mk := fun r => ((some (vi r)), Z, M)) h (fun K hK => ?_)
  unfold fX7_cost
  refine r_aload_n (i := 0) (x := a0) (q := 1) 0 hX dX7_cost_0 rfl rfl rfl ?_
  refine r_ck (fun hc1 => ?_)
  refine r_getI (a := a0) (ci := 7) (kf := 0) (q := 4) hX hc1 flX7_7 rfl rfl dX7_cost_1 rfl ?_
  refine r_ite (fun hb2 => ?_) (fun hb2 => ?_)
  · refine r_tswI (off := 32) (q := 36) hX hb2 dX7_cost_4 (by decide) (by decide) ?_
    refine r_iconst (v := (3 : Int32)) (q := 37) hX dX7_cost_36 rfl rfl ?_
    refine r_lf (hK _) ?_
    exact r_iret hM rfl (Nat.le_of_ble_eq_true rfl) (Nat.le_of_ble_eq_true rfl) dX7_cost_37
  · refine r_ite (fun hb3 => ?_) (fun hb3 => ?_)
    · refine r_tswI (off := 46) (q := 50) hX hb3 dX7_cost_4 (by decide) (by decide) ?_
      refine r_iconst (v := (0 : Int32)) (q := 51) hX dX7_cost_50 rfl rfl ?_
      refine r_lf (hK _) ?_
      exact r_iret hM rfl (Nat.le_of_ble_eq_true rfl) (Nat.le_of_ble_eq_true rfl) dX7_cost_51
    · refine r_ite (fun hb4 => ?_) (fun hb4 => ?_)
      · refine r_tswI (off := 34) (q := 38) hX hb4 dX7_cost_4 (by decide) (by decide) ?_
        refine r_iconst (v := (1 : Int32)) (q := 39) hX dX7_cost_38 rfl rfl ?_
        refine r_lf (hK _) ?_
        exact r_iret hM rfl (Nat.le_of_ble_eq_true rfl) (Nat.le_of_ble_eq_true rfl) dX7_cost_39
      · refine r_ite (fun hb5 => ?_) (fun hb5 => ?_)
        · refine r_tswI (off := 36) (q := 40) hX hb5 dX7_cost_4 (by decide) (by decide) ?_
          refine r_iconst (v := (1 : Int32)) (q := 41) hX dX7_cost_40 rfl rfl ?_
          refine r_aload_n (i := 0) (x := a0) (q := 42) 0 hX dX7_cost_41 rfl rfl rfl ?_
          refine r_getI (a := a0) (ci := 7) (kf := 2) (q := 45) hX hc1 flX7_16 rfl rfl dX7_cost_42 rfl ?_
          refine r_bipush (v := (10 : Int32)) (q := 47) hX dX7_cost_45 rfl rfl ?_
          refine r_idiv (q := 48) hX dX7_cost_47 (by decide) rfl ?_
          refine r_iadd (q := 49) hX dX7_cost_48 rfl ?_
          refine r_lf (hK _) ?_
          exact r_iret hM rfl (Nat.le_of_ble_eq_true rfl) (Nat.le_of_ble_eq_true rfl) dX7_cost_49
        · refine r_tswO (cs := [(1 : Int32), (2 : Int32), (3 : Int32), (4 : Int32)]) (q := 50) hX ⟨hb2, ⟨hb3, ⟨hb4, ⟨hb5, trivial⟩⟩⟩⟩ dX7_cost_4 (by decide) (by decide) ?_
          refine r_iconst (v := (0 : Int32)) (q := 51) hX dX7_cost_50 rfl rfl ?_
          refine r_lf (hK _) ?_
          exact r_iret hM rfl (Nat.le_of_ble_eq_true rfl) (Nat.le_of_ble_eq_true rfl) dX7_cost_51
theorem flX11_12 : FL RX11 12 11 0 := ⟨Nat.le_of_ble_eq_true rfl, Nat.le_of_ble_eq_true rfl, gd (hcw2_2 _ (List.mem_of_getElem? (i := 12) rfl)) rfl⟩
theorem lkX11_99 : Lk RX11 99 yX3_takerNumbered := gd (hcw2_8 _ (List.mem_of_getElem? (i := 3) rfl)) rfl
theorem lkX11_55 : Lk RX11 55 yX11_within := gd (hcw2_4 _ (List.mem_of_getElem? (i := 2) rfl)) rfl
theorem lkX11_107 : Lk RX11 107 yX3_wantedBy := gd (hcw2_8 _ (List.mem_of_getElem? (i := 15) rfl)) rfl
theorem lkX11_111 : Lk RX11 111 yX7_cost := gd (hcw2_9 _ (List.mem_of_getElem? (i := 4) rfl)) rfl
theorem flX11_115 : FL RX11 115 7 4 := ⟨Nat.le_of_ble_eq_true rfl, Nat.le_of_ble_eq_true rfl, gd (hcw2_7 _ (List.mem_of_getElem? (i := 2) rfl)) rfl⟩
def mX11_acts : MD := (yX11_acts, cX11_acts, 5, (some .int), 3, 66, 0, 0)
theorem ccX11_acts : Cc mX11_acts 3 := ⟨gd (hcw1_0 _ (List.mem_of_getElem? (i := 1) rfl)) rfl, gd (hcw2_8 _ (List.mem_of_getElem? (i := 14) rfl)) rfl, by decide +kernel, by decide +kernel, by decide +kernel⟩
theorem ivX11_acts : Iv mX11_acts 11 := ⟨Nat.le_of_ble_eq_true rfl, rfl, gd (hcw2_8 _ (List.mem_of_getElem? (i := 12) rfl)) rfl, gd (hcw2_8 _ (List.mem_of_getElem? (i := 13) rfl)) rfl⟩
noncomputable def fX11_acts (Z : Shp) (M : Mem) (a0 : Nat) (x1 : Int32) (x2 : Int32) (x3 : Int32) : Option (Int32) := (if tg Z a0 = (12, 6) then (if tg Z (rR M a0 0) = (4, 11) then (Option.bind (fX3_takerNumbered Z M (rR M a0 0) x1) (fun v3 => (if v3 = 0 then some (-1001 : Int32) else (if (fX11_within x2 (0 : Int32) (2 : Int32)) = 0 then some (-1002 : Int32) else (if (fX11_within x3 (0 : Int32) (599 : Int32)) = 0 then some (-1002 : Int32) else (if x2 = 0 then (Option.bind (fX3_wantedBy Z M (rR M a0 0) v3 x3) (fun v9 => some v9)) else (if x2 = (1 : Int32) then (if tg Z v3 = (8, 5) then (Option.bind (fX7_cost Z M v3) (fun v13 => some v13)) else none) else (if tg Z v3 = (8, 5) then some (rI M v3 4) else none)))))))) else none) else none)
set_option maxRecDepth 20000 in
theorem kX11_acts (l : Launch) (Z : Shp) (M : Mem) (a0 : Nat) (x1 : Int32) (x2 : Int32) (x3 : Int32) (r : Int32) (h : fX11_acts Z M a0 x1 x2 x3 = some r) : Ct l mX11_acts [vr a0, vi x1, vi x2, vi x3] Z M ((some (vi r)), Z, M) := by
  refine Ct.of rfl (Nat.le_of_ble_eq_true rfl) (fun X hM => ?_)
  have hX := hM.1
  refine r_top (mk := fun r => ((some (vi r)), Z, M)) h (fun K hK => ?_)
  unfold fX11_acts
  refine r_aload_n (i := 0) (x := a0) (q := 1) 0 hX dX11_acts_0 rfl rfl rfl ?_
  refine r_ck (fun hc1 => ?_)
  refine r_getR (a := a0) (ci := 11) (kf := 0) (q := 4) hX hc1 flX11_12 rfl dX11_acts_1 rfl ?_
  refine r_iload_n (i := 1) (x := x1) (q := 5) 1 hX dX11_acts_4 rfl rfl rfl ?_
  refine r_ck (fun hc2 => ?_)
  refine r_bind (fun v3 h4 => ?_)
  refine r_cv (a := (rR M a0 0)) (As := [vi x1]) (st := []) (r := (some (vr v3))) (Z1 := Z) (M1 := M) (k1 := 0) (n1 := 0) (st1 := [vr v3]) (q := 8) hX (fun l => kX3_takerNumbered l Z M (rR M a0 0) x1 v3 h4) hc2 ivX3_takerNumbered ccX3_takerNumbered (Or.inl lkX11_99) rfl rfl rfl ⟨Nat.le_of_ble_eq_true rfl, Nat.le_of_ble_eq_true rfl, rfl, rfl, Nat.le_of_ble_eq_true rfl, Nat.le_of_ble_eq_true rfl⟩ (Nat.le_of_ble_eq_true rfl) dX11_acts_5 rfl ?_
  refine r_astore (x := v3) (q := 10) 4 [1, 2, 3, 4, 0] (L1 := [(0, vr a0), (1, vi x1), (2, vi x2), (3, vi x3), (4, vr v3)]) hX dX11_acts_8 (Nat.le_of_ble_eq_true rfl) rfl rfl ?_
  refine r_aload (i := 4) (x := v3) (q := 12) 4 hX dX11_acts_10 rfl rfl ?_
  refine r_ifnonnull (tgt := 19) (q := 15) hX dX11_acts_12 (by decide) rfl (fun hb5 => ?_) (fun hb5 => ?_)
  · refine r_sipush (v := (-1001 : Int32)) (q := 18) hX dX11_acts_15 rfl rfl ?_
    refine r_lf (hK _) ?_
    exact r_iret hM rfl (Nat.le_of_ble_eq_true rfl) (Nat.le_of_ble_eq_true rfl) dX11_acts_18
  · refine r_iload_n (i := 2) (x := x2) (q := 20) 2 hX dX11_acts_19 rfl rfl rfl ?_
    refine r_iconst (v := (0 : Int32)) (q := 21) hX dX11_acts_20 rfl rfl ?_
    refine r_iconst (v := (2 : Int32)) (q := 22) hX dX11_acts_21 rfl rfl ?_
    refine r_cs (As := [vi x2, vi (0 : Int32), vi (2 : Int32)]) (st := []) (r := (some (vi (fX11_within x2 (0 : Int32) (2 : Int32))))) (Z1 := Z) (M1 := M) (k1 := 0) (n1 := 0) (st1 := [vi (fX11_within x2 (0 : Int32) (2 : Int32))]) (q := 25) hX (fun l => kX11_within l Z M x2 (0 : Int32) (2 : Int32)) stX11_within ccX11_within (Or.inl lkX11_55) rfl rfl rfl ⟨Nat.le_of_ble_eq_true rfl, Nat.le_of_ble_eq_true rfl, rfl, rfl, Nat.le_of_ble_eq_true rfl, Nat.le_of_ble_eq_true rfl⟩ (Nat.le_of_ble_eq_true rfl) dX11_acts_22 rfl ?_
    refine r_if_eq (tgt := 39) (q := 28) hX dX11_acts_25 (by decide) rfl (fun hb6 => ?_) (fun hb6 => ?_)
    · refine r_sipush (v := (-1002 : Int32)) (q := 42) hX dX11_acts_39 rfl rfl ?_
      refine r_lf (hK _) ?_
      exact r_iret hM rfl (Nat.le_of_ble_eq_true rfl) (Nat.le_of_ble_eq_true rfl) dX11_acts_42
    · refine r_iload_n (i := 3) (x := x3) (q := 29) 3 hX dX11_acts_28 rfl rfl rfl ?_
      refine r_iconst (v := (0 : Int32)) (q := 30) hX dX11_acts_29 rfl rfl ?_
      refine r_sipush (v := (599 : Int32)) (q := 33) hX dX11_acts_30 rfl rfl ?_
      refine r_cs (As := [vi x3, vi (0 : Int32), vi (599 : Int32)]) (st := []) (r := (some (vi (fX11_within x3 (0 : Int32) (599 : Int32))))) (Z1 := Z) (M1 := M) (k1 := 0) (n1 := 0) (st1 := [vi (fX11_within x3 (0 : Int32) (599 : Int32))]) (q := 36) hX (fun l => kX11_within l Z M x3 (0 : Int32) (599 : Int32)) stX11_within ccX11_within (Or.inl lkX11_55) rfl rfl rfl ⟨Nat.le_of_ble_eq_true rfl, Nat.le_of_ble_eq_true rfl, rfl, rfl, Nat.le_of_ble_eq_true rfl, Nat.le_of_ble_eq_true rfl⟩ (Nat.le_of_ble_eq_true rfl) dX11_acts_33 rfl ?_
      refine r_if_ne (tgt := 43) (q := 39) hX dX11_acts_36 (by decide) rfl (fun hb7 => ?_) (fun hb7 => ?_)
      · refine r_sipush (v := (-1002 : Int32)) (q := 42) hX dX11_acts_39 rfl rfl ?_
        refine r_lf (hK _) ?_
        exact r_iret hM rfl (Nat.le_of_ble_eq_true rfl) (Nat.le_of_ble_eq_true rfl) dX11_acts_42
      · refine r_iload_n (i := 2) (x := x2) (q := 44) 2 hX dX11_acts_43 rfl rfl rfl ?_
        refine r_if_ne (tgt := 58) (q := 47) hX dX11_acts_44 (by decide) rfl (fun hb8 => ?_) (fun hb8 => ?_)
        · refine r_aload_n (i := 0) (x := a0) (q := 48) 0 hX dX11_acts_47 rfl rfl rfl ?_
          refine r_getR (a := a0) (ci := 11) (kf := 0) (q := 51) hX hc1 flX11_12 rfl dX11_acts_48 rfl ?_
          refine r_aload (i := 4) (x := v3) (q := 53) 4 hX dX11_acts_51 rfl rfl ?_
          refine r_iload_n (i := 3) (x := x3) (q := 54) 3 hX dX11_acts_53 rfl rfl rfl ?_
          refine r_bind (fun v9 h10 => ?_)
          refine r_cv (a := (rR M a0 0)) (As := [vr v3, vi x3]) (st := []) (r := (some (vi v9))) (Z1 := Z) (M1 := M) (k1 := 0) (n1 := 0) (st1 := [vi v9]) (q := 57) hX (fun l => kX3_wantedBy l Z M (rR M a0 0) v3 x3 v9 h10) hc2 ivX3_wantedBy ccX3_wantedBy (Or.inl lkX11_107) rfl rfl rfl ⟨Nat.le_of_ble_eq_true rfl, Nat.le_of_ble_eq_true rfl, rfl, rfl, Nat.le_of_ble_eq_true rfl, Nat.le_of_ble_eq_true rfl⟩ (Nat.le_of_ble_eq_true rfl) dX11_acts_54 rfl ?_
          refine r_lf (hK _) ?_
          exact r_iret hM rfl (Nat.le_of_ble_eq_true rfl) (Nat.le_of_ble_eq_true rfl) dX11_acts_57
        · refine r_iload_n (i := 2) (x := x2) (q := 59) 2 hX dX11_acts_58 rfl rfl rfl ?_
          refine r_iconst (v := (1 : Int32)) (q := 60) hX dX11_acts_59 rfl rfl ?_
          refine r_icmp_ne (tgt := 71) (q := 63) hX dX11_acts_60 (by decide) rfl (fun hb11 => ?_) (fun hb11 => ?_)
          · refine r_aload (i := 4) (x := v3) (q := 65) 4 hX dX11_acts_63 rfl rfl ?_
            refine r_ck (fun hc12 => ?_)
            refine r_bind (fun v13 h14 => ?_)
            refine r_cv (a := v3) (As := []) (st := []) (r := (some (vi v13))) (Z1 := Z) (M1 := M) (k1 := 0) (n1 := 0) (st1 := [vi v13]) (q := 68) hX (fun l => kX7_cost l Z M v3 v13 h14) hc12 ivX7_cost ccX7_cost (Or.inl lkX11_111) rfl rfl rfl ⟨Nat.le_of_ble_eq_true rfl, Nat.le_of_ble_eq_true rfl, rfl, rfl, Nat.le_of_ble_eq_true rfl, Nat.le_of_ble_eq_true rfl⟩ (Nat.le_of_ble_eq_true rfl) dX11_acts_65 rfl ?_
            refine r_goto (q := 76) hX dX11_acts_68 (by decide) ?_
            refine r_lf (hK _) ?_
            exact r_iret hM rfl (Nat.le_of_ble_eq_true rfl) (Nat.le_of_ble_eq_true rfl) dX11_acts_76
          · refine r_aload (i := 4) (x := v3) (q := 73) 4 hX dX11_acts_71 rfl rfl ?_
            refine r_ck (fun hc15 => ?_)
            refine r_getI (a := v3) (ci := 7) (kf := 4) (q := 76) hX hc15 flX11_115 rfl rfl dX11_acts_73 rfl ?_
            refine r_lf (hK _) ?_
            exact r_iret hM rfl (Nat.le_of_ble_eq_true rfl) (Nat.le_of_ble_eq_true rfl) dX11_acts_76
def mX7_isA : MD := (yX7_isA, cX7_isA, 2, (some .boolean), 0, 0, 0, 0)
theorem ccX7_isA : Cc mX7_isA 1 := ⟨gd (hcw1_0 _ (List.mem_of_getElem? (i := 12) rfl)) rfl, gd (hcw2_8 _ (List.mem_of_getElem? (i := 10) rfl)) rfl, by decide +kernel, by decide +kernel, by decide +kernel⟩
theorem ivX7_isA : Iv mX7_isA 7 := ⟨Nat.le_of_ble_eq_true rfl, rfl, gd (hcw2_8 _ (List.mem_of_getElem? (i := 8) rfl)) rfl, gd (hcw2_8 _ (List.mem_of_getElem? (i := 9) rfl)) rfl⟩
def fX7_isA (Z : Shp) (M : Mem) (a0 : Nat) (x1 : Int32) : Option (Int32) := (if x1 = 0 then some (1 : Int32) else (if tg Z a0 = (8, 5) then (if x1 = (rI M a0 0) then some (1 : Int32) else (if x1 = (3 : Int32) then (if (rI M a0 0) = (4 : Int32) then some (1 : Int32) else some (0 : Int32)) else some (0 : Int32))) else none))
set_option maxRecDepth 20000 in
theorem kX7_isA (l : Launch) (Z : Shp) (M : Mem) (a0 : Nat) (x1 : Int32) (r : Int32) (h : fX7_isA Z M a0 x1 = some r) : Ct l mX7_isA [vr a0, vi x1] Z M ((some (vi r)), Z, M) := by
  refine Ct.of rfl (Nat.le_of_ble_eq_true rfl) (fun X hM => ?_)
  have hX := hM.1
  refine r_top (mk := fun r => ((some (vi r)), Z, M)) h (fun K hK => ?_)
  unfold fX7_isA
  refine r_iload_n (i := 1) (x := x1) (q := 1) 1 hX dX7_isA_0 rfl rfl rfl ?_
  refine r_if_eq (tgt := 25) (q := 4) hX dX7_isA_1 (by decide) rfl (fun hb1 => ?_) (fun hb1 => ?_)
  · refine r_iconst (v := (1 : Int32)) (q := 26) hX dX7_isA_25 rfl rfl ?_
    refine r_goto (q := 30) hX dX7_isA_26 (by decide) ?_
    refine r_lf (hK _) ?_
    exact r_zret hM rfl (Or.inr rfl) (Nat.le_of_ble_eq_true rfl) (Nat.le_of_ble_eq_true rfl) dX7_isA_30
  · refine r_iload_n (i := 1) (x := x1) (q := 5) 1 hX dX7_isA_4 rfl rfl rfl ?_
    refine r_aload_n (i := 0) (x := a0) (q := 6) 0 hX dX7_isA_5 rfl rfl rfl ?_
    refine r_ck (fun hc2 => ?_)
    refine r_getI (a := a0) (ci := 7) (kf := 0) (q := 9) hX hc2 flX7_7 rfl rfl dX7_isA_6 rfl ?_
    refine r_icmp_eq (tgt := 25) (q := 12) hX dX7_isA_9 (by decide) rfl (fun hb3 => ?_) (fun hb3 => ?_)
    · refine r_iconst (v := (1 : Int32)) (q := 26) hX dX7_isA_25 rfl rfl ?_
      refine r_goto (q := 30) hX dX7_isA_26 (by decide) ?_
      refine r_lf (hK _) ?_
      exact r_zret hM rfl (Or.inr rfl) (Nat.le_of_ble_eq_true rfl) (Nat.le_of_ble_eq_true rfl) dX7_isA_30
    · refine r_iload_n (i := 1) (x := x1) (q := 13) 1 hX dX7_isA_12 rfl rfl rfl ?_
      refine r_iconst (v := (3 : Int32)) (q := 14) hX dX7_isA_13 rfl rfl ?_
      refine r_icmp_ne (tgt := 29) (q := 17) hX dX7_isA_14 (by decide) rfl (fun hb4 => ?_) (fun hb4 => ?_)
      · refine r_aload_n (i := 0) (x := a0) (q := 18) 0 hX dX7_isA_17 rfl rfl rfl ?_
        refine r_getI (a := a0) (ci := 7) (kf := 0) (q := 21) hX hc2 flX7_7 rfl rfl dX7_isA_18 rfl ?_
        refine r_iconst (v := (4 : Int32)) (q := 22) hX dX7_isA_21 rfl rfl ?_
        refine r_icmp_ne (tgt := 29) (q := 25) hX dX7_isA_22 (by decide) rfl (fun hb5 => ?_) (fun hb5 => ?_)
        · refine r_iconst (v := (1 : Int32)) (q := 26) hX dX7_isA_25 rfl rfl ?_
          refine r_goto (q := 30) hX dX7_isA_26 (by decide) ?_
          refine r_lf (hK _) ?_
          exact r_zret hM rfl (Or.inr rfl) (Nat.le_of_ble_eq_true rfl) (Nat.le_of_ble_eq_true rfl) dX7_isA_30
        · refine r_iconst (v := (0 : Int32)) (q := 30) hX dX7_isA_29 rfl rfl ?_
          refine r_lf (hK _) ?_
          exact r_zret hM rfl (Or.inl rfl) (Nat.le_of_ble_eq_true rfl) (Nat.le_of_ble_eq_true rfl) dX7_isA_30
      · refine r_iconst (v := (0 : Int32)) (q := 30) hX dX7_isA_29 rfl rfl ?_
        refine r_lf (hK _) ?_
        exact r_zret hM rfl (Or.inl rfl) (Nat.le_of_ble_eq_true rfl) (Nat.le_of_ble_eq_true rfl) dX7_isA_30
theorem lkX11_103 : Lk RX11 103 yX7_isA := gd (hcw2_8 _ (List.mem_of_getElem? (i := 7) rfl)) rfl
def mX11_as : MD := (yX11_as, cX11_as, 4, (some .int), 2, 43, 0, 0)
theorem ccX11_as : Cc mX11_as 2 := ⟨gd (hcw1_0 _ (List.mem_of_getElem? (i := 1) rfl)) rfl, gd (hcw2_8 _ (List.mem_of_getElem? (i := 2) rfl)) rfl, by decide +kernel, by decide +kernel, by decide +kernel⟩
theorem ivX11_as : Iv mX11_as 11 := ⟨Nat.le_of_ble_eq_true rfl, rfl, gd (hcw2_8 _ (List.mem_of_getElem? (i := 0) rfl)) rfl, gd (hcw2_8 _ (List.mem_of_getElem? (i := 1) rfl)) rfl⟩
noncomputable def fX11_as (Z : Shp) (M : Mem) (a0 : Nat) (x1 : Int32) (x2 : Int32) : Option (Int32) := (if tg Z a0 = (12, 6) then (if tg Z (rR M a0 0) = (4, 11) then (Option.bind (fX3_takerNumbered Z M (rR M a0 0) x1) (fun v3 => (if v3 = 0 then some (-101 : Int32) else (if (fX11_within x2 (0 : Int32) (4 : Int32)) = 0 then some (-102 : Int32) else (if tg Z v3 = (8, 5) then (Option.bind (fX7_isA Z M v3 x2) (fun v8 => (if v8 = 0 then some (-1 : Int32) else some x1))) else none))))) else none) else none)
set_option maxRecDepth 20000 in
theorem kX11_as (l : Launch) (Z : Shp) (M : Mem) (a0 : Nat) (x1 : Int32) (x2 : Int32) (r : Int32) (h : fX11_as Z M a0 x1 x2 = some r) : Ct l mX11_as [vr a0, vi x1, vi x2] Z M ((some (vi r)), Z, M) := by
  refine Ct.of rfl (Nat.le_of_ble_eq_true rfl) (fun X hM => ?_)
  have hX := hM.1
  refine r_top (mk := fun r => ((some (vi r)), Z, M)) h (fun K hK => ?_)
  unfold fX11_as
  refine r_aload_n (i := 0) (x := a0) (q := 1) 0 hX dX11_as_0 rfl rfl rfl ?_
  refine r_ck (fun hc1 => ?_)
  refine r_getR (a := a0) (ci := 11) (kf := 0) (q := 4) hX hc1 flX11_12 rfl dX11_as_1 rfl ?_
  refine r_iload_n (i := 1) (x := x1) (q := 5) 1 hX dX11_as_4 rfl rfl rfl ?_
  refine r_ck (fun hc2 => ?_)
  refine r_bind (fun v3 h4 => ?_)
  refine r_cv (a := (rR M a0 0)) (As := [vi x1]) (st := []) (r := (some (vr v3))) (Z1 := Z) (M1 := M) (k1 := 0) (n1 := 0) (st1 := [vr v3]) (q := 8) hX (fun l => kX3_takerNumbered l Z M (rR M a0 0) x1 v3 h4) hc2 ivX3_takerNumbered ccX3_takerNumbered (Or.inl lkX11_99) rfl rfl rfl ⟨Nat.le_of_ble_eq_true rfl, Nat.le_of_ble_eq_true rfl, rfl, rfl, Nat.le_of_ble_eq_true rfl, Nat.le_of_ble_eq_true rfl⟩ (Nat.le_of_ble_eq_true rfl) dX11_as_5 rfl ?_
  refine r_astore_n (x := v3) (q := 9) 3 [1, 2, 3, 0] (L1 := [(0, vr a0), (1, vi x1), (2, vi x2), (3, vr v3)]) hX dX11_as_8 rfl (Nat.le_of_ble_eq_true rfl) rfl rfl ?_
  refine r_aload_n (i := 3) (x := v3) (q := 10) 3 hX dX11_as_9 rfl rfl rfl ?_
  refine r_ifnonnull (tgt := 16) (q := 13) hX dX11_as_10 (by decide) rfl (fun hb5 => ?_) (fun hb5 => ?_)
  · refine r_bipush (v := (-101 : Int32)) (q := 15) hX dX11_as_13 rfl rfl ?_
    refine r_lf (hK _) ?_
    exact r_iret hM rfl (Nat.le_of_ble_eq_true rfl) (Nat.le_of_ble_eq_true rfl) dX11_as_15
  · refine r_iload_n (i := 2) (x := x2) (q := 17) 2 hX dX11_as_16 rfl rfl rfl ?_
    refine r_iconst (v := (0 : Int32)) (q := 18) hX dX11_as_17 rfl rfl ?_
    refine r_iconst (v := (4 : Int32)) (q := 19) hX dX11_as_18 rfl rfl ?_
    refine r_cs (As := [vi x2, vi (0 : Int32), vi (4 : Int32)]) (st := []) (r := (some (vi (fX11_within x2 (0 : Int32) (4 : Int32))))) (Z1 := Z) (M1 := M) (k1 := 0) (n1 := 0) (st1 := [vi (fX11_within x2 (0 : Int32) (4 : Int32))]) (q := 22) hX (fun l => kX11_within l Z M x2 (0 : Int32) (4 : Int32)) stX11_within ccX11_within (Or.inl lkX11_55) rfl rfl rfl ⟨Nat.le_of_ble_eq_true rfl, Nat.le_of_ble_eq_true rfl, rfl, rfl, Nat.le_of_ble_eq_true rfl, Nat.le_of_ble_eq_true rfl⟩ (Nat.le_of_ble_eq_true rfl) dX11_as_19 rfl ?_
    refine r_if_ne (tgt := 28) (q := 25) hX dX11_as_22 (by decide) rfl (fun hb6 => ?_) (fun hb6 => ?_)
    · refine r_bipush (v := (-102 : Int32)) (q := 27) hX dX11_as_25 rfl rfl ?_
      refine r_lf (hK _) ?_
      exact r_iret hM rfl (Nat.le_of_ble_eq_true rfl) (Nat.le_of_ble_eq_true rfl) dX11_as_27
    · refine r_aload_n (i := 3) (x := v3) (q := 29) 3 hX dX11_as_28 rfl rfl rfl ?_
      refine r_iload_n (i := 2) (x := x2) (q := 30) 2 hX dX11_as_29 rfl rfl rfl ?_
      refine r_ck (fun hc7 => ?_)
      refine r_bind (fun v8 h9 => ?_)
      refine r_cv (a := v3) (As := [vi x2]) (st := []) (r := (some (vi v8))) (Z1 := Z) (M1 := M) (k1 := 0) (n1 := 0) (st1 := [vi v8]) (q := 33) hX (fun l => kX7_isA l Z M v3 x2 v8 h9) hc7 ivX7_isA ccX7_isA (Or.inl lkX11_103) rfl rfl rfl ⟨Nat.le_of_ble_eq_true rfl, Nat.le_of_ble_eq_true rfl, rfl, rfl, Nat.le_of_ble_eq_true rfl, Nat.le_of_ble_eq_true rfl⟩ (Nat.le_of_ble_eq_true rfl) dX11_as_30 rfl ?_
      refine r_if_eq (tgt := 40) (q := 36) hX dX11_as_33 (by decide) rfl (fun hb10 => ?_) (fun hb10 => ?_)
      · refine r_iconst (v := (-1 : Int32)) (q := 41) hX dX11_as_40 rfl rfl ?_
        refine r_lf (hK _) ?_
        exact r_iret hM rfl (Nat.le_of_ble_eq_true rfl) (Nat.le_of_ble_eq_true rfl) dX11_as_41
      · refine r_iload_n (i := 1) (x := x1) (q := 37) 1 hX dX11_as_36 rfl rfl rfl ?_
        refine r_goto (q := 41) hX dX11_as_37 (by decide) ?_
        refine r_lf (hK _) ?_
        exact r_iret hM rfl (Nat.le_of_ble_eq_true rfl) (Nat.le_of_ble_eq_true rfl) dX11_as_41
theorem flX3_51 : FL RX3 51 3 6 := ⟨Nat.le_of_ble_eq_true rfl, Nat.le_of_ble_eq_true rfl, gd (hcw1_4 _ (List.mem_of_getElem? (i := 19) rfl)) rfl⟩
theorem flX3_34 : FL RX3 34 3 4 := ⟨Nat.le_of_ble_eq_true rfl, Nat.le_of_ble_eq_true rfl, gd (hcw1_4 _ (List.mem_of_getElem? (i := 14) rfl)) rfl⟩
def mX3_boatNumbered : MD := (yX3_boatNumbered, cX3_boatNumbered, 2, (some (.object "CanalCompany$Boat")), 1, 22, 0, 0)
theorem ccX3_boatNumbered : Cc mX3_boatNumbered 1 := ⟨gd (hcw1_0 _ (List.mem_of_getElem? (i := 2) rfl)) rfl, gd (hcw3_5 _ (List.mem_of_getElem? (i := 4) rfl)) rfl, by decide +kernel, by decide +kernel, by decide +kernel⟩
theorem ivX3_boatNumbered : Iv mX3_boatNumbered 3 := ⟨Nat.le_of_ble_eq_true rfl, rfl, gd (hcw3_5 _ (List.mem_of_getElem? (i := 2) rfl)) rfl, gd (hcw3_5 _ (List.mem_of_getElem? (i := 3) rfl)) rfl⟩
def fX3_boatNumbered (Z : Shp) (M : Mem) (a0 : Nat) (x1 : Int32) : Option (Nat) := (if tg Z a0 = (4, 11) then (if (fX11_within x1 (0 : Int32) ((rI M a0 6) - (1 : Int32))) = 0 then some 0 else (if aok Z (rR M a0 4) 113 x1 then some (rR M (rR M a0 4) (ix x1)) else none)) else none)
set_option maxRecDepth 20000 in
theorem kX3_boatNumbered (l : Launch) (Z : Shp) (M : Mem) (a0 : Nat) (x1 : Int32) (r : Nat) (h : fX3_boatNumbered Z M a0 x1 = some r) : Ct l mX3_boatNumbered [vr a0, vi x1] Z M ((some (vr r)), Z, M) := by
  refine Ct.of rfl (Nat.le_of_ble_eq_true rfl) (fun X hM => ?_)
  have hX := hM.1
  refine r_top (mk := fun r => ((some (vr r)), Z, M)) h (fun K hK => ?_)
  unfold fX3_boatNumbered
  refine r_iload_n (i := 1) (x := x1) (q := 1) 1 hX dX3_boatNumbered_0 rfl rfl rfl ?_
  refine r_iconst (v := (0 : Int32)) (q := 2) hX dX3_boatNumbered_1 rfl rfl ?_
  refine r_aload_n (i := 0) (x := a0) (q := 3) 0 hX dX3_boatNumbered_2 rfl rfl rfl ?_
  refine r_ck (fun hc1 => ?_)
  refine r_getI (a := a0) (ci := 3) (kf := 6) (q := 6) hX hc1 flX3_51 rfl rfl dX3_boatNumbered_3 rfl ?_
  refine r_iconst (v := (1 : Int32)) (q := 7) hX dX3_boatNumbered_6 rfl rfl ?_
  refine r_isub (q := 8) hX dX3_boatNumbered_7 rfl ?_
  refine r_cs (As := [vi x1, vi (0 : Int32), vi ((rI M a0 6) - (1 : Int32))]) (st := []) (r := (some (vi (fX11_within x1 (0 : Int32) ((rI M a0 6) - (1 : Int32)))))) (Z1 := Z) (M1 := M) (k1 := 0) (n1 := 0) (st1 := [vi (fX11_within x1 (0 : Int32) ((rI M a0 6) - (1 : Int32)))]) (q := 11) hX (fun l => kX11_within l Z M x1 (0 : Int32) ((rI M a0 6) - (1 : Int32))) stX11_within ccX11_within (Or.inr ⟨_, lkX3_44⟩) rfl rfl rfl ⟨Nat.le_of_ble_eq_true rfl, Nat.le_of_ble_eq_true rfl, rfl, rfl, Nat.le_of_ble_eq_true rfl, Nat.le_of_ble_eq_true rfl⟩ (Nat.le_of_ble_eq_true rfl) dX3_boatNumbered_8 rfl ?_
  refine r_if_eq (tgt := 23) (q := 14) hX dX3_boatNumbered_11 (by decide) rfl (fun hb2 => ?_) (fun hb2 => ?_)
  · refine r_null (q := 24) hX dX3_boatNumbered_23 rfl ?_
    refine r_lf (hK _) ?_
    exact r_aret hM rfl (Or.inl ⟨_, rfl⟩) (Nat.le_of_ble_eq_true rfl) (Nat.le_of_ble_eq_true rfl) dX3_boatNumbered_24
  · refine r_aload_n (i := 0) (x := a0) (q := 15) 0 hX dX3_boatNumbered_14 rfl rfl rfl ?_
    refine r_getR (a := a0) (ci := 3) (kf := 4) (q := 18) hX hc1 flX3_34 rfl dX3_boatNumbered_15 rfl ?_
    refine r_iload_n (i := 1) (x := x1) (q := 19) 1 hX dX3_boatNumbered_18 rfl rfl rfl ?_
    refine r_ck (fun hc3 => ?_)
    refine r_aald (a := (rR M a0 4)) (i := x1) (q := 20) hX arT_113 hc3 dX3_boatNumbered_19 rfl ?_
    refine r_goto (q := 24) hX dX3_boatNumbered_20 (by decide) ?_
    refine r_lf (hK _) ?_
    exact r_aret hM rfl (Or.inl ⟨_, rfl⟩) (Nat.le_of_ble_eq_true rfl) (Nat.le_of_ble_eq_true rfl) dX3_boatNumbered_24
theorem flX1_36 : FL RX1 36 1 6 := ⟨Nat.le_of_ble_eq_true rfl, Nat.le_of_ble_eq_true rfl, gd (hcw2_10 _ (List.mem_of_getElem? (i := 15) rfl)) rfl⟩
theorem flX1_9 : FL RX1 9 1 0 := ⟨Nat.le_of_ble_eq_true rfl, Nat.le_of_ble_eq_true rfl, gd (hcw2_10 _ (List.mem_of_getElem? (i := 1) rfl)) rfl⟩
def mX1_isThere : MD := (yX1_isThere, cX1_isThere, 1, (some .boolean), 0, 0, 0, 0)
theorem ccX1_isThere : Cc mX1_isThere 0 := ⟨gd (hcw1_0 _ (List.mem_of_getElem? (i := 13) rfl)) rfl, gd (hcw3_2 _ (List.mem_of_getElem? (i := 13) rfl)) rfl, by decide +kernel, by decide +kernel, by decide +kernel⟩
theorem ivX1_isThere : Iv mX1_isThere 1 := ⟨Nat.le_of_ble_eq_true rfl, rfl, gd (hcw3_2 _ (List.mem_of_getElem? (i := 11) rfl)) rfl, gd (hcw3_2 _ (List.mem_of_getElem? (i := 12) rfl)) rfl⟩
def fX1_isThere (Z : Shp) (M : Mem) (a0 : Nat) : Option (Int32) := (if tg Z a0 = (2, 10) then (if (rI M a0 6) = (rI M a0 0) then some (1 : Int32) else some (0 : Int32)) else none)
set_option maxRecDepth 20000 in
theorem kX1_isThere (l : Launch) (Z : Shp) (M : Mem) (a0 : Nat) (r : Int32) (h : fX1_isThere Z M a0 = some r) : Ct l mX1_isThere [vr a0] Z M ((some (vi r)), Z, M) := by
  refine Ct.of rfl (Nat.le_of_ble_eq_true rfl) (fun X hM => ?_)
  have hX := hM.1
  refine r_top (mk := fun r => ((some (vi r)), Z, M)) h (fun K hK => ?_)
  unfold fX1_isThere
  refine r_aload_n (i := 0) (x := a0) (q := 1) 0 hX dX1_isThere_0 rfl rfl rfl ?_
  refine r_ck (fun hc1 => ?_)
  refine r_getI (a := a0) (ci := 1) (kf := 6) (q := 4) hX hc1 flX1_36 rfl rfl dX1_isThere_1 rfl ?_
  refine r_aload_n (i := 0) (x := a0) (q := 5) 0 hX dX1_isThere_4 rfl rfl rfl ?_
  refine r_getI (a := a0) (ci := 1) (kf := 0) (q := 8) hX hc1 flX1_9 rfl rfl dX1_isThere_5 rfl ?_
  refine r_icmp_ne (tgt := 15) (q := 11) hX dX1_isThere_8 (by decide) rfl (fun hb2 => ?_) (fun hb2 => ?_)
  · refine r_iconst (v := (1 : Int32)) (q := 12) hX dX1_isThere_11 rfl rfl ?_
    refine r_goto (q := 16) hX dX1_isThere_12 (by decide) ?_
    refine r_lf (hK _) ?_
    exact r_zret hM rfl (Or.inr rfl) (Nat.le_of_ble_eq_true rfl) (Nat.le_of_ble_eq_true rfl) dX1_isThere_16
  · refine r_iconst (v := (0 : Int32)) (q := 16) hX dX1_isThere_15 rfl rfl ?_
    refine r_lf (hK _) ?_
    exact r_zret hM rfl (Or.inl rfl) (Nat.le_of_ble_eq_true rfl) (Nat.le_of_ble_eq_true rfl) dX1_isThere_16
theorem flX1_39 : FL RX1 39 1 7 := ⟨Nat.le_of_ble_eq_true rfl, Nat.le_of_ble_eq_true rfl, gd (hcw2_10 _ (List.mem_of_getElem? (i := 17) rfl)) rfl⟩
theorem lkX1_42 : Lk RX1 42 yX1_isThere := gd (hcw3_2 _ (List.mem_of_getElem? (i := 10) rfl)) rfl
theorem flX1_46 : FL RX1 46 1 8 := ⟨Nat.le_of_ble_eq_true rfl, Nat.le_of_ble_eq_true rfl, gd (hcw2_10 _ (List.mem_of_getElem? (i := 18) rfl)) rfl⟩
theorem flX1_33 : FL RX1 33 1 5 := ⟨Nat.le_of_ble_eq_true rfl, Nat.le_of_ble_eq_true rfl, gd (hcw2_10 _ (List.mem_of_getElem? (i := 13) rfl)) rfl⟩
def mX1_tell : MD := (yX1_tell, cX1_tell, 2, (some .int), 1, 20, 0, 0)
theorem ccX1_tell : Cc mX1_tell 1 := ⟨gd (hcw1_0 _ (List.mem_of_getElem? (i := 13) rfl)) rfl, gd (hcw3_5 _ (List.mem_of_getElem? (i := 8) rfl)) rfl, by decide +kernel, by decide +kernel, by decide +kernel⟩
theorem ivX1_tell : Iv mX1_tell 1 := ⟨Nat.le_of_ble_eq_true rfl, rfl, gd (hcw3_5 _ (List.mem_of_getElem? (i := 6) rfl)) rfl, gd (hcw3_5 _ (List.mem_of_getElem? (i := 7) rfl)) rfl⟩
noncomputable def fX1_tell (Z : Shp) (M : Mem) (a0 : Nat) (x1 : Int32) : Option (Int32) := (if x1 = (0 : Int32) then (if tg Z a0 = (2, 10) then some (rI M a0 6) else none) else (if x1 = (1 : Int32) then (if tg Z a0 = (2, 10) then some (rI M a0 7) else none) else (if x1 = (2 : Int32) then (if tg Z a0 = (2, 10) then (Option.bind (fX1_isThere Z M a0) (fun v7 => (if v7 = 0 then some (0 : Int32) else some (1 : Int32)))) else none) else (if x1 = (3 : Int32) then (if tg Z a0 = (2, 10) then some (rI M a0 8) else none) else (if tg Z a0 = (2, 10) then some (rI M a0 5) else none)))))
set_option maxRecDepth 20000 in
theorem kX1_tell (l : Launch) (Z : Shp) (M : Mem) (a0 : Nat) (x1 : Int32) (r : Int32) (h : fX1_tell Z M a0 x1 = some r) : Ct l mX1_tell [vr a0, vi x1] Z M ((some (vi r)), Z, M) := by
  refine Ct.of rfl (Nat.le_of_ble_eq_true rfl) (fun X hM => ?_)
  have hX := hM.1
  refine r_top (mk := fun r => ((some (vi r)), Z, M)) h (fun K hK => ?_)
  unfold fX1_tell
  refine r_iload_n (i := 1) (x := x1) (q := 1) 1 hX dX1_tell_0 rfl rfl rfl ?_
  refine r_ite (fun hb1 => ?_) (fun hb1 => ?_)
  · refine r_tswI (off := 31) (q := 32) hX hb1 dX1_tell_1 (by decide) (by decide) ?_
    refine r_aload_n (i := 0) (x := a0) (q := 33) 0 hX dX1_tell_32 rfl rfl rfl ?_
    refine r_ck (fun hc2 => ?_)
    refine r_getI (a := a0) (ci := 1) (kf := 6) (q := 36) hX hc2 flX1_36 rfl rfl dX1_tell_33 rfl ?_
    refine r_lf (hK _) ?_
    exact r_iret hM rfl (Nat.le_of_ble_eq_true rfl) (Nat.le_of_ble_eq_true rfl) dX1_tell_36
  · refine r_ite (fun hb3 => ?_) (fun hb3 => ?_)
    · refine r_tswI (off := 36) (q := 37) hX hb3 dX1_tell_1 (by decide) (by decide) ?_
      refine r_aload_n (i := 0) (x := a0) (q := 38) 0 hX dX1_tell_37 rfl rfl rfl ?_
      refine r_ck (fun hc4 => ?_)
      refine r_getI (a := a0) (ci := 1) (kf := 7) (q := 41) hX hc4 flX1_39 rfl rfl dX1_tell_38 rfl ?_
      refine r_lf (hK _) ?_
      exact r_iret hM rfl (Nat.le_of_ble_eq_true rfl) (Nat.le_of_ble_eq_true rfl) dX1_tell_41
    · refine r_ite (fun hb5 => ?_) (fun hb5 => ?_)
      · refine r_tswI (off := 41) (q := 42) hX hb5 dX1_tell_1 (by decide) (by decide) ?_
        refine r_aload_n (i := 0) (x := a0) (q := 43) 0 hX dX1_tell_42 rfl rfl rfl ?_
        refine r_ck (fun hc6 => ?_)
        refine r_bind (fun v7 h8 => ?_)
        refine r_cv (a := a0) (As := []) (st := []) (r := (some (vi v7))) (Z1 := Z) (M1 := M) (k1 := 0) (n1 := 0) (st1 := [vi v7]) (q := 46) hX (fun l => kX1_isThere l Z M a0 v7 h8) hc6 ivX1_isThere ccX1_isThere (Or.inl lkX1_42) rfl rfl rfl ⟨Nat.le_of_ble_eq_true rfl, Nat.le_of_ble_eq_true rfl, rfl, rfl, Nat.le_of_ble_eq_true rfl, Nat.le_of_ble_eq_true rfl⟩ (Nat.le_of_ble_eq_true rfl) dX1_tell_43 rfl ?_
        refine r_if_eq (tgt := 53) (q := 49) hX dX1_tell_46 (by decide) rfl (fun hb9 => ?_) (fun hb9 => ?_)
        · refine r_iconst (v := (0 : Int32)) (q := 54) hX dX1_tell_53 rfl rfl ?_
          refine r_lf (hK _) ?_
          exact r_iret hM rfl (Nat.le_of_ble_eq_true rfl) (Nat.le_of_ble_eq_true rfl) dX1_tell_54
        · refine r_iconst (v := (1 : Int32)) (q := 50) hX dX1_tell_49 rfl rfl ?_
          refine r_goto (q := 54) hX dX1_tell_50 (by decide) ?_
          refine r_lf (hK _) ?_
          exact r_iret hM rfl (Nat.le_of_ble_eq_true rfl) (Nat.le_of_ble_eq_true rfl) dX1_tell_54
      · refine r_ite (fun hb10 => ?_) (fun hb10 => ?_)
        · refine r_tswI (off := 54) (q := 55) hX hb10 dX1_tell_1 (by decide) (by decide) ?_
          refine r_aload_n (i := 0) (x := a0) (q := 56) 0 hX dX1_tell_55 rfl rfl rfl ?_
          refine r_ck (fun hc11 => ?_)
          refine r_getI (a := a0) (ci := 1) (kf := 8) (q := 59) hX hc11 flX1_46 rfl rfl dX1_tell_56 rfl ?_
          refine r_lf (hK _) ?_
          exact r_iret hM rfl (Nat.le_of_ble_eq_true rfl) (Nat.le_of_ble_eq_true rfl) dX1_tell_59
        · refine r_tswO (cs := [(0 : Int32), (1 : Int32), (2 : Int32), (3 : Int32)]) (q := 60) hX ⟨hb1, ⟨hb3, ⟨hb5, ⟨hb10, trivial⟩⟩⟩⟩ dX1_tell_1 (by decide) (by decide) ?_
          refine r_aload_n (i := 0) (x := a0) (q := 61) 0 hX dX1_tell_60 rfl rfl rfl ?_
          refine r_ck (fun hc12 => ?_)
          refine r_getI (a := a0) (ci := 1) (kf := 5) (q := 64) hX hc12 flX1_33 rfl rfl dX1_tell_61 rfl ?_
          refine r_lf (hK _) ?_
          exact r_iret hM rfl (Nat.le_of_ble_eq_true rfl) (Nat.le_of_ble_eq_true rfl) dX1_tell_64
theorem lkX11_134 : Lk RX11 134 yX3_boatNumbered := gd (hcw3_5 _ (List.mem_of_getElem? (i := 1) rfl)) rfl
theorem lkX11_138 : Lk RX11 138 yX1_tell := gd (hcw3_5 _ (List.mem_of_getElem? (i := 5) rfl)) rfl
def mX11_at : MD := (yX11_at, cX11_at, 4, (some .int), 2, 43, 0, 0)
theorem ccX11_at : Cc mX11_at 2 := ⟨gd (hcw1_0 _ (List.mem_of_getElem? (i := 1) rfl)) rfl, gd (hcw3_5 _ (List.mem_of_getElem? (i := 0) rfl)) rfl, by decide +kernel, by decide +kernel, by decide +kernel⟩
theorem ivX11_at : Iv mX11_at 11 := ⟨Nat.le_of_ble_eq_true rfl, rfl, gd (hcw3_4 _ (List.mem_of_getElem? (i := 18) rfl)) rfl, gd (hcw3_4 _ (List.mem_of_getElem? (i := 19) rfl)) rfl⟩
noncomputable def fX11_at (Z : Shp) (M : Mem) (a0 : Nat) (x1 : Int32) (x2 : Int32) : Option (Int32) := (if tg Z a0 = (12, 6) then (if tg Z (rR M a0 0) = (4, 11) then (Option.bind (fX3_boatNumbered Z M (rR M a0 0) x1) (fun v3 => (if v3 = 0 then some (-101 : Int32) else (if (fX11_within x2 (0 : Int32) (4 : Int32)) = 0 then some (-102 : Int32) else (if tg Z v3 = (2, 10) then (Option.bind (fX1_tell Z M v3 x2) (fun v8 => some v8)) else none))))) else none) else none)
set_option maxRecDepth 20000 in
theorem kX11_at (l : Launch) (Z : Shp) (M : Mem) (a0 : Nat) (x1 : Int32) (x2 : Int32) (r : Int32) (h : fX11_at Z M a0 x1 x2 = some r) : Ct l mX11_at [vr a0, vi x1, vi x2] Z M ((some (vi r)), Z, M) := by
  refine Ct.of rfl (Nat.le_of_ble_eq_true rfl) (fun X hM => ?_)
  have hX := hM.1
  refine r_top (mk := fun r => ((some (vi r)), Z, M)) h (fun K hK => ?_)
  unfold fX11_at
  refine r_aload_n (i := 0) (x := a0) (q := 1) 0 hX dX11_at_0 rfl rfl rfl ?_
  refine r_ck (fun hc1 => ?_)
  refine r_getR (a := a0) (ci := 11) (kf := 0) (q := 4) hX hc1 flX11_12 rfl dX11_at_1 rfl ?_
  refine r_iload_n (i := 1) (x := x1) (q := 5) 1 hX dX11_at_4 rfl rfl rfl ?_
  refine r_ck (fun hc2 => ?_)
  refine r_bind (fun v3 h4 => ?_)
  refine r_cv (a := (rR M a0 0)) (As := [vi x1]) (st := []) (r := (some (vr v3))) (Z1 := Z) (M1 := M) (k1 := 0) (n1 := 0) (st1 := [vr v3]) (q := 8) hX (fun l => kX3_boatNumbered l Z M (rR M a0 0) x1 v3 h4) hc2 ivX3_boatNumbered ccX3_boatNumbered (Or.inl lkX11_134) rfl rfl rfl ⟨Nat.le_of_ble_eq_true rfl, Nat.le_of_ble_eq_true rfl, rfl, rfl, Nat.le_of_ble_eq_true rfl, Nat.le_of_ble_eq_true rfl⟩ (Nat.le_of_ble_eq_true rfl) dX11_at_5 rfl ?_
  refine r_astore_n (x := v3) (q := 9) 3 [1, 2, 3, 0] (L1 := [(0, vr a0), (1, vi x1), (2, vi x2), (3, vr v3)]) hX dX11_at_8 rfl (Nat.le_of_ble_eq_true rfl) rfl rfl ?_
  refine r_aload_n (i := 3) (x := v3) (q := 10) 3 hX dX11_at_9 rfl rfl rfl ?_
  refine r_ifnonnull (tgt := 16) (q := 13) hX dX11_at_10 (by decide) rfl (fun hb5 => ?_) (fun hb5 => ?_)
  · refine r_bipush (v := (-101 : Int32)) (q := 15) hX dX11_at_13 rfl rfl ?_
    refine r_lf (hK _) ?_
    exact r_iret hM rfl (Nat.le_of_ble_eq_true rfl) (Nat.le_of_ble_eq_true rfl) dX11_at_15
  · refine r_iload_n (i := 2) (x := x2) (q := 17) 2 hX dX11_at_16 rfl rfl rfl ?_
    refine r_iconst (v := (0 : Int32)) (q := 18) hX dX11_at_17 rfl rfl ?_
    refine r_iconst (v := (4 : Int32)) (q := 19) hX dX11_at_18 rfl rfl ?_
    refine r_cs (As := [vi x2, vi (0 : Int32), vi (4 : Int32)]) (st := []) (r := (some (vi (fX11_within x2 (0 : Int32) (4 : Int32))))) (Z1 := Z) (M1 := M) (k1 := 0) (n1 := 0) (st1 := [vi (fX11_within x2 (0 : Int32) (4 : Int32))]) (q := 22) hX (fun l => kX11_within l Z M x2 (0 : Int32) (4 : Int32)) stX11_within ccX11_within (Or.inl lkX11_55) rfl rfl rfl ⟨Nat.le_of_ble_eq_true rfl, Nat.le_of_ble_eq_true rfl, rfl, rfl, Nat.le_of_ble_eq_true rfl, Nat.le_of_ble_eq_true rfl⟩ (Nat.le_of_ble_eq_true rfl) dX11_at_19 rfl ?_
    refine r_if_eq (tgt := 33) (q := 25) hX dX11_at_22 (by decide) rfl (fun hb6 => ?_) (fun hb6 => ?_)
    · refine r_bipush (v := (-102 : Int32)) (q := 35) hX dX11_at_33 rfl rfl ?_
      refine r_lf (hK _) ?_
      exact r_iret hM rfl (Nat.le_of_ble_eq_true rfl) (Nat.le_of_ble_eq_true rfl) dX11_at_35
    · refine r_aload_n (i := 3) (x := v3) (q := 26) 3 hX dX11_at_25 rfl rfl rfl ?_
      refine r_iload_n (i := 2) (x := x2) (q := 27) 2 hX dX11_at_26 rfl rfl rfl ?_
      refine r_ck (fun hc7 => ?_)
      refine r_bind (fun v8 h9 => ?_)
      refine r_cv (a := v3) (As := [vi x2]) (st := []) (r := (some (vi v8))) (Z1 := Z) (M1 := M) (k1 := 0) (n1 := 0) (st1 := [vi v8]) (q := 30) hX (fun l => kX1_tell l Z M v3 x2 v8 h9) hc7 ivX1_tell ccX1_tell (Or.inl lkX11_138) rfl rfl rfl ⟨Nat.le_of_ble_eq_true rfl, Nat.le_of_ble_eq_true rfl, rfl, rfl, Nat.le_of_ble_eq_true rfl, Nat.le_of_ble_eq_true rfl⟩ (Nat.le_of_ble_eq_true rfl) dX11_at_27 rfl ?_
      refine r_goto (q := 35) hX dX11_at_30 (by decide) ?_
      refine r_lf (hK _) ?_
      exact r_iret hM rfl (Nat.le_of_ble_eq_true rfl) (Nat.le_of_ble_eq_true rfl) dX11_at_35
def mX3_poundNumbered : MD := (yX3_poundNumbered, cX3_poundNumbered, 2, (some (.object "CanalCompany$Pound")), 1, 22, 0, 0)
theorem ccX3_poundNumbered : Cc mX3_poundNumbered 1 := ⟨gd (hcw1_0 _ (List.mem_of_getElem? (i := 2) rfl)) rfl, gd (hcw2_3 _ (List.mem_of_getElem? (i := 18) rfl)) rfl, by decide +kernel, by decide +kernel, by decide +kernel⟩
theorem ivX3_poundNumbered : Iv mX3_poundNumbered 3 := ⟨Nat.le_of_ble_eq_true rfl, rfl, gd (hcw2_3 _ (List.mem_of_getElem? (i := 16) rfl)) rfl, gd (hcw2_3 _ (List.mem_of_getElem? (i := 17) rfl)) rfl⟩
def fX3_poundNumbered (Z : Shp) (M : Mem) (a0 : Nat) (x1 : Int32) : Option (Nat) := (if (fX11_within x1 (0 : Int32) (7 : Int32)) = 0 then some 0 else (if tg Z a0 = (4, 11) then (if aok Z (rR M a0 0) 110 x1 then some (rR M (rR M a0 0) (ix x1)) else none) else none))
set_option maxRecDepth 20000 in
theorem kX3_poundNumbered (l : Launch) (Z : Shp) (M : Mem) (a0 : Nat) (x1 : Int32) (r : Nat) (h : fX3_poundNumbered Z M a0 x1 = some r) : Ct l mX3_poundNumbered [vr a0, vi x1] Z M ((some (vr r)), Z, M) := by
  refine Ct.of rfl (Nat.le_of_ble_eq_true rfl) (fun X hM => ?_)
  have hX := hM.1
  refine r_top (mk := fun r => ((some (vr r)), Z, M)) h (fun K hK => ?_)
  unfold fX3_poundNumbered
  refine r_iload_n (i := 1) (x := x1) (q := 1) 1 hX dX3_poundNumbered_0 rfl rfl rfl ?_
  refine r_iconst (v := (0 : Int32)) (q := 2) hX dX3_poundNumbered_1 rfl rfl ?_
  refine r_bipush (v := (7 : Int32)) (q := 4) hX dX3_poundNumbered_2 rfl rfl ?_
  refine r_cs (As := [vi x1, vi (0 : Int32), vi (7 : Int32)]) (st := []) (r := (some (vi (fX11_within x1 (0 : Int32) (7 : Int32))))) (Z1 := Z) (M1 := M) (k1 := 0) (n1 := 0) (st1 := [vi (fX11_within x1 (0 : Int32) (7 : Int32))]) (q := 7) hX (fun l => kX11_within l Z M x1 (0 : Int32) (7 : Int32)) stX11_within ccX11_within (Or.inr ⟨_, lkX3_44⟩) rfl rfl rfl ⟨Nat.le_of_ble_eq_true rfl, Nat.le_of_ble_eq_true rfl, rfl, rfl, Nat.le_of_ble_eq_true rfl, Nat.le_of_ble_eq_true rfl⟩ (Nat.le_of_ble_eq_true rfl) dX3_poundNumbered_4 rfl ?_
  refine r_if_eq (tgt := 19) (q := 10) hX dX3_poundNumbered_7 (by decide) rfl (fun hb1 => ?_) (fun hb1 => ?_)
  · refine r_null (q := 20) hX dX3_poundNumbered_19 rfl ?_
    refine r_lf (hK _) ?_
    exact r_aret hM rfl (Or.inl ⟨_, rfl⟩) (Nat.le_of_ble_eq_true rfl) (Nat.le_of_ble_eq_true rfl) dX3_poundNumbered_20
  · refine r_aload_n (i := 0) (x := a0) (q := 11) 0 hX dX3_poundNumbered_10 rfl rfl rfl ?_
    refine r_ck (fun hc2 => ?_)
    refine r_getR (a := a0) (ci := 3) (kf := 0) (q := 14) hX hc2 flX3_11 rfl dX3_poundNumbered_11 rfl ?_
    refine r_iload_n (i := 1) (x := x1) (q := 15) 1 hX dX3_poundNumbered_14 rfl rfl rfl ?_
    refine r_ck (fun hc3 => ?_)
    refine r_aald (a := (rR M a0 0)) (i := x1) (q := 16) hX arT_110 hc3 dX3_poundNumbered_15 rfl ?_
    refine r_goto (q := 20) hX dX3_poundNumbered_16 (by decide) ?_
    refine r_lf (hK _) ?_
    exact r_aret hM rfl (Or.inl ⟨_, rfl⟩) (Nat.le_of_ble_eq_true rfl) (Nat.le_of_ble_eq_true rfl) dX3_poundNumbered_20
theorem lkX11_51 : Lk RX11 51 yX3_poundNumbered := gd (hcw2_3 _ (List.mem_of_getElem? (i := 15) rfl)) rfl
theorem flX11_33 : FL RX11 33 11 3 := ⟨Nat.le_of_ble_eq_true rfl, Nat.le_of_ble_eq_true rfl, gd (hcw2_2 _ (List.mem_of_getElem? (i := 15) rfl)) rfl⟩
theorem lkX11_250 : Lk RX11 250 yX0_add := gd (hcw4_8 _ (List.mem_of_getElem? (i := 17) rfl)) rfl
def mX11_bank : MD := (yX11_bank, cX11_bank, 3, (some .int), 2, 43, 0, 0)
theorem ccX11_bank : Cc mX11_bank 2 := ⟨gd (hcw1_0 _ (List.mem_of_getElem? (i := 1) rfl)) rfl, gd (hcw4_8 _ (List.mem_of_getElem? (i := 16) rfl)) rfl, by decide +kernel, by decide +kernel, by decide +kernel⟩
theorem ivX11_bank : Iv mX11_bank 11 := ⟨Nat.le_of_ble_eq_true rfl, rfl, gd (hcw4_8 _ (List.mem_of_getElem? (i := 14) rfl)) rfl, gd (hcw4_8 _ (List.mem_of_getElem? (i := 15) rfl)) rfl⟩
noncomputable def fX11_bank (Z : Shp) (M : Mem) (a0 : Nat) (x1 : Int32) (x2 : Int32) : Option (Int32 × Mem) := (if tg Z a0 = (12, 6) then (if tg Z (rR M a0 0) = (4, 11) then (Option.bind (fX3_poundNumbered Z M (rR M a0 0) x1) (fun v3 => (if v3 = 0 then some ((-101 : Int32), M) else (if (fX11_within x2 (1 : Int32) (999 : Int32)) = 0 then some ((-102 : Int32), M) else (if tg Z (rR M a0 3) = (1, 9) then (Option.bind (fX0_add Z M (rR M a0 3) x1 x2) (fun v8 => some (v8.1, v8.2))) else none))))) else none) else none)
set_option maxRecDepth 20000 in
theorem kX11_bank (l : Launch) (Z : Shp) (M : Mem) (a0 : Nat) (x1 : Int32) (x2 : Int32) (r : Int32 × Mem) (h : fX11_bank Z M a0 x1 x2 = some r) : Ct l mX11_bank [vr a0, vi x1, vi x2] Z M ((some (vi r.1)), Z, r.2) := by
  refine Ct.of rfl (Nat.le_of_ble_eq_true rfl) (fun X hM => ?_)
  have hX := hM.1
  refine r_top (mk := fun r => ((some (vi r.1)), Z, r.2)) h (fun K hK => ?_)
  unfold fX11_bank
  refine r_aload_n (i := 0) (x := a0) (q := 1) 0 hX dX11_bank_0 rfl rfl rfl ?_
  refine r_ck (fun hc1 => ?_)
  refine r_getR (a := a0) (ci := 11) (kf := 0) (q := 4) hX hc1 flX11_12 rfl dX11_bank_1 rfl ?_
  refine r_iload_n (i := 1) (x := x1) (q := 5) 1 hX dX11_bank_4 rfl rfl rfl ?_
  refine r_ck (fun hc2 => ?_)
  refine r_bind (fun v3 h4 => ?_)
  refine r_cv (a := (rR M a0 0)) (As := [vi x1]) (st := []) (r := (some (vr v3))) (Z1 := Z) (M1 := M) (k1 := 0) (n1 := 0) (st1 := [vr v3]) (q := 8) hX (fun l => kX3_poundNumbered l Z M (rR M a0 0) x1 v3 h4) hc2 ivX3_poundNumbered ccX3_poundNumbered (Or.inl lkX11_51) rfl rfl rfl ⟨Nat.le_of_ble_eq_true rfl, Nat.le_of_ble_eq_true rfl, rfl, rfl, Nat.le_of_ble_eq_true rfl, Nat.le_of_ble_eq_true rfl⟩ (Nat.le_of_ble_eq_true rfl) dX11_bank_5 rfl ?_
  refine r_ifnonnull (tgt := 14) (q := 11) hX dX11_bank_8 (by decide) rfl (fun hb5 => ?_) (fun hb5 => ?_)
  · refine r_bipush (v := (-101 : Int32)) (q := 13) hX dX11_bank_11 rfl rfl ?_
    refine r_lf (hK _) ?_
    exact r_iret hM rfl (Nat.le_of_ble_eq_true rfl) (Nat.le_of_ble_eq_true rfl) dX11_bank_13
  · refine r_iload_n (i := 2) (x := x2) (q := 15) 2 hX dX11_bank_14 rfl rfl rfl ?_
    refine r_iconst (v := (1 : Int32)) (q := 16) hX dX11_bank_15 rfl rfl ?_
    refine r_sipush (v := (999 : Int32)) (q := 19) hX dX11_bank_16 rfl rfl ?_
    refine r_cs (As := [vi x2, vi (1 : Int32), vi (999 : Int32)]) (st := []) (r := (some (vi (fX11_within x2 (1 : Int32) (999 : Int32))))) (Z1 := Z) (M1 := M) (k1 := 0) (n1 := 0) (st1 := [vi (fX11_within x2 (1 : Int32) (999 : Int32))]) (q := 22) hX (fun l => kX11_within l Z M x2 (1 : Int32) (999 : Int32)) stX11_within ccX11_within (Or.inl lkX11_55) rfl rfl rfl ⟨Nat.le_of_ble_eq_true rfl, Nat.le_of_ble_eq_true rfl, rfl, rfl, Nat.le_of_ble_eq_true rfl, Nat.le_of_ble_eq_true rfl⟩ (Nat.le_of_ble_eq_true rfl) dX11_bank_19 rfl ?_
    refine r_if_eq (tgt := 37) (q := 25) hX dX11_bank_22 (by decide) rfl (fun hb6 => ?_) (fun hb6 => ?_)
    · refine r_bipush (v := (-102 : Int32)) (q := 39) hX dX11_bank_37 rfl rfl ?_
      refine r_lf (hK _) ?_
      exact r_iret hM rfl (Nat.le_of_ble_eq_true rfl) (Nat.le_of_ble_eq_true rfl) dX11_bank_39
    · refine r_aload_n (i := 0) (x := a0) (q := 26) 0 hX dX11_bank_25 rfl rfl rfl ?_
      refine r_getR (a := a0) (ci := 11) (kf := 3) (q := 29) hX hc1 flX11_33 rfl dX11_bank_26 rfl ?_
      refine r_iload_n (i := 1) (x := x1) (q := 30) 1 hX dX11_bank_29 rfl rfl rfl ?_
      refine r_iload_n (i := 2) (x := x2) (q := 31) 2 hX dX11_bank_30 rfl rfl rfl ?_
      refine r_ck (fun hc7 => ?_)
      refine r_bind (fun v8 h9 => ?_)
      refine r_cv (a := (rR M a0 3)) (As := [vi x1, vi x2]) (st := []) (r := (some (vi v8.1))) (Z1 := Z) (M1 := v8.2) (k1 := 0) (n1 := 0) (st1 := [vi v8.1]) (q := 34) hX (fun l => kX0_add l Z M (rR M a0 3) x1 x2 v8 h9) hc7 ivX0_add ccX0_add (Or.inl lkX11_250) rfl rfl rfl ⟨Nat.le_of_ble_eq_true rfl, Nat.le_of_ble_eq_true rfl, rfl, rfl, Nat.le_of_ble_eq_true rfl, Nat.le_of_ble_eq_true rfl⟩ (Nat.le_of_ble_eq_true rfl) dX11_bank_31 rfl ?_
      refine r_goto (q := 39) hX dX11_bank_34 (by decide) ?_
      refine r_lf (hK _) ?_
      exact r_iret hM rfl (Nat.le_of_ble_eq_true rfl) (Nat.le_of_ble_eq_true rfl) dX11_bank_39
theorem flX1_15 : FL RX1 15 1 1 := ⟨Nat.le_of_ble_eq_true rfl, Nat.le_of_ble_eq_true rfl, gd (hcw2_10 _ (List.mem_of_getElem? (i := 2) rfl)) rfl⟩
def mX1_tonMiles : MD := (yX1_tonMiles, cX1_tonMiles, 1, (some .int), 0, 0, 0, 0)
theorem ccX1_tonMiles : Cc mX1_tonMiles 0 := ⟨gd (hcw1_0 _ (List.mem_of_getElem? (i := 13) rfl)) rfl, gd (hcw4_3 _ (List.mem_of_getElem? (i := 3) rfl)) rfl, by decide +kernel, by decide +kernel, by decide +kernel⟩
theorem ivX1_tonMiles : Iv mX1_tonMiles 1 := ⟨Nat.le_of_ble_eq_true rfl, rfl, gd (hcw4_3 _ (List.mem_of_getElem? (i := 1) rfl)) rfl, gd (hcw4_3 _ (List.mem_of_getElem? (i := 2) rfl)) rfl⟩
def fX1_tonMiles (Z : Shp) (M : Mem) (a0 : Nat) : Option (Int32) := (if tg Z a0 = (2, 10) then some ((rI M a0 1) * (rI M a0 5)) else none)
set_option maxRecDepth 20000 in
theorem kX1_tonMiles (l : Launch) (Z : Shp) (M : Mem) (a0 : Nat) (r : Int32) (h : fX1_tonMiles Z M a0 = some r) : Ct l mX1_tonMiles [vr a0] Z M ((some (vi r)), Z, M) := by
  refine Ct.of rfl (Nat.le_of_ble_eq_true rfl) (fun X hM => ?_)
  have hX := hM.1
  refine r_top (mk := fun r => ((some (vi r)), Z, M)) h (fun K hK => ?_)
  unfold fX1_tonMiles
  refine r_aload_n (i := 0) (x := a0) (q := 1) 0 hX dX1_tonMiles_0 rfl rfl rfl ?_
  refine r_ck (fun hc1 => ?_)
  refine r_getI (a := a0) (ci := 1) (kf := 1) (q := 4) hX hc1 flX1_15 rfl rfl dX1_tonMiles_1 rfl ?_
  refine r_aload_n (i := 0) (x := a0) (q := 5) 0 hX dX1_tonMiles_4 rfl rfl rfl ?_
  refine r_getI (a := a0) (ci := 1) (kf := 5) (q := 8) hX hc1 flX1_33 rfl rfl dX1_tonMiles_5 rfl ?_
  refine r_imul (q := 9) hX dX1_tonMiles_8 rfl ?_
  refine r_lf (hK _) ?_
  exact r_iret hM rfl (Nat.le_of_ble_eq_true rfl) (Nat.le_of_ble_eq_true rfl) dX1_tonMiles_9
theorem flX5_33 : FL RX5 33 5 8 := ⟨Nat.le_of_ble_eq_true rfl, Nat.le_of_ble_eq_true rfl, gd (hcw2_0 _ (List.mem_of_getElem? (i := 11) rfl)) rfl⟩
theorem lkX5_60 : Lk RX5 60 yX1_tonMiles := gd (hcw5_3 _ (List.mem_of_getElem? (i := 15) rfl)) rfl
def mX5_goesOver : MD := (yX5_goesOver, cX5_goesOver, 3, (some .boolean), 1, 20, 0, 0)
theorem ccX5_goesOver : Cc mX5_goesOver 2 := ⟨gd (hcw1_0 _ (List.mem_of_getElem? (i := 8) rfl)) rfl, gd (hcw5_3 _ (List.mem_of_getElem? (i := 14) rfl)) rfl, by decide +kernel, by decide +kernel, by decide +kernel⟩
theorem ivX5_goesOver : Iv mX5_goesOver 5 := ⟨Nat.le_of_ble_eq_true rfl, rfl, gd (hcw5_3 _ (List.mem_of_getElem? (i := 12) rfl)) rfl, gd (hcw5_3 _ (List.mem_of_getElem? (i := 13) rfl)) rfl⟩
noncomputable def fX5_goesOver (Z : Shp) (M : Mem) (a0 : Nat) (a1 : Nat) (x2 : Int32) : Option (Int32) := (if tg Z a0 = (6, 9) then (if tg Z a1 = (2, 10) then (Option.bind (fX1_tonMiles Z M a1) (fun v3 => (Option.bind (fX1_tonMiles Z M a1) (fun v5 => (if (x2 * v5) ≤ (((rI M a0 8) * v3) / (10 : Int32)) then some (0 : Int32) else some (1 : Int32)))))) else none) else none)
set_option maxRecDepth 20000 in
theorem kX5_goesOver (l : Launch) (Z : Shp) (M : Mem) (a0 : Nat) (a1 : Nat) (x2 : Int32) (r : Int32) (h : fX5_goesOver Z M a0 a1 x2 = some r) : Ct l mX5_goesOver [vr a0, vr a1, vi x2] Z M ((some (vi r)), Z, M) := by
  refine Ct.of rfl (Nat.le_of_ble_eq_true rfl) (fun X hM => ?_)
  have hX := hM.1
  refine r_top (mk := fun r => ((some (vi r)), Z, M)) h (fun K hK => ?_)
  unfold fX5_goesOver
  refine r_aload_n (i := 0) (x := a0) (q := 1) 0 hX dX5_goesOver_0 rfl rfl rfl ?_
  refine r_ck (fun hc1 => ?_)
  refine r_getI (a := a0) (ci := 5) (kf := 8) (q := 4) hX hc1 flX5_33 rfl rfl dX5_goesOver_1 rfl ?_
  refine r_aload_n (i := 1) (x := a1) (q := 5) 1 hX dX5_goesOver_4 rfl rfl rfl ?_
  refine r_ck (fun hc2 => ?_)
  refine r_bind (fun v3 h4 => ?_)
  refine r_cv (a := a1) (As := []) (st := [vi (rI M a0 8)]) (r := (some (vi v3))) (Z1 := Z) (M1 := M) (k1 := 0) (n1 := 0) (st1 := [vi v3, vi (rI M a0 8)]) (q := 8) hX (fun l => kX1_tonMiles l Z M a1 v3 h4) hc2 ivX1_tonMiles ccX1_tonMiles (Or.inl lkX5_60) rfl rfl rfl ⟨Nat.le_of_ble_eq_true rfl, Nat.le_of_ble_eq_true rfl, rfl, rfl, Nat.le_of_ble_eq_true rfl, Nat.le_of_ble_eq_true rfl⟩ (Nat.le_of_ble_eq_true rfl) dX5_goesOver_5 rfl ?_
  refine r_imul (q := 9) hX dX5_goesOver_8 rfl ?_
  refine r_bipush (v := (10 : Int32)) (q := 11) hX dX5_goesOver_9 rfl rfl ?_
  refine r_idiv (q := 12) hX dX5_goesOver_11 (by decide) rfl ?_
  refine r_iload_n (i := 2) (x := x2) (q := 13) 2 hX dX5_goesOver_12 rfl rfl rfl ?_
  refine r_aload_n (i := 1) (x := a1) (q := 14) 1 hX dX5_goesOver_13 rfl rfl rfl ?_
  refine r_bind (fun v5 h6 => ?_)
  refine r_cv (a := a1) (As := []) (st := [vi x2, vi (((rI M a0 8) * v3) / (10 : Int32))]) (r := (some (vi v5))) (Z1 := Z) (M1 := M) (k1 := 0) (n1 := 0) (st1 := [vi v5, vi x2, vi (((rI M a0 8) * v3) / (10 : Int32))]) (q := 17) hX (fun l => kX1_tonMiles l Z M a1 v5 h6) hc2 ivX1_tonMiles ccX1_tonMiles (Or.inl lkX5_60) rfl rfl rfl ⟨Nat.le_of_ble_eq_true rfl, Nat.le_of_ble_eq_true rfl, rfl, rfl, Nat.le_of_ble_eq_true rfl, Nat.le_of_ble_eq_true rfl⟩ (Nat.le_of_ble_eq_true rfl) dX5_goesOver_14 rfl ?_
  refine r_imul (q := 18) hX dX5_goesOver_17 rfl ?_
  refine r_icmp_ge (tgt := 25) (q := 21) hX dX5_goesOver_18 (by decide) rfl (fun hb7 => ?_) (fun hb7 => ?_)
  · refine r_iconst (v := (0 : Int32)) (q := 26) hX dX5_goesOver_25 rfl rfl ?_
    refine r_lf (hK _) ?_
    exact r_zret hM rfl (Or.inl rfl) (Nat.le_of_ble_eq_true rfl) (Nat.le_of_ble_eq_true rfl) dX5_goesOver_26
  · refine r_iconst (v := (1 : Int32)) (q := 22) hX dX5_goesOver_21 rfl rfl ?_
    refine r_goto (q := 26) hX dX5_goesOver_22 (by decide) ?_
    refine r_lf (hK _) ?_
    exact r_zret hM rfl (Or.inr rfl) (Nat.le_of_ble_eq_true rfl) (Nat.le_of_ble_eq_true rfl) dX5_goesOver_26
theorem flX11_73 : FL RX11 73 3 6 := ⟨Nat.le_of_ble_eq_true rfl, Nat.le_of_ble_eq_true rfl, gd (hcw1_4 _ (List.mem_of_getElem? (i := 18) rfl)) rfl⟩
theorem flX11_321 : FL RX11 321 3 4 := ⟨Nat.le_of_ble_eq_true rfl, Nat.le_of_ble_eq_true rfl, gd (hcw1_4 _ (List.mem_of_getElem? (i := 15) rfl)) rfl⟩
theorem flX11_40 : FL RX11 40 11 4 := ⟨Nat.le_of_ble_eq_true rfl, Nat.le_of_ble_eq_true rfl, gd (hcw2_2 _ (List.mem_of_getElem? (i := 16) rfl)) rfl⟩
theorem lkX11_325 : Lk RX11 325 yX5_goesOver := gd (hcw5_3 _ (List.mem_of_getElem? (i := 11) rfl)) rfl
theorem lkX11_209 : Lk RX11 209 yX1_tonMiles := gd (hcw4_3 _ (List.mem_of_getElem? (i := 0) rfl)) rfl
def mX11_tollsKept : MD := (yX11_tollsKept, cX11_tollsKept, 5, (some .int), 2, 42, 0, 0)
theorem ccX11_tollsKept : Cc mX11_tollsKept 1 := ⟨gd (hcw1_0 _ (List.mem_of_getElem? (i := 1) rfl)) rfl, gd (hcw5_4 _ (List.mem_of_getElem? (i := 3) rfl)) rfl, by decide +kernel, by decide +kernel, by decide +kernel⟩
theorem ivX11_tollsKept : Iv mX11_tollsKept 11 := ⟨Nat.le_of_ble_eq_true rfl, rfl, gd (hcw5_4 _ (List.mem_of_getElem? (i := 2) rfl)) rfl, gd (hps2 _ (List.mem_of_getElem? (i := 12) rfl)) rfl⟩
noncomputable def fX11_tollsKept (Z : Shp) (M : Mem) (a0 : Nat) (x1 : Int32) : Option (Int32) := (loop (fun s1 : Int32 × Int32 => (if tg Z a0 = (12, 6) then (if tg Z (rR M a0 0) = (4, 11) then (if (rI M (rR M a0 0) 6) ≤ s1.2 then some (Sum.inr s1.1) else (if aok Z (rR M (rR M a0 0) 4) 113 s1.2 then (pu ((rR M (rR M (rR M a0 0) 4) (ix s1.2))) (fun z8 => (if tg Z (rR M a0 4) = (6, 9) then (Option.bind (fX5_goesOver Z M (rR M a0 4) z8 x1) (fun v10 => (if v10 = 0 then (if tg Z z8 = (2, 10) then (Option.bind (fX1_tonMiles Z M z8) (fun v14 => (pu ((s1.1 + (x1 * v14))) (fun z16 => some (Sum.inl (z16, (s1.2 + (1 : Int32)))))))) else none) else some (Sum.inl (s1.1, (s1.2 + (1 : Int32))))))) else none))) else none)) else none) else none)) ((0 : Int32), (0 : Int32)))
set_option maxRecDepth 20000 in
theorem kX11_tollsKept (l : Launch) (Z : Shp) (M : Mem) (a0 : Nat) (x1 : Int32) (r : Int32) (h : fX11_tollsKept Z M a0 x1 = some r) : Ct l mX11_tollsKept [vr a0, vi x1] Z M ((some (vi r)), Z, M) := by
  refine Ct.of rfl (Nat.le_of_ble_eq_true rfl) (fun X hM => ?_)
  have hX := hM.1
  refine r_top (mk := fun r => ((some (vi r)), Z, M)) h (fun K hK => ?_)
  unfold fX11_tollsKept
  refine r_iconst (v := (0 : Int32)) (q := 1) hX dX11_tollsKept_0 rfl rfl ?_
  refine r_istore_n (x := (0 : Int32)) (q := 2) 2 [1, 2, 0] (L1 := [(0, vr a0), (1, vi x1), (2, vi (0 : Int32))]) hX dX11_tollsKept_1 rfl (Nat.le_of_ble_eq_true rfl) rfl rfl ?_
  refine r_iconst (v := (0 : Int32)) (q := 3) hX dX11_tollsKept_2 rfl rfl ?_
  refine r_istore_n (x := (0 : Int32)) (q := 4) 3 [1, 2, 3, 0] (L1 := [(0, vr a0), (1, vi x1), (2, vi (0 : Int32)), (3, vi (0 : Int32))]) hX dX11_tollsKept_3 rfl (Nat.le_of_ble_eq_true rfl) rfl rfl ?_
  refine r_loop (Hd := fun (s1 : Int32 × Int32) (P : Option Res) => Ref mX11_tollsKept X 0 0 Z M 4 [(0, vr a0), (1, vi x1), (2, vi s1.1), (3, vi s1.2)] [] P) (fun _ => r_none) (fun s1 K1 hn2 hx3 => ?_) ((0 : Int32), (0 : Int32))
  refine r_iload_n (i := 3) (x := s1.2) (q := 5) 3 hX dX11_tollsKept_4 rfl rfl rfl ?_
  refine r_aload_n (i := 0) (x := a0) (q := 6) 0 hX dX11_tollsKept_5 rfl rfl rfl ?_
  refine r_ck (fun hc4 => ?_)
  refine r_getR (a := a0) (ci := 11) (kf := 0) (q := 9) hX hc4 flX11_12 rfl dX11_tollsKept_6 rfl ?_
  refine r_ck (fun hc5 => ?_)
  refine r_getI (a := (rR M a0 0)) (ci := 3) (kf := 6) (q := 12) hX hc5 flX11_73 rfl rfl dX11_tollsKept_9 rfl ?_
  refine r_icmp_ge (tgt := 55) (q := 15) hX dX11_tollsKept_12 (by decide) rfl (fun hb6 => ?_) (fun hb6 => ?_)
  · refine r_iload_n (i := 2) (x := s1.1) (q := 56) 2 hX dX11_tollsKept_55 rfl rfl rfl ?_
    refine r_lf ((hx3 _).trans (hK _)) ?_
    exact r_iret hM rfl (Nat.le_of_ble_eq_true rfl) (Nat.le_of_ble_eq_true rfl) dX11_tollsKept_56
  · refine r_aload_n (i := 0) (x := a0) (q := 16) 0 hX dX11_tollsKept_15 rfl rfl rfl ?_
    refine r_getR (a := a0) (ci := 11) (kf := 0) (q := 19) hX hc4 flX11_12 rfl dX11_tollsKept_16 rfl ?_
    refine r_getR (a := (rR M a0 0)) (ci := 3) (kf := 4) (q := 22) hX hc5 flX11_321 rfl dX11_tollsKept_19 rfl ?_
    refine r_iload_n (i := 3) (x := s1.2) (q := 23) 3 hX dX11_tollsKept_22 rfl rfl rfl ?_
    refine r_ck (fun hc7 => ?_)
    refine r_aald (a := (rR M (rR M a0 0) 4)) (i := s1.2) (q := 24) hX arT_113 hc7 dX11_tollsKept_23 rfl ?_
    refine r_astoreP (x := (rR M (rR M (rR M a0 0) 4) (ix s1.2))) (q := 26) 4 [1, 2, 3, 4, 0] (fun z8 => [(0, vr a0), (1, vi x1), (2, vi s1.1), (3, vi s1.2), (4, vr z8)]) hX dX11_tollsKept_24 (Nat.le_of_ble_eq_true rfl) (fun _ => rfl) rfl (fun z8 => ?_)
    refine r_aload_n (i := 0) (x := a0) (q := 27) 0 hX dX11_tollsKept_26 rfl rfl rfl ?_
    refine r_getR (a := a0) (ci := 11) (kf := 4) (q := 30) hX hc4 flX11_40 rfl dX11_tollsKept_27 rfl ?_
    refine r_aload (i := 4) (x := z8) (q := 32) 4 hX dX11_tollsKept_30 rfl rfl ?_
    refine r_iload_n (i := 1) (x := x1) (q := 33) 1 hX dX11_tollsKept_32 rfl rfl rfl ?_
    refine r_ck (fun hc9 => ?_)
    refine r_bind (fun v10 h11 => ?_)
    refine r_cv (a := (rR M a0 4)) (As := [vr z8, vi x1]) (st := []) (r := (some (vi v10))) (Z1 := Z) (M1 := M) (k1 := 0) (n1 := 0) (st1 := [vi v10]) (q := 36) hX (fun l => kX5_goesOver l Z M (rR M a0 4) z8 x1 v10 h11) hc9 ivX5_goesOver ccX5_goesOver (Or.inl lkX11_325) rfl rfl rfl ⟨Nat.le_of_ble_eq_true rfl, Nat.le_of_ble_eq_true rfl, rfl, rfl, Nat.le_of_ble_eq_true rfl, Nat.le_of_ble_eq_true rfl⟩ (Nat.le_of_ble_eq_true rfl) dX11_tollsKept_33 rfl ?_
    refine r_if_ne (tgt := 49) (q := 39) hX dX11_tollsKept_36 (by decide) rfl (fun hb12 => ?_) (fun hb12 => ?_)
    · refine r_iload_n (i := 2) (x := s1.1) (q := 40) 2 hX dX11_tollsKept_39 rfl rfl rfl ?_
      refine r_iload_n (i := 1) (x := x1) (q := 41) 1 hX dX11_tollsKept_40 rfl rfl rfl ?_
      refine r_aload (i := 4) (x := z8) (q := 43) 4 hX dX11_tollsKept_41 rfl rfl ?_
      refine r_ck (fun hc13 => ?_)
      refine r_bind (fun v14 h15 => ?_)
      refine r_cv (a := z8) (As := []) (st := [vi x1, vi s1.1]) (r := (some (vi v14))) (Z1 := Z) (M1 := M) (k1 := 0) (n1 := 0) (st1 := [vi v14, vi x1, vi s1.1]) (q := 46) hX (fun l => kX1_tonMiles l Z M z8 v14 h15) hc13 ivX1_tonMiles ccX1_tonMiles (Or.inl lkX11_209) rfl rfl rfl ⟨Nat.le_of_ble_eq_true rfl, Nat.le_of_ble_eq_true rfl, rfl, rfl, Nat.le_of_ble_eq_true rfl, Nat.le_of_ble_eq_true rfl⟩ (Nat.le_of_ble_eq_true rfl) dX11_tollsKept_43 rfl ?_
      refine r_imul (q := 47) hX dX11_tollsKept_46 rfl ?_
      refine r_iadd (q := 48) hX dX11_tollsKept_47 rfl ?_
      refine r_istore_nP (x := (s1.1 + (x1 * v14))) (q := 49) 2 [1, 2, 0, 4, 5] (fun z16 => [(0, vr a0), (1, vi x1), (2, vi z16), (3, vi s1.2), (4, vr z8)]) hX dX11_tollsKept_48 rfl (Nat.le_of_ble_eq_true rfl) (fun _ => rfl) rfl (fun z16 => ?_)
      refine r_iinc (x := s1.2) (v := (s1.2 + (1 : Int32))) (q := 52) 3 3 [1, 2, 3, 0, 5] (L1 := [(0, vr a0), (1, vi x1), (2, vi z16), (3, vi (s1.2 + (1 : Int32))), (4, vr z8)]) hX dX11_tollsKept_49 rfl rfl (Nat.le_of_ble_eq_true rfl) rfl rfl ?_
      refine r_goto (q := 4) hX dX11_tollsKept_52 (by decide) ?_
      refine r_l0 ?_
      refine r_sub [0, 1, 2, 3] rfl ?_
      exact hn2 (z16, (s1.2 + (1 : Int32)))
    · refine r_iinc (x := s1.2) (v := (s1.2 + (1 : Int32))) (q := 52) 3 3 [1, 2, 3, 0, 5] (L1 := [(0, vr a0), (1, vi x1), (2, vi s1.1), (3, vi (s1.2 + (1 : Int32))), (4, vr z8)]) hX dX11_tollsKept_49 rfl rfl (Nat.le_of_ble_eq_true rfl) rfl rfl ?_
      refine r_goto (q := 4) hX dX11_tollsKept_52 (by decide) ?_
      refine r_l0 ?_
      refine r_sub [0, 1, 2, 3] rfl ?_
      exact hn2 (s1.1, (s1.2 + (1 : Int32)))
theorem lkX11_329 : Lk RX11 329 yX11_tollsKept := gd (hcw5_4 _ (List.mem_of_getElem? (i := 0) rfl)) rfl
def mX11_bestPence : MD := (yX11_bestPence, cX11_bestPence, 6, (some .int), 3, 66, 0, 0)
theorem ccX11_bestPence : Cc mX11_bestPence 1 := ⟨gd (hcw1_0 _ (List.mem_of_getElem? (i := 1) rfl)) rfl, gd (hcw5_3 _ (List.mem_of_getElem? (i := 19) rfl)) rfl, by decide +kernel, by decide +kernel, by decide +kernel⟩
theorem ivX11_bestPence : Iv mX11_bestPence 11 := ⟨Nat.le_of_ble_eq_true rfl, rfl, gd (hcw5_3 _ (List.mem_of_getElem? (i := 17) rfl)) rfl, gd (hcw5_3 _ (List.mem_of_getElem? (i := 18) rfl)) rfl⟩
noncomputable def fX11_bestPence (Z : Shp) (M : Mem) (a0 : Nat) (x1 : Int32) : Option (Int32) := (if (fX11_within x1 (0 : Int32) (1 : Int32)) = 0 then some (-102 : Int32) else (loop (fun s2 : Int32 × Int32 × Int32 => (if (99 : Int32) < s2.2.2 then (if x1 = 0 then some (Sum.inr s2.1) else some (Sum.inr s2.2.1)) else (if tg Z a0 = (12, 6) then (Option.bind (fX11_tollsKept Z M a0 s2.2.2) (fun v8 => (if v8 ≤ s2.2.1 then some (Sum.inl (s2.1, s2.2.1, (s2.2.2 + (1 : Int32)))) else some (Sum.inl (s2.2.2, v8, (s2.2.2 + (1 : Int32))))))) else none))) ((0 : Int32), (0 : Int32), (1 : Int32))))
set_option maxRecDepth 20000 in
theorem kX11_bestPence (l : Launch) (Z : Shp) (M : Mem) (a0 : Nat) (x1 : Int32) (r : Int32) (h : fX11_bestPence Z M a0 x1 = some r) : Ct l mX11_bestPence [vr a0, vi x1] Z M ((some (vi r)), Z, M) := by
  refine Ct.of rfl (Nat.le_of_ble_eq_true rfl) (fun X hM => ?_)
  have hX := hM.1
  refine r_top (mk := fun r => ((some (vi r)), Z, M)) h (fun K hK => ?_)
  unfold fX11_bestPence
  refine r_iload_n (i := 1) (x := x1) (q := 1) 1 hX dX11_bestPence_0 rfl rfl rfl ?_
  refine r_iconst (v := (0 : Int32)) (q := 2) hX dX11_bestPence_1 rfl rfl ?_
  refine r_iconst (v := (1 : Int32)) (q := 3) hX dX11_bestPence_2 rfl rfl ?_
  refine r_cs (As := [vi x1, vi (0 : Int32), vi (1 : Int32)]) (st := []) (r := (some (vi (fX11_within x1 (0 : Int32) (1 : Int32))))) (Z1 := Z) (M1 := M) (k1 := 0) (n1 := 0) (st1 := [vi (fX11_within x1 (0 : Int32) (1 : Int32))]) (q := 6) hX (fun l => kX11_within l Z M x1 (0 : Int32) (1 : Int32)) stX11_within ccX11_within (Or.inl lkX11_55) rfl rfl rfl ⟨Nat.le_of_ble_eq_true rfl, Nat.le_of_ble_eq_true rfl, rfl, rfl, Nat.le_of_ble_eq_true rfl, Nat.le_of_ble_eq_true rfl⟩ (Nat.le_of_ble_eq_true rfl) dX11_bestPence_3 rfl ?_
  refine r_if_ne (tgt := 12) (q := 9) hX dX11_bestPence_6 (by decide) rfl (fun hb1 => ?_) (fun hb1 => ?_)
  · refine r_bipush (v := (-102 : Int32)) (q := 11) hX dX11_bestPence_9 rfl rfl ?_
    refine r_lf (hK _) ?_
    exact r_iret hM rfl (Nat.le_of_ble_eq_true rfl) (Nat.le_of_ble_eq_true rfl) dX11_bestPence_11
  · refine r_iconst (v := (0 : Int32)) (q := 13) hX dX11_bestPence_12 rfl rfl ?_
    refine r_istore_n (x := (0 : Int32)) (q := 14) 2 [1, 2, 0] (L1 := [(0, vr a0), (1, vi x1), (2, vi (0 : Int32))]) hX dX11_bestPence_13 rfl (Nat.le_of_ble_eq_true rfl) rfl rfl ?_
    refine r_iconst (v := (0 : Int32)) (q := 15) hX dX11_bestPence_14 rfl rfl ?_
    refine r_istore_n (x := (0 : Int32)) (q := 16) 3 [1, 2, 3, 0] (L1 := [(0, vr a0), (1, vi x1), (2, vi (0 : Int32)), (3, vi (0 : Int32))]) hX dX11_bestPence_15 rfl (Nat.le_of_ble_eq_true rfl) rfl rfl ?_
    refine r_iconst (v := (1 : Int32)) (q := 17) hX dX11_bestPence_16 rfl rfl ?_
    refine r_istore (x := (1 : Int32)) (q := 19) 4 [1, 2, 3, 4, 0] (L1 := [(0, vr a0), (1, vi x1), (2, vi (0 : Int32)), (3, vi (0 : Int32)), (4, vi (1 : Int32))]) hX dX11_bestPence_17 (Nat.le_of_ble_eq_true rfl) rfl rfl ?_
    refine r_loop (Hd := fun (s2 : Int32 × Int32 × Int32) (P : Option Res) => Ref mX11_bestPence X 0 0 Z M 19 [(0, vr a0), (1, vi x1), (2, vi s2.1), (3, vi s2.2.1), (4, vi s2.2.2)] [] P) (fun _ => r_none) (fun s2 K1 hn3 hx4 => ?_) ((0 : Int32), (0 : Int32), (1 : Int32))
    refine r_iload (i := 4) (x := s2.2.2) (q := 21) 4 hX dX11_bestPence_19 rfl rfl ?_
    refine r_bipush (v := (99 : Int32)) (q := 23) hX dX11_bestPence_21 rfl rfl ?_
    refine r_icmp_gt (tgt := 52) (q := 26) hX dX11_bestPence_23 (by decide) rfl (fun hb5 => ?_) (fun hb5 => ?_)
    · refine r_iload_n (i := 1) (x := x1) (q := 53) 1 hX dX11_bestPence_52 rfl rfl rfl ?_
      refine r_if_ne (tgt := 60) (q := 56) hX dX11_bestPence_53 (by decide) rfl (fun hb6 => ?_) (fun hb6 => ?_)
      · refine r_iload_n (i := 2) (x := s2.1) (q := 57) 2 hX dX11_bestPence_56 rfl rfl rfl ?_
        refine r_goto (q := 61) hX dX11_bestPence_57 (by decide) ?_
        refine r_lf ((hx4 _).trans (hK _)) ?_
        exact r_iret hM rfl (Nat.le_of_ble_eq_true rfl) (Nat.le_of_ble_eq_true rfl) dX11_bestPence_61
      · refine r_iload_n (i := 3) (x := s2.2.1) (q := 61) 3 hX dX11_bestPence_60 rfl rfl rfl ?_
        refine r_lf ((hx4 _).trans (hK _)) ?_
        exact r_iret hM rfl (Nat.le_of_ble_eq_true rfl) (Nat.le_of_ble_eq_true rfl) dX11_bestPence_61
    · refine r_aload_n (i := 0) (x := a0) (q := 27) 0 hX dX11_bestPence_26 rfl rfl rfl ?_
      refine r_iload (i := 4) (x := s2.2.2) (q := 29) 4 hX dX11_bestPence_27 rfl rfl ?_
      refine r_ck (fun hc7 => ?_)
      refine r_bind (fun v8 h9 => ?_)
      refine r_cv (a := a0) (As := [vi s2.2.2]) (st := []) (r := (some (vi v8))) (Z1 := Z) (M1 := M) (k1 := 0) (n1 := 0) (st1 := [vi v8]) (q := 32) hX (fun l => kX11_tollsKept l Z M a0 s2.2.2 v8 h9) hc7 ivX11_tollsKept ccX11_tollsKept (Or.inl lkX11_329) rfl rfl rfl ⟨Nat.le_of_ble_eq_true rfl, Nat.le_of_ble_eq_true rfl, rfl, rfl, Nat.le_of_ble_eq_true rfl, Nat.le_of_ble_eq_true rfl⟩ (Nat.le_of_ble_eq_true rfl) dX11_bestPence_29 rfl ?_
      refine r_istore (x := v8) (q := 34) 5 [1, 2, 3, 4, 5, 0] (L1 := [(0, vr a0), (1, vi x1), (2, vi s2.1), (3, vi s2.2.1), (4, vi s2.2.2), (5, vi v8)]) hX dX11_bestPence_32 (Nat.le_of_ble_eq_true rfl) rfl rfl ?_
      refine r_iload (i := 5) (x := v8) (q := 36) 5 hX dX11_bestPence_34 rfl rfl ?_
      refine r_iload_n (i := 3) (x := s2.2.1) (q := 37) 3 hX dX11_bestPence_36 rfl rfl rfl ?_
      refine r_icmp_le (tgt := 46) (q := 40) hX dX11_bestPence_37 (by decide) rfl (fun hb10 => ?_) (fun hb10 => ?_)
      · refine r_iinc (x := s2.2.2) (v := (s2.2.2 + (1 : Int32))) (q := 49) 4 4 [1, 2, 3, 4, 0, 6] (L1 := [(0, vr a0), (1, vi x1), (2, vi s2.1), (3, vi s2.2.1), (4, vi (s2.2.2 + (1 : Int32))), (5, vi v8)]) hX dX11_bestPence_46 rfl rfl (Nat.le_of_ble_eq_true rfl) rfl rfl ?_
        refine r_goto (q := 19) hX dX11_bestPence_49 (by decide) ?_
        refine r_l0 ?_
        refine r_sub [0, 1, 2, 3, 4] rfl ?_
        exact hn3 (s2.1, s2.2.1, (s2.2.2 + (1 : Int32)))
      · refine r_iload (i := 4) (x := s2.2.2) (q := 42) 4 hX dX11_bestPence_40 rfl rfl ?_
        refine r_istore_n (x := s2.2.2) (q := 43) 2 [1, 2, 0, 4, 5, 6] (L1 := [(0, vr a0), (1, vi x1), (2, vi s2.2.2), (3, vi s2.2.1), (4, vi s2.2.2), (5, vi v8)]) hX dX11_bestPence_42 rfl (Nat.le_of_ble_eq_true rfl) rfl rfl ?_
        refine r_iload (i := 5) (x := v8) (q := 45) 5 hX dX11_bestPence_43 rfl rfl ?_
        refine r_istore_n (x := v8) (q := 46) 3 [1, 2, 3, 0, 5, 6] (L1 := [(0, vr a0), (1, vi x1), (2, vi s2.2.2), (3, vi v8), (4, vi s2.2.2), (5, vi v8)]) hX dX11_bestPence_45 rfl (Nat.le_of_ble_eq_true rfl) rfl rfl ?_
        refine r_iinc (x := s2.2.2) (v := (s2.2.2 + (1 : Int32))) (q := 49) 4 4 [1, 2, 3, 4, 0, 6] (L1 := [(0, vr a0), (1, vi x1), (2, vi s2.2.2), (3, vi v8), (4, vi (s2.2.2 + (1 : Int32))), (5, vi v8)]) hX dX11_bestPence_46 rfl rfl (Nat.le_of_ble_eq_true rfl) rfl rfl ?_
        refine r_goto (q := 19) hX dX11_bestPence_49 (by decide) ?_
        refine r_l0 ?_
        refine r_sub [0, 1, 2, 3, 4] rfl ?_
        exact hn3 (s2.2.2, v8, (s2.2.2 + (1 : Int32)))
def mX8_isSign : MD := (yX8_isSign, cX8_isSign, 1, (some .boolean), 0, 0, 0, 0)
theorem ccX8_isSign : Cc mX8_isSign 1 := ⟨gd (hcw1_0 _ (List.mem_of_getElem? (i := 14) rfl)) rfl, gd (hcw3_9 _ (List.mem_of_getElem? (i := 7) rfl)) rfl, by decide +kernel, by decide +kernel, by decide +kernel⟩
theorem stX8_isSign : Cond.static (yN mX8_isSign) ∈ lw_gd := gd (hcw3_9 _ (List.mem_of_getElem? (i := 6) rfl)) rfl
def fX8_isSign (x0 : Int32) : Int32 := (if x0 = (60 : Int32) then (1 : Int32) else (if x0 = (61 : Int32) then (1 : Int32) else (if x0 = (62 : Int32) then (1 : Int32) else (0 : Int32))))
def gX8_isSign (x0 : Int32) : Option (Int32) := (if x0 = (60 : Int32) then some (1 : Int32) else (if x0 = (61 : Int32) then some (1 : Int32) else (if x0 = (62 : Int32) then some (1 : Int32) else some (0 : Int32))))
theorem eX8_isSign (x0 : Int32) : gX8_isSign x0 = some (fX8_isSign x0) := by
  unfold gX8_isSign fX8_isSign
  try simp only [pu]
  (repeat' split) <;> rfl
theorem bX8_isSign (x0 : Int32) : zb (fX8_isSign x0) := by
  unfold fX8_isSign
  try simp only [pu]
  (repeat' split) <;> first | exact Or.inl rfl | exact Or.inr rfl
set_option maxRecDepth 20000 in
theorem kX8_isSign (l : Launch) (Z : Shp) (M : Mem) (x0 : Int32) : Ct l mX8_isSign [vi x0] Z M ((some (vi (fX8_isSign x0))), Z, M) := by
  refine Ct.of rfl (Nat.le_of_ble_eq_true rfl) (fun X hM => ?_)
  have hX := hM.1
  refine r_top (mk := fun r => ((some (vi r)), Z, M)) (eX8_isSign x0) (fun K hK => ?_)
  unfold gX8_isSign
  refine r_iload_n (i := 0) (x := x0) (q := 1) 0 hX dX8_isSign_0 rfl rfl rfl ?_
  refine r_bipush (v := (60 : Int32)) (q := 3) hX dX8_isSign_1 rfl rfl ?_
  refine r_icmp_eq (tgt := 18) (q := 6) hX dX8_isSign_3 (by decide) rfl (fun hb1 => ?_) (fun hb1 => ?_)
  · refine r_iconst (v := (1 : Int32)) (q := 19) hX dX8_isSign_18 rfl rfl ?_
    refine r_goto (q := 23) hX dX8_isSign_19 (by decide) ?_
    refine r_lf (hK _) ?_
    exact r_zret hM rfl (Or.inr rfl) (Nat.le_of_ble_eq_true rfl) (Nat.le_of_ble_eq_true rfl) dX8_isSign_23
  · refine r_iload_n (i := 0) (x := x0) (q := 7) 0 hX dX8_isSign_6 rfl rfl rfl ?_
    refine r_bipush (v := (61 : Int32)) (q := 9) hX dX8_isSign_7 rfl rfl ?_
    refine r_icmp_eq (tgt := 18) (q := 12) hX dX8_isSign_9 (by decide) rfl (fun hb2 => ?_) (fun hb2 => ?_)
    · refine r_iconst (v := (1 : Int32)) (q := 19) hX dX8_isSign_18 rfl rfl ?_
      refine r_goto (q := 23) hX dX8_isSign_19 (by decide) ?_
      refine r_lf (hK _) ?_
      exact r_zret hM rfl (Or.inr rfl) (Nat.le_of_ble_eq_true rfl) (Nat.le_of_ble_eq_true rfl) dX8_isSign_23
    · refine r_iload_n (i := 0) (x := x0) (q := 13) 0 hX dX8_isSign_12 rfl rfl rfl ?_
      refine r_bipush (v := (62 : Int32)) (q := 15) hX dX8_isSign_13 rfl rfl ?_
      refine r_icmp_ne (tgt := 22) (q := 18) hX dX8_isSign_15 (by decide) rfl (fun hb3 => ?_) (fun hb3 => ?_)
      · refine r_iconst (v := (1 : Int32)) (q := 19) hX dX8_isSign_18 rfl rfl ?_
        refine r_goto (q := 23) hX dX8_isSign_19 (by decide) ?_
        refine r_lf (hK _) ?_
        exact r_zret hM rfl (Or.inr rfl) (Nat.le_of_ble_eq_true rfl) (Nat.le_of_ble_eq_true rfl) dX8_isSign_23
      · refine r_iconst (v := (0 : Int32)) (q := 23) hX dX8_isSign_22 rfl rfl ?_
        refine r_lf (hK _) ?_
        exact r_zret hM rfl (Or.inl rfl) (Nat.le_of_ble_eq_true rfl) (Nat.le_of_ble_eq_true rfl) dX8_isSign_23
theorem flX8_69 : FL RX8 69 1 4 := ⟨Nat.le_of_ble_eq_true rfl, Nat.le_of_ble_eq_true rfl, gd (hcw2_10 _ (List.mem_of_getElem? (i := 10) rfl)) rfl⟩
theorem flX8_66 : FL RX8 66 1 3 := ⟨Nat.le_of_ble_eq_true rfl, Nat.le_of_ble_eq_true rfl, gd (hcw2_10 _ (List.mem_of_getElem? (i := 7) rfl)) rfl⟩
theorem flX8_58 : FL RX8 58 1 1 := ⟨Nat.le_of_ble_eq_true rfl, Nat.le_of_ble_eq_true rfl, gd (hcw2_10 _ (List.mem_of_getElem? (i := 3) rfl)) rfl⟩
theorem flX8_63 : FL RX8 63 1 5 := ⟨Nat.le_of_ble_eq_true rfl, Nat.le_of_ble_eq_true rfl, gd (hcw2_10 _ (List.mem_of_getElem? (i := 14) rfl)) rfl⟩
def mX8_valueOf : MD := (yX8_valueOf, cX8_valueOf, 3, (some .int), 0, 0, 0, 0)
theorem ccX8_valueOf : Cc mX8_valueOf 3 := ⟨gd (hcw1_0 _ (List.mem_of_getElem? (i := 14) rfl)) rfl, gd (hcw4_2 _ (List.mem_of_getElem? (i := 0) rfl)) rfl, by decide +kernel, by decide +kernel, by decide +kernel⟩
theorem stX8_valueOf : Cond.static (yN mX8_valueOf) ∈ lw_gd := gd (hcw4_1 _ (List.mem_of_getElem? (i := 19) rfl)) rfl
def fX8_valueOf (Z : Shp) (M : Mem) (x0 : Int32) (a1 : Nat) (x2 : Int32) : Option (Int32) := (if x0 = (99 : Int32) then (if tg Z a1 = (2, 10) then some (rI M a1 4) else none) else (if x0 = (103 : Int32) then (if tg Z a1 = (2, 10) then some (rI M a1 3) else none) else (if x0 = (108 : Int32) then (if tg Z a1 = (2, 10) then some (rI M a1 1) else none) else (if x0 = (109 : Int32) then (if tg Z a1 = (2, 10) then some (rI M a1 5) else none) else some x2))))
set_option maxRecDepth 20000 in
theorem kX8_valueOf (l : Launch) (Z : Shp) (M : Mem) (x0 : Int32) (a1 : Nat) (x2 : Int32) (r : Int32) (h : fX8_valueOf Z M x0 a1 x2 = some r) : Ct l mX8_valueOf [vi x0, vr a1, vi x2] Z M ((some (vi r)), Z, M) := by
  refine Ct.of rfl (Nat.le_of_ble_eq_true rfl) (fun X hM => ?_)
  have hX := hM.1
  refine r_top (mk := fun r => ((some (vi r)), Z, M)) h (fun K hK => ?_)
  unfold fX8_valueOf
  refine r_iload_n (i := 0) (x := x0) (q := 1) 0 hX dX8_valueOf_0 rfl rfl rfl ?_
  refine r_ite (fun hb1 => ?_) (fun hb1 => ?_)
  · refine r_lswI (off := 58) (q := 59) hX hb1 dX8_valueOf_1 (by decide) (by decide) ?_
    refine r_aload_n (i := 1) (x := a1) (q := 60) 1 hX dX8_valueOf_59 rfl rfl rfl ?_
    refine r_ck (fun hc2 => ?_)
    refine r_getI (a := a1) (ci := 1) (kf := 4) (q := 63) hX hc2 flX8_69 rfl rfl dX8_valueOf_60 rfl ?_
    refine r_lf (hK _) ?_
    exact r_iret hM rfl (Nat.le_of_ble_eq_true rfl) (Nat.le_of_ble_eq_true rfl) dX8_valueOf_63
  · refine r_ite (fun hb3 => ?_) (fun hb3 => ?_)
    · refine r_lswI (off := 53) (q := 54) hX hb3 dX8_valueOf_1 (by decide) (by decide) ?_
      refine r_aload_n (i := 1) (x := a1) (q := 55) 1 hX dX8_valueOf_54 rfl rfl rfl ?_
      refine r_ck (fun hc4 => ?_)
      refine r_getI (a := a1) (ci := 1) (kf := 3) (q := 58) hX hc4 flX8_66 rfl rfl dX8_valueOf_55 rfl ?_
      refine r_lf (hK _) ?_
      exact r_iret hM rfl (Nat.le_of_ble_eq_true rfl) (Nat.le_of_ble_eq_true rfl) dX8_valueOf_58
    · refine r_ite (fun hb5 => ?_) (fun hb5 => ?_)
      · refine r_lswI (off := 43) (q := 44) hX hb5 dX8_valueOf_1 (by decide) (by decide) ?_
        refine r_aload_n (i := 1) (x := a1) (q := 45) 1 hX dX8_valueOf_44 rfl rfl rfl ?_
        refine r_ck (fun hc6 => ?_)
        refine r_getI (a := a1) (ci := 1) (kf := 1) (q := 48) hX hc6 flX8_58 rfl rfl dX8_valueOf_45 rfl ?_
        refine r_lf (hK _) ?_
        exact r_iret hM rfl (Nat.le_of_ble_eq_true rfl) (Nat.le_of_ble_eq_true rfl) dX8_valueOf_48
      · refine r_ite (fun hb7 => ?_) (fun hb7 => ?_)
        · refine r_lswI (off := 48) (q := 49) hX hb7 dX8_valueOf_1 (by decide) (by decide) ?_
          refine r_aload_n (i := 1) (x := a1) (q := 50) 1 hX dX8_valueOf_49 rfl rfl rfl ?_
          refine r_ck (fun hc8 => ?_)
          refine r_getI (a := a1) (ci := 1) (kf := 5) (q := 53) hX hc8 flX8_63 rfl rfl dX8_valueOf_50 rfl ?_
          refine r_lf (hK _) ?_
          exact r_iret hM rfl (Nat.le_of_ble_eq_true rfl) (Nat.le_of_ble_eq_true rfl) dX8_valueOf_53
        · refine r_lswO (cs := [(99 : Int32), (103 : Int32), (108 : Int32), (109 : Int32)]) (q := 64) hX ⟨hb1, ⟨hb3, ⟨hb5, ⟨hb7, trivial⟩⟩⟩⟩ dX8_valueOf_1 (by decide) (by decide) ?_
          refine r_iload_n (i := 2) (x := x2) (q := 65) 2 hX dX8_valueOf_64 rfl rfl rfl ?_
          refine r_lf (hK _) ?_
          exact r_iret hM rfl (Nat.le_of_ble_eq_true rfl) (Nat.le_of_ble_eq_true rfl) dX8_valueOf_65
def mX2_isDigit : MD := (yX2_isDigit, cX2_isDigit, 1, (some .boolean), 0, 0, 0, 0)
theorem ccX2_isDigit : Cc mX2_isDigit 1 := ⟨gd (hcw1_0 _ (List.mem_of_getElem? (i := 5) rfl)) rfl, gd (hcw3_8 _ (List.mem_of_getElem? (i := 18) rfl)) rfl, by decide +kernel, by decide +kernel, by decide +kernel⟩
theorem stX2_isDigit : Cond.static (yN mX2_isDigit) ∈ lw_gd := gd (hcw3_8 _ (List.mem_of_getElem? (i := 17) rfl)) rfl
def fX2_isDigit (x0 : Int32) : Int32 := (if x0 < (48 : Int32) then (0 : Int32) else (if (57 : Int32) < x0 then (0 : Int32) else (1 : Int32)))
def gX2_isDigit (x0 : Int32) : Option (Int32) := (if x0 < (48 : Int32) then some (0 : Int32) else (if (57 : Int32) < x0 then some (0 : Int32) else some (1 : Int32)))
theorem eX2_isDigit (x0 : Int32) : gX2_isDigit x0 = some (fX2_isDigit x0) := by
  unfold gX2_isDigit fX2_isDigit
  try simp only [pu]
  (repeat' split) <;> rfl
theorem bX2_isDigit (x0 : Int32) : zb (fX2_isDigit x0) := by
  unfold fX2_isDigit
  try simp only [pu]
  (repeat' split) <;> first | exact Or.inl rfl | exact Or.inr rfl
set_option maxRecDepth 20000 in
theorem kX2_isDigit (l : Launch) (Z : Shp) (M : Mem) (x0 : Int32) : Ct l mX2_isDigit [vi x0] Z M ((some (vi (fX2_isDigit x0))), Z, M) := by
  refine Ct.of rfl (Nat.le_of_ble_eq_true rfl) (fun X hM => ?_)
  have hX := hM.1
  refine r_top (mk := fun r => ((some (vi r)), Z, M)) (eX2_isDigit x0) (fun K hK => ?_)
  unfold gX2_isDigit
  refine r_iload_n (i := 0) (x := x0) (q := 1) 0 hX dX2_isDigit_0 rfl rfl rfl ?_
  refine r_bipush (v := (48 : Int32)) (q := 3) hX dX2_isDigit_1 rfl rfl ?_
  refine r_icmp_lt (tgt := 16) (q := 6) hX dX2_isDigit_3 (by decide) rfl (fun hb1 => ?_) (fun hb1 => ?_)
  · refine r_iconst (v := (0 : Int32)) (q := 17) hX dX2_isDigit_16 rfl rfl ?_
    refine r_lf (hK _) ?_
    exact r_zret hM rfl (Or.inl rfl) (Nat.le_of_ble_eq_true rfl) (Nat.le_of_ble_eq_true rfl) dX2_isDigit_17
  · refine r_iload_n (i := 0) (x := x0) (q := 7) 0 hX dX2_isDigit_6 rfl rfl rfl ?_
    refine r_bipush (v := (57 : Int32)) (q := 9) hX dX2_isDigit_7 rfl rfl ?_
    refine r_icmp_gt (tgt := 16) (q := 12) hX dX2_isDigit_9 (by decide) rfl (fun hb2 => ?_) (fun hb2 => ?_)
    · refine r_iconst (v := (0 : Int32)) (q := 17) hX dX2_isDigit_16 rfl rfl ?_
      refine r_lf (hK _) ?_
      exact r_zret hM rfl (Or.inl rfl) (Nat.le_of_ble_eq_true rfl) (Nat.le_of_ble_eq_true rfl) dX2_isDigit_17
    · refine r_iconst (v := (1 : Int32)) (q := 13) hX dX2_isDigit_12 rfl rfl ?_
      refine r_goto (q := 17) hX dX2_isDigit_13 (by decide) ?_
      refine r_lf (hK _) ?_
      exact r_zret hM rfl (Or.inr rfl) (Nat.le_of_ble_eq_true rfl) (Nat.le_of_ble_eq_true rfl) dX2_isDigit_17
theorem flX8_15 : FL RX8 15 8 0 := ⟨Nat.le_of_ble_eq_true rfl, Nat.le_of_ble_eq_true rfl, gd (hcw3_11 _ (List.mem_of_getElem? (i := 4) rfl)) rfl⟩
theorem lkX8_54 : Lk RX8 54 yX8_valueOf := gd (hcw4_1 _ (List.mem_of_getElem? (i := 18) rfl)) rfl
theorem lkX8_22 : Lk RX8 22 yX2_isDigit := gd (hcw3_11 _ (List.mem_of_getElem? (i := 3) rfl)) rfl
def mX8_compares : MD := (yX8_compares, cX8_compares, 7, (some .boolean), 1, 22, 0, 0)
theorem ccX8_compares : Cc mX8_compares 3 := ⟨gd (hcw1_0 _ (List.mem_of_getElem? (i := 14) rfl)) rfl, gd (hcw4_1 _ (List.mem_of_getElem? (i := 17) rfl)) rfl, by decide +kernel, by decide +kernel, by decide +kernel⟩
theorem ivX8_compares : Iv mX8_compares 8 := ⟨Nat.le_of_ble_eq_true rfl, rfl, gd (hcw4_1 _ (List.mem_of_getElem? (i := 16) rfl)) rfl, gd (hps1 _ (List.mem_of_getElem? (i := 10) rfl)) rfl⟩
noncomputable def fX8_compares (Z : Shp) (M : Mem) (a0 : Nat) (x1 : Int32) (a2 : Nat) (x3 : Int32) : Option (Int32) := (Option.bind (if x1 ≤ 0 then some (0 : Int32) else (if tg Z a0 = (9, 6) then (if aok Z (rR M a0 0) 102 (x1 - (1 : Int32)) then some (rI M (rR M a0 0) (ix (x1 - (1 : Int32)))) else none) else none)) (fun v4 : Int32 => (Option.bind (fX8_valueOf Z M v4 a2 x3) (fun v7 => (pu ((x1 + (1 : Int32))) (fun z9 => (Option.bind (loop (fun s13 : Int32 × Int32 => (if tg Z a0 = (9, 6) then (if (tg Z (rR M a0 0)).1 = 102 then (if (nI (tg Z (rR M a0 0)).2) ≤ s13.2 then some (Sum.inr s13.1) else (if aok Z (rR M a0 0) 102 s13.2 then (if (fX2_isDigit (rI M (rR M a0 0) (ix s13.2))) = 0 then some (Sum.inr s13.1) else (pu (((((10 : Int32) * s13.1) + (rI M (rR M a0 0) (ix s13.2))) - (48 : Int32))) (fun z21 => some (Sum.inl (z21, (s13.2 + (1 : Int32))))))) else none)) else none) else none)) ((0 : Int32), z9)) (fun v12 : Int32 => (if tg Z a0 = (9, 6) then (if aok Z (rR M a0 0) 102 x1 then (if (rI M (rR M a0 0) (ix x1)) = (60 : Int32) then (if v12 ≤ v7 then some (0 : Int32) else some (1 : Int32)) else (if (rI M (rR M a0 0) (ix x1)) = (61 : Int32) then (if v7 = v12 then some (1 : Int32) else some (0 : Int32)) else (if v7 ≤ v12 then some (0 : Int32) else some (1 : Int32)))) else none) else none)))))))))
set_option maxRecDepth 20000 in
theorem kX8_compares (l : Launch) (Z : Shp) (M : Mem) (a0 : Nat) (x1 : Int32) (a2 : Nat) (x3 : Int32) (r : Int32) (h : fX8_compares Z M a0 x1 a2 x3 = some r) : Ct l mX8_compares [vr a0, vi x1, vr a2, vi x3] Z M ((some (vi r)), Z, M) := by
  refine Ct.of rfl (Nat.le_of_ble_eq_true rfl) (fun X hM => ?_)
  have hX := hM.1
  refine r_top (mk := fun r => ((some (vi r)), Z, M)) h (fun K hK => ?_)
  unfold fX8_compares
  refine r_iload_n (i := 1) (x := x1) (q := 1) 1 hX dX8_compares_0 rfl rfl rfl ?_
  refine r_jn (J := fun (v4 : Int32) (P : Option Res) => Ref mX8_compares X 0 0 Z M 16 [(0, vr a0), (1, vi x1), (2, vr a2), (3, vi x3)] [vi v4] P) (fun v4 => ?_) (fun K1 hj2 => ?_)
  · refine r_aload_n (i := 2) (x := a2) (q := 17) 2 hX dX8_compares_16 rfl rfl rfl ?_
    refine r_iload_n (i := 3) (x := x3) (q := 18) 3 hX dX8_compares_17 rfl rfl rfl ?_
    refine r_bind (fun v7 h8 => ?_)
    refine r_cs (As := [vi v4, vr a2, vi x3]) (st := []) (r := (some (vi v7))) (Z1 := Z) (M1 := M) (k1 := 0) (n1 := 0) (st1 := [vi v7]) (q := 21) hX (fun l => kX8_valueOf l Z M v4 a2 x3 v7 h8) stX8_valueOf ccX8_valueOf (Or.inl lkX8_54) rfl rfl rfl ⟨Nat.le_of_ble_eq_true rfl, Nat.le_of_ble_eq_true rfl, rfl, rfl, Nat.le_of_ble_eq_true rfl, Nat.le_of_ble_eq_true rfl⟩ (Nat.le_of_ble_eq_true rfl) dX8_compares_18 rfl ?_
    refine r_istore (x := v7) (q := 23) 4 [1, 2, 3, 4, 0] (L1 := [(0, vr a0), (1, vi x1), (2, vr a2), (3, vi x3), (4, vi v7)]) hX dX8_compares_21 (Nat.le_of_ble_eq_true rfl) rfl rfl ?_
    refine r_iconst (v := (0 : Int32)) (q := 24) hX dX8_compares_23 rfl rfl ?_
    refine r_istore (x := (0 : Int32)) (q := 26) 5 [1, 2, 3, 4, 5, 0] (L1 := [(0, vr a0), (1, vi x1), (2, vr a2), (3, vi x3), (4, vi v7), (5, vi (0 : Int32))]) hX dX8_compares_24 (Nat.le_of_ble_eq_true rfl) rfl rfl ?_
    refine r_iload_n (i := 1) (x := x1) (q := 27) 1 hX dX8_compares_26 rfl rfl rfl ?_
    refine r_iconst (v := (1 : Int32)) (q := 28) hX dX8_compares_27 rfl rfl ?_
    refine r_iadd (q := 29) hX dX8_compares_28 rfl ?_
    refine r_istoreP (x := (x1 + (1 : Int32))) (q := 31) 6 [1, 2, 3, 4, 5, 6, 0] (fun z9 => [(0, vr a0), (1, vi x1), (2, vr a2), (3, vi x3), (4, vi v7), (5, vi (0 : Int32)), (6, vi z9)]) hX dX8_compares_29 (Nat.le_of_ble_eq_true rfl) (fun _ => rfl) rfl (fun z9 => ?_)
    refine r_jn (J := fun (v12 : Int32) (P : Option Res) => Ref mX8_compares X 0 0 Z M 78 [(0, vr a0), (1, vi x1), (4, vi v7), (5, vi v12)] [] P) (fun v12 => ?_) (fun K1 hj10 => ?_)
    · refine r_aload_n (i := 0) (x := a0) (q := 79) 0 hX dX8_compares_78 rfl rfl rfl ?_
      refine r_ck (fun hc22 => ?_)
      refine r_getR (a := a0) (ci := 8) (kf := 0) (q := 82) hX hc22 flX8_15 rfl dX8_compares_79 rfl ?_
      refine r_iload_n (i := 1) (x := x1) (q := 83) 1 hX dX8_compares_82 rfl rfl rfl ?_
      refine r_ck (fun hc23 => ?_)
      refine r_bald (a := (rR M a0 0)) (i := x1) (q := 84) hX hc23 dX8_compares_83 rfl ?_
      refine r_bipush (v := (60 : Int32)) (q := 86) hX dX8_compares_84 rfl rfl ?_
      refine r_icmp_ne (tgt := 102) (q := 89) hX dX8_compares_86 (by decide) rfl (fun hb24 => ?_) (fun hb24 => ?_)
      · refine r_iload (i := 4) (x := v7) (q := 91) 2 hX dX8_compares_89 rfl rfl ?_
        refine r_iload (i := 5) (x := v12) (q := 93) 3 hX dX8_compares_91 rfl rfl ?_
        refine r_icmp_ge (tgt := 100) (q := 96) hX dX8_compares_93 (by decide) rfl (fun hb25 => ?_) (fun hb25 => ?_)
        · refine r_iconst (v := (0 : Int32)) (q := 101) hX dX8_compares_100 rfl rfl ?_
          refine r_lf (hK _) ?_
          exact r_zret hM rfl (Or.inl rfl) (Nat.le_of_ble_eq_true rfl) (Nat.le_of_ble_eq_true rfl) dX8_compares_101
        · refine r_iconst (v := (1 : Int32)) (q := 97) hX dX8_compares_96 rfl rfl ?_
          refine r_goto (q := 101) hX dX8_compares_97 (by decide) ?_
          refine r_lf (hK _) ?_
          exact r_zret hM rfl (Or.inr rfl) (Nat.le_of_ble_eq_true rfl) (Nat.le_of_ble_eq_true rfl) dX8_compares_101
      · refine r_aload_n (i := 0) (x := a0) (q := 103) 0 hX dX8_compares_102 rfl rfl rfl ?_
        refine r_getR (a := a0) (ci := 8) (kf := 0) (q := 106) hX hc22 flX8_15 rfl dX8_compares_103 rfl ?_
        refine r_iload_n (i := 1) (x := x1) (q := 107) 1 hX dX8_compares_106 rfl rfl rfl ?_
        refine r_bald (a := (rR M a0 0)) (i := x1) (q := 108) hX hc23 dX8_compares_107 rfl ?_
        refine r_bipush (v := (61 : Int32)) (q := 110) hX dX8_compares_108 rfl rfl ?_
        refine r_icmp_ne (tgt := 128) (q := 113) hX dX8_compares_110 (by decide) rfl (fun hb26 => ?_) (fun hb26 => ?_)
        · refine r_iload (i := 4) (x := v7) (q := 115) 2 hX dX8_compares_113 rfl rfl ?_
          refine r_iload (i := 5) (x := v12) (q := 117) 3 hX dX8_compares_115 rfl rfl ?_
          refine r_icmp_ne (tgt := 124) (q := 120) hX dX8_compares_117 (by decide) rfl (fun hb27 => ?_) (fun hb27 => ?_)
          · refine r_iconst (v := (1 : Int32)) (q := 121) hX dX8_compares_120 rfl rfl ?_
            refine r_goto (q := 140) hX dX8_compares_121 (by decide) ?_
            refine r_lf (hK _) ?_
            exact r_zret hM rfl (Or.inr rfl) (Nat.le_of_ble_eq_true rfl) (Nat.le_of_ble_eq_true rfl) dX8_compares_140
          · refine r_iconst (v := (0 : Int32)) (q := 125) hX dX8_compares_124 rfl rfl ?_
            refine r_goto (q := 140) hX dX8_compares_125 (by decide) ?_
            refine r_lf (hK _) ?_
            exact r_zret hM rfl (Or.inl rfl) (Nat.le_of_ble_eq_true rfl) (Nat.le_of_ble_eq_true rfl) dX8_compares_140
        · refine r_iload (i := 4) (x := v7) (q := 130) 2 hX dX8_compares_128 rfl rfl ?_
          refine r_iload (i := 5) (x := v12) (q := 132) 3 hX dX8_compares_130 rfl rfl ?_
          refine r_icmp_le (tgt := 139) (q := 135) hX dX8_compares_132 (by decide) rfl (fun hb28 => ?_) (fun hb28 => ?_)
          · refine r_iconst (v := (0 : Int32)) (q := 140) hX dX8_compares_139 rfl rfl ?_
            refine r_lf (hK _) ?_
            exact r_zret hM rfl (Or.inl rfl) (Nat.le_of_ble_eq_true rfl) (Nat.le_of_ble_eq_true rfl) dX8_compares_140
          · refine r_iconst (v := (1 : Int32)) (q := 136) hX dX8_compares_135 rfl rfl ?_
            refine r_goto (q := 140) hX dX8_compares_136 (by decide) ?_
            refine r_lf (hK _) ?_
            exact r_zret hM rfl (Or.inr rfl) (Nat.le_of_ble_eq_true rfl) (Nat.le_of_ble_eq_true rfl) dX8_compares_140
    · refine r_sub [0, 1, 4, 5, 6] rfl ?_
      refine r_loop (Hd := fun (s13 : Int32 × Int32) (P : Option Res) => Ref mX8_compares X 0 0 Z M 31 [(0, vr a0), (1, vi x1), (4, vi v7), (5, vi s13.1), (6, vi s13.2)] [] P) (fun _ => r_none) (fun s13 K1 hn14 hx15 => ?_) ((0 : Int32), z9)
      refine r_iload (i := 6) (x := s13.2) (q := 33) 4 hX dX8_compares_31 rfl rfl ?_
      refine r_aload_n (i := 0) (x := a0) (q := 34) 0 hX dX8_compares_33 rfl rfl rfl ?_
      refine r_ck (fun hc16 => ?_)
      refine r_getR (a := a0) (ci := 8) (kf := 0) (q := 37) hX hc16 flX8_15 rfl dX8_compares_34 rfl ?_
      refine r_ck (fun hc17 => ?_)
      refine r_alen (a := (rR M a0 0)) (q := 38) hX arL_102 hc17 dX8_compares_37 rfl ?_
      refine r_icmp_ge (tgt := 78) (q := 41) hX dX8_compares_38 (by decide) rfl (fun hb18 => ?_) (fun hb18 => ?_)
      · refine r_lf (hx15 _) ?_
        refine r_sub [0, 1, 2, 3] rfl ?_
        exact hj10 s13.1
      · refine r_aload_n (i := 0) (x := a0) (q := 42) 0 hX dX8_compares_41 rfl rfl rfl ?_
        refine r_getR (a := a0) (ci := 8) (kf := 0) (q := 45) hX hc16 flX8_15 rfl dX8_compares_42 rfl ?_
        refine r_iload (i := 6) (x := s13.2) (q := 47) 4 hX dX8_compares_45 rfl rfl ?_
        refine r_ck (fun hc19 => ?_)
        refine r_bald (a := (rR M a0 0)) (i := s13.2) (q := 48) hX hc19 dX8_compares_47 rfl ?_
        refine r_cs (As := [vi (rI M (rR M a0 0) (ix s13.2))]) (st := []) (r := (some (vi (fX2_isDigit (rI M (rR M a0 0) (ix s13.2)))))) (Z1 := Z) (M1 := M) (k1 := 0) (n1 := 0) (st1 := [vi (fX2_isDigit (rI M (rR M a0 0) (ix s13.2)))]) (q := 51) hX (fun l => kX2_isDigit l Z M (rI M (rR M a0 0) (ix s13.2))) stX2_isDigit ccX2_isDigit (Or.inl lkX8_22) rfl rfl rfl ⟨Nat.le_of_ble_eq_true rfl, Nat.le_of_ble_eq_true rfl, rfl, rfl, Nat.le_of_ble_eq_true rfl, Nat.le_of_ble_eq_true rfl⟩ (Nat.le_of_ble_eq_true rfl) dX8_compares_48 rfl ?_
        refine r_if_eq (tgt := 78) (q := 54) hX dX8_compares_51 (by decide) rfl (fun hb20 => ?_) (fun hb20 => ?_)
        · refine r_lf (hx15 _) ?_
          refine r_sub [0, 1, 2, 3] rfl ?_
          exact hj10 s13.1
        · refine r_bipush (v := (10 : Int32)) (q := 56) hX dX8_compares_54 rfl rfl ?_
          refine r_iload (i := 5) (x := s13.1) (q := 58) 3 hX dX8_compares_56 rfl rfl ?_
          refine r_imul (q := 59) hX dX8_compares_58 rfl ?_
          refine r_aload_n (i := 0) (x := a0) (q := 60) 0 hX dX8_compares_59 rfl rfl rfl ?_
          refine r_getR (a := a0) (ci := 8) (kf := 0) (q := 63) hX hc16 flX8_15 rfl dX8_compares_60 rfl ?_
          refine r_iload (i := 6) (x := s13.2) (q := 65) 4 hX dX8_compares_63 rfl rfl ?_
          refine r_bald (a := (rR M a0 0)) (i := s13.2) (q := 66) hX hc19 dX8_compares_65 rfl ?_
          refine r_iadd (q := 67) hX dX8_compares_66 rfl ?_
          refine r_bipush (v := (48 : Int32)) (q := 69) hX dX8_compares_67 rfl rfl ?_
          refine r_isub (q := 70) hX dX8_compares_69 rfl ?_
          refine r_istoreP (x := ((((10 : Int32) * s13.1) + (rI M (rR M a0 0) (ix s13.2))) - (48 : Int32))) (q := 72) 5 [1, 2, 3, 0, 5] (fun z21 => [(0, vr a0), (1, vi x1), (4, vi v7), (5, vi z21), (6, vi s13.2)]) hX dX8_compares_70 (Nat.le_of_ble_eq_true rfl) (fun _ => rfl) rfl (fun z21 => ?_)
          refine r_iinc (x := s13.2) (v := (s13.2 + (1 : Int32))) (q := 75) 6 4 [1, 2, 3, 4, 0] (L1 := [(0, vr a0), (1, vi x1), (4, vi v7), (5, vi z21), (6, vi (s13.2 + (1 : Int32)))]) hX dX8_compares_72 rfl rfl (Nat.le_of_ble_eq_true rfl) rfl rfl ?_
          refine r_goto (q := 31) hX dX8_compares_75 (by decide) ?_
          refine r_l0 ?_
          exact hn14 (z21, (s13.2 + (1 : Int32)))
  · refine r_if_le (tgt := 15) (q := 4) hX dX8_compares_1 (by decide) rfl (fun hb1 => ?_) (fun hb1 => ?_)
    · refine r_iconst (v := (0 : Int32)) (q := 16) hX dX8_compares_15 rfl rfl ?_
      refine r_l0 ?_
      exact hj2 (0 : Int32)
    · refine r_aload_n (i := 0) (x := a0) (q := 5) 0 hX dX8_compares_4 rfl rfl rfl ?_
      refine r_ck (fun hc5 => ?_)
      refine r_getR (a := a0) (ci := 8) (kf := 0) (q := 8) hX hc5 flX8_15 rfl dX8_compares_5 rfl ?_
      refine r_iload_n (i := 1) (x := x1) (q := 9) 1 hX dX8_compares_8 rfl rfl rfl ?_
      refine r_iconst (v := (1 : Int32)) (q := 10) hX dX8_compares_9 rfl rfl ?_
      refine r_isub (q := 11) hX dX8_compares_10 rfl ?_
      refine r_ck (fun hc6 => ?_)
      refine r_bald (a := (rR M a0 0)) (i := (x1 - (1 : Int32))) (q := 12) hX hc6 dX8_compares_11 rfl ?_
      refine r_goto (q := 16) hX dX8_compares_12 (by decide) ?_
      refine r_l0 ?_
      exact hj2 (rI M (rR M a0 0) (ix (x1 - (1 : Int32))))
theorem flX8_31 : FL RX8 31 8 3 := ⟨Nat.le_of_ble_eq_true rfl, Nat.le_of_ble_eq_true rfl, gd (hcw3_11 _ (List.mem_of_getElem? (i := 8) rfl)) rfl⟩
theorem lkX8_45 : Lk RX8 45 yX8_isSign := gd (hcw4_1 _ (List.mem_of_getElem? (i := 13) rfl)) rfl
theorem lkX8_48 : Lk RX8 48 yX8_compares := gd (hcw4_1 _ (List.mem_of_getElem? (i := 14) rfl)) rfl
def mX8_conditionHolds : MD := (yX8_conditionHolds, cX8_conditionHolds, 14, (some .boolean), 2, 48, 0, 0)
theorem ccX8_conditionHolds : Cc mX8_conditionHolds 2 := ⟨gd (hcw1_0 _ (List.mem_of_getElem? (i := 14) rfl)) rfl, gd (hcw4_1 _ (List.mem_of_getElem? (i := 12) rfl)) rfl, by decide +kernel, by decide +kernel, by decide +kernel⟩
theorem ivX8_conditionHolds : Iv mX8_conditionHolds 8 := ⟨Nat.le_of_ble_eq_true rfl, rfl, gd (hcw4_1 _ (List.mem_of_getElem? (i := 11) rfl)) rfl, gd (hps1 _ (List.mem_of_getElem? (i := 9) rfl)) rfl⟩
noncomputable def fX8_conditionHolds (Z : Shp) (M : Mem) (a0 : Nat) (a1 : Nat) (x2 : Int32) : Option (Int32) := (if tg Z a0 = (9, 6) then (pu ((rI M a0 3)) (fun z2 => (Option.bind (loop (fun s6 : Int64 × Int64 × Int64 × Int32 => (if (tg Z (rR M a0 0)).1 = 102 then (if (nI (tg Z (rR M a0 0)).2) ≤ s6.2.2.2 then some (Sum.inr (s6.1, s6.2.1)) else (if aok Z (rR M a0 0) 102 s6.2.2.2 then (pu ((rI M (rR M a0 0) (ix s6.2.2.2))) (fun z12 => (Option.bind (if z12 = (33 : Int32) then (pu ((s6.2.2.1 ^^^ (1 : Int64))) (fun z17 => some (s6.1, s6.2.1, z17, (0 : Int32), (0 : Int32)))) else (if z12 = (40 : Int32) then (pu ((s6.1 <<< ((1 : Int32).toInt64 &&& 63))) (fun z19 => (pu (((s6.2.1 <<< ((1 : Int32).toInt64 &&& 63)) ||| (1 : Int64))) (fun z20 => (pu ((s6.2.2.1 <<< ((1 : Int32).toInt64 &&& 63))) (fun z21 => some (z19, z20, z21, (0 : Int32), (0 : Int32)))))))) else (if z12 = (41 : Int32) then (Option.bind (if (lg_cmp ((s6.1 ||| s6.2.1) &&& (1 : Int64)) (0 : Int64)) = 0 then some (0 : Int32) else some (1 : Int32)) (fun v26 : Int32 => (pu (((s6.1.toUInt64 >>> ((1 : Int32).toInt64.toUInt64 &&& Int64.toUInt64 63)).toInt64)) (fun z27 => (pu (((s6.2.1.toUInt64 >>> ((1 : Int32).toInt64.toUInt64 &&& Int64.toUInt64 63)).toInt64)) (fun z28 => (pu (((s6.2.2.1.toUInt64 >>> ((1 : Int32).toInt64.toUInt64 &&& Int64.toUInt64 63)).toInt64)) (fun z29 => some (z27, z28, z29, (1 : Int32), v26))))))))) else (if z12 = (124 : Int32) then (pu ((s6.1 ||| (s6.2.1 &&& (1 : Int64)))) (fun z31 => (pu ((s6.2.1 ||| (1 : Int64))) (fun z32 => some (z31, z32, s6.2.2.1, (0 : Int32), (0 : Int32)))))) else (if (fX8_isSign z12) = 0 then some (s6.1, s6.2.1, s6.2.2.1, (0 : Int32), (0 : Int32)) else (Option.bind (fX8_compares Z M a0 s6.2.2.2 a1 x2) (fun v34 => some (s6.1, s6.2.1, s6.2.2.1, (1 : Int32), v34)))))))) (fun v16 : Int64 × Int64 × Int64 × Int32 × Int32 => (if v16.2.2.2.1 = 0 then some (Sum.inl (v16.1, v16.2.1, v16.2.2.1, (s6.2.2.2 + (1 : Int32)))) else (Option.bind (if (lg_cmp (v16.2.2.1 &&& (1 : Int64)) (0 : Int64)) = 0 then some (0 : Int32) else some (1 : Int32)) (fun v40 : Int32 => (Option.bind (if v16.2.2.2.2 = v40 then some (0 : Int32) else some (1 : Int32)) (fun v44 : Int32 => (if v44 = 0 then (pu ((v16.2.1 &&& (-2 : Int64))) (fun z46 => (pu ((v16.2.2.1 &&& (-2 : Int64))) (fun z47 => some (Sum.inl (v16.1, z46, z47, (s6.2.2.2 + (1 : Int32)))))))) else (pu ((v16.2.2.1 &&& (-2 : Int64))) (fun z48 => some (Sum.inl (v16.1, v16.2.1, z48, (s6.2.2.2 + (1 : Int32)))))))))))))))) else none)) else none)) ((0 : Int64), (1 : Int64), (0 : Int64), z2)) (fun v5 : Int64 × Int64 => (if (lg_cmp ((v5.1 ||| v5.2) &&& (1 : Int64)) (0 : Int64)) = 0 then some (0 : Int32) else some (1 : Int32)))))) else none)
set_option maxRecDepth 20000 in
theorem kX8_conditionHolds (l : Launch) (Z : Shp) (M : Mem) (a0 : Nat) (a1 : Nat) (x2 : Int32) (r : Int32) (h : fX8_conditionHolds Z M a0 a1 x2 = some r) : Ct l mX8_conditionHolds [vr a0, vr a1, vi x2] Z M ((some (vi r)), Z, M) := by
  refine Ct.of rfl (Nat.le_of_ble_eq_true rfl) (fun X hM => ?_)
  have hX := hM.1
  refine r_top (mk := fun r => ((some (vi r)), Z, M)) h (fun K hK => ?_)
  unfold fX8_conditionHolds
  refine r_lconst (v := (0 : Int64)) (q := 1) hX dX8_conditionHolds_0 rfl rfl ?_
  refine r_lstore_n (x := (0 : Int64)) (q := 2) 3 [1, 2, 3, 0] (L1 := [(0, vr a0), (1, vr a1), (2, vi x2), (3, vj (0 : Int64))]) hX dX8_conditionHolds_1 rfl (Nat.le_of_ble_eq_true rfl) rfl rfl ?_
  refine r_lconst (v := (1 : Int64)) (q := 3) hX dX8_conditionHolds_2 rfl rfl ?_
  refine r_lstore (x := (1 : Int64)) (q := 5) 5 [1, 2, 3, 4, 0] (L1 := [(0, vr a0), (1, vr a1), (2, vi x2), (3, vj (0 : Int64)), (5, vj (1 : Int64))]) hX dX8_conditionHolds_3 (Nat.le_of_ble_eq_true rfl) rfl rfl ?_
  refine r_lconst (v := (0 : Int64)) (q := 6) hX dX8_conditionHolds_5 rfl rfl ?_
  refine r_lstore (x := (0 : Int64)) (q := 8) 7 [1, 2, 3, 4, 5, 0] (L1 := [(0, vr a0), (1, vr a1), (2, vi x2), (3, vj (0 : Int64)), (5, vj (1 : Int64)), (7, vj (0 : Int64))]) hX dX8_conditionHolds_6 (Nat.le_of_ble_eq_true rfl) rfl rfl ?_
  refine r_aload_n (i := 0) (x := a0) (q := 9) 0 hX dX8_conditionHolds_8 rfl rfl rfl ?_
  refine r_ck (fun hc1 => ?_)
  refine r_getI (a := a0) (ci := 8) (kf := 3) (q := 12) hX hc1 flX8_31 rfl rfl dX8_conditionHolds_9 rfl ?_
  refine r_istoreP (x := (rI M a0 3)) (q := 14) 9 [1, 2, 3, 4, 5, 6, 0] (fun z2 => [(0, vr a0), (1, vr a1), (2, vi x2), (3, vj (0 : Int64)), (5, vj (1 : Int64)), (7, vj (0 : Int64)), (9, vi z2)]) hX dX8_conditionHolds_12 (Nat.le_of_ble_eq_true rfl) (fun _ => rfl) rfl (fun z2 => ?_)
  refine r_jn (J := fun (v5 : Int64 × Int64) (P : Option Res) => Ref mX8_conditionHolds X 0 0 Z M 237 [(3, vj v5.1), (5, vj v5.2)] [] P) (fun v5 => ?_) (fun K1 hj3 => ?_)
  · refine r_lload_n (i := 3) (x := v5.1) (q := 238) 0 hX dX8_conditionHolds_237 rfl rfl rfl ?_
    refine r_lload (i := 5) (x := v5.2) (q := 240) 1 hX dX8_conditionHolds_238 rfl rfl ?_
    refine r_lor (q := 241) hX dX8_conditionHolds_240 rfl ?_
    refine r_lconst (v := (1 : Int64)) (q := 242) hX dX8_conditionHolds_241 rfl rfl ?_
    refine r_land (q := 243) hX dX8_conditionHolds_242 rfl ?_
    refine r_lconst (v := (0 : Int64)) (q := 244) hX dX8_conditionHolds_243 rfl rfl ?_
    refine r_lcmp (q := 245) hX dX8_conditionHolds_244 rfl ?_
    refine r_if_eq (tgt := 252) (q := 248) hX dX8_conditionHolds_245 (by decide) rfl (fun hb49 => ?_) (fun hb49 => ?_)
    · refine r_iconst (v := (0 : Int32)) (q := 253) hX dX8_conditionHolds_252 rfl rfl ?_
      refine r_lf (hK _) ?_
      exact r_zret hM rfl (Or.inl rfl) (Nat.le_of_ble_eq_true rfl) (Nat.le_of_ble_eq_true rfl) dX8_conditionHolds_253
    · refine r_iconst (v := (1 : Int32)) (q := 249) hX dX8_conditionHolds_248 rfl rfl ?_
      refine r_goto (q := 253) hX dX8_conditionHolds_249 (by decide) ?_
      refine r_lf (hK _) ?_
      exact r_zret hM rfl (Or.inr rfl) (Nat.le_of_ble_eq_true rfl) (Nat.le_of_ble_eq_true rfl) dX8_conditionHolds_253
  · refine r_loop (Hd := fun (s6 : Int64 × Int64 × Int64 × Int32) (P : Option Res) => Ref mX8_conditionHolds X 0 0 Z M 14 [(0, vr a0), (1, vr a1), (2, vi x2), (3, vj s6.1), (5, vj s6.2.1), (7, vj s6.2.2.1), (9, vi s6.2.2.2)] [] P) (fun _ => r_none) (fun s6 K1 hn7 hx8 => ?_) ((0 : Int64), (1 : Int64), (0 : Int64), z2)
    refine r_iload (i := 9) (x := s6.2.2.2) (q := 16) 6 hX dX8_conditionHolds_14 rfl rfl ?_
    refine r_aload_n (i := 0) (x := a0) (q := 17) 0 hX dX8_conditionHolds_16 rfl rfl rfl ?_
    refine r_getR (a := a0) (ci := 8) (kf := 0) (q := 20) hX hc1 flX8_15 rfl dX8_conditionHolds_17 rfl ?_
    refine r_ck (fun hc9 => ?_)
    refine r_alen (a := (rR M a0 0)) (q := 21) hX arL_102 hc9 dX8_conditionHolds_20 rfl ?_
    refine r_icmp_ge (tgt := 237) (q := 24) hX dX8_conditionHolds_21 (by decide) rfl (fun hb10 => ?_) (fun hb10 => ?_)
    · refine r_lf (hx8 _) ?_
      refine r_sub [3, 4] rfl ?_
      exact hj3 (s6.1, s6.2.1)
    · refine r_aload_n (i := 0) (x := a0) (q := 25) 0 hX dX8_conditionHolds_24 rfl rfl rfl ?_
      refine r_getR (a := a0) (ci := 8) (kf := 0) (q := 28) hX hc1 flX8_15 rfl dX8_conditionHolds_25 rfl ?_
      refine r_iload (i := 9) (x := s6.2.2.2) (q := 30) 6 hX dX8_conditionHolds_28 rfl rfl ?_
      refine r_ck (fun hc11 => ?_)
      refine r_bald (a := (rR M a0 0)) (i := s6.2.2.2) (q := 31) hX hc11 dX8_conditionHolds_30 rfl ?_
      refine r_istoreP (x := (rI M (rR M a0 0) (ix s6.2.2.2))) (q := 33) 10 [1, 2, 3, 4, 5, 6, 7, 0] (fun z12 => [(0, vr a0), (1, vr a1), (2, vi x2), (3, vj s6.1), (5, vj s6.2.1), (7, vj s6.2.2.1), (9, vi s6.2.2.2), (10, vi z12)]) hX dX8_conditionHolds_31 (Nat.le_of_ble_eq_true rfl) (fun _ => rfl) rfl (fun z12 => ?_)
      refine r_iconst (v := (0 : Int32)) (q := 34) hX dX8_conditionHolds_33 rfl rfl ?_
      refine r_istore (x := (0 : Int32)) (q := 36) 11 [1, 2, 3, 4, 5, 6, 7, 8, 0] (L1 := [(0, vr a0), (1, vr a1), (2, vi x2), (3, vj s6.1), (5, vj s6.2.1), (7, vj s6.2.2.1), (9, vi s6.2.2.2), (10, vi z12), (11, vi (0 : Int32))]) hX dX8_conditionHolds_34 (Nat.le_of_ble_eq_true rfl) rfl rfl ?_
      refine r_iconst (v := (0 : Int32)) (q := 37) hX dX8_conditionHolds_36 rfl rfl ?_
      refine r_istore (x := (0 : Int32)) (q := 39) 12 [1, 2, 3, 4, 5, 6, 7, 8, 9, 0] (L1 := [(0, vr a0), (1, vr a1), (2, vi x2), (3, vj s6.1), (5, vj s6.2.1), (7, vj s6.2.2.1), (9, vi s6.2.2.2), (10, vi z12), (11, vi (0 : Int32)), (12, vi (0 : Int32))]) hX dX8_conditionHolds_37 (Nat.le_of_ble_eq_true rfl) rfl rfl ?_
      refine r_iload (i := 10) (x := z12) (q := 41) 7 hX dX8_conditionHolds_39 rfl rfl ?_
      refine r_bipush (v := (33 : Int32)) (q := 43) hX dX8_conditionHolds_41 rfl rfl ?_
      refine r_jn (J := fun (v16 : Int64 × Int64 × Int64 × Int32 × Int32) (P : Option Res) => Ref mX8_conditionHolds X 0 0 Z M 174 [(0, vr a0), (1, vr a1), (2, vi x2), (3, vj v16.1), (5, vj v16.2.1), (7, vj v16.2.2.1), (9, vi s6.2.2.2), (11, vi v16.2.2.2.1), (12, vi v16.2.2.2.2)] [] P) (fun v16 => ?_) (fun K1 hj14 => ?_)
      · refine r_iload (i := 11) (x := v16.2.2.2.1) (q := 176) 7 hX dX8_conditionHolds_174 rfl rfl ?_
        refine r_if_eq (tgt := 231) (q := 179) hX dX8_conditionHolds_176 (by decide) rfl (fun hb36 => ?_) (fun hb36 => ?_)
        · refine r_iinc (x := s6.2.2.2) (v := (s6.2.2.2 + (1 : Int32))) (q := 234) 9 6 [1, 2, 3, 4, 5, 6, 0, 8, 9] (L1 := [(0, vr a0), (1, vr a1), (2, vi x2), (3, vj v16.1), (5, vj v16.2.1), (7, vj v16.2.2.1), (9, vi (s6.2.2.2 + (1 : Int32))), (11, vi v16.2.2.2.1), (12, vi v16.2.2.2.2)]) hX dX8_conditionHolds_231 rfl rfl (Nat.le_of_ble_eq_true rfl) rfl rfl ?_
          refine r_goto (q := 14) hX dX8_conditionHolds_234 (by decide) ?_
          refine r_l0 ?_
          refine r_sub [0, 1, 2, 3, 4, 5, 6] rfl ?_
          exact hn7 (v16.1, v16.2.1, v16.2.2.1, (s6.2.2.2 + (1 : Int32)))
        · refine r_iload (i := 12) (x := v16.2.2.2.2) (q := 181) 8 hX dX8_conditionHolds_179 rfl rfl ?_
          refine r_lload (i := 7) (x := v16.2.2.1) (q := 183) 5 hX dX8_conditionHolds_181 rfl rfl ?_
          refine r_lconst (v := (1 : Int64)) (q := 184) hX dX8_conditionHolds_183 rfl rfl ?_
          refine r_land (q := 185) hX dX8_conditionHolds_184 rfl ?_
          refine r_lconst (v := (0 : Int64)) (q := 186) hX dX8_conditionHolds_185 rfl rfl ?_
          refine r_lcmp (q := 187) hX dX8_conditionHolds_186 rfl ?_
          refine r_jn (J := fun (v40 : Int32) (P : Option Res) => Ref mX8_conditionHolds X 0 0 Z M 195 [(0, vr a0), (1, vr a1), (2, vi x2), (3, vj v16.1), (5, vj v16.2.1), (7, vj v16.2.2.1), (9, vi s6.2.2.2)] [vi v40, vi v16.2.2.2.2] P) (fun v40 => ?_) (fun K1 hj38 => ?_)
          · refine r_jn (J := fun (v44 : Int32) (P : Option Res) => Ref mX8_conditionHolds X 0 0 Z M 203 [(0, vr a0), (1, vr a1), (2, vi x2), (3, vj v16.1), (5, vj v16.2.1), (7, vj v16.2.2.1), (9, vi s6.2.2.2)] [vi v44] P) (fun v44 => ?_) (fun K1 hj42 => ?_)
            · refine r_istore (x := v44) (q := 205) 13 [1, 2, 3, 4, 5, 6, 7, 0] (L1 := [(0, vr a0), (1, vr a1), (2, vi x2), (3, vj v16.1), (5, vj v16.2.1), (7, vj v16.2.2.1), (9, vi s6.2.2.2), (13, vi v44)]) hX dX8_conditionHolds_203 (Nat.le_of_ble_eq_true rfl) rfl rfl ?_
              refine r_iload (i := 13) (x := v44) (q := 207) 7 hX dX8_conditionHolds_205 rfl rfl ?_
              refine r_if_eq (tgt := 215) (q := 210) hX dX8_conditionHolds_207 (by decide) rfl (fun hb45 => ?_) (fun hb45 => ?_)
              · refine r_lload (i := 5) (x := v16.2.1) (q := 217) 4 hX dX8_conditionHolds_215 rfl rfl ?_
                refine r_ldc2 (v := (-2 : Int64)) (q := 220) hX dX8_conditionHolds_217 (gd (hcw4_2 _ (List.mem_of_getElem? (i := 1) rfl)) rfl) rfl ?_
                refine r_land (q := 221) hX dX8_conditionHolds_220 rfl ?_
                refine r_lstoreP (x := (v16.2.1 &&& (-2 : Int64))) (q := 223) 5 [1, 2, 3, 4, 0, 6, 7, 8] (fun z46 => [(0, vr a0), (1, vr a1), (2, vi x2), (3, vj v16.1), (5, vj z46), (7, vj v16.2.2.1), (9, vi s6.2.2.2), (13, vi v44)]) hX dX8_conditionHolds_221 (Nat.le_of_ble_eq_true rfl) (fun _ => rfl) rfl (fun z46 => ?_)
                refine r_lload (i := 7) (x := v16.2.2.1) (q := 225) 5 hX dX8_conditionHolds_223 rfl rfl ?_
                refine r_ldc2 (v := (-2 : Int64)) (q := 228) hX dX8_conditionHolds_225 (gd (hcw4_2 _ (List.mem_of_getElem? (i := 1) rfl)) rfl) rfl ?_
                refine r_land (q := 229) hX dX8_conditionHolds_228 rfl ?_
                refine r_lstoreP (x := (v16.2.2.1 &&& (-2 : Int64))) (q := 231) 7 [1, 2, 3, 4, 5, 0, 7, 8] (fun z47 => [(0, vr a0), (1, vr a1), (2, vi x2), (3, vj v16.1), (5, vj z46), (7, vj z47), (9, vi s6.2.2.2), (13, vi v44)]) hX dX8_conditionHolds_229 (Nat.le_of_ble_eq_true rfl) (fun _ => rfl) rfl (fun z47 => ?_)
                refine r_iinc (x := s6.2.2.2) (v := (s6.2.2.2 + (1 : Int32))) (q := 234) 9 6 [1, 2, 3, 4, 5, 6, 0, 8] (L1 := [(0, vr a0), (1, vr a1), (2, vi x2), (3, vj v16.1), (5, vj z46), (7, vj z47), (9, vi (s6.2.2.2 + (1 : Int32))), (13, vi v44)]) hX dX8_conditionHolds_231 rfl rfl (Nat.le_of_ble_eq_true rfl) rfl rfl ?_
                refine r_goto (q := 14) hX dX8_conditionHolds_234 (by decide) ?_
                refine r_l0 ?_
                refine r_sub [0, 1, 2, 3, 4, 5, 6] rfl ?_
                exact hn7 (v16.1, z46, z47, (s6.2.2.2 + (1 : Int32)))
              · refine r_lload (i := 5) (x := v16.2.1) (q := 212) 4 hX dX8_conditionHolds_210 rfl rfl ?_
                refine r_goto (q := 221) hX dX8_conditionHolds_212 (by decide) ?_
                refine r_lstore (x := v16.2.1) (q := 223) 5 [1, 2, 3, 4, 0, 6, 7, 8] (L1 := [(0, vr a0), (1, vr a1), (2, vi x2), (3, vj v16.1), (5, vj v16.2.1), (7, vj v16.2.2.1), (9, vi s6.2.2.2), (13, vi v44)]) hX dX8_conditionHolds_221 (Nat.le_of_ble_eq_true rfl) rfl rfl ?_
                refine r_lload (i := 7) (x := v16.2.2.1) (q := 225) 5 hX dX8_conditionHolds_223 rfl rfl ?_
                refine r_ldc2 (v := (-2 : Int64)) (q := 228) hX dX8_conditionHolds_225 (gd (hcw4_2 _ (List.mem_of_getElem? (i := 1) rfl)) rfl) rfl ?_
                refine r_land (q := 229) hX dX8_conditionHolds_228 rfl ?_
                refine r_lstoreP (x := (v16.2.2.1 &&& (-2 : Int64))) (q := 231) 7 [1, 2, 3, 4, 5, 0, 7, 8] (fun z48 => [(0, vr a0), (1, vr a1), (2, vi x2), (3, vj v16.1), (5, vj v16.2.1), (7, vj z48), (9, vi s6.2.2.2), (13, vi v44)]) hX dX8_conditionHolds_229 (Nat.le_of_ble_eq_true rfl) (fun _ => rfl) rfl (fun z48 => ?_)
                refine r_iinc (x := s6.2.2.2) (v := (s6.2.2.2 + (1 : Int32))) (q := 234) 9 6 [1, 2, 3, 4, 5, 6, 0, 8] (L1 := [(0, vr a0), (1, vr a1), (2, vi x2), (3, vj v16.1), (5, vj v16.2.1), (7, vj z48), (9, vi (s6.2.2.2 + (1 : Int32))), (13, vi v44)]) hX dX8_conditionHolds_231 rfl rfl (Nat.le_of_ble_eq_true rfl) rfl rfl ?_
                refine r_goto (q := 14) hX dX8_conditionHolds_234 (by decide) ?_
                refine r_l0 ?_
                refine r_sub [0, 1, 2, 3, 4, 5, 6] rfl ?_
                exact hn7 (v16.1, v16.2.1, z48, (s6.2.2.2 + (1 : Int32)))
            · refine r_icmp_eq (tgt := 202) (q := 198) hX dX8_conditionHolds_195 (by decide) rfl (fun hb41 => ?_) (fun hb41 => ?_)
              · refine r_iconst (v := (0 : Int32)) (q := 203) hX dX8_conditionHolds_202 rfl rfl ?_
                refine r_l0 ?_
                exact hj42 (0 : Int32)
              · refine r_iconst (v := (1 : Int32)) (q := 199) hX dX8_conditionHolds_198 rfl rfl ?_
                refine r_goto (q := 203) hX dX8_conditionHolds_199 (by decide) ?_
                refine r_l0 ?_
                exact hj42 (1 : Int32)
          · refine r_if_eq (tgt := 194) (q := 190) hX dX8_conditionHolds_187 (by decide) rfl (fun hb37 => ?_) (fun hb37 => ?_)
            · refine r_iconst (v := (0 : Int32)) (q := 195) hX dX8_conditionHolds_194 rfl rfl ?_
              refine r_l0 ?_
              refine r_sub [0, 1, 2, 3, 4, 5, 6] rfl ?_
              exact hj38 (0 : Int32)
            · refine r_iconst (v := (1 : Int32)) (q := 191) hX dX8_conditionHolds_190 rfl rfl ?_
              refine r_goto (q := 195) hX dX8_conditionHolds_191 (by decide) ?_
              refine r_l0 ?_
              refine r_sub [0, 1, 2, 3, 4, 5, 6] rfl ?_
              exact hj38 (1 : Int32)
      · refine r_icmp_ne (tgt := 55) (q := 46) hX dX8_conditionHolds_43 (by decide) rfl (fun hb13 => ?_) (fun hb13 => ?_)
        · refine r_lload (i := 7) (x := s6.2.2.1) (q := 48) 5 hX dX8_conditionHolds_46 rfl rfl ?_
          refine r_lconst (v := (1 : Int64)) (q := 49) hX dX8_conditionHolds_48 rfl rfl ?_
          refine r_lxor (q := 50) hX dX8_conditionHolds_49 rfl ?_
          refine r_lstoreP (x := (s6.2.2.1 ^^^ (1 : Int64))) (q := 52) 7 [1, 2, 3, 4, 5, 0, 7, 8, 9, 10] (fun z17 => [(0, vr a0), (1, vr a1), (2, vi x2), (3, vj s6.1), (5, vj s6.2.1), (7, vj z17), (9, vi s6.2.2.2), (10, vi z12), (11, vi (0 : Int32)), (12, vi (0 : Int32))]) hX dX8_conditionHolds_50 (Nat.le_of_ble_eq_true rfl) (fun _ => rfl) rfl (fun z17 => ?_)
          refine r_goto (q := 174) hX dX8_conditionHolds_52 (by decide) ?_
          refine r_l0 ?_
          refine r_sub [0, 1, 2, 3, 4, 5, 6, 8, 9] rfl ?_
          exact hj14 (s6.1, s6.2.1, z17, (0 : Int32), (0 : Int32))
        · refine r_iload (i := 10) (x := z12) (q := 57) 7 hX dX8_conditionHolds_55 rfl rfl ?_
          refine r_bipush (v := (40 : Int32)) (q := 59) hX dX8_conditionHolds_57 rfl rfl ?_
          refine r_icmp_ne (tgt := 83) (q := 62) hX dX8_conditionHolds_59 (by decide) rfl (fun hb18 => ?_) (fun hb18 => ?_)
          · refine r_lload_n (i := 3) (x := s6.1) (q := 63) 3 hX dX8_conditionHolds_62 rfl rfl rfl ?_
            refine r_iconst (v := (1 : Int32)) (q := 64) hX dX8_conditionHolds_63 rfl rfl ?_
            refine r_lshl (q := 65) hX dX8_conditionHolds_64 rfl ?_
            refine r_lstore_nP (x := (s6.1 <<< ((1 : Int32).toInt64 &&& 63))) (q := 66) 3 [1, 2, 3, 0, 5, 6, 7, 8, 9, 10] (fun z19 => [(0, vr a0), (1, vr a1), (2, vi x2), (3, vj z19), (5, vj s6.2.1), (7, vj s6.2.2.1), (9, vi s6.2.2.2), (10, vi z12), (11, vi (0 : Int32)), (12, vi (0 : Int32))]) hX dX8_conditionHolds_65 rfl (Nat.le_of_ble_eq_true rfl) (fun _ => rfl) rfl (fun z19 => ?_)
            refine r_lload (i := 5) (x := s6.2.1) (q := 68) 4 hX dX8_conditionHolds_66 rfl rfl ?_
            refine r_iconst (v := (1 : Int32)) (q := 69) hX dX8_conditionHolds_68 rfl rfl ?_
            refine r_lshl (q := 70) hX dX8_conditionHolds_69 rfl ?_
            refine r_lconst (v := (1 : Int64)) (q := 71) hX dX8_conditionHolds_70 rfl rfl ?_
            refine r_lor (q := 72) hX dX8_conditionHolds_71 rfl ?_
            refine r_lstoreP (x := ((s6.2.1 <<< ((1 : Int32).toInt64 &&& 63)) ||| (1 : Int64))) (q := 74) 5 [1, 2, 3, 4, 0, 6, 7, 8, 9, 10] (fun z20 => [(0, vr a0), (1, vr a1), (2, vi x2), (3, vj z19), (5, vj z20), (7, vj s6.2.2.1), (9, vi s6.2.2.2), (10, vi z12), (11, vi (0 : Int32)), (12, vi (0 : Int32))]) hX dX8_conditionHolds_72 (Nat.le_of_ble_eq_true rfl) (fun _ => rfl) rfl (fun z20 => ?_)
            refine r_lload (i := 7) (x := s6.2.2.1) (q := 76) 5 hX dX8_conditionHolds_74 rfl rfl ?_
            refine r_iconst (v := (1 : Int32)) (q := 77) hX dX8_conditionHolds_76 rfl rfl ?_
            refine r_lshl (q := 78) hX dX8_conditionHolds_77 rfl ?_
            refine r_lstoreP (x := (s6.2.2.1 <<< ((1 : Int32).toInt64 &&& 63))) (q := 80) 7 [1, 2, 3, 4, 5, 0, 7, 8, 9, 10] (fun z21 => [(0, vr a0), (1, vr a1), (2, vi x2), (3, vj z19), (5, vj z20), (7, vj z21), (9, vi s6.2.2.2), (10, vi z12), (11, vi (0 : Int32)), (12, vi (0 : Int32))]) hX dX8_conditionHolds_78 (Nat.le_of_ble_eq_true rfl) (fun _ => rfl) rfl (fun z21 => ?_)
            refine r_goto (q := 174) hX dX8_conditionHolds_80 (by decide) ?_
            refine r_l0 ?_
            refine r_sub [0, 1, 2, 3, 4, 5, 6, 8, 9] rfl ?_
            exact hj14 (z19, z20, z21, (0 : Int32), (0 : Int32))
          · refine r_iload (i := 10) (x := z12) (q := 85) 7 hX dX8_conditionHolds_83 rfl rfl ?_
            refine r_bipush (v := (41 : Int32)) (q := 87) hX dX8_conditionHolds_85 rfl rfl ?_
            refine r_icmp_ne (tgt := 130) (q := 90) hX dX8_conditionHolds_87 (by decide) rfl (fun hb22 => ?_) (fun hb22 => ?_)
            · refine r_lload_n (i := 3) (x := s6.1) (q := 91) 3 hX dX8_conditionHolds_90 rfl rfl rfl ?_
              refine r_lload (i := 5) (x := s6.2.1) (q := 93) 4 hX dX8_conditionHolds_91 rfl rfl ?_
              refine r_lor (q := 94) hX dX8_conditionHolds_93 rfl ?_
              refine r_lconst (v := (1 : Int64)) (q := 95) hX dX8_conditionHolds_94 rfl rfl ?_
              refine r_land (q := 96) hX dX8_conditionHolds_95 rfl ?_
              refine r_lconst (v := (0 : Int64)) (q := 97) hX dX8_conditionHolds_96 rfl rfl ?_
              refine r_lcmp (q := 98) hX dX8_conditionHolds_97 rfl ?_
              refine r_jn (J := fun (v26 : Int32) (P : Option Res) => Ref mX8_conditionHolds X 0 0 Z M 106 [(0, vr a0), (1, vr a1), (2, vi x2), (3, vj s6.1), (5, vj s6.2.1), (7, vj s6.2.2.1), (9, vi s6.2.2.2)] [vi v26] P) (fun v26 => ?_) (fun K1 hj24 => ?_)
              · refine r_istore (x := v26) (q := 108) 12 [1, 2, 3, 4, 5, 6, 7, 0] (L1 := [(0, vr a0), (1, vr a1), (2, vi x2), (3, vj s6.1), (5, vj s6.2.1), (7, vj s6.2.2.1), (9, vi s6.2.2.2), (12, vi v26)]) hX dX8_conditionHolds_106 (Nat.le_of_ble_eq_true rfl) rfl rfl ?_
                refine r_iconst (v := (1 : Int32)) (q := 109) hX dX8_conditionHolds_108 rfl rfl ?_
                refine r_istore (x := (1 : Int32)) (q := 111) 11 [1, 2, 3, 4, 5, 6, 7, 0, 8] (L1 := [(0, vr a0), (1, vr a1), (2, vi x2), (3, vj s6.1), (5, vj s6.2.1), (7, vj s6.2.2.1), (9, vi s6.2.2.2), (11, vi (1 : Int32)), (12, vi v26)]) hX dX8_conditionHolds_109 (Nat.le_of_ble_eq_true rfl) rfl rfl ?_
                refine r_lload_n (i := 3) (x := s6.1) (q := 112) 3 hX dX8_conditionHolds_111 rfl rfl rfl ?_
                refine r_iconst (v := (1 : Int32)) (q := 113) hX dX8_conditionHolds_112 rfl rfl ?_
                refine r_lushr (q := 114) hX dX8_conditionHolds_113 rfl ?_
                refine r_lstore_nP (x := ((s6.1.toUInt64 >>> ((1 : Int32).toInt64.toUInt64 &&& Int64.toUInt64 63)).toInt64)) (q := 115) 3 [1, 2, 3, 0, 5, 6, 7, 8, 9] (fun z27 => [(0, vr a0), (1, vr a1), (2, vi x2), (3, vj z27), (5, vj s6.2.1), (7, vj s6.2.2.1), (9, vi s6.2.2.2), (11, vi (1 : Int32)), (12, vi v26)]) hX dX8_conditionHolds_114 rfl (Nat.le_of_ble_eq_true rfl) (fun _ => rfl) rfl (fun z27 => ?_)
                refine r_lload (i := 5) (x := s6.2.1) (q := 117) 4 hX dX8_conditionHolds_115 rfl rfl ?_
                refine r_iconst (v := (1 : Int32)) (q := 118) hX dX8_conditionHolds_117 rfl rfl ?_
                refine r_lushr (q := 119) hX dX8_conditionHolds_118 rfl ?_
                refine r_lstoreP (x := ((s6.2.1.toUInt64 >>> ((1 : Int32).toInt64.toUInt64 &&& Int64.toUInt64 63)).toInt64)) (q := 121) 5 [1, 2, 3, 4, 0, 6, 7, 8, 9] (fun z28 => [(0, vr a0), (1, vr a1), (2, vi x2), (3, vj z27), (5, vj z28), (7, vj s6.2.2.1), (9, vi s6.2.2.2), (11, vi (1 : Int32)), (12, vi v26)]) hX dX8_conditionHolds_119 (Nat.le_of_ble_eq_true rfl) (fun _ => rfl) rfl (fun z28 => ?_)
                refine r_lload (i := 7) (x := s6.2.2.1) (q := 123) 5 hX dX8_conditionHolds_121 rfl rfl ?_
                refine r_iconst (v := (1 : Int32)) (q := 124) hX dX8_conditionHolds_123 rfl rfl ?_
                refine r_lushr (q := 125) hX dX8_conditionHolds_124 rfl ?_
                refine r_lstoreP (x := ((s6.2.2.1.toUInt64 >>> ((1 : Int32).toInt64.toUInt64 &&& Int64.toUInt64 63)).toInt64)) (q := 127) 7 [1, 2, 3, 4, 5, 0, 7, 8, 9] (fun z29 => [(0, vr a0), (1, vr a1), (2, vi x2), (3, vj z27), (5, vj z28), (7, vj z29), (9, vi s6.2.2.2), (11, vi (1 : Int32)), (12, vi v26)]) hX dX8_conditionHolds_125 (Nat.le_of_ble_eq_true rfl) (fun _ => rfl) rfl (fun z29 => ?_)
                refine r_goto (q := 174) hX dX8_conditionHolds_127 (by decide) ?_
                refine r_l0 ?_
                exact hj14 (z27, z28, z29, (1 : Int32), v26)
              · refine r_if_eq (tgt := 105) (q := 101) hX dX8_conditionHolds_98 (by decide) rfl (fun hb23 => ?_) (fun hb23 => ?_)
                · refine r_iconst (v := (0 : Int32)) (q := 106) hX dX8_conditionHolds_105 rfl rfl ?_
                  refine r_l0 ?_
                  refine r_sub [0, 1, 2, 3, 4, 5, 6] rfl ?_
                  exact hj24 (0 : Int32)
                · refine r_iconst (v := (1 : Int32)) (q := 102) hX dX8_conditionHolds_101 rfl rfl ?_
                  refine r_goto (q := 106) hX dX8_conditionHolds_102 (by decide) ?_
                  refine r_l0 ?_
                  refine r_sub [0, 1, 2, 3, 4, 5, 6] rfl ?_
                  exact hj24 (1 : Int32)
            · refine r_iload (i := 10) (x := z12) (q := 132) 7 hX dX8_conditionHolds_130 rfl rfl ?_
              refine r_bipush (v := (124 : Int32)) (q := 134) hX dX8_conditionHolds_132 rfl rfl ?_
              refine r_icmp_ne (tgt := 153) (q := 137) hX dX8_conditionHolds_134 (by decide) rfl (fun hb30 => ?_) (fun hb30 => ?_)
              · refine r_lload_n (i := 3) (x := s6.1) (q := 138) 3 hX dX8_conditionHolds_137 rfl rfl rfl ?_
                refine r_lload (i := 5) (x := s6.2.1) (q := 140) 4 hX dX8_conditionHolds_138 rfl rfl ?_
                refine r_lconst (v := (1 : Int64)) (q := 141) hX dX8_conditionHolds_140 rfl rfl ?_
                refine r_land (q := 142) hX dX8_conditionHolds_141 rfl ?_
                refine r_lor (q := 143) hX dX8_conditionHolds_142 rfl ?_
                refine r_lstore_nP (x := (s6.1 ||| (s6.2.1 &&& (1 : Int64)))) (q := 144) 3 [1, 2, 3, 0, 5, 6, 7, 8, 9, 10] (fun z31 => [(0, vr a0), (1, vr a1), (2, vi x2), (3, vj z31), (5, vj s6.2.1), (7, vj s6.2.2.1), (9, vi s6.2.2.2), (10, vi z12), (11, vi (0 : Int32)), (12, vi (0 : Int32))]) hX dX8_conditionHolds_143 rfl (Nat.le_of_ble_eq_true rfl) (fun _ => rfl) rfl (fun z31 => ?_)
                refine r_lload (i := 5) (x := s6.2.1) (q := 146) 4 hX dX8_conditionHolds_144 rfl rfl ?_
                refine r_lconst (v := (1 : Int64)) (q := 147) hX dX8_conditionHolds_146 rfl rfl ?_
                refine r_lor (q := 148) hX dX8_conditionHolds_147 rfl ?_
                refine r_lstoreP (x := (s6.2.1 ||| (1 : Int64))) (q := 150) 5 [1, 2, 3, 4, 0, 6, 7, 8, 9, 10] (fun z32 => [(0, vr a0), (1, vr a1), (2, vi x2), (3, vj z31), (5, vj z32), (7, vj s6.2.2.1), (9, vi s6.2.2.2), (10, vi z12), (11, vi (0 : Int32)), (12, vi (0 : Int32))]) hX dX8_conditionHolds_148 (Nat.le_of_ble_eq_true rfl) (fun _ => rfl) rfl (fun z32 => ?_)
                refine r_goto (q := 174) hX dX8_conditionHolds_150 (by decide) ?_
                refine r_l0 ?_
                refine r_sub [0, 1, 2, 3, 4, 5, 6, 8, 9] rfl ?_
                exact hj14 (z31, z32, s6.2.2.1, (0 : Int32), (0 : Int32))
              · refine r_iload (i := 10) (x := z12) (q := 155) 7 hX dX8_conditionHolds_153 rfl rfl ?_
                refine r_cs (As := [vi z12]) (st := []) (r := (some (vi (fX8_isSign z12)))) (Z1 := Z) (M1 := M) (k1 := 0) (n1 := 0) (st1 := [vi (fX8_isSign z12)]) (q := 158) hX (fun l => kX8_isSign l Z M z12) stX8_isSign ccX8_isSign (Or.inl lkX8_45) rfl rfl rfl ⟨Nat.le_of_ble_eq_true rfl, Nat.le_of_ble_eq_true rfl, rfl, rfl, Nat.le_of_ble_eq_true rfl, Nat.le_of_ble_eq_true rfl⟩ (Nat.le_of_ble_eq_true rfl) dX8_conditionHolds_155 rfl ?_
                refine r_if_eq (tgt := 174) (q := 161) hX dX8_conditionHolds_158 (by decide) rfl (fun hb33 => ?_) (fun hb33 => ?_)
                · refine r_l0 ?_
                  refine r_sub [0, 1, 2, 3, 4, 5, 6, 8, 9] rfl ?_
                  exact hj14 (s6.1, s6.2.1, s6.2.2.1, (0 : Int32), (0 : Int32))
                · refine r_aload_n (i := 0) (x := a0) (q := 162) 0 hX dX8_conditionHolds_161 rfl rfl rfl ?_
                  refine r_iload (i := 9) (x := s6.2.2.2) (q := 164) 6 hX dX8_conditionHolds_162 rfl rfl ?_
                  refine r_aload_n (i := 1) (x := a1) (q := 165) 1 hX dX8_conditionHolds_164 rfl rfl rfl ?_
                  refine r_iload_n (i := 2) (x := x2) (q := 166) 2 hX dX8_conditionHolds_165 rfl rfl rfl ?_
                  refine r_bind (fun v34 h35 => ?_)
                  refine r_cv (a := a0) (As := [vi s6.2.2.2, vr a1, vi x2]) (st := []) (r := (some (vi v34))) (Z1 := Z) (M1 := M) (k1 := 0) (n1 := 0) (st1 := [vi v34]) (q := 169) hX (fun l => kX8_compares l Z M a0 s6.2.2.2 a1 x2 v34 h35) hc1 ivX8_compares ccX8_compares (Or.inl lkX8_48) rfl rfl rfl ⟨Nat.le_of_ble_eq_true rfl, Nat.le_of_ble_eq_true rfl, rfl, rfl, Nat.le_of_ble_eq_true rfl, Nat.le_of_ble_eq_true rfl⟩ (Nat.le_of_ble_eq_true rfl) dX8_conditionHolds_166 rfl ?_
                  refine r_istore (x := v34) (q := 171) 12 [1, 2, 3, 4, 5, 6, 7, 8, 9, 0] (L1 := [(0, vr a0), (1, vr a1), (2, vi x2), (3, vj s6.1), (5, vj s6.2.1), (7, vj s6.2.2.1), (9, vi s6.2.2.2), (10, vi z12), (11, vi (0 : Int32)), (12, vi v34)]) hX dX8_conditionHolds_169 (Nat.le_of_ble_eq_true rfl) rfl rfl ?_
                  refine r_iconst (v := (1 : Int32)) (q := 172) hX dX8_conditionHolds_171 rfl rfl ?_
                  refine r_istore (x := (1 : Int32)) (q := 174) 11 [1, 2, 3, 4, 5, 6, 7, 8, 0, 10] (L1 := [(0, vr a0), (1, vr a1), (2, vi x2), (3, vj s6.1), (5, vj s6.2.1), (7, vj s6.2.2.1), (9, vi s6.2.2.2), (10, vi z12), (11, vi (1 : Int32)), (12, vi v34)]) hX dX8_conditionHolds_172 (Nat.le_of_ble_eq_true rfl) rfl rfl ?_
                  refine r_l0 ?_
                  refine r_sub [0, 1, 2, 3, 4, 5, 6, 8, 9] rfl ?_
                  exact hj14 (s6.1, s6.2.1, s6.2.2.1, (1 : Int32), v34)
theorem flX8_19 : FL RX8 19 8 1 := ⟨Nat.le_of_ble_eq_true rfl, Nat.le_of_ble_eq_true rfl, gd (hcw3_11 _ (List.mem_of_getElem? (i := 5) rfl)) rfl⟩
theorem flX8_34 : FL RX8 34 8 4 := ⟨Nat.le_of_ble_eq_true rfl, Nat.le_of_ble_eq_true rfl, gd (hcw3_11 _ (List.mem_of_getElem? (i := 9) rfl)) rfl⟩
theorem flX8_9 : FL RX8 9 8 5 := ⟨Nat.le_of_ble_eq_true rfl, Nat.le_of_ble_eq_true rfl, gd (hcw3_11 _ (List.mem_of_getElem? (i := 12) rfl)) rfl⟩
theorem lkX8_37 : LkN RX8 37 yX11_within "CanalCompany" := bd (hcw4_1 _ (List.mem_of_getElem? (i := 8) rfl)) rfl
theorem lkX8_41 : Lk RX8 41 yX8_conditionHolds := gd (hcw4_1 _ (List.mem_of_getElem? (i := 9) rfl)) rfl
def mX8_speaksFor : MD := (yX8_speaksFor, cX8_speaksFor, 4, (some .boolean), 3, 81, 0, 0)
theorem ccX8_speaksFor : Cc mX8_speaksFor 3 := ⟨gd (hcw1_0 _ (List.mem_of_getElem? (i := 14) rfl)) rfl, gd (hcw4_1 _ (List.mem_of_getElem? (i := 7) rfl)) rfl, by decide +kernel, by decide +kernel, by decide +kernel⟩
theorem ivX8_speaksFor : Iv mX8_speaksFor 8 := ⟨Nat.le_of_ble_eq_true rfl, rfl, gd (hcw4_1 _ (List.mem_of_getElem? (i := 5) rfl)) rfl, gd (hcw4_1 _ (List.mem_of_getElem? (i := 6) rfl)) rfl⟩
noncomputable def fX8_speaksFor (Z : Shp) (M : Mem) (a0 : Nat) (x1 : Int32) (a2 : Nat) (x3 : Int32) : Option (Int32) := (if tg Z a0 = (9, 6) then (if (rI M a0 1) = x1 then (if (fX11_within x3 (rI M a0 4) (rI M a0 5)) = 0 then some (0 : Int32) else (if (tg Z (rR M a0 0)).1 = 102 then (if (nI (tg Z (rR M a0 0)).2) ≤ (rI M a0 3) then some (1 : Int32) else (Option.bind (fX8_conditionHolds Z M a0 a2 x3) (fun v6 => (if v6 = 0 then some (0 : Int32) else some (1 : Int32))))) else none)) else some (0 : Int32)) else none)
set_option maxRecDepth 20000 in
theorem kX8_speaksFor (l : Launch) (Z : Shp) (M : Mem) (a0 : Nat) (x1 : Int32) (a2 : Nat) (x3 : Int32) (r : Int32) (h : fX8_speaksFor Z M a0 x1 a2 x3 = some r) : Ct l mX8_speaksFor [vr a0, vi x1, vr a2, vi x3] Z M ((some (vi r)), Z, M) := by
  refine Ct.of rfl (Nat.le_of_ble_eq_true rfl) (fun X hM => ?_)
  have hX := hM.1
  refine r_top (mk := fun r => ((some (vi r)), Z, M)) h (fun K hK => ?_)
  unfold fX8_speaksFor
  refine r_aload_n (i := 0) (x := a0) (q := 1) 0 hX dX8_speaksFor_0 rfl rfl rfl ?_
  refine r_ck (fun hc1 => ?_)
  refine r_getI (a := a0) (ci := 8) (kf := 1) (q := 4) hX hc1 flX8_19 rfl rfl dX8_speaksFor_1 rfl ?_
  refine r_iload_n (i := 1) (x := x1) (q := 5) 1 hX dX8_speaksFor_4 rfl rfl rfl ?_
  refine r_icmp_ne (tgt := 48) (q := 8) hX dX8_speaksFor_5 (by decide) rfl (fun hb2 => ?_) (fun hb2 => ?_)
  · refine r_iload_n (i := 3) (x := x3) (q := 9) 3 hX dX8_speaksFor_8 rfl rfl rfl ?_
    refine r_aload_n (i := 0) (x := a0) (q := 10) 0 hX dX8_speaksFor_9 rfl rfl rfl ?_
    refine r_getI (a := a0) (ci := 8) (kf := 4) (q := 13) hX hc1 flX8_34 rfl rfl dX8_speaksFor_10 rfl ?_
    refine r_aload_n (i := 0) (x := a0) (q := 14) 0 hX dX8_speaksFor_13 rfl rfl rfl ?_
    refine r_getI (a := a0) (ci := 8) (kf := 5) (q := 17) hX hc1 flX8_9 rfl rfl dX8_speaksFor_14 rfl ?_
    refine r_cs (As := [vi x3, vi (rI M a0 4), vi (rI M a0 5)]) (st := []) (r := (some (vi (fX11_within x3 (rI M a0 4) (rI M a0 5))))) (Z1 := Z) (M1 := M) (k1 := 0) (n1 := 0) (st1 := [vi (fX11_within x3 (rI M a0 4) (rI M a0 5))]) (q := 20) hX (fun l => kX11_within l Z M x3 (rI M a0 4) (rI M a0 5)) stX11_within ccX11_within (Or.inr ⟨_, lkX8_37⟩) rfl rfl rfl ⟨Nat.le_of_ble_eq_true rfl, Nat.le_of_ble_eq_true rfl, rfl, rfl, Nat.le_of_ble_eq_true rfl, Nat.le_of_ble_eq_true rfl⟩ (Nat.le_of_ble_eq_true rfl) dX8_speaksFor_17 rfl ?_
    refine r_if_eq (tgt := 48) (q := 23) hX dX8_speaksFor_20 (by decide) rfl (fun hb3 => ?_) (fun hb3 => ?_)
    · refine r_iconst (v := (0 : Int32)) (q := 49) hX dX8_speaksFor_48 rfl rfl ?_
      refine r_lf (hK _) ?_
      exact r_zret hM rfl (Or.inl rfl) (Nat.le_of_ble_eq_true rfl) (Nat.le_of_ble_eq_true rfl) dX8_speaksFor_49
    · refine r_aload_n (i := 0) (x := a0) (q := 24) 0 hX dX8_speaksFor_23 rfl rfl rfl ?_
      refine r_getI (a := a0) (ci := 8) (kf := 3) (q := 27) hX hc1 flX8_31 rfl rfl dX8_speaksFor_24 rfl ?_
      refine r_aload_n (i := 0) (x := a0) (q := 28) 0 hX dX8_speaksFor_27 rfl rfl rfl ?_
      refine r_getR (a := a0) (ci := 8) (kf := 0) (q := 31) hX hc1 flX8_15 rfl dX8_speaksFor_28 rfl ?_
      refine r_ck (fun hc4 => ?_)
      refine r_alen (a := (rR M a0 0)) (q := 32) hX arL_102 hc4 dX8_speaksFor_31 rfl ?_
      refine r_icmp_ge (tgt := 44) (q := 35) hX dX8_speaksFor_32 (by decide) rfl (fun hb5 => ?_) (fun hb5 => ?_)
      · refine r_iconst (v := (1 : Int32)) (q := 45) hX dX8_speaksFor_44 rfl rfl ?_
        refine r_goto (q := 49) hX dX8_speaksFor_45 (by decide) ?_
        refine r_lf (hK _) ?_
        exact r_zret hM rfl (Or.inr rfl) (Nat.le_of_ble_eq_true rfl) (Nat.le_of_ble_eq_true rfl) dX8_speaksFor_49
      · refine r_aload_n (i := 0) (x := a0) (q := 36) 0 hX dX8_speaksFor_35 rfl rfl rfl ?_
        refine r_aload_n (i := 2) (x := a2) (q := 37) 2 hX dX8_speaksFor_36 rfl rfl rfl ?_
        refine r_iload_n (i := 3) (x := x3) (q := 38) 3 hX dX8_speaksFor_37 rfl rfl rfl ?_
        refine r_bind (fun v6 h7 => ?_)
        refine r_cv (a := a0) (As := [vr a2, vi x3]) (st := []) (r := (some (vi v6))) (Z1 := Z) (M1 := M) (k1 := 0) (n1 := 0) (st1 := [vi v6]) (q := 41) hX (fun l => kX8_conditionHolds l Z M a0 a2 x3 v6 h7) hc1 ivX8_conditionHolds ccX8_conditionHolds (Or.inl lkX8_41) rfl rfl rfl ⟨Nat.le_of_ble_eq_true rfl, Nat.le_of_ble_eq_true rfl, rfl, rfl, Nat.le_of_ble_eq_true rfl, Nat.le_of_ble_eq_true rfl⟩ (Nat.le_of_ble_eq_true rfl) dX8_speaksFor_38 rfl ?_
        refine r_if_eq (tgt := 48) (q := 44) hX dX8_speaksFor_41 (by decide) rfl (fun hb8 => ?_) (fun hb8 => ?_)
        · refine r_iconst (v := (0 : Int32)) (q := 49) hX dX8_speaksFor_48 rfl rfl ?_
          refine r_lf (hK _) ?_
          exact r_zret hM rfl (Or.inl rfl) (Nat.le_of_ble_eq_true rfl) (Nat.le_of_ble_eq_true rfl) dX8_speaksFor_49
        · refine r_iconst (v := (1 : Int32)) (q := 45) hX dX8_speaksFor_44 rfl rfl ?_
          refine r_goto (q := 49) hX dX8_speaksFor_45 (by decide) ?_
          refine r_lf (hK _) ?_
          exact r_zret hM rfl (Or.inr rfl) (Nat.le_of_ble_eq_true rfl) (Nat.le_of_ble_eq_true rfl) dX8_speaksFor_49
  · refine r_iconst (v := (0 : Int32)) (q := 49) hX dX8_speaksFor_48 rfl rfl ?_
    refine r_lf (hK _) ?_
    exact r_zret hM rfl (Or.inl rfl) (Nat.le_of_ble_eq_true rfl) (Nat.le_of_ble_eq_true rfl) dX8_speaksFor_49
theorem flX2_21 : FL RX2 21 2 3 := ⟨Nat.le_of_ble_eq_true rfl, Nat.le_of_ble_eq_true rfl, gd (hcw1_7 _ (List.mem_of_getElem? (i := 3) rfl)) rfl⟩
theorem flX2_17 : FL RX2 17 2 2 := ⟨Nat.le_of_ble_eq_true rfl, Nat.le_of_ble_eq_true rfl, gd (hcw1_7 _ (List.mem_of_getElem? (i := 2) rfl)) rfl⟩
theorem lkX2_68 : Lk RX2 68 yX8_speaksFor := gd (hcw4_1 _ (List.mem_of_getElem? (i := 4) rfl)) rfl
def mX2_speaker : MD := (yX2_speaker, cX2_speaker, 5, (some .int), 4, 104, 0, 0)
theorem ccX2_speaker : Cc mX2_speaker 3 := ⟨gd (hcw1_0 _ (List.mem_of_getElem? (i := 5) rfl)) rfl, gd (hcw4_1 _ (List.mem_of_getElem? (i := 3) rfl)) rfl, by decide +kernel, by decide +kernel, by decide +kernel⟩
theorem ivX2_speaker : Iv mX2_speaker 2 := ⟨Nat.le_of_ble_eq_true rfl, rfl, gd (hcw4_1 _ (List.mem_of_getElem? (i := 1) rfl)) rfl, gd (hcw4_1 _ (List.mem_of_getElem? (i := 2) rfl)) rfl⟩
noncomputable def fX2_speaker (Z : Shp) (M : Mem) (a0 : Nat) (x1 : Int32) (a2 : Nat) (x3 : Int32) : Option (Int32) := (if tg Z a0 = (3, 4) then (pu (((rI M a0 3) - (1 : Int32))) (fun z2 => (loop (fun s3 : Int32 => (if s3 < 0 then some (Sum.inr (-1 : Int32)) else (if aok Z (rR M a0 2) 114 s3 then (if tg Z (rR M (rR M a0 2) (ix s3)) = (9, 6) then (Option.bind (fX8_speaksFor Z M (rR M (rR M a0 2) (ix s3)) x1 a2 x3) (fun v9 => (if v9 = 0 then some (Sum.inl (s3 + (-1 : Int32))) else some (Sum.inr s3)))) else none) else none))) z2))) else none)
set_option maxRecDepth 20000 in
theorem kX2_speaker (l : Launch) (Z : Shp) (M : Mem) (a0 : Nat) (x1 : Int32) (a2 : Nat) (x3 : Int32) (r : Int32) (h : fX2_speaker Z M a0 x1 a2 x3 = some r) : Ct l mX2_speaker [vr a0, vi x1, vr a2, vi x3] Z M ((some (vi r)), Z, M) := by
  refine Ct.of rfl (Nat.le_of_ble_eq_true rfl) (fun X hM => ?_)
  have hX := hM.1
  refine r_top (mk := fun r => ((some (vi r)), Z, M)) h (fun K hK => ?_)
  unfold fX2_speaker
  refine r_aload_n (i := 0) (x := a0) (q := 1) 0 hX dX2_speaker_0 rfl rfl rfl ?_
  refine r_ck (fun hc1 => ?_)
  refine r_getI (a := a0) (ci := 2) (kf := 3) (q := 4) hX hc1 flX2_21 rfl rfl dX2_speaker_1 rfl ?_
  refine r_iconst (v := (1 : Int32)) (q := 5) hX dX2_speaker_4 rfl rfl ?_
  refine r_isub (q := 6) hX dX2_speaker_5 rfl ?_
  refine r_istoreP (x := ((rI M a0 3) - (1 : Int32))) (q := 8) 4 [1, 2, 3, 4, 0] (fun z2 => [(0, vr a0), (1, vi x1), (2, vr a2), (3, vi x3), (4, vi z2)]) hX dX2_speaker_6 (Nat.le_of_ble_eq_true rfl) (fun _ => rfl) rfl (fun z2 => ?_)
  refine r_loop (Hd := fun (s3 : Int32) (P : Option Res) => Ref mX2_speaker X 0 0 Z M 8 [(0, vr a0), (1, vi x1), (2, vr a2), (3, vi x3), (4, vi s3)] [] P) (fun _ => r_none) (fun s3 K1 hn4 hx5 => ?_) z2
  refine r_iload (i := 4) (x := s3) (q := 10) 4 hX dX2_speaker_8 rfl rfl ?_
  refine r_if_lt (tgt := 38) (q := 13) hX dX2_speaker_10 (by decide) rfl (fun hb6 => ?_) (fun hb6 => ?_)
  · refine r_iconst (v := (-1 : Int32)) (q := 39) hX dX2_speaker_38 rfl rfl ?_
    refine r_lf ((hx5 _).trans (hK _)) ?_
    exact r_iret hM rfl (Nat.le_of_ble_eq_true rfl) (Nat.le_of_ble_eq_true rfl) dX2_speaker_39
  · refine r_aload_n (i := 0) (x := a0) (q := 14) 0 hX dX2_speaker_13 rfl rfl rfl ?_
    refine r_getR (a := a0) (ci := 2) (kf := 2) (q := 17) hX hc1 flX2_17 rfl dX2_speaker_14 rfl ?_
    refine r_iload (i := 4) (x := s3) (q := 19) 4 hX dX2_speaker_17 rfl rfl ?_
    refine r_ck (fun hc7 => ?_)
    refine r_aald (a := (rR M a0 2)) (i := s3) (q := 20) hX arT_114 hc7 dX2_speaker_19 rfl ?_
    refine r_iload_n (i := 1) (x := x1) (q := 21) 1 hX dX2_speaker_20 rfl rfl rfl ?_
    refine r_aload_n (i := 2) (x := a2) (q := 22) 2 hX dX2_speaker_21 rfl rfl rfl ?_
    refine r_iload_n (i := 3) (x := x3) (q := 23) 3 hX dX2_speaker_22 rfl rfl rfl ?_
    refine r_ck (fun hc8 => ?_)
    refine r_bind (fun v9 h10 => ?_)
    refine r_cv (a := (rR M (rR M a0 2) (ix s3))) (As := [vi x1, vr a2, vi x3]) (st := []) (r := (some (vi v9))) (Z1 := Z) (M1 := M) (k1 := 0) (n1 := 0) (st1 := [vi v9]) (q := 26) hX (fun l => kX8_speaksFor l Z M (rR M (rR M a0 2) (ix s3)) x1 a2 x3 v9 h10) hc8 ivX8_speaksFor ccX8_speaksFor (Or.inl lkX2_68) rfl rfl rfl ⟨Nat.le_of_ble_eq_true rfl, Nat.le_of_ble_eq_true rfl, rfl, rfl, Nat.le_of_ble_eq_true rfl, Nat.le_of_ble_eq_true rfl⟩ (Nat.le_of_ble_eq_true rfl) dX2_speaker_23 rfl ?_
    refine r_if_eq (tgt := 32) (q := 29) hX dX2_speaker_26 (by decide) rfl (fun hb11 => ?_) (fun hb11 => ?_)
    · refine r_iinc (x := s3) (v := (s3 + (-1 : Int32))) (q := 35) 4 4 [1, 2, 3, 4, 0] (L1 := [(0, vr a0), (1, vi x1), (2, vr a2), (3, vi x3), (4, vi (s3 + (-1 : Int32)))]) hX dX2_speaker_32 rfl rfl (Nat.le_of_ble_eq_true rfl) rfl rfl ?_
      refine r_goto (q := 8) hX dX2_speaker_35 (by decide) ?_
      refine r_l0 ?_
      exact hn4 (s3 + (-1 : Int32))
    · refine r_iload (i := 4) (x := s3) (q := 31) 4 hX dX2_speaker_29 rfl rfl ?_
      refine r_lf ((hx5 _).trans (hK _)) ?_
      exact r_iret hM rfl (Nat.le_of_ble_eq_true rfl) (Nat.le_of_ble_eq_true rfl) dX2_speaker_31
theorem lkX2_25 : LkN RX2 25 yX11_within "CanalCompany" := bd (hcw3_9 _ (List.mem_of_getElem? (i := 19) rfl)) rfl
def mX2_textNumbered : MD := (yX2_textNumbered, cX2_textNumbered, 2, (some (.object "CanalCompany$Text")), 1, 22, 0, 0)
theorem ccX2_textNumbered : Cc mX2_textNumbered 1 := ⟨gd (hcw1_0 _ (List.mem_of_getElem? (i := 5) rfl)) rfl, gd (hcw4_0 _ (List.mem_of_getElem? (i := 15) rfl)) rfl, by decide +kernel, by decide +kernel, by decide +kernel⟩
theorem ivX2_textNumbered : Iv mX2_textNumbered 2 := ⟨Nat.le_of_ble_eq_true rfl, rfl, gd (hcw4_0 _ (List.mem_of_getElem? (i := 13) rfl)) rfl, gd (hcw4_0 _ (List.mem_of_getElem? (i := 14) rfl)) rfl⟩
def fX2_textNumbered (Z : Shp) (M : Mem) (a0 : Nat) (x1 : Int32) : Option (Nat) := (if tg Z a0 = (3, 4) then (if (fX11_within x1 (0 : Int32) ((rI M a0 3) - (1 : Int32))) = 0 then some 0 else (if aok Z (rR M a0 2) 114 x1 then some (rR M (rR M a0 2) (ix x1)) else none)) else none)
set_option maxRecDepth 20000 in
theorem kX2_textNumbered (l : Launch) (Z : Shp) (M : Mem) (a0 : Nat) (x1 : Int32) (r : Nat) (h : fX2_textNumbered Z M a0 x1 = some r) : Ct l mX2_textNumbered [vr a0, vi x1] Z M ((some (vr r)), Z, M) := by
  refine Ct.of rfl (Nat.le_of_ble_eq_true rfl) (fun X hM => ?_)
  have hX := hM.1
  refine r_top (mk := fun r => ((some (vr r)), Z, M)) h (fun K hK => ?_)
  unfold fX2_textNumbered
  refine r_iload_n (i := 1) (x := x1) (q := 1) 1 hX dX2_textNumbered_0 rfl rfl rfl ?_
  refine r_iconst (v := (0 : Int32)) (q := 2) hX dX2_textNumbered_1 rfl rfl ?_
  refine r_aload_n (i := 0) (x := a0) (q := 3) 0 hX dX2_textNumbered_2 rfl rfl rfl ?_
  refine r_ck (fun hc1 => ?_)
  refine r_getI (a := a0) (ci := 2) (kf := 3) (q := 6) hX hc1 flX2_21 rfl rfl dX2_textNumbered_3 rfl ?_
  refine r_iconst (v := (1 : Int32)) (q := 7) hX dX2_textNumbered_6 rfl rfl ?_
  refine r_isub (q := 8) hX dX2_textNumbered_7 rfl ?_
  refine r_cs (As := [vi x1, vi (0 : Int32), vi ((rI M a0 3) - (1 : Int32))]) (st := []) (r := (some (vi (fX11_within x1 (0 : Int32) ((rI M a0 3) - (1 : Int32)))))) (Z1 := Z) (M1 := M) (k1 := 0) (n1 := 0) (st1 := [vi (fX11_within x1 (0 : Int32) ((rI M a0 3) - (1 : Int32)))]) (q := 11) hX (fun l => kX11_within l Z M x1 (0 : Int32) ((rI M a0 3) - (1 : Int32))) stX11_within ccX11_within (Or.inr ⟨_, lkX2_25⟩) rfl rfl rfl ⟨Nat.le_of_ble_eq_true rfl, Nat.le_of_ble_eq_true rfl, rfl, rfl, Nat.le_of_ble_eq_true rfl, Nat.le_of_ble_eq_true rfl⟩ (Nat.le_of_ble_eq_true rfl) dX2_textNumbered_8 rfl ?_
  refine r_if_eq (tgt := 23) (q := 14) hX dX2_textNumbered_11 (by decide) rfl (fun hb2 => ?_) (fun hb2 => ?_)
  · refine r_null (q := 24) hX dX2_textNumbered_23 rfl ?_
    refine r_lf (hK _) ?_
    exact r_aret hM rfl (Or.inl ⟨_, rfl⟩) (Nat.le_of_ble_eq_true rfl) (Nat.le_of_ble_eq_true rfl) dX2_textNumbered_24
  · refine r_aload_n (i := 0) (x := a0) (q := 15) 0 hX dX2_textNumbered_14 rfl rfl rfl ?_
    refine r_getR (a := a0) (ci := 2) (kf := 2) (q := 18) hX hc1 flX2_17 rfl dX2_textNumbered_15 rfl ?_
    refine r_iload_n (i := 1) (x := x1) (q := 19) 1 hX dX2_textNumbered_18 rfl rfl rfl ?_
    refine r_ck (fun hc3 => ?_)
    refine r_aald (a := (rR M a0 2)) (i := x1) (q := 20) hX arT_114 hc3 dX2_textNumbered_19 rfl ?_
    refine r_goto (q := 24) hX dX2_textNumbered_20 (by decide) ?_
    refine r_lf (hK _) ?_
    exact r_aret hM rfl (Or.inl ⟨_, rfl⟩) (Nat.le_of_ble_eq_true rfl) (Nat.le_of_ble_eq_true rfl) dX2_textNumbered_24
theorem lkX2_72 : Lk RX2 72 yX2_speaker := gd (hcw4_2 _ (List.mem_of_getElem? (i := 10) rfl)) rfl
theorem lkX2_76 : Lk RX2 76 yX2_textNumbered := gd (hcw4_2 _ (List.mem_of_getElem? (i := 19) rfl)) rfl
theorem flX2_80 : FL RX2 80 8 2 := ⟨Nat.le_of_ble_eq_true rfl, Nat.le_of_ble_eq_true rfl, gd (hcw3_11 _ (List.mem_of_getElem? (i := 7) rfl)) rfl⟩
def mX2_says : MD := (yX2_says, cX2_says, 5, (some .int), 5, 128, 0, 0)
theorem ccX2_says : Cc mX2_says 3 := ⟨gd (hcw1_0 _ (List.mem_of_getElem? (i := 5) rfl)) rfl, gd (hcw4_2 _ (List.mem_of_getElem? (i := 18) rfl)) rfl, by decide +kernel, by decide +kernel, by decide +kernel⟩
theorem ivX2_says : Iv mX2_says 2 := ⟨Nat.le_of_ble_eq_true rfl, rfl, gd (hcw4_2 _ (List.mem_of_getElem? (i := 16) rfl)) rfl, gd (hcw4_2 _ (List.mem_of_getElem? (i := 17) rfl)) rfl⟩
noncomputable def fX2_says (Z : Shp) (M : Mem) (a0 : Nat) (x1 : Int32) (a2 : Nat) (x3 : Int32) : Option (Int32) := (if tg Z a0 = (3, 4) then (Option.bind (fX2_speaker Z M a0 x1 a2 x3) (fun v2 => (Option.bind (fX2_textNumbered Z M a0 v2) (fun v4 => (if v4 = 0 then some (0 : Int32) else (if tg Z v4 = (9, 6) then some (rI M v4 2) else none)))))) else none)
set_option maxRecDepth 20000 in
theorem kX2_says (l : Launch) (Z : Shp) (M : Mem) (a0 : Nat) (x1 : Int32) (a2 : Nat) (x3 : Int32) (r : Int32) (h : fX2_says Z M a0 x1 a2 x3 = some r) : Ct l mX2_says [vr a0, vi x1, vr a2, vi x3] Z M ((some (vi r)), Z, M) := by
  refine Ct.of rfl (Nat.le_of_ble_eq_true rfl) (fun X hM => ?_)
  have hX := hM.1
  refine r_top (mk := fun r => ((some (vi r)), Z, M)) h (fun K hK => ?_)
  unfold fX2_says
  refine r_aload_n (i := 0) (x := a0) (q := 1) 0 hX dX2_says_0 rfl rfl rfl ?_
  refine r_aload_n (i := 0) (x := a0) (q := 2) 0 hX dX2_says_1 rfl rfl rfl ?_
  refine r_iload_n (i := 1) (x := x1) (q := 3) 1 hX dX2_says_2 rfl rfl rfl ?_
  refine r_aload_n (i := 2) (x := a2) (q := 4) 2 hX dX2_says_3 rfl rfl rfl ?_
  refine r_iload_n (i := 3) (x := x3) (q := 5) 3 hX dX2_says_4 rfl rfl rfl ?_
  refine r_ck (fun hc1 => ?_)
  refine r_bind (fun v2 h3 => ?_)
  refine r_cv (a := a0) (As := [vi x1, vr a2, vi x3]) (st := [vr a0]) (r := (some (vi v2))) (Z1 := Z) (M1 := M) (k1 := 0) (n1 := 0) (st1 := [vi v2, vr a0]) (q := 8) hX (fun l => kX2_speaker l Z M a0 x1 a2 x3 v2 h3) hc1 ivX2_speaker ccX2_speaker (Or.inl lkX2_72) rfl rfl rfl ⟨Nat.le_of_ble_eq_true rfl, Nat.le_of_ble_eq_true rfl, rfl, rfl, Nat.le_of_ble_eq_true rfl, Nat.le_of_ble_eq_true rfl⟩ (Nat.le_of_ble_eq_true rfl) dX2_says_5 rfl ?_
  refine r_bind (fun v4 h5 => ?_)
  refine r_cv (a := a0) (As := [vi v2]) (st := []) (r := (some (vr v4))) (Z1 := Z) (M1 := M) (k1 := 0) (n1 := 0) (st1 := [vr v4]) (q := 11) hX (fun l => kX2_textNumbered l Z M a0 v2 v4 h5) hc1 ivX2_textNumbered ccX2_textNumbered (Or.inl lkX2_76) rfl rfl rfl ⟨Nat.le_of_ble_eq_true rfl, Nat.le_of_ble_eq_true rfl, rfl, rfl, Nat.le_of_ble_eq_true rfl, Nat.le_of_ble_eq_true rfl⟩ (Nat.le_of_ble_eq_true rfl) dX2_says_8 rfl ?_
  refine r_astore (x := v4) (q := 13) 4 [1, 2, 3, 4, 0] (L1 := [(0, vr a0), (1, vi x1), (2, vr a2), (3, vi x3), (4, vr v4)]) hX dX2_says_11 (Nat.le_of_ble_eq_true rfl) rfl rfl ?_
  refine r_aload (i := 4) (x := v4) (q := 15) 4 hX dX2_says_13 rfl rfl ?_
  refine r_ifnonnull (tgt := 22) (q := 18) hX dX2_says_15 (by decide) rfl (fun hb6 => ?_) (fun hb6 => ?_)
  · refine r_iconst (v := (0 : Int32)) (q := 19) hX dX2_says_18 rfl rfl ?_
    refine r_goto (q := 27) hX dX2_says_19 (by decide) ?_
    refine r_lf (hK _) ?_
    exact r_iret hM rfl (Nat.le_of_ble_eq_true rfl) (Nat.le_of_ble_eq_true rfl) dX2_says_27
  · refine r_aload (i := 4) (x := v4) (q := 24) 4 hX dX2_says_22 rfl rfl ?_
    refine r_ck (fun hc7 => ?_)
    refine r_getI (a := v4) (ci := 8) (kf := 2) (q := 27) hX hc7 flX2_80 rfl rfl dX2_says_24 rfl ?_
    refine r_lf (hK _) ?_
    exact r_iret hM rfl (Nat.le_of_ble_eq_true rfl) (Nat.le_of_ble_eq_true rfl) dX2_says_27
theorem flX11_271 : FL RX11 271 1 9 := ⟨Nat.le_of_ble_eq_true rfl, Nat.le_of_ble_eq_true rfl, gd (hcw2_11 _ (List.mem_of_getElem? (i := 0) rfl)) rfl⟩
theorem flX11_275 : FL RX11 275 5 0 := ⟨Nat.le_of_ble_eq_true rfl, Nat.le_of_ble_eq_true rfl, gd (hcw2_0 _ (List.mem_of_getElem? (i := 1) rfl)) rfl⟩
theorem flX11_279 : FL RX11 279 1 4 := ⟨Nat.le_of_ble_eq_true rfl, Nat.le_of_ble_eq_true rfl, gd (hcw2_10 _ (List.mem_of_getElem? (i := 12) rfl)) rfl⟩
theorem flX11_19 : FL RX11 19 11 1 := ⟨Nat.le_of_ble_eq_true rfl, Nat.le_of_ble_eq_true rfl, gd (hcw2_2 _ (List.mem_of_getElem? (i := 13) rfl)) rfl⟩
theorem lkX11_206 : Lk RX11 206 yX2_says := gd (hcw4_2 _ (List.mem_of_getElem? (i := 15) rfl)) rfl
def mX11_bill : MD := (yX11_bill, cX11_bill, 5, (some .int), 6, 152, 0, 0)
theorem ccX11_bill : Cc mX11_bill 2 := ⟨gd (hcw1_0 _ (List.mem_of_getElem? (i := 1) rfl)) rfl, gd (hcw4_11 _ (List.mem_of_getElem? (i := 9) rfl)) rfl, by decide +kernel, by decide +kernel, by decide +kernel⟩
theorem ivX11_bill : Iv mX11_bill 11 := ⟨Nat.le_of_ble_eq_true rfl, rfl, gd (hcw4_11 _ (List.mem_of_getElem? (i := 7) rfl)) rfl, gd (hcw4_11 _ (List.mem_of_getElem? (i := 8) rfl)) rfl⟩
noncomputable def fX11_bill (Z : Shp) (M : Mem) (a0 : Nat) (x1 : Int32) (x2 : Int32) : Option (Int32 × Mem) := (if tg Z a0 = (12, 6) then (if tg Z (rR M a0 0) = (4, 11) then (Option.bind (fX3_boatNumbered Z M (rR M a0 0) x1) (fun v3 => (if v3 = 0 then some ((-101 : Int32), M) else (if (fX11_within x2 (0 : Int32) (99 : Int32)) = 0 then some ((-102 : Int32), M) else (if tg Z v3 = (2, 10) then (if (rI M v3 9) = 0 then (if tg Z (rR M a0 4) = (6, 9) then (if aok Z (rR M (rR M a0 4) 0) 100 (rI M v3 4) then (if tg Z (rR M a0 1) = (3, 4) then (Option.bind (fX2_says Z M (rR M a0 1) (0 : Int32) v3 x2) (fun v12 => (Option.bind (fX1_tonMiles Z M v3) (fun v14 => (pu (((rI M (rR M (rR M a0 4) 0) (ix (rI M v3 4))) + (v12 * v14))) (fun z16 => (Option.bind (fX2_says Z M (rR M a0 1) (1 : Int32) v3 x2) (fun v17 => (if z16 ≤ v17 then (pu (wI M v3 9 (1 : Int32)) (fun M20 => (if tg Z (rR M20 a0 4) = (6, 9) then (if aok Z (rR M20 (rR M20 a0 4) 0) 100 (rI M20 v3 4) then (pu (wI M20 (rR M20 (rR M20 a0 4) 0) (ix (rI M20 v3 4)) z16) (fun M23 => some (z16, M23))) else none) else none))) else some ((-1 : Int32), M)))))))))) else none) else none) else none) else some ((-103 : Int32), M)) else none))))) else none) else none)
set_option maxRecDepth 20000 in
theorem kX11_bill (l : Launch) (Z : Shp) (M : Mem) (a0 : Nat) (x1 : Int32) (x2 : Int32) (r : Int32 × Mem) (h : fX11_bill Z M a0 x1 x2 = some r) : Ct l mX11_bill [vr a0, vi x1, vi x2] Z M ((some (vi r.1)), Z, r.2) := by
  refine Ct.of rfl (Nat.le_of_ble_eq_true rfl) (fun X hM => ?_)
  have hX := hM.1
  refine r_top (mk := fun r => ((some (vi r.1)), Z, r.2)) h (fun K hK => ?_)
  unfold fX11_bill
  refine r_aload_n (i := 0) (x := a0) (q := 1) 0 hX dX11_bill_0 rfl rfl rfl ?_
  refine r_ck (fun hc1 => ?_)
  refine r_getR (a := a0) (ci := 11) (kf := 0) (q := 4) hX hc1 flX11_12 rfl dX11_bill_1 rfl ?_
  refine r_iload_n (i := 1) (x := x1) (q := 5) 1 hX dX11_bill_4 rfl rfl rfl ?_
  refine r_ck (fun hc2 => ?_)
  refine r_bind (fun v3 h4 => ?_)
  refine r_cv (a := (rR M a0 0)) (As := [vi x1]) (st := []) (r := (some (vr v3))) (Z1 := Z) (M1 := M) (k1 := 0) (n1 := 0) (st1 := [vr v3]) (q := 8) hX (fun l => kX3_boatNumbered l Z M (rR M a0 0) x1 v3 h4) hc2 ivX3_boatNumbered ccX3_boatNumbered (Or.inl lkX11_134) rfl rfl rfl ⟨Nat.le_of_ble_eq_true rfl, Nat.le_of_ble_eq_true rfl, rfl, rfl, Nat.le_of_ble_eq_true rfl, Nat.le_of_ble_eq_true rfl⟩ (Nat.le_of_ble_eq_true rfl) dX11_bill_5 rfl ?_
  refine r_astore_n (x := v3) (q := 9) 3 [1, 2, 3, 0] (L1 := [(0, vr a0), (1, vi x1), (2, vi x2), (3, vr v3)]) hX dX11_bill_8 rfl (Nat.le_of_ble_eq_true rfl) rfl rfl ?_
  refine r_aload_n (i := 3) (x := v3) (q := 10) 3 hX dX11_bill_9 rfl rfl rfl ?_
  refine r_ifnonnull (tgt := 16) (q := 13) hX dX11_bill_10 (by decide) rfl (fun hb5 => ?_) (fun hb5 => ?_)
  · refine r_bipush (v := (-101 : Int32)) (q := 15) hX dX11_bill_13 rfl rfl ?_
    refine r_lf (hK _) ?_
    exact r_iret hM rfl (Nat.le_of_ble_eq_true rfl) (Nat.le_of_ble_eq_true rfl) dX11_bill_15
  · refine r_iload_n (i := 2) (x := x2) (q := 17) 2 hX dX11_bill_16 rfl rfl rfl ?_
    refine r_iconst (v := (0 : Int32)) (q := 18) hX dX11_bill_17 rfl rfl ?_
    refine r_bipush (v := (99 : Int32)) (q := 20) hX dX11_bill_18 rfl rfl ?_
    refine r_cs (As := [vi x2, vi (0 : Int32), vi (99 : Int32)]) (st := []) (r := (some (vi (fX11_within x2 (0 : Int32) (99 : Int32))))) (Z1 := Z) (M1 := M) (k1 := 0) (n1 := 0) (st1 := [vi (fX11_within x2 (0 : Int32) (99 : Int32))]) (q := 23) hX (fun l => kX11_within l Z M x2 (0 : Int32) (99 : Int32)) stX11_within ccX11_within (Or.inl lkX11_55) rfl rfl rfl ⟨Nat.le_of_ble_eq_true rfl, Nat.le_of_ble_eq_true rfl, rfl, rfl, Nat.le_of_ble_eq_true rfl, Nat.le_of_ble_eq_true rfl⟩ (Nat.le_of_ble_eq_true rfl) dX11_bill_20 rfl ?_
    refine r_if_ne (tgt := 29) (q := 26) hX dX11_bill_23 (by decide) rfl (fun hb6 => ?_) (fun hb6 => ?_)
    · refine r_bipush (v := (-102 : Int32)) (q := 28) hX dX11_bill_26 rfl rfl ?_
      refine r_lf (hK _) ?_
      exact r_iret hM rfl (Nat.le_of_ble_eq_true rfl) (Nat.le_of_ble_eq_true rfl) dX11_bill_28
    · refine r_aload_n (i := 3) (x := v3) (q := 30) 3 hX dX11_bill_29 rfl rfl rfl ?_
      refine r_ck (fun hc7 => ?_)
      refine r_getI (a := v3) (ci := 1) (kf := 9) (q := 33) hX hc7 flX11_271 rfl rfl dX11_bill_30 rfl ?_
      refine r_if_eq (tgt := 39) (q := 36) hX dX11_bill_33 (by decide) rfl (fun hb8 => ?_) (fun hb8 => ?_)
      · refine r_aload_n (i := 0) (x := a0) (q := 40) 0 hX dX11_bill_39 rfl rfl rfl ?_
        refine r_getR (a := a0) (ci := 11) (kf := 4) (q := 43) hX hc1 flX11_40 rfl dX11_bill_40 rfl ?_
        refine r_ck (fun hc9 => ?_)
        refine r_getR (a := (rR M a0 4)) (ci := 5) (kf := 0) (q := 46) hX hc9 flX11_275 rfl dX11_bill_43 rfl ?_
        refine r_aload_n (i := 3) (x := v3) (q := 47) 3 hX dX11_bill_46 rfl rfl rfl ?_
        refine r_getI (a := v3) (ci := 1) (kf := 4) (q := 50) hX hc7 flX11_279 rfl rfl dX11_bill_47 rfl ?_
        refine r_ck (fun hc10 => ?_)
        refine r_iald (a := (rR M (rR M a0 4) 0)) (i := (rI M v3 4)) (q := 51) hX hc10 dX11_bill_50 rfl ?_
        refine r_aload_n (i := 0) (x := a0) (q := 52) 0 hX dX11_bill_51 rfl rfl rfl ?_
        refine r_getR (a := a0) (ci := 11) (kf := 1) (q := 55) hX hc1 flX11_19 rfl dX11_bill_52 rfl ?_
        refine r_iconst (v := (0 : Int32)) (q := 56) hX dX11_bill_55 rfl rfl ?_
        refine r_aload_n (i := 3) (x := v3) (q := 57) 3 hX dX11_bill_56 rfl rfl rfl ?_
        refine r_iload_n (i := 2) (x := x2) (q := 58) 2 hX dX11_bill_57 rfl rfl rfl ?_
        refine r_ck (fun hc11 => ?_)
        refine r_bind (fun v12 h13 => ?_)
        refine r_cv (a := (rR M a0 1)) (As := [vi (0 : Int32), vr v3, vi x2]) (st := [vi (rI M (rR M (rR M a0 4) 0) (ix (rI M v3 4)))]) (r := (some (vi v12))) (Z1 := Z) (M1 := M) (k1 := 0) (n1 := 0) (st1 := [vi v12, vi (rI M (rR M (rR M a0 4) 0) (ix (rI M v3 4)))]) (q := 61) hX (fun l => kX2_says l Z M (rR M a0 1) (0 : Int32) v3 x2 v12 h13) hc11 ivX2_says ccX2_says (Or.inl lkX11_206) rfl rfl rfl ⟨Nat.le_of_ble_eq_true rfl, Nat.le_of_ble_eq_true rfl, rfl, rfl, Nat.le_of_ble_eq_true rfl, Nat.le_of_ble_eq_true rfl⟩ (Nat.le_of_ble_eq_true rfl) dX11_bill_58 rfl ?_
        refine r_aload_n (i := 3) (x := v3) (q := 62) 3 hX dX11_bill_61 rfl rfl rfl ?_
        refine r_bind (fun v14 h15 => ?_)
        refine r_cv (a := v3) (As := []) (st := [vi v12, vi (rI M (rR M (rR M a0 4) 0) (ix (rI M v3 4)))]) (r := (some (vi v14))) (Z1 := Z) (M1 := M) (k1 := 0) (n1 := 0) (st1 := [vi v14, vi v12, vi (rI M (rR M (rR M a0 4) 0) (ix (rI M v3 4)))]) (q := 65) hX (fun l => kX1_tonMiles l Z M v3 v14 h15) hc7 ivX1_tonMiles ccX1_tonMiles (Or.inl lkX11_209) rfl rfl rfl ⟨Nat.le_of_ble_eq_true rfl, Nat.le_of_ble_eq_true rfl, rfl, rfl, Nat.le_of_ble_eq_true rfl, Nat.le_of_ble_eq_true rfl⟩ (Nat.le_of_ble_eq_true rfl) dX11_bill_62 rfl ?_
        refine r_imul (q := 66) hX dX11_bill_65 rfl ?_
        refine r_iadd (q := 67) hX dX11_bill_66 rfl ?_
        refine r_istoreP (x := ((rI M (rR M (rR M a0 4) 0) (ix (rI M v3 4))) + (v12 * v14))) (q := 69) 4 [1, 2, 3, 4, 0] (fun z16 => [(0, vr a0), (1, vi x1), (2, vi x2), (3, vr v3), (4, vi z16)]) hX dX11_bill_67 (Nat.le_of_ble_eq_true rfl) (fun _ => rfl) rfl (fun z16 => ?_)
        refine r_iload (i := 4) (x := z16) (q := 71) 4 hX dX11_bill_69 rfl rfl ?_
        refine r_aload_n (i := 0) (x := a0) (q := 72) 0 hX dX11_bill_71 rfl rfl rfl ?_
        refine r_getR (a := a0) (ci := 11) (kf := 1) (q := 75) hX hc1 flX11_19 rfl dX11_bill_72 rfl ?_
        refine r_iconst (v := (1 : Int32)) (q := 76) hX dX11_bill_75 rfl rfl ?_
        refine r_aload_n (i := 3) (x := v3) (q := 77) 3 hX dX11_bill_76 rfl rfl rfl ?_
        refine r_iload_n (i := 2) (x := x2) (q := 78) 2 hX dX11_bill_77 rfl rfl rfl ?_
        refine r_bind (fun v17 h18 => ?_)
        refine r_cv (a := (rR M a0 1)) (As := [vi (1 : Int32), vr v3, vi x2]) (st := [vi z16]) (r := (some (vi v17))) (Z1 := Z) (M1 := M) (k1 := 0) (n1 := 0) (st1 := [vi v17, vi z16]) (q := 81) hX (fun l => kX2_says l Z M (rR M a0 1) (1 : Int32) v3 x2 v17 h18) hc11 ivX2_says ccX2_says (Or.inl lkX11_206) rfl rfl rfl ⟨Nat.le_of_ble_eq_true rfl, Nat.le_of_ble_eq_true rfl, rfl, rfl, Nat.le_of_ble_eq_true rfl, Nat.le_of_ble_eq_true rfl⟩ (Nat.le_of_ble_eq_true rfl) dX11_bill_78 rfl ?_
        refine r_icmp_le (tgt := 86) (q := 84) hX dX11_bill_81 (by decide) rfl (fun hb19 => ?_) (fun hb19 => ?_)
        · refine r_aload_n (i := 3) (x := v3) (q := 87) 3 hX dX11_bill_86 rfl rfl rfl ?_
          refine r_iconst (v := (1 : Int32)) (q := 88) hX dX11_bill_87 rfl rfl ?_
          refine r_putI (a := v3) (ci := 1) (kf := 9) (q := 91) hX hc7 flX11_271 rfl rfl (Or.inl rfl) (zb_n (Or.inr rfl)) (zb_f (Or.inr rfl)) dX11_bill_88 rfl (fun M20 => ?_)
          refine r_aload_n (i := 0) (x := a0) (q := 92) 0 hX dX11_bill_91 rfl rfl rfl ?_
          refine r_getR (a := a0) (ci := 11) (kf := 4) (q := 95) hX hc1 flX11_40 rfl dX11_bill_92 rfl ?_
          refine r_ck (fun hc21 => ?_)
          refine r_getR (a := (rR M20 a0 4)) (ci := 5) (kf := 0) (q := 98) hX hc21 flX11_275 rfl dX11_bill_95 rfl ?_
          refine r_aload_n (i := 3) (x := v3) (q := 99) 3 hX dX11_bill_98 rfl rfl rfl ?_
          refine r_getI (a := v3) (ci := 1) (kf := 4) (q := 102) hX hc7 flX11_279 rfl rfl dX11_bill_99 rfl ?_
          refine r_iload (i := 4) (x := z16) (q := 104) 4 hX dX11_bill_102 rfl rfl ?_
          refine r_ck (fun hc22 => ?_)
          refine r_iast (a := (rR M20 (rR M20 a0 4) 0)) (i := (rI M20 v3 4)) (x := z16) (q := 105) hX hc22 dX11_bill_104 rfl (fun M23 => ?_)
          refine r_iload (i := 4) (x := z16) (q := 107) 4 hX dX11_bill_105 rfl rfl ?_
          refine r_lf (hK _) ?_
          exact r_iret hM rfl (Nat.le_of_ble_eq_true rfl) (Nat.le_of_ble_eq_true rfl) dX11_bill_107
        · refine r_iconst (v := (-1 : Int32)) (q := 85) hX dX11_bill_84 rfl rfl ?_
          refine r_lf (hK _) ?_
          exact r_iret hM rfl (Nat.le_of_ble_eq_true rfl) (Nat.le_of_ble_eq_true rfl) dX11_bill_85
      · refine r_bipush (v := (-103 : Int32)) (q := 38) hX dX11_bill_36 rfl rfl ?_
        refine r_lf (hK _) ?_
        exact r_iret hM rfl (Nat.le_of_ble_eq_true rfl) (Nat.le_of_ble_eq_true rfl) dX11_bill_38
