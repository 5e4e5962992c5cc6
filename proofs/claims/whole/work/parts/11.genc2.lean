theorem flX11_170 : FL RX11 170 2 1 := ⟨Nat.le_of_ble_eq_true rfl, Nat.le_of_ble_eq_true rfl, gd (hcw1_7 _ (List.mem_of_getElem? (i := 1) rfl)) rfl⟩
def mX11_blank : MD := (yX11_blank, cX11_blank, 2, (some .int), 0, 0, 0, 0)
theorem ccX11_blank : Cc mX11_blank 0 := ⟨gd (hcw1_0 _ (List.mem_of_getElem? (i := 1) rfl)) rfl, gd (hcw3_8 _ (List.mem_of_getElem? (i := 1) rfl)) rfl, by decide +kernel, by decide +kernel, by decide +kernel⟩
theorem ivX11_blank : Iv mX11_blank 11 := ⟨Nat.le_of_ble_eq_true rfl, rfl, gd (hcw3_7 _ (List.mem_of_getElem? (i := 19) rfl)) rfl, gd (hcw3_8 _ (List.mem_of_getElem? (i := 0) rfl)) rfl⟩
def fX11_blank (Z : Shp) (M : Mem) (a0 : Nat) : Option (Int32 × Mem) := (if tg Z a0 = (12, 6) then (if tg Z (rR M a0 1) = (3, 4) then (pu ((rI M (rR M a0 1) 1)) (fun z3 => (pu (wI M (rR M a0 1) 1 (0 : Int32)) (fun M4 => some (z3, M4))))) else none) else none)
set_option maxRecDepth 20000 in
theorem kX11_blank (l : Launch) (Z : Shp) (M : Mem) (a0 : Nat) (r : Int32 × Mem) (h : fX11_blank Z M a0 = some r) : Ct l mX11_blank [vr a0] Z M ((some (vi r.1)), Z, r.2) := by
  refine Ct.of rfl (Nat.le_of_ble_eq_true rfl) (fun X hM => ?_)
  have hX := hM.1
  refine r_top (mk := fun r => ((some (vi r.1)), Z, r.2)) h (fun K hK => ?_)
  unfold fX11_blank
  refine r_aload_n (i := 0) (x := a0) (q := 1) 0 hX dX11_blank_0 rfl rfl rfl ?_
  refine r_ck (fun hc1 => ?_)
  refine r_getR (a := a0) (ci := 11) (kf := 1) (q := 4) hX hc1 flX11_19 rfl dX11_blank_1 rfl ?_
  refine r_ck (fun hc2 => ?_)
  refine r_getI (a := (rR M a0 1)) (ci := 2) (kf := 1) (q := 7) hX hc2 flX11_170 rfl rfl dX11_blank_4 rfl ?_
  refine r_istore_nP (x := (rI M (rR M a0 1) 1)) (q := 8) 1 [1, 0] (fun z3 => [(0, vr a0), (1, vi z3)]) hX dX11_blank_7 rfl (Nat.le_of_ble_eq_true rfl) (fun _ => rfl) rfl (fun z3 => ?_)
  refine r_aload_n (i := 0) (x := a0) (q := 9) 0 hX dX11_blank_8 rfl rfl rfl ?_
  refine r_getR (a := a0) (ci := 11) (kf := 1) (q := 12) hX hc1 flX11_19 rfl dX11_blank_9 rfl ?_
  refine r_iconst (v := (0 : Int32)) (q := 13) hX dX11_blank_12 rfl rfl ?_
  refine r_putI (a := (rR M a0 1)) (ci := 2) (kf := 1) (q := 16) hX hc2 flX11_170 rfl rfl (Or.inl rfl) rfl rfl dX11_blank_13 rfl (fun M4 => ?_)
  refine r_iload_n (i := 1) (x := z3) (q := 17) 1 hX dX11_blank_16 rfl rfl rfl ?_
  refine r_lf (hK _) ?_
  exact r_iret hM rfl (Nat.le_of_ble_eq_true rfl) (Nat.le_of_ble_eq_true rfl) dX11_blank_17
theorem flX1_18 : FL RX1 18 1 2 := ⟨Nat.le_of_ble_eq_true rfl, Nat.le_of_ble_eq_true rfl, gd (hcw2_10 _ (List.mem_of_getElem? (i := 5) rfl)) rfl⟩
theorem flX1_21 : FL RX1 21 1 3 := ⟨Nat.le_of_ble_eq_true rfl, Nat.le_of_ble_eq_true rfl, gd (hcw2_10 _ (List.mem_of_getElem? (i := 6) rfl)) rfl⟩
theorem flX1_24 : FL RX1 24 1 4 := ⟨Nat.le_of_ble_eq_true rfl, Nat.le_of_ble_eq_true rfl, gd (hcw2_10 _ (List.mem_of_getElem? (i := 9) rfl)) rfl⟩
def mX1_init : MD := (yX1_init, cX1_init, 7, none, 1, 15, 0, 0)
theorem ccX1_init : Cc mX1_init 6 := ⟨gd (hcw1_0 _ (List.mem_of_getElem? (i := 13) rfl)) rfl, gd (hcw2_9 _ (List.mem_of_getElem? (i := 16) rfl)) rfl, by decide +kernel, by decide +kernel, by decide +kernel⟩
theorem imX1_init : Cond.instanceMethod (yN mX1_init) ∈ lw_gd := gd (hcw2_9 _ (List.mem_of_getElem? (i := 15) rfl)) rfl
def fX1_init (Z : Shp) (M : Mem) (a0 : Nat) (x1 : Int32) (x2 : Int32) (x3 : Int32) (x4 : Int32) (x5 : Int32) (x6 : Int32) : Option (Mem) := (if tg Z a0 = (2, 10) then (pu (wI M a0 0 x2) (fun M2 => (pu (wI M2 a0 1 x3) (fun M3 => (pu (wI M3 a0 2 x4) (fun M4 => (pu (wI M4 a0 3 x5) (fun M5 => (pu (wI M5 a0 4 x6) (fun M6 => (pu (wI M6 a0 5 ((5 : Int32) * ((abI (x2 - x1)) + (1 : Int32)))) (fun M7 => (pu (wI M7 a0 6 x1) (fun M8 => some M8)))))))))))))) else none)
set_option maxRecDepth 20000 in
theorem kX1_init (l : Launch) (Z : Shp) (M : Mem) (a0 : Nat) (x1 : Int32) (x2 : Int32) (x3 : Int32) (x4 : Int32) (x5 : Int32) (x6 : Int32) (r : Mem) (h : fX1_init Z M a0 x1 x2 x3 x4 x5 x6 = some r) : Ct l mX1_init [vr a0, vi x1, vi x2, vi x3, vi x4, vi x5, vi x6] Z M (none, Z, r) := by
  refine Ct.of rfl (Nat.le_of_ble_eq_true rfl) (fun X hM => ?_)
  have hX := hM.1
  refine r_top (mk := fun r => (none, Z, r)) h (fun K hK => ?_)
  unfold fX1_init
  refine r_aload_n (i := 0) (x := a0) (q := 1) 0 hX dX1_init_0 rfl rfl rfl ?_
  refine r_ck (fun hc1 => ?_)
  refine r_objI (ci := 1) (q := 4) hX (gd (hcw2_9 _ (List.mem_of_getElem? (i := 17) rfl)) rfl) hc1 (Nat.le_of_ble_eq_true rfl) (Nat.le_of_ble_eq_true rfl) dX1_init_1 rfl ?_
  refine r_aload_n (i := 0) (x := a0) (q := 5) 0 hX dX1_init_4 rfl rfl rfl ?_
  refine r_iload_n (i := 2) (x := x2) (q := 6) 2 hX dX1_init_5 rfl rfl rfl ?_
  refine r_putI (a := a0) (ci := 1) (kf := 0) (q := 9) hX hc1 flX1_9 rfl rfl (Or.inr ⟨rfl, rfl, rfl⟩) rfl rfl dX1_init_6 rfl (fun M2 => ?_)
  refine r_aload_n (i := 0) (x := a0) (q := 10) 0 hX dX1_init_9 rfl rfl rfl ?_
  refine r_iload_n (i := 3) (x := x3) (q := 11) 3 hX dX1_init_10 rfl rfl rfl ?_
  refine r_putI (a := a0) (ci := 1) (kf := 1) (q := 14) hX hc1 flX1_15 rfl rfl (Or.inr ⟨rfl, rfl, rfl⟩) rfl rfl dX1_init_11 rfl (fun M3 => ?_)
  refine r_aload_n (i := 0) (x := a0) (q := 15) 0 hX dX1_init_14 rfl rfl rfl ?_
  refine r_iload (i := 4) (x := x4) (q := 17) 4 hX dX1_init_15 rfl rfl ?_
  refine r_putI (a := a0) (ci := 1) (kf := 2) (q := 20) hX hc1 flX1_18 rfl rfl (Or.inr ⟨rfl, rfl, rfl⟩) rfl rfl dX1_init_17 rfl (fun M4 => ?_)
  refine r_aload_n (i := 0) (x := a0) (q := 21) 0 hX dX1_init_20 rfl rfl rfl ?_
  refine r_iload (i := 5) (x := x5) (q := 23) 5 hX dX1_init_21 rfl rfl ?_
  refine r_putI (a := a0) (ci := 1) (kf := 3) (q := 26) hX hc1 flX1_21 rfl rfl (Or.inr ⟨rfl, rfl, rfl⟩) rfl rfl dX1_init_23 rfl (fun M5 => ?_)
  refine r_aload_n (i := 0) (x := a0) (q := 27) 0 hX dX1_init_26 rfl rfl rfl ?_
  refine r_iload (i := 6) (x := x6) (q := 29) 6 hX dX1_init_27 rfl rfl ?_
  refine r_putI (a := a0) (ci := 1) (kf := 4) (q := 32) hX hc1 flX1_24 rfl rfl (Or.inr ⟨rfl, rfl, rfl⟩) rfl rfl dX1_init_29 rfl (fun M6 => ?_)
  refine r_aload_n (i := 0) (x := a0) (q := 33) 0 hX dX1_init_32 rfl rfl rfl ?_
  refine r_iconst (v := (5 : Int32)) (q := 34) hX dX1_init_33 rfl rfl ?_
  refine r_iload_n (i := 2) (x := x2) (q := 35) 2 hX dX1_init_34 rfl rfl rfl ?_
  refine r_iload_n (i := 1) (x := x1) (q := 36) 1 hX dX1_init_35 rfl rfl rfl ?_
  refine r_isub (q := 37) hX dX1_init_36 rfl ?_
  refine r_mabs (q := 40) hX (gd (hcw2_9 _ (List.mem_of_getElem? (i := 18) rfl)) rfl) (Nat.le_of_ble_eq_true rfl) (Nat.le_of_ble_eq_true rfl) (Nat.le_of_ble_eq_true rfl) (Nat.le_of_ble_eq_true rfl) dX1_init_37 rfl ?_
  refine r_iconst (v := (1 : Int32)) (q := 41) hX dX1_init_40 rfl rfl ?_
  refine r_iadd (q := 42) hX dX1_init_41 rfl ?_
  refine r_imul (q := 43) hX dX1_init_42 rfl ?_
  refine r_putI (a := a0) (ci := 1) (kf := 5) (q := 46) hX hc1 flX1_33 rfl rfl (Or.inr ⟨rfl, rfl, rfl⟩) rfl rfl dX1_init_43 rfl (fun M7 => ?_)
  refine r_aload_n (i := 0) (x := a0) (q := 47) 0 hX dX1_init_46 rfl rfl rfl ?_
  refine r_iload_n (i := 1) (x := x1) (q := 48) 1 hX dX1_init_47 rfl rfl rfl ?_
  refine r_putI (a := a0) (ci := 1) (kf := 6) (q := 51) hX hc1 flX1_36 rfl rfl (Or.inl rfl) rfl rfl dX1_init_48 rfl (fun M8 => ?_)
  refine r_lf (hK _) ?_
  exact r_vret hM rfl (Nat.le_of_ble_eq_true rfl) (Nat.le_of_ble_eq_true rfl) dX1_init_51
def mX1_comeInto : MD := (yX1_comeInto, cX1_comeInto, 3, none, 0, 0, 0, 0)
theorem ccX1_comeInto : Cc mX1_comeInto 2 := ⟨gd (hcw1_0 _ (List.mem_of_getElem? (i := 13) rfl)) rfl, gd (hcw3_0 _ (List.mem_of_getElem? (i := 9) rfl)) rfl, by decide +kernel, by decide +kernel, by decide +kernel⟩
theorem ivX1_comeInto : Iv mX1_comeInto 1 := ⟨Nat.le_of_ble_eq_true rfl, rfl, gd (hcw3_0 _ (List.mem_of_getElem? (i := 7) rfl)) rfl, gd (hcw3_0 _ (List.mem_of_getElem? (i := 8) rfl)) rfl⟩
def fX1_comeInto (Z : Shp) (M : Mem) (a0 : Nat) (x1 : Int32) (x2 : Int32) : Option (Mem) := (if tg Z a0 = (2, 10) then (pu (wI M a0 6 x1) (fun M2 => (if x1 = (rI M2 a0 0) then (pu (wI M2 a0 7 (-1 : Int32)) (fun M4 => some M4)) else (pu (wI M2 a0 7 (x2 + (rI M2 a0 2))) (fun M5 => some M5))))) else none)
set_option maxRecDepth 20000 in
theorem kX1_comeInto (l : Launch) (Z : Shp) (M : Mem) (a0 : Nat) (x1 : Int32) (x2 : Int32) (r : Mem) (h : fX1_comeInto Z M a0 x1 x2 = some r) : Ct l mX1_comeInto [vr a0, vi x1, vi x2] Z M (none, Z, r) := by
  refine Ct.of rfl (Nat.le_of_ble_eq_true rfl) (fun X hM => ?_)
  have hX := hM.1
  refine r_top (mk := fun r => (none, Z, r)) h (fun K hK => ?_)
  unfold fX1_comeInto
  refine r_aload_n (i := 0) (x := a0) (q := 1) 0 hX dX1_comeInto_0 rfl rfl rfl ?_
  refine r_iload_n (i := 1) (x := x1) (q := 2) 1 hX dX1_comeInto_1 rfl rfl rfl ?_
  refine r_ck (fun hc1 => ?_)
  refine r_putI (a := a0) (ci := 1) (kf := 6) (q := 5) hX hc1 flX1_36 rfl rfl (Or.inl rfl) rfl rfl dX1_comeInto_2 rfl (fun M2 => ?_)
  refine r_aload_n (i := 0) (x := a0) (q := 6) 0 hX dX1_comeInto_5 rfl rfl rfl ?_
  refine r_iload_n (i := 1) (x := x1) (q := 7) 1 hX dX1_comeInto_6 rfl rfl rfl ?_
  refine r_aload_n (i := 0) (x := a0) (q := 8) 0 hX dX1_comeInto_7 rfl rfl rfl ?_
  refine r_getI (a := a0) (ci := 1) (kf := 0) (q := 11) hX hc1 flX1_9 rfl rfl dX1_comeInto_8 rfl ?_
  refine r_icmp_ne (tgt := 18) (q := 14) hX dX1_comeInto_11 (by decide) rfl (fun hb3 => ?_) (fun hb3 => ?_)
  · refine r_iconst (v := (-1 : Int32)) (q := 15) hX dX1_comeInto_14 rfl rfl ?_
    refine r_goto (q := 24) hX dX1_comeInto_15 (by decide) ?_
    refine r_putI (a := a0) (ci := 1) (kf := 7) (q := 27) hX hc1 flX1_39 rfl rfl (Or.inl rfl) rfl rfl dX1_comeInto_24 rfl (fun M4 => ?_)
    refine r_lf (hK _) ?_
    exact r_vret hM rfl (Nat.le_of_ble_eq_true rfl) (Nat.le_of_ble_eq_true rfl) dX1_comeInto_27
  · refine r_iload_n (i := 2) (x := x2) (q := 19) 2 hX dX1_comeInto_18 rfl rfl rfl ?_
    refine r_aload_n (i := 0) (x := a0) (q := 20) 0 hX dX1_comeInto_19 rfl rfl rfl ?_
    refine r_getI (a := a0) (ci := 1) (kf := 2) (q := 23) hX hc1 flX1_18 rfl rfl dX1_comeInto_20 rfl ?_
    refine r_iadd (q := 24) hX dX1_comeInto_23 rfl ?_
    refine r_putI (a := a0) (ci := 1) (kf := 7) (q := 27) hX hc1 flX1_39 rfl rfl (Or.inl rfl) rfl rfl dX1_comeInto_24 rfl (fun M5 => ?_)
    refine r_lf (hK _) ?_
    exact r_vret hM rfl (Nat.le_of_ble_eq_true rfl) (Nat.le_of_ble_eq_true rfl) dX1_comeInto_27
theorem flX3_57 : FL RX3 57 1 6 := ⟨Nat.le_of_ble_eq_true rfl, Nat.le_of_ble_eq_true rfl, gd (hcw2_10 _ (List.mem_of_getElem? (i := 16) rfl)) rfl⟩
theorem flX3_60 : FL RX3 60 3 8 := ⟨Nat.le_of_ble_eq_true rfl, Nat.le_of_ble_eq_true rfl, gd (hcw1_5 _ (List.mem_of_getElem? (i := 3) rfl)) rfl⟩
theorem lkX3_63 : Lk RX3 63 yX1_comeInto := gd (hcw3_0 _ (List.mem_of_getElem? (i := 6) rfl)) rfl
def mX3_addBoat : MD := (yX3_addBoat, cX3_addBoat, 2, (some .int), 1, 22, 0, 0)
theorem ccX3_addBoat : Cc mX3_addBoat 1 := ⟨gd (hcw1_0 _ (List.mem_of_getElem? (i := 2) rfl)) rfl, gd (hcw3_0 _ (List.mem_of_getElem? (i := 5) rfl)) rfl, by decide +kernel, by decide +kernel, by decide +kernel⟩
theorem ivX3_addBoat : Iv mX3_addBoat 3 := ⟨Nat.le_of_ble_eq_true rfl, rfl, gd (hcw3_0 _ (List.mem_of_getElem? (i := 3) rfl)) rfl, gd (hcw3_0 _ (List.mem_of_getElem? (i := 4) rfl)) rfl⟩
noncomputable def fX3_addBoat (Z : Shp) (M : Mem) (a0 : Nat) (a1 : Nat) : Option (Int32 × Mem) := (if tg Z a1 = (2, 10) then (if tg Z a0 = (4, 11) then (Option.bind (fX1_comeInto Z M a1 (rI M a1 6) (rI M a0 8)) (fun v3 => (if aok Z (rR v3 a0 4) 113 (rI v3 a0 6) then (pu (wR v3 (rR v3 a0 4) (ix (rI v3 a0 6)) a1) (fun M6 => (pu (wI M6 a0 6 ((rI M6 a0 6) + (1 : Int32))) (fun M7 => some ((rI M6 a0 6), M7))))) else none))) else none) else none)
set_option maxRecDepth 20000 in
theorem kX3_addBoat (l : Launch) (Z : Shp) (M : Mem) (a0 : Nat) (a1 : Nat) (r : Int32 × Mem) (h : fX3_addBoat Z M a0 a1 = some r) : Ct l mX3_addBoat [vr a0, vr a1] Z M ((some (vi r.1)), Z, r.2) := by
  refine Ct.of rfl (Nat.le_of_ble_eq_true rfl) (fun X hM => ?_)
  have hX := hM.1
  refine r_top (mk := fun r => ((some (vi r.1)), Z, r.2)) h (fun K hK => ?_)
  unfold fX3_addBoat
  refine r_aload_n (i := 1) (x := a1) (q := 1) 1 hX dX3_addBoat_0 rfl rfl rfl ?_
  refine r_aload_n (i := 1) (x := a1) (q := 2) 1 hX dX3_addBoat_1 rfl rfl rfl ?_
  refine r_ck (fun hc1 => ?_)
  refine r_getI (a := a1) (ci := 1) (kf := 6) (q := 5) hX hc1 flX3_57 rfl rfl dX3_addBoat_2 rfl ?_
  refine r_aload_n (i := 0) (x := a0) (q := 6) 0 hX dX3_addBoat_5 rfl rfl rfl ?_
  refine r_ck (fun hc2 => ?_)
  refine r_getI (a := a0) (ci := 3) (kf := 8) (q := 9) hX hc2 flX3_60 rfl rfl dX3_addBoat_6 rfl ?_
  refine r_bind (fun v3 h4 => ?_)
  refine r_cv (a := a1) (As := [vi (rI M a1 6), vi (rI M a0 8)]) (st := []) (r := none) (Z1 := Z) (M1 := v3) (k1 := 0) (n1 := 0) (st1 := []) (q := 12) hX (fun l => kX1_comeInto l Z M a1 (rI M a1 6) (rI M a0 8) v3 h4) hc1 ivX1_comeInto ccX1_comeInto (Or.inl lkX3_63) rfl rfl rfl ⟨Nat.le_of_ble_eq_true rfl, Nat.le_of_ble_eq_true rfl, rfl, rfl, Nat.le_of_ble_eq_true rfl, Nat.le_of_ble_eq_true rfl⟩ (Nat.le_of_ble_eq_true rfl) dX3_addBoat_9 rfl ?_
  refine r_aload_n (i := 0) (x := a0) (q := 13) 0 hX dX3_addBoat_12 rfl rfl rfl ?_
  refine r_getR (a := a0) (ci := 3) (kf := 4) (q := 16) hX hc2 flX3_34 rfl dX3_addBoat_13 rfl ?_
  refine r_aload_n (i := 0) (x := a0) (q := 17) 0 hX dX3_addBoat_16 rfl rfl rfl ?_
  refine r_getI (a := a0) (ci := 3) (kf := 6) (q := 20) hX hc2 flX3_51 rfl rfl dX3_addBoat_17 rfl ?_
  refine r_aload_n (i := 1) (x := a1) (q := 21) 1 hX dX3_addBoat_20 rfl rfl rfl ?_
  refine r_ck (fun hc5 => ?_)
  refine r_aast (a := (rR v3 a0 4)) (v := a1) (i := (rI v3 a0 6)) (q := 22) hX arT_113 hc5 hc1 dX3_addBoat_21 rfl (fun M6 => ?_)
  refine r_aload_n (i := 0) (x := a0) (q := 23) 0 hX dX3_addBoat_22 rfl rfl rfl ?_
  refine r_dup (q := 24) hX dX3_addBoat_23 rfl rfl ?_
  refine r_getI (a := a0) (ci := 3) (kf := 6) (q := 27) hX hc2 flX3_51 rfl rfl dX3_addBoat_24 rfl ?_
  refine r_dup_x1 (q := 28) hX dX3_addBoat_27 rfl rfl rfl ?_
  refine r_iconst (v := (1 : Int32)) (q := 29) hX dX3_addBoat_28 rfl rfl ?_
  refine r_iadd (q := 30) hX dX3_addBoat_29 rfl ?_
  refine r_putI (a := a0) (ci := 3) (kf := 6) (q := 33) hX hc2 flX3_51 rfl rfl (Or.inl rfl) rfl rfl dX3_addBoat_30 rfl (fun M7 => ?_)
  refine r_lf (hK _) ?_
  exact r_iret hM rfl (Nat.le_of_ble_eq_true rfl) (Nat.le_of_ble_eq_true rfl) dX3_addBoat_33
theorem lkX11_120 : Lk RX11 120 yX1_init := gd (hcw2_9 _ (List.mem_of_getElem? (i := 14) rfl)) rfl
theorem lkX11_123 : Lk RX11 123 yX3_addBoat := gd (hcw3_0 _ (List.mem_of_getElem? (i := 2) rfl)) rfl
def mX11_boat : MD := (yX11_boat, cX11_boat, 7, (some .int), 2, 43, 1, 10)
theorem ccX11_boat : Cc mX11_boat 6 := ⟨gd (hcw1_0 _ (List.mem_of_getElem? (i := 1) rfl)) rfl, gd (hcw2_9 _ (List.mem_of_getElem? (i := 11) rfl)) rfl, by decide +kernel, by decide +kernel, by decide +kernel⟩
theorem ivX11_boat : Iv mX11_boat 11 := ⟨Nat.le_of_ble_eq_true rfl, rfl, gd (hcw2_9 _ (List.mem_of_getElem? (i := 9) rfl)) rfl, gd (hcw2_9 _ (List.mem_of_getElem? (i := 10) rfl)) rfl⟩
noncomputable def fX11_boat (Z : Shp) (M : Mem) (a0 : Nat) (x1 : Int32) (x2 : Int32) (x3 : Int32) (x4 : Int32) (x5 : Int32) (x6 : Int32) : Option (Int32 × Shp × Mem) := (if tg Z a0 = (12, 6) then (if tg Z (rR M a0 0) = (4, 11) then (Option.bind (fX3_poundNumbered Z M (rR M a0 0) x1) (fun v3 => (if v3 = 0 then some ((-101 : Int32), Z, M) else (Option.bind (fX3_poundNumbered Z M (rR M a0 0) x2) (fun v6 => (if v6 = 0 then some ((-101 : Int32), Z, M) else (if x1 = x2 then some ((-101 : Int32), Z, M) else (if (fX11_within x3 (0 : Int32) (40 : Int32)) = 0 then some ((-102 : Int32), Z, M) else (if (fX11_within x4 (1 : Int32) (9 : Int32)) = 0 then some ((-102 : Int32), Z, M) else (if (fX11_within x5 (0 : Int32) (3 : Int32)) = 0 then some ((-102 : Int32), Z, M) else (if (fX11_within x6 (0 : Int32) (3 : Int32)) = 0 then some ((-102 : Int32), Z, M) else (if (rI M (rR M a0 0) 6) < (12 : Int32) then (pu2 (Z ++ [(2, 10)]) (nw M (Z.length + 2)) (fun Z15 M16 => (Option.bind (fX1_init Z15 M16 (Z.length + 2) x1 x2 x3 x4 x5 x6) (fun v19 => (Option.bind (fX3_addBoat Z15 v19 (rR M a0 0) (Z.length + 2)) (fun v21 => some (v21.1, Z15, v21.2))))))) else some ((-104 : Int32), Z, M))))))))))))) else none) else none)
set_option maxRecDepth 20000 in
theorem kX11_boat (l : Launch) (Z : Shp) (M : Mem) (a0 : Nat) (x1 : Int32) (x2 : Int32) (x3 : Int32) (x4 : Int32) (x5 : Int32) (x6 : Int32) (r : Int32 × Shp × Mem) (h : fX11_boat Z M a0 x1 x2 x3 x4 x5 x6 = some r) : Ct l mX11_boat [vr a0, vi x1, vi x2, vi x3, vi x4, vi x5, vi x6] Z M ((some (vi r.1)), r.2.1, r.2.2) := by
  refine Ct.of rfl (Nat.le_of_ble_eq_true rfl) (fun X hM => ?_)
  have hX := hM.1
  refine r_top (mk := fun r => ((some (vi r.1)), r.2.1, r.2.2)) h (fun K hK => ?_)
  unfold fX11_boat
  refine r_aload_n (i := 0) (x := a0) (q := 1) 0 hX dX11_boat_0 rfl rfl rfl ?_
  refine r_ck (fun hc1 => ?_)
  refine r_getR (a := a0) (ci := 11) (kf := 0) (q := 4) hX hc1 flX11_12 rfl dX11_boat_1 rfl ?_
  refine r_iload_n (i := 1) (x := x1) (q := 5) 1 hX dX11_boat_4 rfl rfl rfl ?_
  refine r_ck (fun hc2 => ?_)
  refine r_bind (fun v3 h4 => ?_)
  refine r_cv (a := (rR M a0 0)) (As := [vi x1]) (st := []) (r := (some (vr v3))) (Z1 := Z) (M1 := M) (k1 := 0) (n1 := 0) (st1 := [vr v3]) (q := 8) hX (fun l => kX3_poundNumbered l Z M (rR M a0 0) x1 v3 h4) hc2 ivX3_poundNumbered ccX3_poundNumbered (Or.inl lkX11_51) rfl rfl rfl ⟨Nat.le_of_ble_eq_true rfl, Nat.le_of_ble_eq_true rfl, rfl, rfl, Nat.le_of_ble_eq_true rfl, Nat.le_of_ble_eq_true rfl⟩ (Nat.le_of_ble_eq_true rfl) dX11_boat_5 rfl ?_
  refine r_ifnull (tgt := 27) (q := 11) hX dX11_boat_8 (by decide) rfl (fun hb5 => ?_) (fun hb5 => ?_)
  · refine r_bipush (v := (-101 : Int32)) (q := 29) hX dX11_boat_27 rfl rfl ?_
    refine r_lf (hK _) ?_
    exact r_iret hM rfl (Nat.le_of_ble_eq_true rfl) (Nat.le_of_ble_eq_true rfl) dX11_boat_29
  · refine r_aload_n (i := 0) (x := a0) (q := 12) 0 hX dX11_boat_11 rfl rfl rfl ?_
    refine r_getR (a := a0) (ci := 11) (kf := 0) (q := 15) hX hc1 flX11_12 rfl dX11_boat_12 rfl ?_
    refine r_iload_n (i := 2) (x := x2) (q := 16) 2 hX dX11_boat_15 rfl rfl rfl ?_
    refine r_bind (fun v6 h7 => ?_)
    refine r_cv (a := (rR M a0 0)) (As := [vi x2]) (st := []) (r := (some (vr v6))) (Z1 := Z) (M1 := M) (k1 := 0) (n1 := 0) (st1 := [vr v6]) (q := 19) hX (fun l => kX3_poundNumbered l Z M (rR M a0 0) x2 v6 h7) hc2 ivX3_poundNumbered ccX3_poundNumbered (Or.inl lkX11_51) rfl rfl rfl ⟨Nat.le_of_ble_eq_true rfl, Nat.le_of_ble_eq_true rfl, rfl, rfl, Nat.le_of_ble_eq_true rfl, Nat.le_of_ble_eq_true rfl⟩ (Nat.le_of_ble_eq_true rfl) dX11_boat_16 rfl ?_
    refine r_ifnull (tgt := 27) (q := 22) hX dX11_boat_19 (by decide) rfl (fun hb8 => ?_) (fun hb8 => ?_)
    · refine r_bipush (v := (-101 : Int32)) (q := 29) hX dX11_boat_27 rfl rfl ?_
      refine r_lf (hK _) ?_
      exact r_iret hM rfl (Nat.le_of_ble_eq_true rfl) (Nat.le_of_ble_eq_true rfl) dX11_boat_29
    · refine r_iload_n (i := 1) (x := x1) (q := 23) 1 hX dX11_boat_22 rfl rfl rfl ?_
      refine r_iload_n (i := 2) (x := x2) (q := 24) 2 hX dX11_boat_23 rfl rfl rfl ?_
      refine r_icmp_ne (tgt := 30) (q := 27) hX dX11_boat_24 (by decide) rfl (fun hb9 => ?_) (fun hb9 => ?_)
      · refine r_bipush (v := (-101 : Int32)) (q := 29) hX dX11_boat_27 rfl rfl ?_
        refine r_lf (hK _) ?_
        exact r_iret hM rfl (Nat.le_of_ble_eq_true rfl) (Nat.le_of_ble_eq_true rfl) dX11_boat_29
      · refine r_iload_n (i := 3) (x := x3) (q := 31) 3 hX dX11_boat_30 rfl rfl rfl ?_
        refine r_iconst (v := (0 : Int32)) (q := 32) hX dX11_boat_31 rfl rfl ?_
        refine r_bipush (v := (40 : Int32)) (q := 34) hX dX11_boat_32 rfl rfl ?_
        refine r_cs (As := [vi x3, vi (0 : Int32), vi (40 : Int32)]) (st := []) (r := (some (vi (fX11_within x3 (0 : Int32) (40 : Int32))))) (Z1 := Z) (M1 := M) (k1 := 0) (n1 := 0) (st1 := [vi (fX11_within x3 (0 : Int32) (40 : Int32))]) (q := 37) hX (fun l => kX11_within l Z M x3 (0 : Int32) (40 : Int32)) stX11_within ccX11_within (Or.inl lkX11_55) rfl rfl rfl ⟨Nat.le_of_ble_eq_true rfl, Nat.le_of_ble_eq_true rfl, rfl, rfl, Nat.le_of_ble_eq_true rfl, Nat.le_of_ble_eq_true rfl⟩ (Nat.le_of_ble_eq_true rfl) dX11_boat_34 rfl ?_
        refine r_if_eq (tgt := 71) (q := 40) hX dX11_boat_37 (by decide) rfl (fun hb10 => ?_) (fun hb10 => ?_)
        · refine r_bipush (v := (-102 : Int32)) (q := 73) hX dX11_boat_71 rfl rfl ?_
          refine r_lf (hK _) ?_
          exact r_iret hM rfl (Nat.le_of_ble_eq_true rfl) (Nat.le_of_ble_eq_true rfl) dX11_boat_73
        · refine r_iload (i := 4) (x := x4) (q := 42) 4 hX dX11_boat_40 rfl rfl ?_
          refine r_iconst (v := (1 : Int32)) (q := 43) hX dX11_boat_42 rfl rfl ?_
          refine r_bipush (v := (9 : Int32)) (q := 45) hX dX11_boat_43 rfl rfl ?_
          refine r_cs (As := [vi x4, vi (1 : Int32), vi (9 : Int32)]) (st := []) (r := (some (vi (fX11_within x4 (1 : Int32) (9 : Int32))))) (Z1 := Z) (M1 := M) (k1 := 0) (n1 := 0) (st1 := [vi (fX11_within x4 (1 : Int32) (9 : Int32))]) (q := 48) hX (fun l => kX11_within l Z M x4 (1 : Int32) (9 : Int32)) stX11_within ccX11_within (Or.inl lkX11_55) rfl rfl rfl ⟨Nat.le_of_ble_eq_true rfl, Nat.le_of_ble_eq_true rfl, rfl, rfl, Nat.le_of_ble_eq_true rfl, Nat.le_of_ble_eq_true rfl⟩ (Nat.le_of_ble_eq_true rfl) dX11_boat_45 rfl ?_
          refine r_if_eq (tgt := 71) (q := 51) hX dX11_boat_48 (by decide) rfl (fun hb11 => ?_) (fun hb11 => ?_)
          · refine r_bipush (v := (-102 : Int32)) (q := 73) hX dX11_boat_71 rfl rfl ?_
            refine r_lf (hK _) ?_
            exact r_iret hM rfl (Nat.le_of_ble_eq_true rfl) (Nat.le_of_ble_eq_true rfl) dX11_boat_73
          · refine r_iload (i := 5) (x := x5) (q := 53) 5 hX dX11_boat_51 rfl rfl ?_
            refine r_iconst (v := (0 : Int32)) (q := 54) hX dX11_boat_53 rfl rfl ?_
            refine r_iconst (v := (3 : Int32)) (q := 55) hX dX11_boat_54 rfl rfl ?_
            refine r_cs (As := [vi x5, vi (0 : Int32), vi (3 : Int32)]) (st := []) (r := (some (vi (fX11_within x5 (0 : Int32) (3 : Int32))))) (Z1 := Z) (M1 := M) (k1 := 0) (n1 := 0) (st1 := [vi (fX11_within x5 (0 : Int32) (3 : Int32))]) (q := 58) hX (fun l => kX11_within l Z M x5 (0 : Int32) (3 : Int32)) stX11_within ccX11_within (Or.inl lkX11_55) rfl rfl rfl ⟨Nat.le_of_ble_eq_true rfl, Nat.le_of_ble_eq_true rfl, rfl, rfl, Nat.le_of_ble_eq_true rfl, Nat.le_of_ble_eq_true rfl⟩ (Nat.le_of_ble_eq_true rfl) dX11_boat_55 rfl ?_
            refine r_if_eq (tgt := 71) (q := 61) hX dX11_boat_58 (by decide) rfl (fun hb12 => ?_) (fun hb12 => ?_)
            · refine r_bipush (v := (-102 : Int32)) (q := 73) hX dX11_boat_71 rfl rfl ?_
              refine r_lf (hK _) ?_
              exact r_iret hM rfl (Nat.le_of_ble_eq_true rfl) (Nat.le_of_ble_eq_true rfl) dX11_boat_73
            · refine r_iload (i := 6) (x := x6) (q := 63) 6 hX dX11_boat_61 rfl rfl ?_
              refine r_iconst (v := (0 : Int32)) (q := 64) hX dX11_boat_63 rfl rfl ?_
              refine r_iconst (v := (3 : Int32)) (q := 65) hX dX11_boat_64 rfl rfl ?_
              refine r_cs (As := [vi x6, vi (0 : Int32), vi (3 : Int32)]) (st := []) (r := (some (vi (fX11_within x6 (0 : Int32) (3 : Int32))))) (Z1 := Z) (M1 := M) (k1 := 0) (n1 := 0) (st1 := [vi (fX11_within x6 (0 : Int32) (3 : Int32))]) (q := 68) hX (fun l => kX11_within l Z M x6 (0 : Int32) (3 : Int32)) stX11_within ccX11_within (Or.inl lkX11_55) rfl rfl rfl ⟨Nat.le_of_ble_eq_true rfl, Nat.le_of_ble_eq_true rfl, rfl, rfl, Nat.le_of_ble_eq_true rfl, Nat.le_of_ble_eq_true rfl⟩ (Nat.le_of_ble_eq_true rfl) dX11_boat_65 rfl ?_
              refine r_if_ne (tgt := 74) (q := 71) hX dX11_boat_68 (by decide) rfl (fun hb13 => ?_) (fun hb13 => ?_)
              · refine r_bipush (v := (-102 : Int32)) (q := 73) hX dX11_boat_71 rfl rfl ?_
                refine r_lf (hK _) ?_
                exact r_iret hM rfl (Nat.le_of_ble_eq_true rfl) (Nat.le_of_ble_eq_true rfl) dX11_boat_73
              · refine r_aload_n (i := 0) (x := a0) (q := 75) 0 hX dX11_boat_74 rfl rfl rfl ?_
                refine r_getR (a := a0) (ci := 11) (kf := 0) (q := 78) hX hc1 flX11_12 rfl dX11_boat_75 rfl ?_
                refine r_getI (a := (rR M a0 0)) (ci := 3) (kf := 6) (q := 81) hX hc2 flX11_73 rfl rfl dX11_boat_78 rfl ?_
                refine r_bipush (v := (12 : Int32)) (q := 83) hX dX11_boat_81 rfl rfl ?_
                refine r_icmp_lt (tgt := 89) (q := 86) hX dX11_boat_83 (by decide) rfl (fun hb14 => ?_) (fun hb14 => ?_)
                · refine r_aload_n (i := 0) (x := a0) (q := 90) 0 hX dX11_boat_89 rfl rfl rfl ?_
                  refine r_getR (a := a0) (ci := 11) (kf := 0) (q := 93) hX hc1 flX11_12 rfl dX11_boat_90 rfl ?_
                  refine r_new (ci := 1) (k1 := 1) (n1 := 10) (q := 96) hX (Nat.le_of_ble_eq_true rfl) (gd (hcw2_9 _ (List.mem_of_getElem? (i := 12) rfl)) rfl) (gd (hcw2_9 _ (List.mem_of_getElem? (i := 13) rfl)) rfl) (gd (hcw1_0 _ (List.mem_of_getElem? (i := 13) rfl)) rfl) rfl (Nat.le_of_ble_eq_true rfl) rfl (Nat.le_of_ble_eq_true rfl) dX11_boat_93 rfl (fun Z15 M16 hc17 he18 => ?_)
                  refine r_dup (q := 97) hX dX11_boat_96 rfl rfl ?_
                  refine r_iload_n (i := 1) (x := x1) (q := 98) 1 hX dX11_boat_97 rfl rfl rfl ?_
                  refine r_iload_n (i := 2) (x := x2) (q := 99) 2 hX dX11_boat_98 rfl rfl rfl ?_
                  refine r_iload_n (i := 3) (x := x3) (q := 100) 3 hX dX11_boat_99 rfl rfl rfl ?_
                  refine r_iload (i := 4) (x := x4) (q := 102) 4 hX dX11_boat_100 rfl rfl ?_
                  refine r_iload (i := 5) (x := x5) (q := 104) 5 hX dX11_boat_102 rfl rfl ?_
                  refine r_iload (i := 6) (x := x6) (q := 106) 6 hX dX11_boat_104 rfl rfl ?_
                  refine r_bind (fun v19 h20 => ?_)
                  refine r_ci (a := (Z.length + 2)) (As := [vi x1, vi x2, vi x3, vi x4, vi x5, vi x6]) (st := [vr (Z.length + 2), vr (rR M a0 0)]) (r := none) (Z1 := Z15) (M1 := v19) (k1 := 1) (n1 := 10) (st1 := [vr (Z.length + 2), vr (rR M a0 0)]) (q := 109) hX (fun l => kX1_init l Z15 M16 (Z.length + 2) x1 x2 x3 x4 x5 x6 v19 h20) hc17 imX1_init rfl rfl ccX1_init (Or.inl lkX11_120) rfl rfl rfl ⟨Nat.le_of_ble_eq_true rfl, Nat.le_of_ble_eq_true rfl, rfl, rfl, Nat.le_of_ble_eq_true rfl, Nat.le_of_ble_eq_true rfl⟩ (Nat.le_of_ble_eq_true rfl) dX11_boat_106 rfl ?_
                  refine r_bind (fun v21 h22 => ?_)
                  refine r_cv (a := (rR M a0 0)) (As := [vr (Z.length + 2)]) (st := []) (r := (some (vi v21.1))) (Z1 := Z15) (M1 := v21.2) (k1 := 1) (n1 := 10) (st1 := [vi v21.1]) (q := 112) hX (fun l => kX3_addBoat l Z15 v19 (rR M a0 0) (Z.length + 2) v21 h22) (he18 _ _ _ (Nat.succ_pos _) hc2) ivX3_addBoat ccX3_addBoat (Or.inl lkX11_123) rfl rfl rfl ⟨Nat.le_of_ble_eq_true rfl, Nat.le_of_ble_eq_true rfl, rfl, rfl, Nat.le_of_ble_eq_true rfl, Nat.le_of_ble_eq_true rfl⟩ (Nat.le_of_ble_eq_true rfl) dX11_boat_109 rfl ?_
                  refine r_lf (hK _) ?_
                  exact r_iret hM rfl (Nat.le_of_ble_eq_true rfl) (Nat.le_of_ble_eq_true rfl) dX11_boat_112
                · refine r_bipush (v := (-104 : Int32)) (q := 88) hX dX11_boat_86 rfl rfl ?_
                  refine r_lf (hK _) ?_
                  exact r_iret hM rfl (Nat.le_of_ble_eq_true rfl) (Nat.le_of_ble_eq_true rfl) dX11_boat_88
theorem flX9_25 : FL RX9 25 9 3 := ⟨Nat.le_of_ble_eq_true rfl, Nat.le_of_ble_eq_true rfl, gd (hcw1_8 _ (List.mem_of_getElem? (i := 4) rfl)) rfl⟩
theorem flX9_29 : FL RX9 29 9 5 := ⟨Nat.le_of_ble_eq_true rfl, Nat.le_of_ble_eq_true rfl, gd (hcw1_8 _ (List.mem_of_getElem? (i := 7) rfl)) rfl⟩
def mX9_removeAll : MD := (yX9_removeAll, cX9_removeAll, 2, (some .int), 0, 0, 0, 0)
theorem ccX9_removeAll : Cc mX9_removeAll 0 := ⟨gd (hcw1_0 _ (List.mem_of_getElem? (i := 6) rfl)) rfl, gd (hcw4_3 _ (List.mem_of_getElem? (i := 19) rfl)) rfl, by decide +kernel, by decide +kernel, by decide +kernel⟩
theorem ivX9_removeAll : Iv mX9_removeAll 9 := ⟨Nat.le_of_ble_eq_true rfl, rfl, gd (hcw4_3 _ (List.mem_of_getElem? (i := 17) rfl)) rfl, gd (hcw4_3 _ (List.mem_of_getElem? (i := 18) rfl)) rfl⟩
def fX9_removeAll (Z : Shp) (M : Mem) (a0 : Nat) : Option (Int32 × Mem) := (if tg Z a0 = (10, 10) then (pu ((rI M a0 3)) (fun z2 => (pu (wI M a0 3 (0 : Int32)) (fun M3 => (pu (wI M3 a0 5 (0 : Int32)) (fun M4 => some (z2, M4))))))) else none)
set_option maxRecDepth 20000 in
theorem kX9_removeAll (l : Launch) (Z : Shp) (M : Mem) (a0 : Nat) (r : Int32 × Mem) (h : fX9_removeAll Z M a0 = some r) : Ct l mX9_removeAll [vr a0] Z M ((some (vi r.1)), Z, r.2) := by
  refine Ct.of rfl (Nat.le_of_ble_eq_true rfl) (fun X hM => ?_)
  have hX := hM.1
  refine r_top (mk := fun r => ((some (vi r.1)), Z, r.2)) h (fun K hK => ?_)
  unfold fX9_removeAll
  refine r_aload_n (i := 0) (x := a0) (q := 1) 0 hX dX9_removeAll_0 rfl rfl rfl ?_
  refine r_ck (fun hc1 => ?_)
  refine r_getI (a := a0) (ci := 9) (kf := 3) (q := 4) hX hc1 flX9_25 rfl rfl dX9_removeAll_1 rfl ?_
  refine r_istore_nP (x := (rI M a0 3)) (q := 5) 1 [1, 0] (fun z2 => [(0, vr a0), (1, vi z2)]) hX dX9_removeAll_4 rfl (Nat.le_of_ble_eq_true rfl) (fun _ => rfl) rfl (fun z2 => ?_)
  refine r_aload_n (i := 0) (x := a0) (q := 6) 0 hX dX9_removeAll_5 rfl rfl rfl ?_
  refine r_iconst (v := (0 : Int32)) (q := 7) hX dX9_removeAll_6 rfl rfl ?_
  refine r_putI (a := a0) (ci := 9) (kf := 3) (q := 10) hX hc1 flX9_25 rfl rfl (Or.inl rfl) rfl rfl dX9_removeAll_7 rfl (fun M3 => ?_)
  refine r_aload_n (i := 0) (x := a0) (q := 11) 0 hX dX9_removeAll_10 rfl rfl rfl ?_
  refine r_iconst (v := (0 : Int32)) (q := 12) hX dX9_removeAll_11 rfl rfl ?_
  refine r_putI (a := a0) (ci := 9) (kf := 5) (q := 15) hX hc1 flX9_29 rfl rfl (Or.inl rfl) (zb_n (Or.inl rfl)) (zb_f (Or.inl rfl)) dX9_removeAll_12 rfl (fun M4 => ?_)
  refine r_iload_n (i := 1) (x := z2) (q := 16) 1 hX dX9_removeAll_15 rfl rfl rfl ?_
  refine r_lf (hK _) ?_
  exact r_iret hM rfl (Nat.le_of_ble_eq_true rfl) (Nat.le_of_ble_eq_true rfl) dX9_removeAll_16
theorem flX11_26 : FL RX11 26 11 2 := ⟨Nat.le_of_ble_eq_true rfl, Nat.le_of_ble_eq_true rfl, gd (hcw2_2 _ (List.mem_of_getElem? (i := 14) rfl)) rfl⟩
theorem lkX11_216 : Lk RX11 216 yX9_removeAll := gd (hcw4_3 _ (List.mem_of_getElem? (i := 16) rfl)) rfl
def mX11_clear : MD := (yX11_clear, cX11_clear, 1, (some .int), 1, 21, 0, 0)
theorem ccX11_clear : Cc mX11_clear 0 := ⟨gd (hcw1_0 _ (List.mem_of_getElem? (i := 1) rfl)) rfl, gd (hcw4_3 _ (List.mem_of_getElem? (i := 15) rfl)) rfl, by decide +kernel, by decide +kernel, by decide +kernel⟩
theorem ivX11_clear : Iv mX11_clear 11 := ⟨Nat.le_of_ble_eq_true rfl, rfl, gd (hcw4_3 _ (List.mem_of_getElem? (i := 13) rfl)) rfl, gd (hcw4_3 _ (List.mem_of_getElem? (i := 14) rfl)) rfl⟩
noncomputable def fX11_clear (Z : Shp) (M : Mem) (a0 : Nat) : Option (Int32 × Mem) := (if tg Z a0 = (12, 6) then (if tg Z (rR M a0 2) = (10, 10) then (Option.bind (fX9_removeAll Z M (rR M a0 2)) (fun v3 => some (v3.1, v3.2))) else none) else none)
set_option maxRecDepth 20000 in
theorem kX11_clear (l : Launch) (Z : Shp) (M : Mem) (a0 : Nat) (r : Int32 × Mem) (h : fX11_clear Z M a0 = some r) : Ct l mX11_clear [vr a0] Z M ((some (vi r.1)), Z, r.2) := by
  refine Ct.of rfl (Nat.le_of_ble_eq_true rfl) (fun X hM => ?_)
  have hX := hM.1
  refine r_top (mk := fun r => ((some (vi r.1)), Z, r.2)) h (fun K hK => ?_)
  unfold fX11_clear
  refine r_aload_n (i := 0) (x := a0) (q := 1) 0 hX dX11_clear_0 rfl rfl rfl ?_
  refine r_ck (fun hc1 => ?_)
  refine r_getR (a := a0) (ci := 11) (kf := 2) (q := 4) hX hc1 flX11_26 rfl dX11_clear_1 rfl ?_
  refine r_ck (fun hc2 => ?_)
  refine r_bind (fun v3 h4 => ?_)
  refine r_cv (a := (rR M a0 2)) (As := []) (st := []) (r := (some (vi v3.1))) (Z1 := Z) (M1 := v3.2) (k1 := 0) (n1 := 0) (st1 := [vi v3.1]) (q := 7) hX (fun l => kX9_removeAll l Z M (rR M a0 2) v3 h4) hc2 ivX9_removeAll ccX9_removeAll (Or.inl lkX11_216) rfl rfl rfl ⟨Nat.le_of_ble_eq_true rfl, Nat.le_of_ble_eq_true rfl, rfl, rfl, Nat.le_of_ble_eq_true rfl, Nat.le_of_ble_eq_true rfl⟩ (Nat.le_of_ble_eq_true rfl) dX11_clear_4 rfl ?_
  refine r_lf (hK _) ?_
  exact r_iret hM rfl (Nat.le_of_ble_eq_true rfl) (Nat.le_of_ble_eq_true rfl) dX11_clear_7
theorem flX9_11 : FL RX9 11 9 0 := ⟨Nat.le_of_ble_eq_true rfl, Nat.le_of_ble_eq_true rfl, gd (hcw1_8 _ (List.mem_of_getElem? (i := 1) rfl)) rfl⟩
theorem flX9_15 : FL RX9 15 9 1 := ⟨Nat.le_of_ble_eq_true rfl, Nat.le_of_ble_eq_true rfl, gd (hcw1_8 _ (List.mem_of_getElem? (i := 2) rfl)) rfl⟩
theorem flX9_19 : FL RX9 19 9 2 := ⟨Nat.le_of_ble_eq_true rfl, Nat.le_of_ble_eq_true rfl, gd (hcw1_8 _ (List.mem_of_getElem? (i := 3) rfl)) rfl⟩
def mX9_add : MD := (yX9_add, cX9_add, 4, (some .int), 0, 0, 0, 0)
theorem ccX9_add : Cc mX9_add 3 := ⟨gd (hcw1_0 _ (List.mem_of_getElem? (i := 6) rfl)) rfl, gd (hcw4_3 _ (List.mem_of_getElem? (i := 11) rfl)) rfl, by decide +kernel, by decide +kernel, by decide +kernel⟩
theorem ivX9_add : Iv mX9_add 9 := ⟨Nat.le_of_ble_eq_true rfl, rfl, gd (hcw4_3 _ (List.mem_of_getElem? (i := 9) rfl)) rfl, gd (hcw4_3 _ (List.mem_of_getElem? (i := 10) rfl)) rfl⟩
def fX9_add (Z : Shp) (M : Mem) (a0 : Nat) (x1 : Int32) (x2 : Int32) (x3 : Int32) : Option (Int32 × Mem) := (if tg Z a0 = (10, 10) then (if (rI M a0 3) < (8 : Int32) then (if aok Z (rR M a0 0) 101 (rI M a0 3) then (if zb x1 then (pu (wI M (rR M a0 0) (ix (rI M a0 3)) x1) (fun M4 => (if aok Z (rR M4 a0 1) 100 (rI M4 a0 3) then (pu (wI M4 (rR M4 a0 1) (ix (rI M4 a0 3)) x2) (fun M7 => (if aok Z (rR M7 a0 2) 100 (rI M7 a0 3) then (pu (wI M7 (rR M7 a0 2) (ix (rI M7 a0 3)) x3) (fun M9 => (pu (wI M9 a0 5 (0 : Int32)) (fun M10 => (pu (wI M10 a0 3 ((rI M10 a0 3) + (1 : Int32))) (fun M11 => some ((rI M10 a0 3), M11))))))) else none))) else none))) else none) else none) else some ((-104 : Int32), M)) else none)
set_option maxRecDepth 20000 in
theorem kX9_add (l : Launch) (Z : Shp) (M : Mem) (a0 : Nat) (x1 : Int32) (x2 : Int32) (x3 : Int32) (r : Int32 × Mem) (h : fX9_add Z M a0 x1 x2 x3 = some r) : Ct l mX9_add [vr a0, vi x1, vi x2, vi x3] Z M ((some (vi r.1)), Z, r.2) := by
  refine Ct.of rfl (Nat.le_of_ble_eq_true rfl) (fun X hM => ?_)
  have hX := hM.1
  refine r_top (mk := fun r => ((some (vi r.1)), Z, r.2)) h (fun K hK => ?_)
  unfold fX9_add
  refine r_aload_n (i := 0) (x := a0) (q := 1) 0 hX dX9_add_0 rfl rfl rfl ?_
  refine r_ck (fun hc1 => ?_)
  refine r_getI (a := a0) (ci := 9) (kf := 3) (q := 4) hX hc1 flX9_25 rfl rfl dX9_add_1 rfl ?_
  refine r_bipush (v := (8 : Int32)) (q := 6) hX dX9_add_4 rfl rfl ?_
  refine r_icmp_lt (tgt := 12) (q := 9) hX dX9_add_6 (by decide) rfl (fun hb2 => ?_) (fun hb2 => ?_)
  · refine r_aload_n (i := 0) (x := a0) (q := 13) 0 hX dX9_add_12 rfl rfl rfl ?_
    refine r_getR (a := a0) (ci := 9) (kf := 0) (q := 16) hX hc1 flX9_11 rfl dX9_add_13 rfl ?_
    refine r_aload_n (i := 0) (x := a0) (q := 17) 0 hX dX9_add_16 rfl rfl rfl ?_
    refine r_getI (a := a0) (ci := 9) (kf := 3) (q := 20) hX hc1 flX9_25 rfl rfl dX9_add_17 rfl ?_
    refine r_iload_n (i := 1) (x := x1) (q := 21) 1 hX dX9_add_20 rfl rfl rfl ?_
    refine r_ck (fun hc3 => ?_)
    refine r_ck (fun hz5 => ?_)
    refine r_zast (a := (rR M a0 0)) (i := (rI M a0 3)) (x := x1) (q := 22) hX hc3 hz5 dX9_add_21 rfl (fun M4 => ?_)
    refine r_aload_n (i := 0) (x := a0) (q := 23) 0 hX dX9_add_22 rfl rfl rfl ?_
    refine r_getR (a := a0) (ci := 9) (kf := 1) (q := 26) hX hc1 flX9_15 rfl dX9_add_23 rfl ?_
    refine r_aload_n (i := 0) (x := a0) (q := 27) 0 hX dX9_add_26 rfl rfl rfl ?_
    refine r_getI (a := a0) (ci := 9) (kf := 3) (q := 30) hX hc1 flX9_25 rfl rfl dX9_add_27 rfl ?_
    refine r_iload_n (i := 2) (x := x2) (q := 31) 2 hX dX9_add_30 rfl rfl rfl ?_
    refine r_ck (fun hc6 => ?_)
    refine r_iast (a := (rR M4 a0 1)) (i := (rI M4 a0 3)) (x := x2) (q := 32) hX hc6 dX9_add_31 rfl (fun M7 => ?_)
    refine r_aload_n (i := 0) (x := a0) (q := 33) 0 hX dX9_add_32 rfl rfl rfl ?_
    refine r_getR (a := a0) (ci := 9) (kf := 2) (q := 36) hX hc1 flX9_19 rfl dX9_add_33 rfl ?_
    refine r_aload_n (i := 0) (x := a0) (q := 37) 0 hX dX9_add_36 rfl rfl rfl ?_
    refine r_getI (a := a0) (ci := 9) (kf := 3) (q := 40) hX hc1 flX9_25 rfl rfl dX9_add_37 rfl ?_
    refine r_iload_n (i := 3) (x := x3) (q := 41) 3 hX dX9_add_40 rfl rfl rfl ?_
    refine r_ck (fun hc8 => ?_)
    refine r_iast (a := (rR M7 a0 2)) (i := (rI M7 a0 3)) (x := x3) (q := 42) hX hc8 dX9_add_41 rfl (fun M9 => ?_)
    refine r_aload_n (i := 0) (x := a0) (q := 43) 0 hX dX9_add_42 rfl rfl rfl ?_
    refine r_iconst (v := (0 : Int32)) (q := 44) hX dX9_add_43 rfl rfl ?_
    refine r_putI (a := a0) (ci := 9) (kf := 5) (q := 47) hX hc1 flX9_29 rfl rfl (Or.inl rfl) (zb_n (Or.inl rfl)) (zb_f (Or.inl rfl)) dX9_add_44 rfl (fun M10 => ?_)
    refine r_aload_n (i := 0) (x := a0) (q := 48) 0 hX dX9_add_47 rfl rfl rfl ?_
    refine r_dup (q := 49) hX dX9_add_48 rfl rfl ?_
    refine r_getI (a := a0) (ci := 9) (kf := 3) (q := 52) hX hc1 flX9_25 rfl rfl dX9_add_49 rfl ?_
    refine r_dup_x1 (q := 53) hX dX9_add_52 rfl rfl rfl ?_
    refine r_iconst (v := (1 : Int32)) (q := 54) hX dX9_add_53 rfl rfl ?_
    refine r_iadd (q := 55) hX dX9_add_54 rfl ?_
    refine r_putI (a := a0) (ci := 9) (kf := 3) (q := 58) hX hc1 flX9_25 rfl rfl (Or.inl rfl) rfl rfl dX9_add_55 rfl (fun M11 => ?_)
    refine r_lf (hK _) ?_
    exact r_iret hM rfl (Nat.le_of_ble_eq_true rfl) (Nat.le_of_ble_eq_true rfl) dX9_add_58
  · refine r_bipush (v := (-104 : Int32)) (q := 11) hX dX9_add_9 rfl rfl ?_
    refine r_lf (hK _) ?_
    exact r_iret hM rfl (Nat.le_of_ble_eq_true rfl) (Nat.le_of_ble_eq_true rfl) dX9_add_11
theorem lkX11_212 : Lk RX11 212 yX9_add := gd (hcw4_3 _ (List.mem_of_getElem? (i := 8) rfl)) rfl
def mX11_comer : MD := (yX11_comer, cX11_comer, 4, (some .int), 1, 23, 0, 0)
theorem ccX11_comer : Cc mX11_comer 3 := ⟨gd (hcw1_0 _ (List.mem_of_getElem? (i := 1) rfl)) rfl, gd (hcw4_3 _ (List.mem_of_getElem? (i := 7) rfl)) rfl, by decide +kernel, by decide +kernel, by decide +kernel⟩
theorem ivX11_comer : Iv mX11_comer 11 := ⟨Nat.le_of_ble_eq_true rfl, rfl, gd (hcw4_3 _ (List.mem_of_getElem? (i := 5) rfl)) rfl, gd (hcw4_3 _ (List.mem_of_getElem? (i := 6) rfl)) rfl⟩
noncomputable def fX11_comer (Z : Shp) (M : Mem) (a0 : Nat) (x1 : Int32) (x2 : Int32) (x3 : Int32) : Option (Int32 × Mem) := (if (fX11_within x2 (0 : Int32) (23 : Int32)) = 0 then some ((-102 : Int32), M) else (if (fX11_within x3 (0 : Int32) (99 : Int32)) = 0 then some ((-102 : Int32), M) else (if tg Z a0 = (12, 6) then (if tg Z (rR M a0 2) = (10, 10) then (Option.bind (fX9_add Z M (rR M a0 2) x1 x2 x3) (fun v5 => some (v5.1, v5.2))) else none) else none)))
set_option maxRecDepth 20000 in
theorem kX11_comer (l : Launch) (Z : Shp) (M : Mem) (a0 : Nat) (x1 : Int32) (x2 : Int32) (x3 : Int32) (r : Int32 × Mem) (h : fX11_comer Z M a0 x1 x2 x3 = some r) : Ct l mX11_comer [vr a0, vi x1, vi x2, vi x3] Z M ((some (vi r.1)), Z, r.2) := by
  refine Ct.of rfl (Nat.le_of_ble_eq_true rfl) (fun X hM => ?_)
  have hX := hM.1
  refine r_top (mk := fun r => ((some (vi r.1)), Z, r.2)) h (fun K hK => ?_)
  unfold fX11_comer
  refine r_iload_n (i := 2) (x := x2) (q := 1) 2 hX dX11_comer_0 rfl rfl rfl ?_
  refine r_iconst (v := (0 : Int32)) (q := 2) hX dX11_comer_1 rfl rfl ?_
  refine r_bipush (v := (23 : Int32)) (q := 4) hX dX11_comer_2 rfl rfl ?_
  refine r_cs (As := [vi x2, vi (0 : Int32), vi (23 : Int32)]) (st := []) (r := (some (vi (fX11_within x2 (0 : Int32) (23 : Int32))))) (Z1 := Z) (M1 := M) (k1 := 0) (n1 := 0) (st1 := [vi (fX11_within x2 (0 : Int32) (23 : Int32))]) (q := 7) hX (fun l => kX11_within l Z M x2 (0 : Int32) (23 : Int32)) stX11_within ccX11_within (Or.inl lkX11_55) rfl rfl rfl ⟨Nat.le_of_ble_eq_true rfl, Nat.le_of_ble_eq_true rfl, rfl, rfl, Nat.le_of_ble_eq_true rfl, Nat.le_of_ble_eq_true rfl⟩ (Nat.le_of_ble_eq_true rfl) dX11_comer_4 rfl ?_
  refine r_if_eq (tgt := 20) (q := 10) hX dX11_comer_7 (by decide) rfl (fun hb1 => ?_) (fun hb1 => ?_)
  · refine r_bipush (v := (-102 : Int32)) (q := 22) hX dX11_comer_20 rfl rfl ?_
    refine r_lf (hK _) ?_
    exact r_iret hM rfl (Nat.le_of_ble_eq_true rfl) (Nat.le_of_ble_eq_true rfl) dX11_comer_22
  · refine r_iload_n (i := 3) (x := x3) (q := 11) 3 hX dX11_comer_10 rfl rfl rfl ?_
    refine r_iconst (v := (0 : Int32)) (q := 12) hX dX11_comer_11 rfl rfl ?_
    refine r_bipush (v := (99 : Int32)) (q := 14) hX dX11_comer_12 rfl rfl ?_
    refine r_cs (As := [vi x3, vi (0 : Int32), vi (99 : Int32)]) (st := []) (r := (some (vi (fX11_within x3 (0 : Int32) (99 : Int32))))) (Z1 := Z) (M1 := M) (k1 := 0) (n1 := 0) (st1 := [vi (fX11_within x3 (0 : Int32) (99 : Int32))]) (q := 17) hX (fun l => kX11_within l Z M x3 (0 : Int32) (99 : Int32)) stX11_within ccX11_within (Or.inl lkX11_55) rfl rfl rfl ⟨Nat.le_of_ble_eq_true rfl, Nat.le_of_ble_eq_true rfl, rfl, rfl, Nat.le_of_ble_eq_true rfl, Nat.le_of_ble_eq_true rfl⟩ (Nat.le_of_ble_eq_true rfl) dX11_comer_14 rfl ?_
    refine r_if_ne (tgt := 23) (q := 20) hX dX11_comer_17 (by decide) rfl (fun hb2 => ?_) (fun hb2 => ?_)
    · refine r_bipush (v := (-102 : Int32)) (q := 22) hX dX11_comer_20 rfl rfl ?_
      refine r_lf (hK _) ?_
      exact r_iret hM rfl (Nat.le_of_ble_eq_true rfl) (Nat.le_of_ble_eq_true rfl) dX11_comer_22
    · refine r_aload_n (i := 0) (x := a0) (q := 24) 0 hX dX11_comer_23 rfl rfl rfl ?_
      refine r_ck (fun hc3 => ?_)
      refine r_getR (a := a0) (ci := 11) (kf := 2) (q := 27) hX hc3 flX11_26 rfl dX11_comer_24 rfl ?_
      refine r_iload_n (i := 1) (x := x1) (q := 28) 1 hX dX11_comer_27 rfl rfl rfl ?_
      refine r_iload_n (i := 2) (x := x2) (q := 29) 2 hX dX11_comer_28 rfl rfl rfl ?_
      refine r_iload_n (i := 3) (x := x3) (q := 30) 3 hX dX11_comer_29 rfl rfl rfl ?_
      refine r_ck (fun hc4 => ?_)
      refine r_bind (fun v5 h6 => ?_)
      refine r_cv (a := (rR M a0 2)) (As := [vi x1, vi x2, vi x3]) (st := []) (r := (some (vi v5.1))) (Z1 := Z) (M1 := v5.2) (k1 := 0) (n1 := 0) (st1 := [vi v5.1]) (q := 33) hX (fun l => kX9_add l Z M (rR M a0 2) x1 x2 x3 v5 h6) hc4 ivX9_add ccX9_add (Or.inl lkX11_212) rfl rfl rfl ⟨Nat.le_of_ble_eq_true rfl, Nat.le_of_ble_eq_true rfl, rfl, rfl, Nat.le_of_ble_eq_true rfl, Nat.le_of_ble_eq_true rfl⟩ (Nat.le_of_ble_eq_true rfl) dX11_comer_30 rfl ?_
      refine r_lf (hK _) ?_
      exact r_iret hM rfl (Nat.le_of_ble_eq_true rfl) (Nat.le_of_ble_eq_true rfl) dX11_comer_33
theorem lkX3_158 : Lk RX3 158 yX1_isThere := gd (hcw5_6 _ (List.mem_of_getElem? (i := 11) rfl)) rfl
def mX3_boatsThere : MD := (yX3_boatsThere, cX3_boatsThere, 3, (some .int), 1, 20, 0, 0)
theorem ccX3_boatsThere : Cc mX3_boatsThere 0 := ⟨gd (hcw1_0 _ (List.mem_of_getElem? (i := 2) rfl)) rfl, gd (hcw5_6 _ (List.mem_of_getElem? (i := 10) rfl)) rfl, by decide +kernel, by decide +kernel, by decide +kernel⟩
theorem ivX3_boatsThere : Iv mX3_boatsThere 3 := ⟨Nat.le_of_ble_eq_true rfl, rfl, gd (hcw5_6 _ (List.mem_of_getElem? (i := 8) rfl)) rfl, gd (hcw5_6 _ (List.mem_of_getElem? (i := 9) rfl)) rfl⟩
noncomputable def fX3_boatsThere (Z : Shp) (M : Mem) (a0 : Nat) : Option (Int32) := (loop (fun s1 : Int32 × Int32 => (if tg Z a0 = (4, 11) then (if (rI M a0 6) ≤ s1.2 then some (Sum.inr s1.1) else (if aok Z (rR M a0 4) 113 s1.2 then (if tg Z (rR M (rR M a0 4) (ix s1.2)) = (2, 10) then (Option.bind (fX1_isThere Z M (rR M (rR M a0 4) (ix s1.2))) (fun v8 => (if v8 = 0 then (pu ((s1.1 + (0 : Int32))) (fun z11 => some (Sum.inl (z11, (s1.2 + (1 : Int32)))))) else (pu ((s1.1 + (1 : Int32))) (fun z12 => some (Sum.inl (z12, (s1.2 + (1 : Int32))))))))) else none) else none)) else none)) ((0 : Int32), (0 : Int32)))
set_option maxRecDepth 20000 in
theorem kX3_boatsThere (l : Launch) (Z : Shp) (M : Mem) (a0 : Nat) (r : Int32) (h : fX3_boatsThere Z M a0 = some r) : Ct l mX3_boatsThere [vr a0] Z M ((some (vi r)), Z, M) := by
  refine Ct.of rfl (Nat.le_of_ble_eq_true rfl) (fun X hM => ?_)
  have hX := hM.1
  refine r_top (mk := fun r => ((some (vi r)), Z, M)) h (fun K hK => ?_)
  unfold fX3_boatsThere
  refine r_iconst (v := (0 : Int32)) (q := 1) hX dX3_boatsThere_0 rfl rfl ?_
  refine r_istore_n (x := (0 : Int32)) (q := 2) 1 [1, 0] (L1 := [(0, vr a0), (1, vi (0 : Int32))]) hX dX3_boatsThere_1 rfl (Nat.le_of_ble_eq_true rfl) rfl rfl ?_
  refine r_iconst (v := (0 : Int32)) (q := 3) hX dX3_boatsThere_2 rfl rfl ?_
  refine r_istore_n (x := (0 : Int32)) (q := 4) 2 [1, 2, 0] (L1 := [(0, vr a0), (1, vi (0 : Int32)), (2, vi (0 : Int32))]) hX dX3_boatsThere_3 rfl (Nat.le_of_ble_eq_true rfl) rfl rfl ?_
  refine r_loop (Hd := fun (s1 : Int32 × Int32) (P : Option Res) => Ref mX3_boatsThere X 0 0 Z M 4 [(0, vr a0), (1, vi s1.1), (2, vi s1.2)] [] P) (fun _ => r_none) (fun s1 K1 hn2 hx3 => ?_) ((0 : Int32), (0 : Int32))
  refine r_iload_n (i := 2) (x := s1.2) (q := 5) 2 hX dX3_boatsThere_4 rfl rfl rfl ?_
  refine r_aload_n (i := 0) (x := a0) (q := 6) 0 hX dX3_boatsThere_5 rfl rfl rfl ?_
  refine r_ck (fun hc4 => ?_)
  refine r_getI (a := a0) (ci := 3) (kf := 6) (q := 9) hX hc4 flX3_51 rfl rfl dX3_boatsThere_6 rfl ?_
  refine r_icmp_ge (tgt := 38) (q := 12) hX dX3_boatsThere_9 (by decide) rfl (fun hb5 => ?_) (fun hb5 => ?_)
  · refine r_iload_n (i := 1) (x := s1.1) (q := 39) 1 hX dX3_boatsThere_38 rfl rfl rfl ?_
    refine r_lf ((hx3 _).trans (hK _)) ?_
    exact r_iret hM rfl (Nat.le_of_ble_eq_true rfl) (Nat.le_of_ble_eq_true rfl) dX3_boatsThere_39
  · refine r_iload_n (i := 1) (x := s1.1) (q := 13) 1 hX dX3_boatsThere_12 rfl rfl rfl ?_
    refine r_aload_n (i := 0) (x := a0) (q := 14) 0 hX dX3_boatsThere_13 rfl rfl rfl ?_
    refine r_getR (a := a0) (ci := 3) (kf := 4) (q := 17) hX hc4 flX3_34 rfl dX3_boatsThere_14 rfl ?_
    refine r_iload_n (i := 2) (x := s1.2) (q := 18) 2 hX dX3_boatsThere_17 rfl rfl rfl ?_
    refine r_ck (fun hc6 => ?_)
    refine r_aald (a := (rR M a0 4)) (i := s1.2) (q := 19) hX arT_113 hc6 dX3_boatsThere_18 rfl ?_
    refine r_ck (fun hc7 => ?_)
    refine r_bind (fun v8 h9 => ?_)
    refine r_cv (a := (rR M (rR M a0 4) (ix s1.2))) (As := []) (st := [vi s1.1]) (r := (some (vi v8))) (Z1 := Z) (M1 := M) (k1 := 0) (n1 := 0) (st1 := [vi v8, vi s1.1]) (q := 22) hX (fun l => kX1_isThere l Z M (rR M (rR M a0 4) (ix s1.2)) v8 h9) hc7 ivX1_isThere ccX1_isThere (Or.inl lkX3_158) rfl rfl rfl ⟨Nat.le_of_ble_eq_true rfl, Nat.le_of_ble_eq_true rfl, rfl, rfl, Nat.le_of_ble_eq_true rfl, Nat.le_of_ble_eq_true rfl⟩ (Nat.le_of_ble_eq_true rfl) dX3_boatsThere_19 rfl ?_
    refine r_if_eq (tgt := 29) (q := 25) hX dX3_boatsThere_22 (by decide) rfl (fun hb10 => ?_) (fun hb10 => ?_)
    · refine r_iconst (v := (0 : Int32)) (q := 30) hX dX3_boatsThere_29 rfl rfl ?_
      refine r_iadd (q := 31) hX dX3_boatsThere_30 rfl ?_
      refine r_istore_nP (x := (s1.1 + (0 : Int32))) (q := 32) 1 [1, 0, 3] (fun z11 => [(0, vr a0), (1, vi z11), (2, vi s1.2)]) hX dX3_boatsThere_31 rfl (Nat.le_of_ble_eq_true rfl) (fun _ => rfl) rfl (fun z11 => ?_)
      refine r_iinc (x := s1.2) (v := (s1.2 + (1 : Int32))) (q := 35) 2 2 [1, 2, 0] (L1 := [(0, vr a0), (1, vi z11), (2, vi (s1.2 + (1 : Int32)))]) hX dX3_boatsThere_32 rfl rfl (Nat.le_of_ble_eq_true rfl) rfl rfl ?_
      refine r_goto (q := 4) hX dX3_boatsThere_35 (by decide) ?_
      refine r_l0 ?_
      exact hn2 (z11, (s1.2 + (1 : Int32)))
    · refine r_iconst (v := (1 : Int32)) (q := 26) hX dX3_boatsThere_25 rfl rfl ?_
      refine r_goto (q := 30) hX dX3_boatsThere_26 (by decide) ?_
      refine r_iadd (q := 31) hX dX3_boatsThere_30 rfl ?_
      refine r_istore_nP (x := (s1.1 + (1 : Int32))) (q := 32) 1 [1, 0, 3] (fun z12 => [(0, vr a0), (1, vi z12), (2, vi s1.2)]) hX dX3_boatsThere_31 rfl (Nat.le_of_ble_eq_true rfl) (fun _ => rfl) rfl (fun z12 => ?_)
      refine r_iinc (x := s1.2) (v := (s1.2 + (1 : Int32))) (q := 35) 2 2 [1, 2, 0] (L1 := [(0, vr a0), (1, vi z12), (2, vi (s1.2 + (1 : Int32)))]) hX dX3_boatsThere_32 rfl rfl (Nat.le_of_ble_eq_true rfl) rfl rfl ?_
      refine r_goto (q := 4) hX dX3_boatsThere_35 (by decide) ?_
      refine r_l0 ?_
      exact hn2 (z12, (s1.2 + (1 : Int32)))
theorem flX11_69 : FL RX11 69 3 8 := ⟨Nat.le_of_ble_eq_true rfl, Nat.le_of_ble_eq_true rfl, gd (hcw1_5 _ (List.mem_of_getElem? (i := 2) rfl)) rfl⟩
theorem flX11_89 : FL RX11 89 3 5 := ⟨Nat.le_of_ble_eq_true rfl, Nat.le_of_ble_eq_true rfl, gd (hcw1_4 _ (List.mem_of_getElem? (i := 17) rfl)) rfl⟩
theorem lkX11_344 : Lk RX11 344 yX3_boatsThere := gd (hcw5_6 _ (List.mem_of_getElem? (i := 7) rfl)) rfl
theorem flX11_347 : FL RX11 347 2 3 := ⟨Nat.le_of_ble_eq_true rfl, Nat.le_of_ble_eq_true rfl, gd (hcw1_7 _ (List.mem_of_getElem? (i := 4) rfl)) rfl⟩
theorem flX11_234 : FL RX11 234 9 3 := ⟨Nat.le_of_ble_eq_true rfl, Nat.le_of_ble_eq_true rfl, gd (hcw1_8 _ (List.mem_of_getElem? (i := 5) rfl)) rfl⟩
theorem flX11_350 : FL RX11 350 0 2 := ⟨Nat.le_of_ble_eq_true rfl, Nat.le_of_ble_eq_true rfl, gd (hcw1_10 _ (List.mem_of_getElem? (i := 6) rfl)) rfl⟩
theorem lkX11_256 : Lk RX11 256 yX0_readings := gd (hcw4_9 _ (List.mem_of_getElem? (i := 13) rfl)) rfl
theorem flX11_296 : FL RX11 296 5 7 := ⟨Nat.le_of_ble_eq_true rfl, Nat.le_of_ble_eq_true rfl, gd (hcw2_0 _ (List.mem_of_getElem? (i := 10) rfl)) rfl⟩
theorem flX11_47 : FL RX11 47 11 5 := ⟨Nat.le_of_ble_eq_true rfl, Nat.le_of_ble_eq_true rfl, gd (hcw2_2 _ (List.mem_of_getElem? (i := 17) rfl)) rfl⟩
theorem flX11_332 : FL RX11 332 10 3 := ⟨Nat.le_of_ble_eq_true rfl, Nat.le_of_ble_eq_true rfl, gd (hcw2_2 _ (List.mem_of_getElem? (i := 2) rfl)) rfl⟩
theorem flX11_219 : FL RX11 219 9 4 := ⟨Nat.le_of_ble_eq_true rfl, Nat.le_of_ble_eq_true rfl, gd (hcw1_8 _ (List.mem_of_getElem? (i := 6) rfl)) rfl⟩
def mX11_count : MD := (yX11_count, cX11_count, 2, (some .int), 2, 42, 0, 0)
theorem ccX11_count : Cc mX11_count 1 := ⟨gd (hcw1_0 _ (List.mem_of_getElem? (i := 1) rfl)) rfl, gd (hcw5_6 _ (List.mem_of_getElem? (i := 6) rfl)) rfl, by decide +kernel, by decide +kernel, by decide +kernel⟩
theorem ivX11_count : Iv mX11_count 11 := ⟨Nat.le_of_ble_eq_true rfl, rfl, gd (hcw5_6 _ (List.mem_of_getElem? (i := 4) rfl)) rfl, gd (hcw5_6 _ (List.mem_of_getElem? (i := 5) rfl)) rfl⟩
noncomputable def fX11_count (Z : Shp) (M : Mem) (a0 : Nat) (x1 : Int32) : Option (Int32) := (if x1 = (0 : Int32) then (if tg Z a0 = (12, 6) then (if tg Z (rR M a0 0) = (4, 11) then some (rI M (rR M a0 0) 8) else none) else none) else (if x1 = (1 : Int32) then (if tg Z a0 = (12, 6) then (if tg Z (rR M a0 0) = (4, 11) then some (rI M (rR M a0 0) 5) else none) else none) else (if x1 = (2 : Int32) then (if tg Z a0 = (12, 6) then (if tg Z (rR M a0 0) = (4, 11) then some (rI M (rR M a0 0) 6) else none) else none) else (if x1 = (3 : Int32) then (if tg Z a0 = (12, 6) then (if tg Z (rR M a0 0) = (4, 11) then (Option.bind (fX3_boatsThere Z M (rR M a0 0)) (fun v13 => some v13)) else none) else none) else (if x1 = (4 : Int32) then (if tg Z a0 = (12, 6) then (if tg Z (rR M a0 1) = (3, 4) then some (rI M (rR M a0 1) 3) else none) else none) else (if x1 = (5 : Int32) then (if tg Z a0 = (12, 6) then (if tg Z (rR M a0 2) = (10, 10) then some (rI M (rR M a0 2) 3) else none) else none) else (if x1 = (6 : Int32) then (if tg Z a0 = (12, 6) then (if tg Z (rR M a0 3) = (1, 9) then some (rI M (rR M a0 3) 2) else none) else none) else (if x1 = (7 : Int32) then (if tg Z a0 = (12, 6) then (if tg Z (rR M a0 3) = (1, 9) then (Option.bind (fX0_readings Z M (rR M a0 3)) (fun v27 => some v27)) else none) else none) else (if x1 = (8 : Int32) then (if tg Z a0 = (12, 6) then (if tg Z (rR M a0 4) = (6, 9) then some (rI M (rR M a0 4) 7) else none) else none) else (if x1 = (9 : Int32) then (if tg Z a0 = (12, 6) then (if tg Z (rR M a0 5) = (11, 4) then some (rI M (rR M a0 5) 3) else none) else none) else (if x1 = (10 : Int32) then (if tg Z a0 = (12, 6) then (if tg Z (rR M a0 1) = (3, 4) then some (rI M (rR M a0 1) 1) else none) else none) else (if x1 = (11 : Int32) then (if tg Z a0 = (12, 6) then (if tg Z (rR M a0 2) = (10, 10) then some (rI M (rR M a0 2) 4) else none) else none) else some (-102 : Int32)))))))))))))
set_option maxRecDepth 20000 in
theorem kX11_count (l : Launch) (Z : Shp) (M : Mem) (a0 : Nat) (x1 : Int32) (r : Int32) (h : fX11_count Z M a0 x1 = some r) : Ct l mX11_count [vr a0, vi x1] Z M ((some (vi r)), Z, M) := by
  refine Ct.of rfl (Nat.le_of_ble_eq_true rfl) (fun X hM => ?_)
  have hX := hM.1
  refine r_top (mk := fun r => ((some (vi r)), Z, M)) h (fun K hK => ?_)
  unfold fX11_count
  refine r_iload_n (i := 1) (x := x1) (q := 1) 1 hX dX11_count_0 rfl rfl rfl ?_
  refine r_ite (fun hb1 => ?_) (fun hb1 => ?_)
  · refine r_tswI (off := 63) (q := 64) hX hb1 dX11_count_1 (by decide) (by decide) ?_
    refine r_aload_n (i := 0) (x := a0) (q := 65) 0 hX dX11_count_64 rfl rfl rfl ?_
    refine r_ck (fun hc2 => ?_)
    refine r_getR (a := a0) (ci := 11) (kf := 0) (q := 68) hX hc2 flX11_12 rfl dX11_count_65 rfl ?_
    refine r_ck (fun hc3 => ?_)
    refine r_getI (a := (rR M a0 0)) (ci := 3) (kf := 8) (q := 71) hX hc3 flX11_69 rfl rfl dX11_count_68 rfl ?_
    refine r_lf (hK _) ?_
    exact r_iret hM rfl (Nat.le_of_ble_eq_true rfl) (Nat.le_of_ble_eq_true rfl) dX11_count_71
  · refine r_ite (fun hb4 => ?_) (fun hb4 => ?_)
    · refine r_tswI (off := 71) (q := 72) hX hb4 dX11_count_1 (by decide) (by decide) ?_
      refine r_aload_n (i := 0) (x := a0) (q := 73) 0 hX dX11_count_72 rfl rfl rfl ?_
      refine r_ck (fun hc5 => ?_)
      refine r_getR (a := a0) (ci := 11) (kf := 0) (q := 76) hX hc5 flX11_12 rfl dX11_count_73 rfl ?_
      refine r_ck (fun hc6 => ?_)
      refine r_getI (a := (rR M a0 0)) (ci := 3) (kf := 5) (q := 79) hX hc6 flX11_89 rfl rfl dX11_count_76 rfl ?_
      refine r_lf (hK _) ?_
      exact r_iret hM rfl (Nat.le_of_ble_eq_true rfl) (Nat.le_of_ble_eq_true rfl) dX11_count_79
    · refine r_ite (fun hb7 => ?_) (fun hb7 => ?_)
      · refine r_tswI (off := 79) (q := 80) hX hb7 dX11_count_1 (by decide) (by decide) ?_
        refine r_aload_n (i := 0) (x := a0) (q := 81) 0 hX dX11_count_80 rfl rfl rfl ?_
        refine r_ck (fun hc8 => ?_)
        refine r_getR (a := a0) (ci := 11) (kf := 0) (q := 84) hX hc8 flX11_12 rfl dX11_count_81 rfl ?_
        refine r_ck (fun hc9 => ?_)
        refine r_getI (a := (rR M a0 0)) (ci := 3) (kf := 6) (q := 87) hX hc9 flX11_73 rfl rfl dX11_count_84 rfl ?_
        refine r_lf (hK _) ?_
        exact r_iret hM rfl (Nat.le_of_ble_eq_true rfl) (Nat.le_of_ble_eq_true rfl) dX11_count_87
      · refine r_ite (fun hb10 => ?_) (fun hb10 => ?_)
        · refine r_tswI (off := 87) (q := 88) hX hb10 dX11_count_1 (by decide) (by decide) ?_
          refine r_aload_n (i := 0) (x := a0) (q := 89) 0 hX dX11_count_88 rfl rfl rfl ?_
          refine r_ck (fun hc11 => ?_)
          refine r_getR (a := a0) (ci := 11) (kf := 0) (q := 92) hX hc11 flX11_12 rfl dX11_count_89 rfl ?_
          refine r_ck (fun hc12 => ?_)
          refine r_bind (fun v13 h14 => ?_)
          refine r_cv (a := (rR M a0 0)) (As := []) (st := []) (r := (some (vi v13))) (Z1 := Z) (M1 := M) (k1 := 0) (n1 := 0) (st1 := [vi v13]) (q := 95) hX (fun l => kX3_boatsThere l Z M (rR M a0 0) v13 h14) hc12 ivX3_boatsThere ccX3_boatsThere (Or.inl lkX11_344) rfl rfl rfl ⟨Nat.le_of_ble_eq_true rfl, Nat.le_of_ble_eq_true rfl, rfl, rfl, Nat.le_of_ble_eq_true rfl, Nat.le_of_ble_eq_true rfl⟩ (Nat.le_of_ble_eq_true rfl) dX11_count_92 rfl ?_
          refine r_lf (hK _) ?_
          exact r_iret hM rfl (Nat.le_of_ble_eq_true rfl) (Nat.le_of_ble_eq_true rfl) dX11_count_95
        · refine r_ite (fun hb15 => ?_) (fun hb15 => ?_)
          · refine r_tswI (off := 95) (q := 96) hX hb15 dX11_count_1 (by decide) (by decide) ?_
            refine r_aload_n (i := 0) (x := a0) (q := 97) 0 hX dX11_count_96 rfl rfl rfl ?_
            refine r_ck (fun hc16 => ?_)
            refine r_getR (a := a0) (ci := 11) (kf := 1) (q := 100) hX hc16 flX11_19 rfl dX11_count_97 rfl ?_
            refine r_ck (fun hc17 => ?_)
            refine r_getI (a := (rR M a0 1)) (ci := 2) (kf := 3) (q := 103) hX hc17 flX11_347 rfl rfl dX11_count_100 rfl ?_
            refine r_lf (hK _) ?_
            exact r_iret hM rfl (Nat.le_of_ble_eq_true rfl) (Nat.le_of_ble_eq_true rfl) dX11_count_103
          · refine r_ite (fun hb18 => ?_) (fun hb18 => ?_)
            · refine r_tswI (off := 103) (q := 104) hX hb18 dX11_count_1 (by decide) (by decide) ?_
              refine r_aload_n (i := 0) (x := a0) (q := 105) 0 hX dX11_count_104 rfl rfl rfl ?_
              refine r_ck (fun hc19 => ?_)
              refine r_getR (a := a0) (ci := 11) (kf := 2) (q := 108) hX hc19 flX11_26 rfl dX11_count_105 rfl ?_
              refine r_ck (fun hc20 => ?_)
              refine r_getI (a := (rR M a0 2)) (ci := 9) (kf := 3) (q := 111) hX hc20 flX11_234 rfl rfl dX11_count_108 rfl ?_
              refine r_lf (hK _) ?_
              exact r_iret hM rfl (Nat.le_of_ble_eq_true rfl) (Nat.le_of_ble_eq_true rfl) dX11_count_111
            · refine r_ite (fun hb21 => ?_) (fun hb21 => ?_)
              · refine r_tswI (off := 111) (q := 112) hX hb21 dX11_count_1 (by decide) (by decide) ?_
                refine r_aload_n (i := 0) (x := a0) (q := 113) 0 hX dX11_count_112 rfl rfl rfl ?_
                refine r_ck (fun hc22 => ?_)
                refine r_getR (a := a0) (ci := 11) (kf := 3) (q := 116) hX hc22 flX11_33 rfl dX11_count_113 rfl ?_
                refine r_ck (fun hc23 => ?_)
                refine r_getI (a := (rR M a0 3)) (ci := 0) (kf := 2) (q := 119) hX hc23 flX11_350 rfl rfl dX11_count_116 rfl ?_
                refine r_lf (hK _) ?_
                exact r_iret hM rfl (Nat.le_of_ble_eq_true rfl) (Nat.le_of_ble_eq_true rfl) dX11_count_119
              · refine r_ite (fun hb24 => ?_) (fun hb24 => ?_)
                · refine r_tswI (off := 119) (q := 120) hX hb24 dX11_count_1 (by decide) (by decide) ?_
                  refine r_aload_n (i := 0) (x := a0) (q := 121) 0 hX dX11_count_120 rfl rfl rfl ?_
                  refine r_ck (fun hc25 => ?_)
                  refine r_getR (a := a0) (ci := 11) (kf := 3) (q := 124) hX hc25 flX11_33 rfl dX11_count_121 rfl ?_
                  refine r_ck (fun hc26 => ?_)
                  refine r_bind (fun v27 h28 => ?_)
                  refine r_cv (a := (rR M a0 3)) (As := []) (st := []) (r := (some (vi v27))) (Z1 := Z) (M1 := M) (k1 := 0) (n1 := 0) (st1 := [vi v27]) (q := 127) hX (fun l => kX0_readings l Z M (rR M a0 3) v27 h28) hc26 ivX0_readings ccX0_readings (Or.inl lkX11_256) rfl rfl rfl ⟨Nat.le_of_ble_eq_true rfl, Nat.le_of_ble_eq_true rfl, rfl, rfl, Nat.le_of_ble_eq_true rfl, Nat.le_of_ble_eq_true rfl⟩ (Nat.le_of_ble_eq_true rfl) dX11_count_124 rfl ?_
                  refine r_lf (hK _) ?_
                  exact r_iret hM rfl (Nat.le_of_ble_eq_true rfl) (Nat.le_of_ble_eq_true rfl) dX11_count_127
                · refine r_ite (fun hb29 => ?_) (fun hb29 => ?_)
                  · refine r_tswI (off := 127) (q := 128) hX hb29 dX11_count_1 (by decide) (by decide) ?_
                    refine r_aload_n (i := 0) (x := a0) (q := 129) 0 hX dX11_count_128 rfl rfl rfl ?_
                    refine r_ck (fun hc30 => ?_)
                    refine r_getR (a := a0) (ci := 11) (kf := 4) (q := 132) hX hc30 flX11_40 rfl dX11_count_129 rfl ?_
                    refine r_ck (fun hc31 => ?_)
                    refine r_getI (a := (rR M a0 4)) (ci := 5) (kf := 7) (q := 135) hX hc31 flX11_296 rfl rfl dX11_count_132 rfl ?_
                    refine r_lf (hK _) ?_
                    exact r_iret hM rfl (Nat.le_of_ble_eq_true rfl) (Nat.le_of_ble_eq_true rfl) dX11_count_135
                  · refine r_ite (fun hb32 => ?_) (fun hb32 => ?_)
                    · refine r_tswI (off := 135) (q := 136) hX hb32 dX11_count_1 (by decide) (by decide) ?_
                      refine r_aload_n (i := 0) (x := a0) (q := 137) 0 hX dX11_count_136 rfl rfl rfl ?_
                      refine r_ck (fun hc33 => ?_)
                      refine r_getR (a := a0) (ci := 11) (kf := 5) (q := 140) hX hc33 flX11_47 rfl dX11_count_137 rfl ?_
                      refine r_ck (fun hc34 => ?_)
                      refine r_getI (a := (rR M a0 5)) (ci := 10) (kf := 3) (q := 143) hX hc34 flX11_332 rfl rfl dX11_count_140 rfl ?_
                      refine r_lf (hK _) ?_
                      exact r_iret hM rfl (Nat.le_of_ble_eq_true rfl) (Nat.le_of_ble_eq_true rfl) dX11_count_143
                    · refine r_ite (fun hb35 => ?_) (fun hb35 => ?_)
                      · refine r_tswI (off := 143) (q := 144) hX hb35 dX11_count_1 (by decide) (by decide) ?_
                        refine r_aload_n (i := 0) (x := a0) (q := 145) 0 hX dX11_count_144 rfl rfl rfl ?_
                        refine r_ck (fun hc36 => ?_)
                        refine r_getR (a := a0) (ci := 11) (kf := 1) (q := 148) hX hc36 flX11_19 rfl dX11_count_145 rfl ?_
                        refine r_ck (fun hc37 => ?_)
                        refine r_getI (a := (rR M a0 1)) (ci := 2) (kf := 1) (q := 151) hX hc37 flX11_170 rfl rfl dX11_count_148 rfl ?_
                        refine r_lf (hK _) ?_
                        exact r_iret hM rfl (Nat.le_of_ble_eq_true rfl) (Nat.le_of_ble_eq_true rfl) dX11_count_151
                      · refine r_ite (fun hb38 => ?_) (fun hb38 => ?_)
                        · refine r_tswI (off := 151) (q := 152) hX hb38 dX11_count_1 (by decide) (by decide) ?_
                          refine r_aload_n (i := 0) (x := a0) (q := 153) 0 hX dX11_count_152 rfl rfl rfl ?_
                          refine r_ck (fun hc39 => ?_)
                          refine r_getR (a := a0) (ci := 11) (kf := 2) (q := 156) hX hc39 flX11_26 rfl dX11_count_153 rfl ?_
                          refine r_ck (fun hc40 => ?_)
                          refine r_getI (a := (rR M a0 2)) (ci := 9) (kf := 4) (q := 159) hX hc40 flX11_219 rfl rfl dX11_count_156 rfl ?_
                          refine r_lf (hK _) ?_
                          exact r_iret hM rfl (Nat.le_of_ble_eq_true rfl) (Nat.le_of_ble_eq_true rfl) dX11_count_159
                        · refine r_tswO (cs := [(0 : Int32), (1 : Int32), (2 : Int32), (3 : Int32), (4 : Int32), (5 : Int32), (6 : Int32), (7 : Int32), (8 : Int32), (9 : Int32), (10 : Int32), (11 : Int32)]) (q := 160) hX ⟨hb1, ⟨hb4, ⟨hb7, ⟨hb10, ⟨hb15, ⟨hb18, ⟨hb21, ⟨hb24, ⟨hb29, ⟨hb32, ⟨hb35, ⟨hb38, trivial⟩⟩⟩⟩⟩⟩⟩⟩⟩⟩⟩⟩ dX11_count_1 (by decide) (by decide) ?_
                          refine r_bipush (v := (-102 : Int32)) (q := 162) hX dX11_count_160 rfl rfl ?_
                          refine r_lf (hK _) ?_
                          exact r_iret hM rfl (Nat.le_of_ble_eq_true rfl) (Nat.le_of_ble_eq_true rfl) dX11_count_162
theorem flX5_15 : FL RX5 15 5 1 := ⟨Nat.le_of_ble_eq_true rfl, Nat.le_of_ble_eq_true rfl, gd (hcw2_0 _ (List.mem_of_getElem? (i := 2) rfl)) rfl⟩
def mX5_debtOf : MD := (yX5_debtOf, cX5_debtOf, 3, (some .int), 0, 0, 0, 0)
theorem ccX5_debtOf : Cc mX5_debtOf 2 := ⟨gd (hcw1_0 _ (List.mem_of_getElem? (i := 8) rfl)) rfl, gd (hcw5_0 _ (List.mem_of_getElem? (i := 7) rfl)) rfl, by decide +kernel, by decide +kernel, by decide +kernel⟩
theorem ivX5_debtOf : Iv mX5_debtOf 5 := ⟨Nat.le_of_ble_eq_true rfl, rfl, gd (hcw5_0 _ (List.mem_of_getElem? (i := 6) rfl)) rfl, gd (hps2 _ (List.mem_of_getElem? (i := 9) rfl)) rfl⟩
def fX5_debtOf (Z : Shp) (M : Mem) (a0 : Nat) (x1 : Int32) (x2 : Int32) : Option (Int32) := (if tg Z a0 = (6, 9) then (if aok Z (rR M a0 1) 100 ((x1 * (3 : Int32)) + x2) then some (rI M (rR M a0 1) (ix ((x1 * (3 : Int32)) + x2))) else none) else none)
set_option maxRecDepth 20000 in
theorem kX5_debtOf (l : Launch) (Z : Shp) (M : Mem) (a0 : Nat) (x1 : Int32) (x2 : Int32) (r : Int32) (h : fX5_debtOf Z M a0 x1 x2 = some r) : Ct l mX5_debtOf [vr a0, vi x1, vi x2] Z M ((some (vi r)), Z, M) := by
  refine Ct.of rfl (Nat.le_of_ble_eq_true rfl) (fun X hM => ?_)
  have hX := hM.1
  refine r_top (mk := fun r => ((some (vi r)), Z, M)) h (fun K hK => ?_)
  unfold fX5_debtOf
  refine r_aload_n (i := 0) (x := a0) (q := 1) 0 hX dX5_debtOf_0 rfl rfl rfl ?_
  refine r_ck (fun hc1 => ?_)
  refine r_getR (a := a0) (ci := 5) (kf := 1) (q := 4) hX hc1 flX5_15 rfl dX5_debtOf_1 rfl ?_
  refine r_iload_n (i := 1) (x := x1) (q := 5) 1 hX dX5_debtOf_4 rfl rfl rfl ?_
  refine r_iconst (v := (3 : Int32)) (q := 6) hX dX5_debtOf_5 rfl rfl ?_
  refine r_imul (q := 7) hX dX5_debtOf_6 rfl ?_
  refine r_iload_n (i := 2) (x := x2) (q := 8) 2 hX dX5_debtOf_7 rfl rfl rfl ?_
  refine r_iadd (q := 9) hX dX5_debtOf_8 rfl ?_
  refine r_ck (fun hc2 => ?_)
  refine r_iald (a := (rR M a0 1)) (i := ((x1 * (3 : Int32)) + x2)) (q := 10) hX hc2 dX5_debtOf_9 rfl ?_
  refine r_lf (hK _) ?_
  exact r_iret hM rfl (Nat.le_of_ble_eq_true rfl) (Nat.le_of_ble_eq_true rfl) dX5_debtOf_10
theorem lkX5_37 : Lk RX5 37 yX5_debtOf := gd (hcw5_0 _ (List.mem_of_getElem? (i := 4) rfl)) rfl
def mX5_replaceDebt : MD := (yX5_replaceDebt, cX5_replaceDebt, 5, (some .int), 1, 22, 0, 0)
theorem ccX5_replaceDebt : Cc mX5_replaceDebt 3 := ⟨gd (hcw1_0 _ (List.mem_of_getElem? (i := 8) rfl)) rfl, gd (hcw5_0 _ (List.mem_of_getElem? (i := 3) rfl)) rfl, by decide +kernel, by decide +kernel, by decide +kernel⟩
theorem ivX5_replaceDebt : Iv mX5_replaceDebt 5 := ⟨Nat.le_of_ble_eq_true rfl, rfl, gd (hcw5_0 _ (List.mem_of_getElem? (i := 1) rfl)) rfl, gd (hcw5_0 _ (List.mem_of_getElem? (i := 2) rfl)) rfl⟩
noncomputable def fX5_replaceDebt (Z : Shp) (M : Mem) (a0 : Nat) (x1 : Int32) (x2 : Int32) (x3 : Int32) : Option (Int32 × Mem) := (if tg Z a0 = (6, 9) then (Option.bind (fX5_debtOf Z M a0 x1 x2) (fun v2 => (if aok Z (rR M a0 1) 100 ((x1 * (3 : Int32)) + x2) then (pu (wI M (rR M a0 1) (ix ((x1 * (3 : Int32)) + x2)) x3) (fun M5 => some (v2, M5))) else none))) else none)
set_option maxRecDepth 20000 in
theorem kX5_replaceDebt (l : Launch) (Z : Shp) (M : Mem) (a0 : Nat) (x1 : Int32) (x2 : Int32) (x3 : Int32) (r : Int32 × Mem) (h : fX5_replaceDebt Z M a0 x1 x2 x3 = some r) : Ct l mX5_replaceDebt [vr a0, vi x1, vi x2, vi x3] Z M ((some (vi r.1)), Z, r.2) := by
  refine Ct.of rfl (Nat.le_of_ble_eq_true rfl) (fun X hM => ?_)
  have hX := hM.1
  refine r_top (mk := fun r => ((some (vi r.1)), Z, r.2)) h (fun K hK => ?_)
  unfold fX5_replaceDebt
  refine r_aload_n (i := 0) (x := a0) (q := 1) 0 hX dX5_replaceDebt_0 rfl rfl rfl ?_
  refine r_iload_n (i := 1) (x := x1) (q := 2) 1 hX dX5_replaceDebt_1 rfl rfl rfl ?_
  refine r_iload_n (i := 2) (x := x2) (q := 3) 2 hX dX5_replaceDebt_2 rfl rfl rfl ?_
  refine r_ck (fun hc1 => ?_)
  refine r_bind (fun v2 h3 => ?_)
  refine r_cv (a := a0) (As := [vi x1, vi x2]) (st := []) (r := (some (vi v2))) (Z1 := Z) (M1 := M) (k1 := 0) (n1 := 0) (st1 := [vi v2]) (q := 6) hX (fun l => kX5_debtOf l Z M a0 x1 x2 v2 h3) hc1 ivX5_debtOf ccX5_debtOf (Or.inl lkX5_37) rfl rfl rfl ⟨Nat.le_of_ble_eq_true rfl, Nat.le_of_ble_eq_true rfl, rfl, rfl, Nat.le_of_ble_eq_true rfl, Nat.le_of_ble_eq_true rfl⟩ (Nat.le_of_ble_eq_true rfl) dX5_replaceDebt_3 rfl ?_
  refine r_istore (x := v2) (q := 8) 4 [1, 2, 3, 4, 0] (L1 := [(0, vr a0), (1, vi x1), (2, vi x2), (3, vi x3), (4, vi v2)]) hX dX5_replaceDebt_6 (Nat.le_of_ble_eq_true rfl) rfl rfl ?_
  refine r_aload_n (i := 0) (x := a0) (q := 9) 0 hX dX5_replaceDebt_8 rfl rfl rfl ?_
  refine r_getR (a := a0) (ci := 5) (kf := 1) (q := 12) hX hc1 flX5_15 rfl dX5_replaceDebt_9 rfl ?_
  refine r_iload_n (i := 1) (x := x1) (q := 13) 1 hX dX5_replaceDebt_12 rfl rfl rfl ?_
  refine r_iconst (v := (3 : Int32)) (q := 14) hX dX5_replaceDebt_13 rfl rfl ?_
  refine r_imul (q := 15) hX dX5_replaceDebt_14 rfl ?_
  refine r_iload_n (i := 2) (x := x2) (q := 16) 2 hX dX5_replaceDebt_15 rfl rfl rfl ?_
  refine r_iadd (q := 17) hX dX5_replaceDebt_16 rfl ?_
  refine r_iload_n (i := 3) (x := x3) (q := 18) 3 hX dX5_replaceDebt_17 rfl rfl rfl ?_
  refine r_ck (fun hc4 => ?_)
  refine r_iast (a := (rR M a0 1)) (i := ((x1 * (3 : Int32)) + x2)) (x := x3) (q := 19) hX hc4 dX5_replaceDebt_18 rfl (fun M5 => ?_)
  refine r_iload (i := 4) (x := v2) (q := 21) 4 hX dX5_replaceDebt_19 rfl rfl ?_
  refine r_lf (hK _) ?_
  exact r_iret hM rfl (Nat.le_of_ble_eq_true rfl) (Nat.le_of_ble_eq_true rfl) dX5_replaceDebt_21
theorem lkX11_288 : Lk RX11 288 yX5_replaceDebt := gd (hcw5_0 _ (List.mem_of_getElem? (i := 0) rfl)) rfl
def mX11_debt : MD := (yX11_debt, cX11_debt, 4, (some .int), 2, 46, 0, 0)
theorem ccX11_debt : Cc mX11_debt 3 := ⟨gd (hcw1_0 _ (List.mem_of_getElem? (i := 1) rfl)) rfl, gd (hcw4_11 _ (List.mem_of_getElem? (i := 19) rfl)) rfl, by decide +kernel, by decide +kernel, by decide +kernel⟩
theorem ivX11_debt : Iv mX11_debt 11 := ⟨Nat.le_of_ble_eq_true rfl, rfl, gd (hcw4_11 _ (List.mem_of_getElem? (i := 17) rfl)) rfl, gd (hcw4_11 _ (List.mem_of_getElem? (i := 18) rfl)) rfl⟩
noncomputable def fX11_debt (Z : Shp) (M : Mem) (a0 : Nat) (x1 : Int32) (x2 : Int32) (x3 : Int32) : Option (Int32 × Mem) := (if (fX11_within x1 (0 : Int32) (3 : Int32)) = 0 then some ((-101 : Int32), M) else (if (fX11_within x2 (0 : Int32) (2 : Int32)) = 0 then some ((-101 : Int32), M) else (if (fX11_within x3 (0 : Int32) (9999 : Int32)) = 0 then some ((-102 : Int32), M) else (if tg Z a0 = (12, 6) then (if tg Z (rR M a0 4) = (6, 9) then (Option.bind (fX5_replaceDebt Z M (rR M a0 4) x1 x2 x3) (fun v6 => some (v6.1, v6.2))) else none) else none))))
set_option maxRecDepth 20000 in
theorem kX11_debt (l : Launch) (Z : Shp) (M : Mem) (a0 : Nat) (x1 : Int32) (x2 : Int32) (x3 : Int32) (r : Int32 × Mem) (h : fX11_debt Z M a0 x1 x2 x3 = some r) : Ct l mX11_debt [vr a0, vi x1, vi x2, vi x3] Z M ((some (vi r.1)), Z, r.2) := by
  refine Ct.of rfl (Nat.le_of_ble_eq_true rfl) (fun X hM => ?_)
  have hX := hM.1
  refine r_top (mk := fun r => ((some (vi r.1)), Z, r.2)) h (fun K hK => ?_)
  unfold fX11_debt
  refine r_iload_n (i := 1) (x := x1) (q := 1) 1 hX dX11_debt_0 rfl rfl rfl ?_
  refine r_iconst (v := (0 : Int32)) (q := 2) hX dX11_debt_1 rfl rfl ?_
  refine r_iconst (v := (3 : Int32)) (q := 3) hX dX11_debt_2 rfl rfl ?_
  refine r_cs (As := [vi x1, vi (0 : Int32), vi (3 : Int32)]) (st := []) (r := (some (vi (fX11_within x1 (0 : Int32) (3 : Int32))))) (Z1 := Z) (M1 := M) (k1 := 0) (n1 := 0) (st1 := [vi (fX11_within x1 (0 : Int32) (3 : Int32))]) (q := 6) hX (fun l => kX11_within l Z M x1 (0 : Int32) (3 : Int32)) stX11_within ccX11_within (Or.inl lkX11_55) rfl rfl rfl ⟨Nat.le_of_ble_eq_true rfl, Nat.le_of_ble_eq_true rfl, rfl, rfl, Nat.le_of_ble_eq_true rfl, Nat.le_of_ble_eq_true rfl⟩ (Nat.le_of_ble_eq_true rfl) dX11_debt_3 rfl ?_
  refine r_if_eq (tgt := 18) (q := 9) hX dX11_debt_6 (by decide) rfl (fun hb1 => ?_) (fun hb1 => ?_)
  · refine r_bipush (v := (-101 : Int32)) (q := 20) hX dX11_debt_18 rfl rfl ?_
    refine r_lf (hK _) ?_
    exact r_iret hM rfl (Nat.le_of_ble_eq_true rfl) (Nat.le_of_ble_eq_true rfl) dX11_debt_20
  · refine r_iload_n (i := 2) (x := x2) (q := 10) 2 hX dX11_debt_9 rfl rfl rfl ?_
    refine r_iconst (v := (0 : Int32)) (q := 11) hX dX11_debt_10 rfl rfl ?_
    refine r_iconst (v := (2 : Int32)) (q := 12) hX dX11_debt_11 rfl rfl ?_
    refine r_cs (As := [vi x2, vi (0 : Int32), vi (2 : Int32)]) (st := []) (r := (some (vi (fX11_within x2 (0 : Int32) (2 : Int32))))) (Z1 := Z) (M1 := M) (k1 := 0) (n1 := 0) (st1 := [vi (fX11_within x2 (0 : Int32) (2 : Int32))]) (q := 15) hX (fun l => kX11_within l Z M x2 (0 : Int32) (2 : Int32)) stX11_within ccX11_within (Or.inl lkX11_55) rfl rfl rfl ⟨Nat.le_of_ble_eq_true rfl, Nat.le_of_ble_eq_true rfl, rfl, rfl, Nat.le_of_ble_eq_true rfl, Nat.le_of_ble_eq_true rfl⟩ (Nat.le_of_ble_eq_true rfl) dX11_debt_12 rfl ?_
    refine r_if_ne (tgt := 21) (q := 18) hX dX11_debt_15 (by decide) rfl (fun hb2 => ?_) (fun hb2 => ?_)
    · refine r_bipush (v := (-101 : Int32)) (q := 20) hX dX11_debt_18 rfl rfl ?_
      refine r_lf (hK _) ?_
      exact r_iret hM rfl (Nat.le_of_ble_eq_true rfl) (Nat.le_of_ble_eq_true rfl) dX11_debt_20
    · refine r_iload_n (i := 3) (x := x3) (q := 22) 3 hX dX11_debt_21 rfl rfl rfl ?_
      refine r_iconst (v := (0 : Int32)) (q := 23) hX dX11_debt_22 rfl rfl ?_
      refine r_sipush (v := (9999 : Int32)) (q := 26) hX dX11_debt_23 rfl rfl ?_
      refine r_cs (As := [vi x3, vi (0 : Int32), vi (9999 : Int32)]) (st := []) (r := (some (vi (fX11_within x3 (0 : Int32) (9999 : Int32))))) (Z1 := Z) (M1 := M) (k1 := 0) (n1 := 0) (st1 := [vi (fX11_within x3 (0 : Int32) (9999 : Int32))]) (q := 29) hX (fun l => kX11_within l Z M x3 (0 : Int32) (9999 : Int32)) stX11_within ccX11_within (Or.inl lkX11_55) rfl rfl rfl ⟨Nat.le_of_ble_eq_true rfl, Nat.le_of_ble_eq_true rfl, rfl, rfl, Nat.le_of_ble_eq_true rfl, Nat.le_of_ble_eq_true rfl⟩ (Nat.le_of_ble_eq_true rfl) dX11_debt_26 rfl ?_
      refine r_if_eq (tgt := 45) (q := 32) hX dX11_debt_29 (by decide) rfl (fun hb3 => ?_) (fun hb3 => ?_)
      · refine r_bipush (v := (-102 : Int32)) (q := 47) hX dX11_debt_45 rfl rfl ?_
        refine r_lf (hK _) ?_
        exact r_iret hM rfl (Nat.le_of_ble_eq_true rfl) (Nat.le_of_ble_eq_true rfl) dX11_debt_47
      · refine r_aload_n (i := 0) (x := a0) (q := 33) 0 hX dX11_debt_32 rfl rfl rfl ?_
        refine r_ck (fun hc4 => ?_)
        refine r_getR (a := a0) (ci := 11) (kf := 4) (q := 36) hX hc4 flX11_40 rfl dX11_debt_33 rfl ?_
        refine r_iload_n (i := 1) (x := x1) (q := 37) 1 hX dX11_debt_36 rfl rfl rfl ?_
        refine r_iload_n (i := 2) (x := x2) (q := 38) 2 hX dX11_debt_37 rfl rfl rfl ?_
        refine r_iload_n (i := 3) (x := x3) (q := 39) 3 hX dX11_debt_38 rfl rfl rfl ?_
        refine r_ck (fun hc5 => ?_)
        refine r_bind (fun v6 h7 => ?_)
        refine r_cv (a := (rR M a0 4)) (As := [vi x1, vi x2, vi x3]) (st := []) (r := (some (vi v6.1))) (Z1 := Z) (M1 := v6.2) (k1 := 0) (n1 := 0) (st1 := [vi v6.1]) (q := 42) hX (fun l => kX5_replaceDebt l Z M (rR M a0 4) x1 x2 x3 v6 h7) hc5 ivX5_replaceDebt ccX5_replaceDebt (Or.inl lkX11_288) rfl rfl rfl ⟨Nat.le_of_ble_eq_true rfl, Nat.le_of_ble_eq_true rfl, rfl, rfl, Nat.le_of_ble_eq_true rfl, Nat.le_of_ble_eq_true rfl⟩ (Nat.le_of_ble_eq_true rfl) dX11_debt_39 rfl ?_
        refine r_goto (q := 47) hX dX11_debt_42 (by decide) ?_
        refine r_lf (hK _) ?_
        exact r_iret hM rfl (Nat.le_of_ble_eq_true rfl) (Nat.le_of_ble_eq_true rfl) dX11_debt_47
theorem flX6_9 : FL RX6 9 6 0 := ⟨Nat.le_of_ble_eq_true rfl, Nat.le_of_ble_eq_true rfl, gd (hcw1_2 _ (List.mem_of_getElem? (i := 5) rfl)) rfl⟩
theorem flX6_15 : FL RX6 15 6 1 := ⟨Nat.le_of_ble_eq_true rfl, Nat.le_of_ble_eq_true rfl, gd (hcw1_2 _ (List.mem_of_getElem? (i := 9) rfl)) rfl⟩
theorem flX6_18 : FL RX6 18 6 2 := ⟨Nat.le_of_ble_eq_true rfl, Nat.le_of_ble_eq_true rfl, gd (hcw1_2 _ (List.mem_of_getElem? (i := 11) rfl)) rfl⟩
def mX6_tell : MD := (yX6_tell, cX6_tell, 2, (some .int), 0, 0, 0, 0)
theorem ccX6_tell : Cc mX6_tell 1 := ⟨gd (hcw1_0 _ (List.mem_of_getElem? (i := 3) rfl)) rfl, gd (hcw2_4 _ (List.mem_of_getElem? (i := 18) rfl)) rfl, by decide +kernel, by decide +kernel, by decide +kernel⟩
theorem ivX6_tell : Iv mX6_tell 6 := ⟨Nat.le_of_ble_eq_true rfl, rfl, gd (hcw2_4 _ (List.mem_of_getElem? (i := 16) rfl)) rfl, gd (hcw2_4 _ (List.mem_of_getElem? (i := 17) rfl)) rfl⟩
def fX6_tell (Z : Shp) (M : Mem) (a0 : Nat) (x1 : Int32) : Option (Int32) := (if x1 = 0 then (if tg Z a0 = (7, 3) then some (rI M a0 0) else none) else (if x1 = (1 : Int32) then (if tg Z a0 = (7, 3) then some (rI M a0 1) else none) else (if tg Z a0 = (7, 3) then some (rI M a0 2) else none)))
set_option maxRecDepth 20000 in
theorem kX6_tell (l : Launch) (Z : Shp) (M : Mem) (a0 : Nat) (x1 : Int32) (r : Int32) (h : fX6_tell Z M a0 x1 = some r) : Ct l mX6_tell [vr a0, vi x1] Z M ((some (vi r)), Z, M) := by
  refine Ct.of rfl (Nat.le_of_ble_eq_true rfl) (fun X hM => ?_)
  have hX := hM.1
  refine r_top (mk := fun r => ((some (vi r)), Z, M)) h (fun K hK => ?_)
  unfold fX6_tell
  refine r_iload_n (i := 1) (x := x1) (q := 1) 1 hX dX6_tell_0 rfl rfl rfl ?_
  refine r_if_ne (tgt := 9) (q := 4) hX dX6_tell_1 (by decide) rfl (fun hb1 => ?_) (fun hb1 => ?_)
  · refine r_aload_n (i := 0) (x := a0) (q := 5) 0 hX dX6_tell_4 rfl rfl rfl ?_
    refine r_ck (fun hc2 => ?_)
    refine r_getI (a := a0) (ci := 6) (kf := 0) (q := 8) hX hc2 flX6_9 rfl rfl dX6_tell_5 rfl ?_
    refine r_lf (hK _) ?_
    exact r_iret hM rfl (Nat.le_of_ble_eq_true rfl) (Nat.le_of_ble_eq_true rfl) dX6_tell_8
  · refine r_iload_n (i := 1) (x := x1) (q := 10) 1 hX dX6_tell_9 rfl rfl rfl ?_
    refine r_iconst (v := (1 : Int32)) (q := 11) hX dX6_tell_10 rfl rfl ?_
    refine r_icmp_ne (tgt := 21) (q := 14) hX dX6_tell_11 (by decide) rfl (fun hb3 => ?_) (fun hb3 => ?_)
    · refine r_aload_n (i := 0) (x := a0) (q := 15) 0 hX dX6_tell_14 rfl rfl rfl ?_
      refine r_ck (fun hc4 => ?_)
      refine r_getI (a := a0) (ci := 6) (kf := 1) (q := 18) hX hc4 flX6_15 rfl rfl dX6_tell_15 rfl ?_
      refine r_goto (q := 25) hX dX6_tell_18 (by decide) ?_
      refine r_lf (hK _) ?_
      exact r_iret hM rfl (Nat.le_of_ble_eq_true rfl) (Nat.le_of_ble_eq_true rfl) dX6_tell_25
    · refine r_aload_n (i := 0) (x := a0) (q := 22) 0 hX dX6_tell_21 rfl rfl rfl ?_
      refine r_ck (fun hc5 => ?_)
      refine r_getI (a := a0) (ci := 6) (kf := 2) (q := 25) hX hc5 flX6_18 rfl rfl dX6_tell_22 rfl ?_
      refine r_lf (hK _) ?_
      exact r_iret hM rfl (Nat.le_of_ble_eq_true rfl) (Nat.le_of_ble_eq_true rfl) dX6_tell_25
theorem flX4_7 : FL RX4 7 4 0 := ⟨Nat.le_of_ble_eq_true rfl, Nat.le_of_ble_eq_true rfl, gd (hcw1_3 _ (List.mem_of_getElem? (i := 5) rfl)) rfl⟩
theorem flX4_19 : FL RX4 19 4 1 := ⟨Nat.le_of_ble_eq_true rfl, Nat.le_of_ble_eq_true rfl, gd (hcw1_3 _ (List.mem_of_getElem? (i := 6) rfl)) rfl⟩
theorem flX4_23 : FL RX4 23 4 2 := ⟨Nat.le_of_ble_eq_true rfl, Nat.le_of_ble_eq_true rfl, gd (hcw1_3 _ (List.mem_of_getElem? (i := 7) rfl)) rfl⟩
def mX4_tell : MD := (yX4_tell, cX4_tell, 2, (some .int), 0, 0, 0, 0)
theorem ccX4_tell : Cc mX4_tell 1 := ⟨gd (hcw1_0 _ (List.mem_of_getElem? (i := 4) rfl)) rfl, gd (hcw2_6 _ (List.mem_of_getElem? (i := 3) rfl)) rfl, by decide +kernel, by decide +kernel, by decide +kernel⟩
theorem ivX4_tell : Iv mX4_tell 4 := ⟨Nat.le_of_ble_eq_true rfl, rfl, gd (hcw2_6 _ (List.mem_of_getElem? (i := 1) rfl)) rfl, gd (hcw2_6 _ (List.mem_of_getElem? (i := 2) rfl)) rfl⟩
def fX4_tell (Z : Shp) (M : Mem) (a0 : Nat) (x1 : Int32) : Option (Int32) := (if x1 = 0 then (if tg Z a0 = (5, 7) then some (rI M a0 0) else none) else (if x1 = (1 : Int32) then (if tg Z a0 = (5, 7) then (if (rI M a0 1) = 0 then some (0 : Int32) else some (1 : Int32)) else none) else (if tg Z a0 = (5, 7) then some (rI M a0 2) else none)))
set_option maxRecDepth 20000 in
theorem kX4_tell (l : Launch) (Z : Shp) (M : Mem) (a0 : Nat) (x1 : Int32) (r : Int32) (h : fX4_tell Z M a0 x1 = some r) : Ct l mX4_tell [vr a0, vi x1] Z M ((some (vi r)), Z, M) := by
  refine Ct.of rfl (Nat.le_of_ble_eq_true rfl) (fun X hM => ?_)
  have hX := hM.1
  refine r_top (mk := fun r => ((some (vi r)), Z, M)) h (fun K hK => ?_)
  unfold fX4_tell
  refine r_iload_n (i := 1) (x := x1) (q := 1) 1 hX dX4_tell_0 rfl rfl rfl ?_
  refine r_if_ne (tgt := 9) (q := 4) hX dX4_tell_1 (by decide) rfl (fun hb1 => ?_) (fun hb1 => ?_)
  · refine r_aload_n (i := 0) (x := a0) (q := 5) 0 hX dX4_tell_4 rfl rfl rfl ?_
    refine r_ck (fun hc2 => ?_)
    refine r_getI (a := a0) (ci := 4) (kf := 0) (q := 8) hX hc2 flX4_7 rfl rfl dX4_tell_5 rfl ?_
    refine r_lf (hK _) ?_
    exact r_iret hM rfl (Nat.le_of_ble_eq_true rfl) (Nat.le_of_ble_eq_true rfl) dX4_tell_8
  · refine r_iload_n (i := 1) (x := x1) (q := 10) 1 hX dX4_tell_9 rfl rfl rfl ?_
    refine r_iconst (v := (1 : Int32)) (q := 11) hX dX4_tell_10 rfl rfl ?_
    refine r_icmp_ne (tgt := 29) (q := 14) hX dX4_tell_11 (by decide) rfl (fun hb3 => ?_) (fun hb3 => ?_)
    · refine r_aload_n (i := 0) (x := a0) (q := 15) 0 hX dX4_tell_14 rfl rfl rfl ?_
      refine r_ck (fun hc4 => ?_)
      refine r_getI (a := a0) (ci := 4) (kf := 1) (q := 18) hX hc4 flX4_19 rfl rfl dX4_tell_15 rfl ?_
      refine r_if_eq (tgt := 25) (q := 21) hX dX4_tell_18 (by decide) rfl (fun hb5 => ?_) (fun hb5 => ?_)
      · refine r_iconst (v := (0 : Int32)) (q := 26) hX dX4_tell_25 rfl rfl ?_
        refine r_goto (q := 33) hX dX4_tell_26 (by decide) ?_
        refine r_lf (hK _) ?_
        exact r_iret hM rfl (Nat.le_of_ble_eq_true rfl) (Nat.le_of_ble_eq_true rfl) dX4_tell_33
      · refine r_iconst (v := (1 : Int32)) (q := 22) hX dX4_tell_21 rfl rfl ?_
        refine r_goto (q := 33) hX dX4_tell_22 (by decide) ?_
        refine r_lf (hK _) ?_
        exact r_iret hM rfl (Nat.le_of_ble_eq_true rfl) (Nat.le_of_ble_eq_true rfl) dX4_tell_33
    · refine r_aload_n (i := 0) (x := a0) (q := 30) 0 hX dX4_tell_29 rfl rfl rfl ?_
      refine r_ck (fun hc6 => ?_)
      refine r_getI (a := a0) (ci := 4) (kf := 2) (q := 33) hX hc6 flX4_23 rfl rfl dX4_tell_30 rfl ?_
      refine r_lf (hK _) ?_
      exact r_iret hM rfl (Nat.le_of_ble_eq_true rfl) (Nat.le_of_ble_eq_true rfl) dX4_tell_33
theorem flX4_30 : FL RX4 30 4 3 := ⟨Nat.le_of_ble_eq_true rfl, Nat.le_of_ble_eq_true rfl, gd (hcw1_3 _ (List.mem_of_getElem? (i := 9) rfl)) rfl⟩
theorem flX4_33 : FL RX4 33 4 4 := ⟨Nat.le_of_ble_eq_true rfl, Nat.le_of_ble_eq_true rfl, gd (hcw1_3 _ (List.mem_of_getElem? (i := 11) rfl)) rfl⟩
theorem flX4_36 : FL RX4 36 4 5 := ⟨Nat.le_of_ble_eq_true rfl, Nat.le_of_ble_eq_true rfl, gd (hcw1_3 _ (List.mem_of_getElem? (i := 12) rfl)) rfl⟩
theorem flX4_39 : FL RX4 39 4 6 := ⟨Nat.le_of_ble_eq_true rfl, Nat.le_of_ble_eq_true rfl, gd (hcw1_3 _ (List.mem_of_getElem? (i := 13) rfl)) rfl⟩
def mX4_standing : MD := (yX4_standing, cX4_standing, 2, (some .int), 0, 0, 0, 0)
theorem ccX4_standing : Cc mX4_standing 1 := ⟨gd (hcw1_0 _ (List.mem_of_getElem? (i := 4) rfl)) rfl, gd (hcw3_5 _ (List.mem_of_getElem? (i := 16) rfl)) rfl, by decide +kernel, by decide +kernel, by decide +kernel⟩
theorem ivX4_standing : Iv mX4_standing 4 := ⟨Nat.le_of_ble_eq_true rfl, rfl, gd (hcw3_5 _ (List.mem_of_getElem? (i := 14) rfl)) rfl, gd (hcw3_5 _ (List.mem_of_getElem? (i := 15) rfl)) rfl⟩
def fX4_standing (Z : Shp) (M : Mem) (a0 : Nat) (x1 : Int32) : Option (Int32) := (if x1 = (0 : Int32) then (if tg Z a0 = (5, 7) then (if (rI M a0 3) = 0 then some (0 : Int32) else some (1 : Int32)) else none) else (if x1 = (1 : Int32) then (if tg Z a0 = (5, 7) then some (rI M a0 4) else none) else (if x1 = (2 : Int32) then (if tg Z a0 = (5, 7) then some (rI M a0 5) else none) else (if tg Z a0 = (5, 7) then some (rI M a0 6) else none))))
set_option maxRecDepth 20000 in
theorem kX4_standing (l : Launch) (Z : Shp) (M : Mem) (a0 : Nat) (x1 : Int32) (r : Int32) (h : fX4_standing Z M a0 x1 = some r) : Ct l mX4_standing [vr a0, vi x1] Z M ((some (vi r)), Z, M) := by
  refine Ct.of rfl (Nat.le_of_ble_eq_true rfl) (fun X hM => ?_)
  have hX := hM.1
  refine r_top (mk := fun r => ((some (vi r)), Z, M)) h (fun K hK => ?_)
  unfold fX4_standing
  refine r_iload_n (i := 1) (x := x1) (q := 1) 1 hX dX4_standing_0 rfl rfl rfl ?_
  refine r_ite (fun hb1 => ?_) (fun hb1 => ?_)
  · refine r_tswI (off := 27) (q := 28) hX hb1 dX4_standing_1 (by decide) (by decide) ?_
    refine r_aload_n (i := 0) (x := a0) (q := 29) 0 hX dX4_standing_28 rfl rfl rfl ?_
    refine r_ck (fun hc2 => ?_)
    refine r_getI (a := a0) (ci := 4) (kf := 3) (q := 32) hX hc2 flX4_30 rfl rfl dX4_standing_29 rfl ?_
    refine r_if_eq (tgt := 39) (q := 35) hX dX4_standing_32 (by decide) rfl (fun hb3 => ?_) (fun hb3 => ?_)
    · refine r_iconst (v := (0 : Int32)) (q := 40) hX dX4_standing_39 rfl rfl ?_
      refine r_lf (hK _) ?_
      exact r_iret hM rfl (Nat.le_of_ble_eq_true rfl) (Nat.le_of_ble_eq_true rfl) dX4_standing_40
    · refine r_iconst (v := (1 : Int32)) (q := 36) hX dX4_standing_35 rfl rfl ?_
      refine r_goto (q := 40) hX dX4_standing_36 (by decide) ?_
      refine r_lf (hK _) ?_
      exact r_iret hM rfl (Nat.le_of_ble_eq_true rfl) (Nat.le_of_ble_eq_true rfl) dX4_standing_40
  · refine r_ite (fun hb4 => ?_) (fun hb4 => ?_)
    · refine r_tswI (off := 40) (q := 41) hX hb4 dX4_standing_1 (by decide) (by decide) ?_
      refine r_aload_n (i := 0) (x := a0) (q := 42) 0 hX dX4_standing_41 rfl rfl rfl ?_
      refine r_ck (fun hc5 => ?_)
      refine r_getI (a := a0) (ci := 4) (kf := 4) (q := 45) hX hc5 flX4_33 rfl rfl dX4_standing_42 rfl ?_
      refine r_lf (hK _) ?_
      exact r_iret hM rfl (Nat.le_of_ble_eq_true rfl) (Nat.le_of_ble_eq_true rfl) dX4_standing_45
    · refine r_ite (fun hb6 => ?_) (fun hb6 => ?_)
      · refine r_tswI (off := 45) (q := 46) hX hb6 dX4_standing_1 (by decide) (by decide) ?_
        refine r_aload_n (i := 0) (x := a0) (q := 47) 0 hX dX4_standing_46 rfl rfl rfl ?_
        refine r_ck (fun hc7 => ?_)
        refine r_getI (a := a0) (ci := 4) (kf := 5) (q := 50) hX hc7 flX4_36 rfl rfl dX4_standing_47 rfl ?_
        refine r_lf (hK _) ?_
        exact r_iret hM rfl (Nat.le_of_ble_eq_true rfl) (Nat.le_of_ble_eq_true rfl) dX4_standing_50
      · refine r_tswO (cs := [(0 : Int32), (1 : Int32), (2 : Int32)]) (q := 51) hX ⟨hb1, ⟨hb4, ⟨hb6, trivial⟩⟩⟩ dX4_standing_1 (by decide) (by decide) ?_
        refine r_aload_n (i := 0) (x := a0) (q := 52) 0 hX dX4_standing_51 rfl rfl rfl ?_
        refine r_ck (fun hc8 => ?_)
        refine r_getI (a := a0) (ci := 4) (kf := 6) (q := 55) hX hc8 flX4_39 rfl rfl dX4_standing_52 rfl ?_
        refine r_lf (hK _) ?_
        exact r_iret hM rfl (Nat.le_of_ble_eq_true rfl) (Nat.le_of_ble_eq_true rfl) dX4_standing_55
theorem flX3_184 : FL RX3 184 7 0 := ⟨Nat.le_of_ble_eq_true rfl, Nat.le_of_ble_eq_true rfl, gd (hcw2_6 _ (List.mem_of_getElem? (i := 15) rfl)) rfl⟩
theorem lkX3_165 : LkN RX3 165 yX11_mix "CanalCompany" := bd (hcw5_7 _ (List.mem_of_getElem? (i := 1) rfl)) rfl
theorem flX3_187 : FL RX3 187 7 2 := ⟨Nat.le_of_ble_eq_true rfl, Nat.le_of_ble_eq_true rfl, gd (hcw2_6 _ (List.mem_of_getElem? (i := 19) rfl)) rfl⟩
theorem flX3_54 : FL RX3 54 7 3 := ⟨Nat.le_of_ble_eq_true rfl, Nat.le_of_ble_eq_true rfl, gd (hcw2_7 _ (List.mem_of_getElem? (i := 1) rfl)) rfl⟩
theorem flX3_111 : FL RX3 111 7 4 := ⟨Nat.le_of_ble_eq_true rfl, Nat.le_of_ble_eq_true rfl, gd (hcw2_7 _ (List.mem_of_getElem? (i := 3) rfl)) rfl⟩
def mX3_addTakersTo : MD := (yX3_addTakersTo, cX3_addTakersTo, 7, (some .long), 1, 23, 0, 0)
theorem ccX3_addTakersTo : Cc mX3_addTakersTo 1 := ⟨gd (hcw1_0 _ (List.mem_of_getElem? (i := 2) rfl)) rfl, gd (hcw5_7 _ (List.mem_of_getElem? (i := 11) rfl)) rfl, by decide +kernel, by decide +kernel, by decide +kernel⟩
theorem ivX3_addTakersTo : Iv mX3_addTakersTo 3 := ⟨Nat.le_of_ble_eq_true rfl, rfl, gd (hcw5_7 _ (List.mem_of_getElem? (i := 10) rfl)) rfl, gd (hps3 _ (List.mem_of_getElem? (i := 0) rfl)) rfl⟩
noncomputable def fX3_addTakersTo (Z : Shp) (M : Mem) (a0 : Nat) (y1 : Int64) : Option (Int64) := (loop (fun s1 : Int64 × Int32 => (if tg Z a0 = (4, 11) then (if (rI M a0 5) ≤ s1.2 then some (Sum.inr s1.1) else (if aok Z (rR M a0 2) 112 s1.2 then (pu ((rR M (rR M a0 2) (ix s1.2))) (fun z7 => (if tg Z z7 = (8, 5) then (pu ((fX11_mix (fX11_mix s1.1 ((rI M z7 0).toInt64)) ((rI M z7 1).toInt64))) (fun z9 => (pu ((fX11_mix (fX11_mix z9 ((rI M z7 2).toInt64)) ((rI M z7 3).toInt64))) (fun z10 => (pu ((fX11_mix z10 ((rI M z7 4).toInt64))) (fun z11 => some (Sum.inl (z11, (s1.2 + (1 : Int32)))))))))) else none))) else none)) else none)) (y1, (0 : Int32)))
set_option maxRecDepth 20000 in
theorem kX3_addTakersTo (l : Launch) (Z : Shp) (M : Mem) (a0 : Nat) (y1 : Int64) (r : Int64) (h : fX3_addTakersTo Z M a0 y1 = some r) : Ct l mX3_addTakersTo [vr a0, vj y1] Z M ((some (vj r)), Z, M) := by
  refine Ct.of rfl (Nat.le_of_ble_eq_true rfl) (fun X hM => ?_)
  have hX := hM.1
  refine r_top (mk := fun r => ((some (vj r)), Z, M)) h (fun K hK => ?_)
  unfold fX3_addTakersTo
  refine r_lload_n (i := 1) (x := y1) (q := 1) 1 hX dX3_addTakersTo_0 rfl rfl rfl ?_
  refine r_lstore_n (x := y1) (q := 2) 3 [1, 2, 0] (L1 := [(0, vr a0), (1, vj y1), (3, vj y1)]) hX dX3_addTakersTo_1 rfl (Nat.le_of_ble_eq_true rfl) rfl rfl ?_
  refine r_iconst (v := (0 : Int32)) (q := 3) hX dX3_addTakersTo_2 rfl rfl ?_
  refine r_istore (x := (0 : Int32)) (q := 5) 5 [1, 2, 3, 0] (L1 := [(0, vr a0), (1, vj y1), (3, vj y1), (5, vi (0 : Int32))]) hX dX3_addTakersTo_3 (Nat.le_of_ble_eq_true rfl) rfl rfl ?_
  refine r_sub [0, 2, 3] rfl ?_
  refine r_loop (Hd := fun (s1 : Int64 × Int32) (P : Option Res) => Ref mX3_addTakersTo X 0 0 Z M 5 [(0, vr a0), (3, vj s1.1), (5, vi s1.2)] [] P) (fun _ => r_none) (fun s1 K1 hn2 hx3 => ?_) (y1, (0 : Int32))
  refine r_iload (i := 5) (x := s1.2) (q := 7) 2 hX dX3_addTakersTo_5 rfl rfl ?_
  refine r_aload_n (i := 0) (x := a0) (q := 8) 0 hX dX3_addTakersTo_7 rfl rfl rfl ?_
  refine r_ck (fun hc4 => ?_)
  refine r_getI (a := a0) (ci := 3) (kf := 5) (q := 11) hX hc4 flX3_48 rfl rfl dX3_addTakersTo_8 rfl ?_
  refine r_icmp_ge (tgt := 80) (q := 14) hX dX3_addTakersTo_11 (by decide) rfl (fun hb5 => ?_) (fun hb5 => ?_)
  · refine r_lload_n (i := 3) (x := s1.1) (q := 81) 1 hX dX3_addTakersTo_80 rfl rfl rfl ?_
    refine r_lf ((hx3 _).trans (hK _)) ?_
    exact r_lret hM rfl (Nat.le_of_ble_eq_true rfl) (Nat.le_of_ble_eq_true rfl) dX3_addTakersTo_81
  · refine r_aload_n (i := 0) (x := a0) (q := 15) 0 hX dX3_addTakersTo_14 rfl rfl rfl ?_
    refine r_getR (a := a0) (ci := 3) (kf := 2) (q := 18) hX hc4 flX3_25 rfl dX3_addTakersTo_15 rfl ?_
    refine r_iload (i := 5) (x := s1.2) (q := 20) 2 hX dX3_addTakersTo_18 rfl rfl ?_
    refine r_ck (fun hc6 => ?_)
    refine r_aald (a := (rR M a0 2)) (i := s1.2) (q := 21) hX arT_112 hc6 dX3_addTakersTo_20 rfl ?_
    refine r_astoreP (x := (rR M (rR M a0 2) (ix s1.2))) (q := 23) 6 [1, 2, 3, 0] (fun z7 => [(0, vr a0), (3, vj s1.1), (5, vi s1.2), (6, vr z7)]) hX dX3_addTakersTo_21 (Nat.le_of_ble_eq_true rfl) (fun _ => rfl) rfl (fun z7 => ?_)
    refine r_lload_n (i := 3) (x := s1.1) (q := 24) 1 hX dX3_addTakersTo_23 rfl rfl rfl ?_
    refine r_aload (i := 6) (x := z7) (q := 26) 3 hX dX3_addTakersTo_24 rfl rfl ?_
    refine r_ck (fun hc8 => ?_)
    refine r_getI (a := z7) (ci := 7) (kf := 0) (q := 29) hX hc8 flX3_184 rfl rfl dX3_addTakersTo_26 rfl ?_
    refine r_i2l (q := 30) hX dX3_addTakersTo_29 rfl ?_
    refine r_cs (As := [vj s1.1, vj ((rI M z7 0).toInt64)]) (st := []) (r := (some (vj (fX11_mix s1.1 ((rI M z7 0).toInt64))))) (Z1 := Z) (M1 := M) (k1 := 0) (n1 := 0) (st1 := [vj (fX11_mix s1.1 ((rI M z7 0).toInt64))]) (q := 33) hX (fun l => kX11_mix l Z M s1.1 ((rI M z7 0).toInt64)) stX11_mix ccX11_mix (Or.inr ⟨_, lkX3_165⟩) rfl rfl rfl ⟨Nat.le_of_ble_eq_true rfl, Nat.le_of_ble_eq_true rfl, rfl, rfl, Nat.le_of_ble_eq_true rfl, Nat.le_of_ble_eq_true rfl⟩ (Nat.le_of_ble_eq_true rfl) dX3_addTakersTo_30 rfl ?_
    refine r_aload (i := 6) (x := z7) (q := 35) 3 hX dX3_addTakersTo_33 rfl rfl ?_
    refine r_getI (a := z7) (ci := 7) (kf := 1) (q := 38) hX hc8 flX3_67 rfl rfl dX3_addTakersTo_35 rfl ?_
    refine r_i2l (q := 39) hX dX3_addTakersTo_38 rfl ?_
    refine r_cs (As := [vj (fX11_mix s1.1 ((rI M z7 0).toInt64)), vj ((rI M z7 1).toInt64)]) (st := []) (r := (some (vj (fX11_mix (fX11_mix s1.1 ((rI M z7 0).toInt64)) ((rI M z7 1).toInt64))))) (Z1 := Z) (M1 := M) (k1 := 0) (n1 := 0) (st1 := [vj (fX11_mix (fX11_mix s1.1 ((rI M z7 0).toInt64)) ((rI M z7 1).toInt64))]) (q := 42) hX (fun l => kX11_mix l Z M (fX11_mix s1.1 ((rI M z7 0).toInt64)) ((rI M z7 1).toInt64)) stX11_mix ccX11_mix (Or.inr ⟨_, lkX3_165⟩) rfl rfl rfl ⟨Nat.le_of_ble_eq_true rfl, Nat.le_of_ble_eq_true rfl, rfl, rfl, Nat.le_of_ble_eq_true rfl, Nat.le_of_ble_eq_true rfl⟩ (Nat.le_of_ble_eq_true rfl) dX3_addTakersTo_39 rfl ?_
    refine r_lstore_nP (x := (fX11_mix (fX11_mix s1.1 ((rI M z7 0).toInt64)) ((rI M z7 1).toInt64))) (q := 43) 3 [1, 0, 3, 4] (fun z9 => [(0, vr a0), (3, vj z9), (5, vi s1.2), (6, vr z7)]) hX dX3_addTakersTo_42 rfl (Nat.le_of_ble_eq_true rfl) (fun _ => rfl) rfl (fun z9 => ?_)
    refine r_lload_n (i := 3) (x := z9) (q := 44) 1 hX dX3_addTakersTo_43 rfl rfl rfl ?_
    refine r_aload (i := 6) (x := z7) (q := 46) 3 hX dX3_addTakersTo_44 rfl rfl ?_
    refine r_getI (a := z7) (ci := 7) (kf := 2) (q := 49) hX hc8 flX3_187 rfl rfl dX3_addTakersTo_46 rfl ?_
    refine r_i2l (q := 50) hX dX3_addTakersTo_49 rfl ?_
    refine r_cs (As := [vj z9, vj ((rI M z7 2).toInt64)]) (st := []) (r := (some (vj (fX11_mix z9 ((rI M z7 2).toInt64))))) (Z1 := Z) (M1 := M) (k1 := 0) (n1 := 0) (st1 := [vj (fX11_mix z9 ((rI M z7 2).toInt64))]) (q := 53) hX (fun l => kX11_mix l Z M z9 ((rI M z7 2).toInt64)) stX11_mix ccX11_mix (Or.inr ⟨_, lkX3_165⟩) rfl rfl rfl ⟨Nat.le_of_ble_eq_true rfl, Nat.le_of_ble_eq_true rfl, rfl, rfl, Nat.le_of_ble_eq_true rfl, Nat.le_of_ble_eq_true rfl⟩ (Nat.le_of_ble_eq_true rfl) dX3_addTakersTo_50 rfl ?_
    refine r_aload (i := 6) (x := z7) (q := 55) 3 hX dX3_addTakersTo_53 rfl rfl ?_
    refine r_getI (a := z7) (ci := 7) (kf := 3) (q := 58) hX hc8 flX3_54 rfl rfl dX3_addTakersTo_55 rfl ?_
    refine r_i2l (q := 59) hX dX3_addTakersTo_58 rfl ?_
    refine r_cs (As := [vj (fX11_mix z9 ((rI M z7 2).toInt64)), vj ((rI M z7 3).toInt64)]) (st := []) (r := (some (vj (fX11_mix (fX11_mix z9 ((rI M z7 2).toInt64)) ((rI M z7 3).toInt64))))) (Z1 := Z) (M1 := M) (k1 := 0) (n1 := 0) (st1 := [vj (fX11_mix (fX11_mix z9 ((rI M z7 2).toInt64)) ((rI M z7 3).toInt64))]) (q := 62) hX (fun l => kX11_mix l Z M (fX11_mix z9 ((rI M z7 2).toInt64)) ((rI M z7 3).toInt64)) stX11_mix ccX11_mix (Or.inr ⟨_, lkX3_165⟩) rfl rfl rfl ⟨Nat.le_of_ble_eq_true rfl, Nat.le_of_ble_eq_true rfl, rfl, rfl, Nat.le_of_ble_eq_true rfl, Nat.le_of_ble_eq_true rfl⟩ (Nat.le_of_ble_eq_true rfl) dX3_addTakersTo_59 rfl ?_
    refine r_lstore_nP (x := (fX11_mix (fX11_mix z9 ((rI M z7 2).toInt64)) ((rI M z7 3).toInt64))) (q := 63) 3 [1, 0, 3, 4] (fun z10 => [(0, vr a0), (3, vj z10), (5, vi s1.2), (6, vr z7)]) hX dX3_addTakersTo_62 rfl (Nat.le_of_ble_eq_true rfl) (fun _ => rfl) rfl (fun z10 => ?_)
    refine r_lload_n (i := 3) (x := z10) (q := 64) 1 hX dX3_addTakersTo_63 rfl rfl rfl ?_
    refine r_aload (i := 6) (x := z7) (q := 66) 3 hX dX3_addTakersTo_64 rfl rfl ?_
    refine r_getI (a := z7) (ci := 7) (kf := 4) (q := 69) hX hc8 flX3_111 rfl rfl dX3_addTakersTo_66 rfl ?_
    refine r_i2l (q := 70) hX dX3_addTakersTo_69 rfl ?_
    refine r_cs (As := [vj z10, vj ((rI M z7 4).toInt64)]) (st := []) (r := (some (vj (fX11_mix z10 ((rI M z7 4).toInt64))))) (Z1 := Z) (M1 := M) (k1 := 0) (n1 := 0) (st1 := [vj (fX11_mix z10 ((rI M z7 4).toInt64))]) (q := 73) hX (fun l => kX11_mix l Z M z10 ((rI M z7 4).toInt64)) stX11_mix ccX11_mix (Or.inr ⟨_, lkX3_165⟩) rfl rfl rfl ⟨Nat.le_of_ble_eq_true rfl, Nat.le_of_ble_eq_true rfl, rfl, rfl, Nat.le_of_ble_eq_true rfl, Nat.le_of_ble_eq_true rfl⟩ (Nat.le_of_ble_eq_true rfl) dX3_addTakersTo_70 rfl ?_
    refine r_lstore_nP (x := (fX11_mix z10 ((rI M z7 4).toInt64))) (q := 74) 3 [1, 0, 3, 4] (fun z11 => [(0, vr a0), (3, vj z11), (5, vi s1.2), (6, vr z7)]) hX dX3_addTakersTo_73 rfl (Nat.le_of_ble_eq_true rfl) (fun _ => rfl) rfl (fun z11 => ?_)
    refine r_iinc (x := s1.2) (v := (s1.2 + (1 : Int32))) (q := 77) 5 2 [1, 2, 0, 4] (L1 := [(0, vr a0), (3, vj z11), (5, vi (s1.2 + (1 : Int32))), (6, vr z7)]) hX dX3_addTakersTo_74 rfl rfl (Nat.le_of_ble_eq_true rfl) rfl rfl ?_
    refine r_goto (q := 5) hX dX3_addTakersTo_77 (by decide) ?_
    refine r_l0 ?_
    refine r_sub [0, 1, 2] rfl ?_
    exact hn2 (z11, (s1.2 + (1 : Int32)))
theorem lkX3_190 : Lk RX3 190 yX1_tell := gd (hcw5_7 _ (List.mem_of_getElem? (i := 16) rfl)) rfl
theorem flX3_131 : FL RX3 131 1 1 := ⟨Nat.le_of_ble_eq_true rfl, Nat.le_of_ble_eq_true rfl, gd (hcw2_10 _ (List.mem_of_getElem? (i := 4) rfl)) rfl⟩
theorem flX3_191 : FL RX3 191 1 3 := ⟨Nat.le_of_ble_eq_true rfl, Nat.le_of_ble_eq_true rfl, gd (hcw2_10 _ (List.mem_of_getElem? (i := 8) rfl)) rfl⟩
theorem flX3_194 : FL RX3 194 1 4 := ⟨Nat.le_of_ble_eq_true rfl, Nat.le_of_ble_eq_true rfl, gd (hcw2_10 _ (List.mem_of_getElem? (i := 11) rfl)) rfl⟩
def mX3_addBoatsTo : MD := (yX3_addBoatsTo, cX3_addBoatsTo, 8, (some .long), 2, 41, 0, 0)
theorem ccX3_addBoatsTo : Cc mX3_addBoatsTo 1 := ⟨gd (hcw1_0 _ (List.mem_of_getElem? (i := 2) rfl)) rfl, gd (hcw5_7 _ (List.mem_of_getElem? (i := 15) rfl)) rfl, by decide +kernel, by decide +kernel, by decide +kernel⟩
theorem ivX3_addBoatsTo : Iv mX3_addBoatsTo 3 := ⟨Nat.le_of_ble_eq_true rfl, rfl, gd (hcw5_7 _ (List.mem_of_getElem? (i := 14) rfl)) rfl, gd (hps3 _ (List.mem_of_getElem? (i := 1) rfl)) rfl⟩
noncomputable def fX3_addBoatsTo (Z : Shp) (M : Mem) (a0 : Nat) (y1 : Int64) : Option (Int64) := (loop (fun s1 : Int64 × Int32 => (if tg Z a0 = (4, 11) then (if (rI M a0 6) ≤ s1.2 then some (Sum.inr s1.1) else (if aok Z (rR M a0 4) 113 s1.2 then (pu ((rR M (rR M a0 4) (ix s1.2))) (fun z7 => (Option.bind (loop (fun s11 : Int64 × Int32 => (if (5 : Int32) ≤ s11.2 then some (Sum.inr s11.1) else (if tg Z z7 = (2, 10) then (Option.bind (fX1_tell Z M z7 s11.2) (fun v16 => (pu ((fX11_mix s11.1 (v16.toInt64))) (fun z18 => some (Sum.inl (z18, (s11.2 + (1 : Int32)))))))) else none))) (s1.1, (0 : Int32))) (fun v10 : Int64 => (if tg Z z7 = (2, 10) then (pu ((fX11_mix (fX11_mix (fX11_mix v10 ((rI M z7 1).toInt64)) ((rI M z7 3).toInt64)) ((rI M z7 4).toInt64))) (fun z20 => some (Sum.inl (z20, (s1.2 + (1 : Int32)))))) else none))))) else none)) else none)) (y1, (0 : Int32)))
set_option maxRecDepth 20000 in
theorem kX3_addBoatsTo (l : Launch) (Z : Shp) (M : Mem) (a0 : Nat) (y1 : Int64) (r : Int64) (h : fX3_addBoatsTo Z M a0 y1 = some r) : Ct l mX3_addBoatsTo [vr a0, vj y1] Z M ((some (vj r)), Z, M) := by
  refine Ct.of rfl (Nat.le_of_ble_eq_true rfl) (fun X hM => ?_)
  have hX := hM.1
  refine r_top (mk := fun r => ((some (vj r)), Z, M)) h (fun K hK => ?_)
  unfold fX3_addBoatsTo
  refine r_lload_n (i := 1) (x := y1) (q := 1) 1 hX dX3_addBoatsTo_0 rfl rfl rfl ?_
  refine r_lstore_n (x := y1) (q := 2) 3 [1, 2, 0] (L1 := [(0, vr a0), (1, vj y1), (3, vj y1)]) hX dX3_addBoatsTo_1 rfl (Nat.le_of_ble_eq_true rfl) rfl rfl ?_
  refine r_iconst (v := (0 : Int32)) (q := 3) hX dX3_addBoatsTo_2 rfl rfl ?_
  refine r_istore (x := (0 : Int32)) (q := 5) 5 [1, 2, 3, 0] (L1 := [(0, vr a0), (1, vj y1), (3, vj y1), (5, vi (0 : Int32))]) hX dX3_addBoatsTo_3 (Nat.le_of_ble_eq_true rfl) rfl rfl ?_
  refine r_sub [0, 2, 3] rfl ?_
  refine r_loop (Hd := fun (s1 : Int64 × Int32) (P : Option Res) => Ref mX3_addBoatsTo X 0 0 Z M 5 [(0, vr a0), (3, vj s1.1), (5, vi s1.2)] [] P) (fun _ => r_none) (fun s1 K1 hn2 hx3 => ?_) (y1, (0 : Int32))
  refine r_iload (i := 5) (x := s1.2) (q := 7) 2 hX dX3_addBoatsTo_5 rfl rfl ?_
  refine r_aload_n (i := 0) (x := a0) (q := 8) 0 hX dX3_addBoatsTo_7 rfl rfl rfl ?_
  refine r_ck (fun hc4 => ?_)
  refine r_getI (a := a0) (ci := 3) (kf := 6) (q := 11) hX hc4 flX3_51 rfl rfl dX3_addBoatsTo_8 rfl ?_
  refine r_icmp_ge (tgt := 86) (q := 14) hX dX3_addBoatsTo_11 (by decide) rfl (fun hb5 => ?_) (fun hb5 => ?_)
  · refine r_lload_n (i := 3) (x := s1.1) (q := 87) 1 hX dX3_addBoatsTo_86 rfl rfl rfl ?_
    refine r_lf ((hx3 _).trans (hK _)) ?_
    exact r_lret hM rfl (Nat.le_of_ble_eq_true rfl) (Nat.le_of_ble_eq_true rfl) dX3_addBoatsTo_87
  · refine r_aload_n (i := 0) (x := a0) (q := 15) 0 hX dX3_addBoatsTo_14 rfl rfl rfl ?_
    refine r_getR (a := a0) (ci := 3) (kf := 4) (q := 18) hX hc4 flX3_34 rfl dX3_addBoatsTo_15 rfl ?_
    refine r_iload (i := 5) (x := s1.2) (q := 20) 2 hX dX3_addBoatsTo_18 rfl rfl ?_
    refine r_ck (fun hc6 => ?_)
    refine r_aald (a := (rR M a0 4)) (i := s1.2) (q := 21) hX arT_113 hc6 dX3_addBoatsTo_20 rfl ?_
    refine r_astoreP (x := (rR M (rR M a0 4) (ix s1.2))) (q := 23) 6 [1, 2, 3, 0] (fun z7 => [(0, vr a0), (3, vj s1.1), (5, vi s1.2), (6, vr z7)]) hX dX3_addBoatsTo_21 (Nat.le_of_ble_eq_true rfl) (fun _ => rfl) rfl (fun z7 => ?_)
    refine r_iconst (v := (0 : Int32)) (q := 24) hX dX3_addBoatsTo_23 rfl rfl ?_
    refine r_istore (x := (0 : Int32)) (q := 26) 7 [1, 2, 3, 4, 0] (L1 := [(0, vr a0), (3, vj s1.1), (5, vi s1.2), (6, vr z7), (7, vi (0 : Int32))]) hX dX3_addBoatsTo_24 (Nat.le_of_ble_eq_true rfl) rfl rfl ?_
    refine r_jn (J := fun (v10 : Int64) (P : Option Res) => Ref mX3_addBoatsTo X 0 0 Z M 51 [(0, vr a0), (3, vj v10), (5, vi s1.2), (6, vr z7)] [] P) (fun v10 => ?_) (fun K1 hj8 => ?_)
    · refine r_lload_n (i := 3) (x := v10) (q := 52) 1 hX dX3_addBoatsTo_51 rfl rfl rfl ?_
      refine r_aload (i := 6) (x := z7) (q := 54) 3 hX dX3_addBoatsTo_52 rfl rfl ?_
      refine r_ck (fun hc19 => ?_)
      refine r_getI (a := z7) (ci := 1) (kf := 1) (q := 57) hX hc19 flX3_131 rfl rfl dX3_addBoatsTo_54 rfl ?_
      refine r_i2l (q := 58) hX dX3_addBoatsTo_57 rfl ?_
      refine r_cs (As := [vj v10, vj ((rI M z7 1).toInt64)]) (st := []) (r := (some (vj (fX11_mix v10 ((rI M z7 1).toInt64))))) (Z1 := Z) (M1 := M) (k1 := 0) (n1 := 0) (st1 := [vj (fX11_mix v10 ((rI M z7 1).toInt64))]) (q := 61) hX (fun l => kX11_mix l Z M v10 ((rI M z7 1).toInt64)) stX11_mix ccX11_mix (Or.inr ⟨_, lkX3_165⟩) rfl rfl rfl ⟨Nat.le_of_ble_eq_true rfl, Nat.le_of_ble_eq_true rfl, rfl, rfl, Nat.le_of_ble_eq_true rfl, Nat.le_of_ble_eq_true rfl⟩ (Nat.le_of_ble_eq_true rfl) dX3_addBoatsTo_58 rfl ?_
      refine r_aload (i := 6) (x := z7) (q := 63) 3 hX dX3_addBoatsTo_61 rfl rfl ?_
      refine r_getI (a := z7) (ci := 1) (kf := 3) (q := 66) hX hc19 flX3_191 rfl rfl dX3_addBoatsTo_63 rfl ?_
      refine r_i2l (q := 67) hX dX3_addBoatsTo_66 rfl ?_
      refine r_cs (As := [vj (fX11_mix v10 ((rI M z7 1).toInt64)), vj ((rI M z7 3).toInt64)]) (st := []) (r := (some (vj (fX11_mix (fX11_mix v10 ((rI M z7 1).toInt64)) ((rI M z7 3).toInt64))))) (Z1 := Z) (M1 := M) (k1 := 0) (n1 := 0) (st1 := [vj (fX11_mix (fX11_mix v10 ((rI M z7 1).toInt64)) ((rI M z7 3).toInt64))]) (q := 70) hX (fun l => kX11_mix l Z M (fX11_mix v10 ((rI M z7 1).toInt64)) ((rI M z7 3).toInt64)) stX11_mix ccX11_mix (Or.inr ⟨_, lkX3_165⟩) rfl rfl rfl ⟨Nat.le_of_ble_eq_true rfl, Nat.le_of_ble_eq_true rfl, rfl, rfl, Nat.le_of_ble_eq_true rfl, Nat.le_of_ble_eq_true rfl⟩ (Nat.le_of_ble_eq_true rfl) dX3_addBoatsTo_67 rfl ?_
      refine r_aload (i := 6) (x := z7) (q := 72) 3 hX dX3_addBoatsTo_70 rfl rfl ?_
      refine r_getI (a := z7) (ci := 1) (kf := 4) (q := 75) hX hc19 flX3_194 rfl rfl dX3_addBoatsTo_72 rfl ?_
      refine r_i2l (q := 76) hX dX3_addBoatsTo_75 rfl ?_
      refine r_cs (As := [vj (fX11_mix (fX11_mix v10 ((rI M z7 1).toInt64)) ((rI M z7 3).toInt64)), vj ((rI M z7 4).toInt64)]) (st := []) (r := (some (vj (fX11_mix (fX11_mix (fX11_mix v10 ((rI M z7 1).toInt64)) ((rI M z7 3).toInt64)) ((rI M z7 4).toInt64))))) (Z1 := Z) (M1 := M) (k1 := 0) (n1 := 0) (st1 := [vj (fX11_mix (fX11_mix (fX11_mix v10 ((rI M z7 1).toInt64)) ((rI M z7 3).toInt64)) ((rI M z7 4).toInt64))]) (q := 79) hX (fun l => kX11_mix l Z M (fX11_mix (fX11_mix v10 ((rI M z7 1).toInt64)) ((rI M z7 3).toInt64)) ((rI M z7 4).toInt64)) stX11_mix ccX11_mix (Or.inr ⟨_, lkX3_165⟩) rfl rfl rfl ⟨Nat.le_of_ble_eq_true rfl, Nat.le_of_ble_eq_true rfl, rfl, rfl, Nat.le_of_ble_eq_true rfl, Nat.le_of_ble_eq_true rfl⟩ (Nat.le_of_ble_eq_true rfl) dX3_addBoatsTo_76 rfl ?_
      refine r_lstore_nP (x := (fX11_mix (fX11_mix (fX11_mix v10 ((rI M z7 1).toInt64)) ((rI M z7 3).toInt64)) ((rI M z7 4).toInt64))) (q := 80) 3 [1, 0, 3, 4] (fun z20 => [(0, vr a0), (3, vj z20), (5, vi s1.2), (6, vr z7)]) hX dX3_addBoatsTo_79 rfl (Nat.le_of_ble_eq_true rfl) (fun _ => rfl) rfl (fun z20 => ?_)
      refine r_iinc (x := s1.2) (v := (s1.2 + (1 : Int32))) (q := 83) 5 2 [1, 2, 0, 4] (L1 := [(0, vr a0), (3, vj z20), (5, vi (s1.2 + (1 : Int32))), (6, vr z7)]) hX dX3_addBoatsTo_80 rfl rfl (Nat.le_of_ble_eq_true rfl) rfl rfl ?_
      refine r_goto (q := 5) hX dX3_addBoatsTo_83 (by decide) ?_
      refine r_l0 ?_
      refine r_sub [0, 1, 2] rfl ?_
      exact hn2 (z20, (s1.2 + (1 : Int32)))
    · refine r_loop (Hd := fun (s11 : Int64 × Int32) (P : Option Res) => Ref mX3_addBoatsTo X 0 0 Z M 26 [(0, vr a0), (3, vj s11.1), (5, vi s1.2), (6, vr z7), (7, vi s11.2)] [] P) (fun _ => r_none) (fun s11 K1 hn12 hx13 => ?_) (s1.1, (0 : Int32))
      refine r_iload (i := 7) (x := s11.2) (q := 28) 4 hX dX3_addBoatsTo_26 rfl rfl ?_
      refine r_iconst (v := (5 : Int32)) (q := 29) hX dX3_addBoatsTo_28 rfl rfl ?_
      refine r_icmp_ge (tgt := 51) (q := 32) hX dX3_addBoatsTo_29 (by decide) rfl (fun hb14 => ?_) (fun hb14 => ?_)
      · refine r_lf (hx13 _) ?_
        refine r_sub [0, 1, 2, 3] rfl ?_
        exact hj8 s11.1
      · refine r_lload_n (i := 3) (x := s11.1) (q := 33) 1 hX dX3_addBoatsTo_32 rfl rfl rfl ?_
        refine r_aload (i := 6) (x := z7) (q := 35) 3 hX dX3_addBoatsTo_33 rfl rfl ?_
        refine r_iload (i := 7) (x := s11.2) (q := 37) 4 hX dX3_addBoatsTo_35 rfl rfl ?_
        refine r_ck (fun hc15 => ?_)
        refine r_bind (fun v16 h17 => ?_)
        refine r_cv (a := z7) (As := [vi s11.2]) (st := [vj s11.1]) (r := (some (vi v16))) (Z1 := Z) (M1 := M) (k1 := 0) (n1 := 0) (st1 := [vi v16, vj s11.1]) (q := 40) hX (fun l => kX1_tell l Z M z7 s11.2 v16 h17) hc15 ivX1_tell ccX1_tell (Or.inl lkX3_190) rfl rfl rfl ⟨Nat.le_of_ble_eq_true rfl, Nat.le_of_ble_eq_true rfl, rfl, rfl, Nat.le_of_ble_eq_true rfl, Nat.le_of_ble_eq_true rfl⟩ (Nat.le_of_ble_eq_true rfl) dX3_addBoatsTo_37 rfl ?_
        refine r_i2l (q := 41) hX dX3_addBoatsTo_40 rfl ?_
        refine r_cs (As := [vj s11.1, vj (v16.toInt64)]) (st := []) (r := (some (vj (fX11_mix s11.1 (v16.toInt64))))) (Z1 := Z) (M1 := M) (k1 := 0) (n1 := 0) (st1 := [vj (fX11_mix s11.1 (v16.toInt64))]) (q := 44) hX (fun l => kX11_mix l Z M s11.1 (v16.toInt64)) stX11_mix ccX11_mix (Or.inr ⟨_, lkX3_165⟩) rfl rfl rfl ⟨Nat.le_of_ble_eq_true rfl, Nat.le_of_ble_eq_true rfl, rfl, rfl, Nat.le_of_ble_eq_true rfl, Nat.le_of_ble_eq_true rfl⟩ (Nat.le_of_ble_eq_true rfl) dX3_addBoatsTo_41 rfl ?_
        refine r_lstore_nP (x := (fX11_mix s11.1 (v16.toInt64))) (q := 45) 3 [1, 0, 3, 4, 5] (fun z18 => [(0, vr a0), (3, vj z18), (5, vi s1.2), (6, vr z7), (7, vi s11.2)]) hX dX3_addBoatsTo_44 rfl (Nat.le_of_ble_eq_true rfl) (fun _ => rfl) rfl (fun z18 => ?_)
        refine r_iinc (x := s11.2) (v := (s11.2 + (1 : Int32))) (q := 48) 7 4 [1, 2, 3, 4, 0] (L1 := [(0, vr a0), (3, vj z18), (5, vi s1.2), (6, vr z7), (7, vi (s11.2 + (1 : Int32)))]) hX dX3_addBoatsTo_45 rfl rfl (Nat.le_of_ble_eq_true rfl) rfl rfl ?_
        refine r_goto (q := 26) hX dX3_addBoatsTo_48 (by decide) ?_
        refine r_l0 ?_
        exact hn12 (z18, (s11.2 + (1 : Int32)))
theorem flX3_38 : FL RX3 38 3 7 := ⟨Nat.le_of_ble_eq_true rfl, Nat.le_of_ble_eq_true rfl, gd (hcw1_5 _ (List.mem_of_getElem? (i := 0) rfl)) rfl⟩
theorem lkX3_169 : Lk RX3 169 yX6_tell := gd (hcw5_7 _ (List.mem_of_getElem? (i := 5) rfl)) rfl
theorem lkX3_177 : Lk RX3 177 yX3_addTakersTo := gd (hcw5_7 _ (List.mem_of_getElem? (i := 8) rfl)) rfl
theorem lkX3_181 : Lk RX3 181 yX3_addBoatsTo := gd (hcw5_7 _ (List.mem_of_getElem? (i := 12) rfl)) rfl
theorem flX3_19 : FL RX3 19 3 1 := ⟨Nat.le_of_ble_eq_true rfl, Nat.le_of_ble_eq_true rfl, gd (hcw1_4 _ (List.mem_of_getElem? (i := 11) rfl)) rfl⟩
theorem lkX3_173 : Lk RX3 173 yX4_tell := gd (hcw5_7 _ (List.mem_of_getElem? (i := 6) rfl)) rfl
theorem lkX3_174 : Lk RX3 174 yX4_standing := gd (hcw5_7 _ (List.mem_of_getElem? (i := 7) rfl)) rfl
def mX3_addTo : MD := (yX3_addTo, cX3_addTo, 7, (some .long), 3, 68, 0, 0)
theorem ccX3_addTo : Cc mX3_addTo 1 := ⟨gd (hcw1_0 _ (List.mem_of_getElem? (i := 2) rfl)) rfl, gd (hcw5_7 _ (List.mem_of_getElem? (i := 0) rfl)) rfl, by decide +kernel, by decide +kernel, by decide +kernel⟩
theorem ivX3_addTo : Iv mX3_addTo 3 := ⟨Nat.le_of_ble_eq_true rfl, rfl, gd (hcw5_6 _ (List.mem_of_getElem? (i := 18) rfl)) rfl, gd (hcw5_6 _ (List.mem_of_getElem? (i := 19) rfl)) rfl⟩
noncomputable def fX3_addTo (Z : Shp) (M : Mem) (a0 : Nat) (y1 : Int64) : Option (Int64) := (if tg Z a0 = (4, 11) then (pu ((fX11_mix y1 ((rI M a0 7).toInt64))) (fun z2 => (Option.bind (loop (fun s6 : Int64 × Int32 => (if (8 : Int32) ≤ s6.2 then some (Sum.inr s6.1) else (loop (fun s10 : Int64 × Int32 => (if (3 : Int32) ≤ s10.2 then some (Sum.inr (Sum.inl (s10.1, (s6.2 + (1 : Int32))))) else (if aok Z (rR M a0 0) 110 s6.2 then (if tg Z (rR M (rR M a0 0) (ix s6.2)) = (7, 3) then (Option.bind (fX6_tell Z M (rR M (rR M a0 0) (ix s6.2)) s10.2) (fun v16 => (pu ((fX11_mix s10.1 (v16.toInt64))) (fun z18 => some (Sum.inl (z18, (s10.2 + (1 : Int32)))))))) else none) else none))) (s6.1, (0 : Int32))))) (z2, (0 : Int32))) (fun v5 : Int64 => (loop (fun s19 : Int64 × Int32 => (if (7 : Int32) ≤ s19.2 then (Option.bind (fX3_addTakersTo Z M a0 s19.1) (fun v23 => (Option.bind (fX3_addBoatsTo Z M a0 v23) (fun v25 => some (Sum.inr v25))))) else (Option.bind (loop (fun s30 : Int64 × Int32 => (if (3 : Int32) ≤ s30.2 then some (Sum.inr s30.1) else (if aok Z (rR M a0 1) 111 s19.2 then (if tg Z (rR M (rR M a0 1) (ix s19.2)) = (5, 7) then (Option.bind (fX4_tell Z M (rR M (rR M a0 1) (ix s19.2)) s30.2) (fun v36 => (pu ((fX11_mix s30.1 (v36.toInt64))) (fun z38 => some (Sum.inl (z38, (s30.2 + (1 : Int32)))))))) else none) else none))) (s19.1, (0 : Int32))) (fun v29 : Int64 => (loop (fun s39 : Int64 × Int32 => (if (4 : Int32) ≤ s39.2 then some (Sum.inr (Sum.inl (s39.1, (s19.2 + (1 : Int32))))) else (if aok Z (rR M a0 1) 111 s19.2 then (if tg Z (rR M (rR M a0 1) (ix s19.2)) = (5, 7) then (Option.bind (fX4_standing Z M (rR M (rR M a0 1) (ix s19.2)) s39.2) (fun v45 => (pu ((fX11_mix s39.1 (v45.toInt64))) (fun z47 => some (Sum.inl (z47, (s39.2 + (1 : Int32)))))))) else none) else none))) (v29, (0 : Int32))))))) (v5, (0 : Int32))))))) else none)
set_option maxRecDepth 20000 in
theorem kX3_addTo (l : Launch) (Z : Shp) (M : Mem) (a0 : Nat) (y1 : Int64) (r : Int64) (h : fX3_addTo Z M a0 y1 = some r) : Ct l mX3_addTo [vr a0, vj y1] Z M ((some (vj r)), Z, M) := by
  refine Ct.of rfl (Nat.le_of_ble_eq_true rfl) (fun X hM => ?_)
  have hX := hM.1
  refine r_top (mk := fun r => ((some (vj r)), Z, M)) h (fun K hK => ?_)
  unfold fX3_addTo
  refine r_lload_n (i := 1) (x := y1) (q := 1) 1 hX dX3_addTo_0 rfl rfl rfl ?_
  refine r_aload_n (i := 0) (x := a0) (q := 2) 0 hX dX3_addTo_1 rfl rfl rfl ?_
  refine r_ck (fun hc1 => ?_)
  refine r_getI (a := a0) (ci := 3) (kf := 7) (q := 5) hX hc1 flX3_38 rfl rfl dX3_addTo_2 rfl ?_
  refine r_i2l (q := 6) hX dX3_addTo_5 rfl ?_
  refine r_cs (As := [vj y1, vj ((rI M a0 7).toInt64)]) (st := []) (r := (some (vj (fX11_mix y1 ((rI M a0 7).toInt64))))) (Z1 := Z) (M1 := M) (k1 := 0) (n1 := 0) (st1 := [vj (fX11_mix y1 ((rI M a0 7).toInt64))]) (q := 9) hX (fun l => kX11_mix l Z M y1 ((rI M a0 7).toInt64)) stX11_mix ccX11_mix (Or.inr ⟨_, lkX3_165⟩) rfl rfl rfl ⟨Nat.le_of_ble_eq_true rfl, Nat.le_of_ble_eq_true rfl, rfl, rfl, Nat.le_of_ble_eq_true rfl, Nat.le_of_ble_eq_true rfl⟩ (Nat.le_of_ble_eq_true rfl) dX3_addTo_6 rfl ?_
  refine r_lstore_nP (x := (fX11_mix y1 ((rI M a0 7).toInt64))) (q := 10) 3 [1, 2, 0] (fun z2 => [(0, vr a0), (1, vj y1), (3, vj z2)]) hX dX3_addTo_9 rfl (Nat.le_of_ble_eq_true rfl) (fun _ => rfl) rfl (fun z2 => ?_)
  refine r_iconst (v := (0 : Int32)) (q := 11) hX dX3_addTo_10 rfl rfl ?_
  refine r_istore (x := (0 : Int32)) (q := 13) 5 [1, 2, 3, 0] (L1 := [(0, vr a0), (1, vj y1), (3, vj z2), (5, vi (0 : Int32))]) hX dX3_addTo_11 (Nat.le_of_ble_eq_true rfl) rfl rfl ?_
  refine r_jn (J := fun (v5 : Int64) (P : Option Res) => Ref mX3_addTo X 0 0 Z M 59 [(0, vr a0), (3, vj v5)] [] P) (fun v5 => ?_) (fun K1 hj3 => ?_)
  · refine r_iconst (v := (0 : Int32)) (q := 60) hX dX3_addTo_59 rfl rfl ?_
    refine r_istore (x := (0 : Int32)) (q := 62) 5 [1, 2, 0] (L1 := [(0, vr a0), (3, vj v5), (5, vi (0 : Int32))]) hX dX3_addTo_60 (Nat.le_of_ble_eq_true rfl) rfl rfl ?_
    refine r_loop (Hd := fun (s19 : Int64 × Int32) (P : Option Res) => Ref mX3_addTo X 0 0 Z M 62 [(0, vr a0), (3, vj s19.1), (5, vi s19.2)] [] P) (fun _ => r_none) (fun s19 K1 hn20 hx21 => ?_) (v5, (0 : Int32))
    refine r_iload (i := 5) (x := s19.2) (q := 64) 2 hX dX3_addTo_62 rfl rfl ?_
    refine r_bipush (v := (7 : Int32)) (q := 66) hX dX3_addTo_64 rfl rfl ?_
    refine r_icmp_ge (tgt := 141) (q := 69) hX dX3_addTo_66 (by decide) rfl (fun hb22 => ?_) (fun hb22 => ?_)
    · refine r_aload_n (i := 0) (x := a0) (q := 142) 0 hX dX3_addTo_141 rfl rfl rfl ?_
      refine r_aload_n (i := 0) (x := a0) (q := 143) 0 hX dX3_addTo_142 rfl rfl rfl ?_
      refine r_lload_n (i := 3) (x := s19.1) (q := 144) 1 hX dX3_addTo_143 rfl rfl rfl ?_
      refine r_bind (fun v23 h24 => ?_)
      refine r_cv (a := a0) (As := [vj s19.1]) (st := [vr a0]) (r := (some (vj v23))) (Z1 := Z) (M1 := M) (k1 := 0) (n1 := 0) (st1 := [vj v23, vr a0]) (q := 147) hX (fun l => kX3_addTakersTo l Z M a0 s19.1 v23 h24) hc1 ivX3_addTakersTo ccX3_addTakersTo (Or.inl lkX3_177) rfl rfl rfl ⟨Nat.le_of_ble_eq_true rfl, Nat.le_of_ble_eq_true rfl, rfl, rfl, Nat.le_of_ble_eq_true rfl, Nat.le_of_ble_eq_true rfl⟩ (Nat.le_of_ble_eq_true rfl) dX3_addTo_144 rfl ?_
      refine r_bind (fun v25 h26 => ?_)
      refine r_cv (a := a0) (As := [vj v23]) (st := []) (r := (some (vj v25))) (Z1 := Z) (M1 := M) (k1 := 0) (n1 := 0) (st1 := [vj v25]) (q := 150) hX (fun l => kX3_addBoatsTo l Z M a0 v23 v25 h26) hc1 ivX3_addBoatsTo ccX3_addBoatsTo (Or.inl lkX3_181) rfl rfl rfl ⟨Nat.le_of_ble_eq_true rfl, Nat.le_of_ble_eq_true rfl, rfl, rfl, Nat.le_of_ble_eq_true rfl, Nat.le_of_ble_eq_true rfl⟩ (Nat.le_of_ble_eq_true rfl) dX3_addTo_147 rfl ?_
      refine r_lf ((hx21 _).trans (hK _)) ?_
      exact r_lret hM rfl (Nat.le_of_ble_eq_true rfl) (Nat.le_of_ble_eq_true rfl) dX3_addTo_150
    · refine r_iconst (v := (0 : Int32)) (q := 70) hX dX3_addTo_69 rfl rfl ?_
      refine r_istore (x := (0 : Int32)) (q := 72) 6 [1, 2, 3, 0] (L1 := [(0, vr a0), (3, vj s19.1), (5, vi s19.2), (6, vi (0 : Int32))]) hX dX3_addTo_70 (Nat.le_of_ble_eq_true rfl) rfl rfl ?_
      refine r_jn (J := fun (v29 : Int64) (P : Option Res) => Ref mX3_addTo X 0 0 Z M 102 [(0, vr a0), (3, vj v29), (5, vi s19.2)] [] P) (fun v29 => ?_) (fun K1 hj27 => ?_)
      · refine r_iconst (v := (0 : Int32)) (q := 103) hX dX3_addTo_102 rfl rfl ?_
        refine r_istore (x := (0 : Int32)) (q := 105) 6 [1, 2, 3, 0] (L1 := [(0, vr a0), (3, vj v29), (5, vi s19.2), (6, vi (0 : Int32))]) hX dX3_addTo_103 (Nat.le_of_ble_eq_true rfl) rfl rfl ?_
        refine r_loop (Hd := fun (s39 : Int64 × Int32) (P : Option Res) => Ref mX3_addTo X 0 0 Z M 105 [(0, vr a0), (3, vj s39.1), (5, vi s19.2), (6, vi s39.2)] [] P) (fun _ => r_none) (fun s39 K1 hn40 hx41 => ?_) (v29, (0 : Int32))
        refine r_iload (i := 6) (x := s39.2) (q := 107) 3 hX dX3_addTo_105 rfl rfl ?_
        refine r_iconst (v := (4 : Int32)) (q := 108) hX dX3_addTo_107 rfl rfl ?_
        refine r_icmp_ge (tgt := 135) (q := 111) hX dX3_addTo_108 (by decide) rfl (fun hb42 => ?_) (fun hb42 => ?_)
        · refine r_iinc (x := s19.2) (v := (s19.2 + (1 : Int32))) (q := 138) 5 2 [1, 2, 0, 4] (L1 := [(0, vr a0), (3, vj s39.1), (5, vi (s19.2 + (1 : Int32))), (6, vi s39.2)]) hX dX3_addTo_135 rfl rfl (Nat.le_of_ble_eq_true rfl) rfl rfl ?_
          refine r_goto (q := 62) hX dX3_addTo_138 (by decide) ?_
          refine r_lf (hx41 _) ?_
          refine r_sub [0, 1, 2] rfl ?_
          exact hn20 (s39.1, (s19.2 + (1 : Int32)))
        · refine r_lload_n (i := 3) (x := s39.1) (q := 112) 1 hX dX3_addTo_111 rfl rfl rfl ?_
          refine r_aload_n (i := 0) (x := a0) (q := 113) 0 hX dX3_addTo_112 rfl rfl rfl ?_
          refine r_getR (a := a0) (ci := 3) (kf := 1) (q := 116) hX hc1 flX3_19 rfl dX3_addTo_113 rfl ?_
          refine r_iload (i := 5) (x := s19.2) (q := 118) 2 hX dX3_addTo_116 rfl rfl ?_
          refine r_ck (fun hc43 => ?_)
          refine r_aald (a := (rR M a0 1)) (i := s19.2) (q := 119) hX arT_111 hc43 dX3_addTo_118 rfl ?_
          refine r_iload (i := 6) (x := s39.2) (q := 121) 3 hX dX3_addTo_119 rfl rfl ?_
          refine r_ck (fun hc44 => ?_)
          refine r_bind (fun v45 h46 => ?_)
          refine r_cv (a := (rR M (rR M a0 1) (ix s19.2))) (As := [vi s39.2]) (st := [vj s39.1]) (r := (some (vi v45))) (Z1 := Z) (M1 := M) (k1 := 0) (n1 := 0) (st1 := [vi v45, vj s39.1]) (q := 124) hX (fun l => kX4_standing l Z M (rR M (rR M a0 1) (ix s19.2)) s39.2 v45 h46) hc44 ivX4_standing ccX4_standing (Or.inl lkX3_174) rfl rfl rfl ⟨Nat.le_of_ble_eq_true rfl, Nat.le_of_ble_eq_true rfl, rfl, rfl, Nat.le_of_ble_eq_true rfl, Nat.le_of_ble_eq_true rfl⟩ (Nat.le_of_ble_eq_true rfl) dX3_addTo_121 rfl ?_
          refine r_i2l (q := 125) hX dX3_addTo_124 rfl ?_
          refine r_cs (As := [vj s39.1, vj (v45.toInt64)]) (st := []) (r := (some (vj (fX11_mix s39.1 (v45.toInt64))))) (Z1 := Z) (M1 := M) (k1 := 0) (n1 := 0) (st1 := [vj (fX11_mix s39.1 (v45.toInt64))]) (q := 128) hX (fun l => kX11_mix l Z M s39.1 (v45.toInt64)) stX11_mix ccX11_mix (Or.inr ⟨_, lkX3_165⟩) rfl rfl rfl ⟨Nat.le_of_ble_eq_true rfl, Nat.le_of_ble_eq_true rfl, rfl, rfl, Nat.le_of_ble_eq_true rfl, Nat.le_of_ble_eq_true rfl⟩ (Nat.le_of_ble_eq_true rfl) dX3_addTo_125 rfl ?_
          refine r_lstore_nP (x := (fX11_mix s39.1 (v45.toInt64))) (q := 129) 3 [1, 0, 3, 4] (fun z47 => [(0, vr a0), (3, vj z47), (5, vi s19.2), (6, vi s39.2)]) hX dX3_addTo_128 rfl (Nat.le_of_ble_eq_true rfl) (fun _ => rfl) rfl (fun z47 => ?_)
          refine r_iinc (x := s39.2) (v := (s39.2 + (1 : Int32))) (q := 132) 6 3 [1, 2, 3, 0] (L1 := [(0, vr a0), (3, vj z47), (5, vi s19.2), (6, vi (s39.2 + (1 : Int32)))]) hX dX3_addTo_129 rfl rfl (Nat.le_of_ble_eq_true rfl) rfl rfl ?_
          refine r_goto (q := 105) hX dX3_addTo_132 (by decide) ?_
          refine r_l0 ?_
          exact hn40 (z47, (s39.2 + (1 : Int32)))
      · refine r_loop (Hd := fun (s30 : Int64 × Int32) (P : Option Res) => Ref mX3_addTo X 0 0 Z M 72 [(0, vr a0), (3, vj s30.1), (5, vi s19.2), (6, vi s30.2)] [] P) (fun _ => r_none) (fun s30 K1 hn31 hx32 => ?_) (s19.1, (0 : Int32))
        refine r_iload (i := 6) (x := s30.2) (q := 74) 3 hX dX3_addTo_72 rfl rfl ?_
        refine r_iconst (v := (3 : Int32)) (q := 75) hX dX3_addTo_74 rfl rfl ?_
        refine r_icmp_ge (tgt := 102) (q := 78) hX dX3_addTo_75 (by decide) rfl (fun hb33 => ?_) (fun hb33 => ?_)
        · refine r_lf (hx32 _) ?_
          refine r_sub [0, 1, 2] rfl ?_
          exact hj27 s30.1
        · refine r_lload_n (i := 3) (x := s30.1) (q := 79) 1 hX dX3_addTo_78 rfl rfl rfl ?_
          refine r_aload_n (i := 0) (x := a0) (q := 80) 0 hX dX3_addTo_79 rfl rfl rfl ?_
          refine r_getR (a := a0) (ci := 3) (kf := 1) (q := 83) hX hc1 flX3_19 rfl dX3_addTo_80 rfl ?_
          refine r_iload (i := 5) (x := s19.2) (q := 85) 2 hX dX3_addTo_83 rfl rfl ?_
          refine r_ck (fun hc34 => ?_)
          refine r_aald (a := (rR M a0 1)) (i := s19.2) (q := 86) hX arT_111 hc34 dX3_addTo_85 rfl ?_
          refine r_iload (i := 6) (x := s30.2) (q := 88) 3 hX dX3_addTo_86 rfl rfl ?_
          refine r_ck (fun hc35 => ?_)
          refine r_bind (fun v36 h37 => ?_)
          refine r_cv (a := (rR M (rR M a0 1) (ix s19.2))) (As := [vi s30.2]) (st := [vj s30.1]) (r := (some (vi v36))) (Z1 := Z) (M1 := M) (k1 := 0) (n1 := 0) (st1 := [vi v36, vj s30.1]) (q := 91) hX (fun l => kX4_tell l Z M (rR M (rR M a0 1) (ix s19.2)) s30.2 v36 h37) hc35 ivX4_tell ccX4_tell (Or.inl lkX3_173) rfl rfl rfl ⟨Nat.le_of_ble_eq_true rfl, Nat.le_of_ble_eq_true rfl, rfl, rfl, Nat.le_of_ble_eq_true rfl, Nat.le_of_ble_eq_true rfl⟩ (Nat.le_of_ble_eq_true rfl) dX3_addTo_88 rfl ?_
          refine r_i2l (q := 92) hX dX3_addTo_91 rfl ?_
          refine r_cs (As := [vj s30.1, vj (v36.toInt64)]) (st := []) (r := (some (vj (fX11_mix s30.1 (v36.toInt64))))) (Z1 := Z) (M1 := M) (k1 := 0) (n1 := 0) (st1 := [vj (fX11_mix s30.1 (v36.toInt64))]) (q := 95) hX (fun l => kX11_mix l Z M s30.1 (v36.toInt64)) stX11_mix ccX11_mix (Or.inr ⟨_, lkX3_165⟩) rfl rfl rfl ⟨Nat.le_of_ble_eq_true rfl, Nat.le_of_ble_eq_true rfl, rfl, rfl, Nat.le_of_ble_eq_true rfl, Nat.le_of_ble_eq_true rfl⟩ (Nat.le_of_ble_eq_true rfl) dX3_addTo_92 rfl ?_
          refine r_lstore_nP (x := (fX11_mix s30.1 (v36.toInt64))) (q := 96) 3 [1, 0, 3, 4] (fun z38 => [(0, vr a0), (3, vj z38), (5, vi s19.2), (6, vi s30.2)]) hX dX3_addTo_95 rfl (Nat.le_of_ble_eq_true rfl) (fun _ => rfl) rfl (fun z38 => ?_)
          refine r_iinc (x := s30.2) (v := (s30.2 + (1 : Int32))) (q := 99) 6 3 [1, 2, 3, 0] (L1 := [(0, vr a0), (3, vj z38), (5, vi s19.2), (6, vi (s30.2 + (1 : Int32)))]) hX dX3_addTo_96 rfl rfl (Nat.le_of_ble_eq_true rfl) rfl rfl ?_
          refine r_goto (q := 72) hX dX3_addTo_99 (by decide) ?_
          refine r_l0 ?_
          exact hn31 (z38, (s30.2 + (1 : Int32)))
  · refine r_sub [0, 2, 3] rfl ?_
    refine r_loop (Hd := fun (s6 : Int64 × Int32) (P : Option Res) => Ref mX3_addTo X 0 0 Z M 13 [(0, vr a0), (3, vj s6.1), (5, vi s6.2)] [] P) (fun _ => r_none) (fun s6 K1 hn7 hx8 => ?_) (z2, (0 : Int32))
    refine r_iload (i := 5) (x := s6.2) (q := 15) 2 hX dX3_addTo_13 rfl rfl ?_
    refine r_bipush (v := (8 : Int32)) (q := 17) hX dX3_addTo_15 rfl rfl ?_
    refine r_icmp_ge (tgt := 59) (q := 20) hX dX3_addTo_17 (by decide) rfl (fun hb9 => ?_) (fun hb9 => ?_)
    · refine r_lf (hx8 _) ?_
      refine r_sub [0, 1] rfl ?_
      exact hj3 s6.1
    · refine r_iconst (v := (0 : Int32)) (q := 21) hX dX3_addTo_20 rfl rfl ?_
      refine r_istore (x := (0 : Int32)) (q := 23) 6 [1, 2, 3, 0] (L1 := [(0, vr a0), (3, vj s6.1), (5, vi s6.2), (6, vi (0 : Int32))]) hX dX3_addTo_21 (Nat.le_of_ble_eq_true rfl) rfl rfl ?_
      refine r_loop (Hd := fun (s10 : Int64 × Int32) (P : Option Res) => Ref mX3_addTo X 0 0 Z M 23 [(0, vr a0), (3, vj s10.1), (5, vi s6.2), (6, vi s10.2)] [] P) (fun _ => r_none) (fun s10 K1 hn11 hx12 => ?_) (s6.1, (0 : Int32))
      refine r_iload (i := 6) (x := s10.2) (q := 25) 3 hX dX3_addTo_23 rfl rfl ?_
      refine r_iconst (v := (3 : Int32)) (q := 26) hX dX3_addTo_25 rfl rfl ?_
      refine r_icmp_ge (tgt := 53) (q := 29) hX dX3_addTo_26 (by decide) rfl (fun hb13 => ?_) (fun hb13 => ?_)
      · refine r_iinc (x := s6.2) (v := (s6.2 + (1 : Int32))) (q := 56) 5 2 [1, 2, 0, 4] (L1 := [(0, vr a0), (3, vj s10.1), (5, vi (s6.2 + (1 : Int32))), (6, vi s10.2)]) hX dX3_addTo_53 rfl rfl (Nat.le_of_ble_eq_true rfl) rfl rfl ?_
        refine r_goto (q := 13) hX dX3_addTo_56 (by decide) ?_
        refine r_lf (hx12 _) ?_
        refine r_sub [0, 1, 2] rfl ?_
        exact hn7 (s10.1, (s6.2 + (1 : Int32)))
      · refine r_lload_n (i := 3) (x := s10.1) (q := 30) 1 hX dX3_addTo_29 rfl rfl rfl ?_
        refine r_aload_n (i := 0) (x := a0) (q := 31) 0 hX dX3_addTo_30 rfl rfl rfl ?_
        refine r_getR (a := a0) (ci := 3) (kf := 0) (q := 34) hX hc1 flX3_11 rfl dX3_addTo_31 rfl ?_
        refine r_iload (i := 5) (x := s6.2) (q := 36) 2 hX dX3_addTo_34 rfl rfl ?_
        refine r_ck (fun hc14 => ?_)
        refine r_aald (a := (rR M a0 0)) (i := s6.2) (q := 37) hX arT_110 hc14 dX3_addTo_36 rfl ?_
        refine r_iload (i := 6) (x := s10.2) (q := 39) 3 hX dX3_addTo_37 rfl rfl ?_
        refine r_ck (fun hc15 => ?_)
        refine r_bind (fun v16 h17 => ?_)
        refine r_cv (a := (rR M (rR M a0 0) (ix s6.2))) (As := [vi s10.2]) (st := [vj s10.1]) (r := (some (vi v16))) (Z1 := Z) (M1 := M) (k1 := 0) (n1 := 0) (st1 := [vi v16, vj s10.1]) (q := 42) hX (fun l => kX6_tell l Z M (rR M (rR M a0 0) (ix s6.2)) s10.2 v16 h17) hc15 ivX6_tell ccX6_tell (Or.inl lkX3_169) rfl rfl rfl ⟨Nat.le_of_ble_eq_true rfl, Nat.le_of_ble_eq_true rfl, rfl, rfl, Nat.le_of_ble_eq_true rfl, Nat.le_of_ble_eq_true rfl⟩ (Nat.le_of_ble_eq_true rfl) dX3_addTo_39 rfl ?_
        refine r_i2l (q := 43) hX dX3_addTo_42 rfl ?_
        refine r_cs (As := [vj s10.1, vj (v16.toInt64)]) (st := []) (r := (some (vj (fX11_mix s10.1 (v16.toInt64))))) (Z1 := Z) (M1 := M) (k1 := 0) (n1 := 0) (st1 := [vj (fX11_mix s10.1 (v16.toInt64))]) (q := 46) hX (fun l => kX11_mix l Z M s10.1 (v16.toInt64)) stX11_mix ccX11_mix (Or.inr ⟨_, lkX3_165⟩) rfl rfl rfl ⟨Nat.le_of_ble_eq_true rfl, Nat.le_of_ble_eq_true rfl, rfl, rfl, Nat.le_of_ble_eq_true rfl, Nat.le_of_ble_eq_true rfl⟩ (Nat.le_of_ble_eq_true rfl) dX3_addTo_43 rfl ?_
        refine r_lstore_nP (x := (fX11_mix s10.1 (v16.toInt64))) (q := 47) 3 [1, 0, 3, 4] (fun z18 => [(0, vr a0), (3, vj z18), (5, vi s6.2), (6, vi s10.2)]) hX dX3_addTo_46 rfl (Nat.le_of_ble_eq_true rfl) (fun _ => rfl) rfl (fun z18 => ?_)
        refine r_iinc (x := s10.2) (v := (s10.2 + (1 : Int32))) (q := 50) 6 3 [1, 2, 3, 0] (L1 := [(0, vr a0), (3, vj z18), (5, vi s6.2), (6, vi (s10.2 + (1 : Int32)))]) hX dX3_addTo_47 rfl rfl (Nat.le_of_ble_eq_true rfl) rfl rfl ?_
        refine r_goto (q := 23) hX dX3_addTo_50 (by decide) ?_
        refine r_l0 ?_
        exact hn11 (z18, (s10.2 + (1 : Int32)))
def mX3_takenInAll : MD := (yX3_takenInAll, cX3_takenInAll, 4, (some .long), 0, 0, 0, 0)
theorem ccX3_takenInAll : Cc mX3_takenInAll 0 := ⟨gd (hcw1_0 _ (List.mem_of_getElem? (i := 2) rfl)) rfl, gd (hcw3_6 _ (List.mem_of_getElem? (i := 9) rfl)) rfl, by decide +kernel, by decide +kernel, by decide +kernel⟩
theorem ivX3_takenInAll : Iv mX3_takenInAll 3 := ⟨Nat.le_of_ble_eq_true rfl, rfl, gd (hcw3_6 _ (List.mem_of_getElem? (i := 7) rfl)) rfl, gd (hcw3_6 _ (List.mem_of_getElem? (i := 8) rfl)) rfl⟩
noncomputable def fX3_takenInAll (Z : Shp) (M : Mem) (a0 : Nat) : Option (Int64) := (loop (fun s1 : Int64 × Int32 => (if tg Z a0 = (4, 11) then (if (rI M a0 5) ≤ s1.2 then some (Sum.inr s1.1) else (if aok Z (rR M a0 2) 112 s1.2 then (if tg Z (rR M (rR M a0 2) (ix s1.2)) = (8, 5) then (pu ((s1.1 + ((rI M (rR M (rR M a0 2) (ix s1.2)) 4).toInt64))) (fun z8 => some (Sum.inl (z8, (s1.2 + (1 : Int32)))))) else none) else none)) else none)) ((0 : Int64), (0 : Int32)))
set_option maxRecDepth 20000 in
theorem kX3_takenInAll (l : Launch) (Z : Shp) (M : Mem) (a0 : Nat) (r : Int64) (h : fX3_takenInAll Z M a0 = some r) : Ct l mX3_takenInAll [vr a0] Z M ((some (vj r)), Z, M) := by
  refine Ct.of rfl (Nat.le_of_ble_eq_true rfl) (fun X hM => ?_)
  have hX := hM.1
  refine r_top (mk := fun r => ((some (vj r)), Z, M)) h (fun K hK => ?_)
  unfold fX3_takenInAll
  refine r_lconst (v := (0 : Int64)) (q := 1) hX dX3_takenInAll_0 rfl rfl ?_
  refine r_lstore_n (x := (0 : Int64)) (q := 2) 1 [1, 0] (L1 := [(0, vr a0), (1, vj (0 : Int64))]) hX dX3_takenInAll_1 rfl (Nat.le_of_ble_eq_true rfl) rfl rfl ?_
  refine r_iconst (v := (0 : Int32)) (q := 3) hX dX3_takenInAll_2 rfl rfl ?_
  refine r_istore_n (x := (0 : Int32)) (q := 4) 3 [1, 2, 0] (L1 := [(0, vr a0), (1, vj (0 : Int64)), (3, vi (0 : Int32))]) hX dX3_takenInAll_3 rfl (Nat.le_of_ble_eq_true rfl) rfl rfl ?_
  refine r_loop (Hd := fun (s1 : Int64 × Int32) (P : Option Res) => Ref mX3_takenInAll X 0 0 Z M 4 [(0, vr a0), (1, vj s1.1), (3, vi s1.2)] [] P) (fun _ => r_none) (fun s1 K1 hn2 hx3 => ?_) ((0 : Int64), (0 : Int32))
  refine r_iload_n (i := 3) (x := s1.2) (q := 5) 2 hX dX3_takenInAll_4 rfl rfl rfl ?_
  refine r_aload_n (i := 0) (x := a0) (q := 6) 0 hX dX3_takenInAll_5 rfl rfl rfl ?_
  refine r_ck (fun hc4 => ?_)
  refine r_getI (a := a0) (ci := 3) (kf := 5) (q := 9) hX hc4 flX3_48 rfl rfl dX3_takenInAll_6 rfl ?_
  refine r_icmp_ge (tgt := 31) (q := 12) hX dX3_takenInAll_9 (by decide) rfl (fun hb5 => ?_) (fun hb5 => ?_)
  · refine r_lload_n (i := 1) (x := s1.1) (q := 32) 1 hX dX3_takenInAll_31 rfl rfl rfl ?_
    refine r_lf ((hx3 _).trans (hK _)) ?_
    exact r_lret hM rfl (Nat.le_of_ble_eq_true rfl) (Nat.le_of_ble_eq_true rfl) dX3_takenInAll_32
  · refine r_lload_n (i := 1) (x := s1.1) (q := 13) 1 hX dX3_takenInAll_12 rfl rfl rfl ?_
    refine r_aload_n (i := 0) (x := a0) (q := 14) 0 hX dX3_takenInAll_13 rfl rfl rfl ?_
    refine r_getR (a := a0) (ci := 3) (kf := 2) (q := 17) hX hc4 flX3_25 rfl dX3_takenInAll_14 rfl ?_
    refine r_iload_n (i := 3) (x := s1.2) (q := 18) 2 hX dX3_takenInAll_17 rfl rfl rfl ?_
    refine r_ck (fun hc6 => ?_)
    refine r_aald (a := (rR M a0 2)) (i := s1.2) (q := 19) hX arT_112 hc6 dX3_takenInAll_18 rfl ?_
    refine r_ck (fun hc7 => ?_)
    refine r_getI (a := (rR M (rR M a0 2) (ix s1.2))) (ci := 7) (kf := 4) (q := 22) hX hc7 flX3_111 rfl rfl dX3_takenInAll_19 rfl ?_
    refine r_i2l (q := 23) hX dX3_takenInAll_22 rfl ?_
    refine r_ladd (q := 24) hX dX3_takenInAll_23 rfl ?_
    refine r_lstore_nP (x := (s1.1 + ((rI M (rR M (rR M a0 2) (ix s1.2)) 4).toInt64))) (q := 25) 1 [1, 0, 3] (fun z8 => [(0, vr a0), (1, vj z8), (3, vi s1.2)]) hX dX3_takenInAll_24 rfl (Nat.le_of_ble_eq_true rfl) (fun _ => rfl) rfl (fun z8 => ?_)
    refine r_iinc (x := s1.2) (v := (s1.2 + (1 : Int32))) (q := 28) 3 2 [1, 2, 0] (L1 := [(0, vr a0), (1, vj z8), (3, vi (s1.2 + (1 : Int32)))]) hX dX3_takenInAll_25 rfl rfl (Nat.le_of_ble_eq_true rfl) rfl rfl ?_
    refine r_goto (q := 4) hX dX3_takenInAll_28 (by decide) ?_
    refine r_l0 ?_
    exact hn2 (z8, (s1.2 + (1 : Int32)))
theorem flX3_87 : FL RX3 87 6 0 := ⟨Nat.le_of_ble_eq_true rfl, Nat.le_of_ble_eq_true rfl, gd (hcw1_2 _ (List.mem_of_getElem? (i := 8) rfl)) rfl⟩
def mX3_inPounds : MD := (yX3_inPounds, cX3_inPounds, 4, (some .long), 0, 0, 0, 0)
theorem ccX3_inPounds : Cc mX3_inPounds 0 := ⟨gd (hcw1_0 _ (List.mem_of_getElem? (i := 2) rfl)) rfl, gd (hcw3_6 _ (List.mem_of_getElem? (i := 14) rfl)) rfl, by decide +kernel, by decide +kernel, by decide +kernel⟩
theorem ivX3_inPounds : Iv mX3_inPounds 3 := ⟨Nat.le_of_ble_eq_true rfl, rfl, gd (hcw3_6 _ (List.mem_of_getElem? (i := 12) rfl)) rfl, gd (hcw3_6 _ (List.mem_of_getElem? (i := 13) rfl)) rfl⟩
noncomputable def fX3_inPounds (Z : Shp) (M : Mem) (a0 : Nat) : Option (Int64) := (loop (fun s1 : Int64 × Int32 => (if (8 : Int32) ≤ s1.2 then some (Sum.inr s1.1) else (if tg Z a0 = (4, 11) then (if aok Z (rR M a0 0) 110 s1.2 then (if tg Z (rR M (rR M a0 0) (ix s1.2)) = (7, 3) then (pu ((s1.1 + ((rI M (rR M (rR M a0 0) (ix s1.2)) 0).toInt64))) (fun z8 => some (Sum.inl (z8, (s1.2 + (1 : Int32)))))) else none) else none) else none))) ((0 : Int64), (0 : Int32)))
set_option maxRecDepth 20000 in
theorem kX3_inPounds (l : Launch) (Z : Shp) (M : Mem) (a0 : Nat) (r : Int64) (h : fX3_inPounds Z M a0 = some r) : Ct l mX3_inPounds [vr a0] Z M ((some (vj r)), Z, M) := by
  refine Ct.of rfl (Nat.le_of_ble_eq_true rfl) (fun X hM => ?_)
  have hX := hM.1
  refine r_top (mk := fun r => ((some (vj r)), Z, M)) h (fun K hK => ?_)
  unfold fX3_inPounds
  refine r_lconst (v := (0 : Int64)) (q := 1) hX dX3_inPounds_0 rfl rfl ?_
  refine r_lstore_n (x := (0 : Int64)) (q := 2) 1 [1, 0] (L1 := [(0, vr a0), (1, vj (0 : Int64))]) hX dX3_inPounds_1 rfl (Nat.le_of_ble_eq_true rfl) rfl rfl ?_
  refine r_iconst (v := (0 : Int32)) (q := 3) hX dX3_inPounds_2 rfl rfl ?_
  refine r_istore_n (x := (0 : Int32)) (q := 4) 3 [1, 2, 0] (L1 := [(0, vr a0), (1, vj (0 : Int64)), (3, vi (0 : Int32))]) hX dX3_inPounds_3 rfl (Nat.le_of_ble_eq_true rfl) rfl rfl ?_
  refine r_loop (Hd := fun (s1 : Int64 × Int32) (P : Option Res) => Ref mX3_inPounds X 0 0 Z M 4 [(0, vr a0), (1, vj s1.1), (3, vi s1.2)] [] P) (fun _ => r_none) (fun s1 K1 hn2 hx3 => ?_) ((0 : Int64), (0 : Int32))
  refine r_iload_n (i := 3) (x := s1.2) (q := 5) 2 hX dX3_inPounds_4 rfl rfl rfl ?_
  refine r_bipush (v := (8 : Int32)) (q := 7) hX dX3_inPounds_5 rfl rfl ?_
  refine r_icmp_ge (tgt := 29) (q := 10) hX dX3_inPounds_7 (by decide) rfl (fun hb4 => ?_) (fun hb4 => ?_)
  · refine r_lload_n (i := 1) (x := s1.1) (q := 30) 1 hX dX3_inPounds_29 rfl rfl rfl ?_
    refine r_lf ((hx3 _).trans (hK _)) ?_
    exact r_lret hM rfl (Nat.le_of_ble_eq_true rfl) (Nat.le_of_ble_eq_true rfl) dX3_inPounds_30
  · refine r_lload_n (i := 1) (x := s1.1) (q := 11) 1 hX dX3_inPounds_10 rfl rfl rfl ?_
    refine r_aload_n (i := 0) (x := a0) (q := 12) 0 hX dX3_inPounds_11 rfl rfl rfl ?_
    refine r_ck (fun hc5 => ?_)
    refine r_getR (a := a0) (ci := 3) (kf := 0) (q := 15) hX hc5 flX3_11 rfl dX3_inPounds_12 rfl ?_
    refine r_iload_n (i := 3) (x := s1.2) (q := 16) 2 hX dX3_inPounds_15 rfl rfl rfl ?_
    refine r_ck (fun hc6 => ?_)
    refine r_aald (a := (rR M a0 0)) (i := s1.2) (q := 17) hX arT_110 hc6 dX3_inPounds_16 rfl ?_
    refine r_ck (fun hc7 => ?_)
    refine r_getI (a := (rR M (rR M a0 0) (ix s1.2))) (ci := 6) (kf := 0) (q := 20) hX hc7 flX3_87 rfl rfl dX3_inPounds_17 rfl ?_
    refine r_i2l (q := 21) hX dX3_inPounds_20 rfl ?_
    refine r_ladd (q := 22) hX dX3_inPounds_21 rfl ?_
    refine r_lstore_nP (x := (s1.1 + ((rI M (rR M (rR M a0 0) (ix s1.2)) 0).toInt64))) (q := 23) 1 [1, 0, 3] (fun z8 => [(0, vr a0), (1, vj z8), (3, vi s1.2)]) hX dX3_inPounds_22 rfl (Nat.le_of_ble_eq_true rfl) (fun _ => rfl) rfl (fun z8 => ?_)
    refine r_iinc (x := s1.2) (v := (s1.2 + (1 : Int32))) (q := 26) 3 2 [1, 2, 0] (L1 := [(0, vr a0), (1, vj z8), (3, vi (s1.2 + (1 : Int32)))]) hX dX3_inPounds_23 rfl rfl (Nat.le_of_ble_eq_true rfl) rfl rfl ?_
    refine r_goto (q := 4) hX dX3_inPounds_26 (by decide) ?_
    refine r_l0 ?_
    exact hn2 (z8, (s1.2 + (1 : Int32)))
def mX4_holds : MD := (yX4_holds, cX4_holds, 1, (some .int), 0, 0, 0, 0)
theorem ccX4_holds : Cc mX4_holds 0 := ⟨gd (hcw1_0 _ (List.mem_of_getElem? (i := 4) rfl)) rfl, gd (hcw3_7 _ (List.mem_of_getElem? (i := 2) rfl)) rfl, by decide +kernel, by decide +kernel, by decide +kernel⟩
theorem ivX4_holds : Iv mX4_holds 4 := ⟨Nat.le_of_ble_eq_true rfl, rfl, gd (hcw3_7 _ (List.mem_of_getElem? (i := 0) rfl)) rfl, gd (hcw3_7 _ (List.mem_of_getElem? (i := 1) rfl)) rfl⟩
def fX4_holds (Z : Shp) (M : Mem) (a0 : Nat) : Option (Int32) := (if tg Z a0 = (5, 7) then (if (rI M a0 3) = 0 then some (rI M a0 4) else some ((rI M a0 0) + (rI M a0 4))) else none)
set_option maxRecDepth 20000 in
theorem kX4_holds (l : Launch) (Z : Shp) (M : Mem) (a0 : Nat) (r : Int32) (h : fX4_holds Z M a0 = some r) : Ct l mX4_holds [vr a0] Z M ((some (vi r)), Z, M) := by
  refine Ct.of rfl (Nat.le_of_ble_eq_true rfl) (fun X hM => ?_)
  have hX := hM.1
  refine r_top (mk := fun r => ((some (vi r)), Z, M)) h (fun K hK => ?_)
  unfold fX4_holds
  refine r_aload_n (i := 0) (x := a0) (q := 1) 0 hX dX4_holds_0 rfl rfl rfl ?_
  refine r_ck (fun hc1 => ?_)
  refine r_getI (a := a0) (ci := 4) (kf := 3) (q := 4) hX hc1 flX4_30 rfl rfl dX4_holds_1 rfl ?_
  refine r_if_eq (tgt := 19) (q := 7) hX dX4_holds_4 (by decide) rfl (fun hb2 => ?_) (fun hb2 => ?_)
  · refine r_aload_n (i := 0) (x := a0) (q := 20) 0 hX dX4_holds_19 rfl rfl rfl ?_
    refine r_getI (a := a0) (ci := 4) (kf := 4) (q := 23) hX hc1 flX4_33 rfl rfl dX4_holds_20 rfl ?_
    refine r_lf (hK _) ?_
    exact r_iret hM rfl (Nat.le_of_ble_eq_true rfl) (Nat.le_of_ble_eq_true rfl) dX4_holds_23
  · refine r_aload_n (i := 0) (x := a0) (q := 8) 0 hX dX4_holds_7 rfl rfl rfl ?_
    refine r_getI (a := a0) (ci := 4) (kf := 0) (q := 11) hX hc1 flX4_7 rfl rfl dX4_holds_8 rfl ?_
    refine r_aload_n (i := 0) (x := a0) (q := 12) 0 hX dX4_holds_11 rfl rfl rfl ?_
    refine r_getI (a := a0) (ci := 4) (kf := 4) (q := 15) hX hc1 flX4_33 rfl rfl dX4_holds_12 rfl ?_
    refine r_iadd (q := 16) hX dX4_holds_15 rfl ?_
    refine r_goto (q := 23) hX dX4_holds_16 (by decide) ?_
    refine r_lf (hK _) ?_
    exact r_iret hM rfl (Nat.le_of_ble_eq_true rfl) (Nat.le_of_ble_eq_true rfl) dX4_holds_23
theorem lkX3_162 : Lk RX3 162 yX4_holds := gd (hcw3_6 _ (List.mem_of_getElem? (i := 19) rfl)) rfl
def mX3_inLocks : MD := (yX3_inLocks, cX3_inLocks, 4, (some .long), 1, 20, 0, 0)
theorem ccX3_inLocks : Cc mX3_inLocks 0 := ⟨gd (hcw1_0 _ (List.mem_of_getElem? (i := 2) rfl)) rfl, gd (hcw3_6 _ (List.mem_of_getElem? (i := 18) rfl)) rfl, by decide +kernel, by decide +kernel, by decide +kernel⟩
theorem ivX3_inLocks : Iv mX3_inLocks 3 := ⟨Nat.le_of_ble_eq_true rfl, rfl, gd (hcw3_6 _ (List.mem_of_getElem? (i := 16) rfl)) rfl, gd (hcw3_6 _ (List.mem_of_getElem? (i := 17) rfl)) rfl⟩
noncomputable def fX3_inLocks (Z : Shp) (M : Mem) (a0 : Nat) : Option (Int64) := (loop (fun s1 : Int64 × Int32 => (if (7 : Int32) ≤ s1.2 then some (Sum.inr s1.1) else (if tg Z a0 = (4, 11) then (if aok Z (rR M a0 1) 111 s1.2 then (if tg Z (rR M (rR M a0 1) (ix s1.2)) = (5, 7) then (Option.bind (fX4_holds Z M (rR M (rR M a0 1) (ix s1.2))) (fun v8 => (pu ((s1.1 + (v8.toInt64))) (fun z10 => some (Sum.inl (z10, (s1.2 + (1 : Int32)))))))) else none) else none) else none))) ((0 : Int64), (0 : Int32)))
set_option maxRecDepth 20000 in
theorem kX3_inLocks (l : Launch) (Z : Shp) (M : Mem) (a0 : Nat) (r : Int64) (h : fX3_inLocks Z M a0 = some r) : Ct l mX3_inLocks [vr a0] Z M ((some (vj r)), Z, M) := by
  refine Ct.of rfl (Nat.le_of_ble_eq_true rfl) (fun X hM => ?_)
  have hX := hM.1
  refine r_top (mk := fun r => ((some (vj r)), Z, M)) h (fun K hK => ?_)
  unfold fX3_inLocks
  refine r_lconst (v := (0 : Int64)) (q := 1) hX dX3_inLocks_0 rfl rfl ?_
  refine r_lstore_n (x := (0 : Int64)) (q := 2) 1 [1, 0] (L1 := [(0, vr a0), (1, vj (0 : Int64))]) hX dX3_inLocks_1 rfl (Nat.le_of_ble_eq_true rfl) rfl rfl ?_
  refine r_iconst (v := (0 : Int32)) (q := 3) hX dX3_inLocks_2 rfl rfl ?_
  refine r_istore_n (x := (0 : Int32)) (q := 4) 3 [1, 2, 0] (L1 := [(0, vr a0), (1, vj (0 : Int64)), (3, vi (0 : Int32))]) hX dX3_inLocks_3 rfl (Nat.le_of_ble_eq_true rfl) rfl rfl ?_
  refine r_loop (Hd := fun (s1 : Int64 × Int32) (P : Option Res) => Ref mX3_inLocks X 0 0 Z M 4 [(0, vr a0), (1, vj s1.1), (3, vi s1.2)] [] P) (fun _ => r_none) (fun s1 K1 hn2 hx3 => ?_) ((0 : Int64), (0 : Int32))
  refine r_iload_n (i := 3) (x := s1.2) (q := 5) 2 hX dX3_inLocks_4 rfl rfl rfl ?_
  refine r_bipush (v := (7 : Int32)) (q := 7) hX dX3_inLocks_5 rfl rfl ?_
  refine r_icmp_ge (tgt := 29) (q := 10) hX dX3_inLocks_7 (by decide) rfl (fun hb4 => ?_) (fun hb4 => ?_)
  · refine r_lload_n (i := 1) (x := s1.1) (q := 30) 1 hX dX3_inLocks_29 rfl rfl rfl ?_
    refine r_lf ((hx3 _).trans (hK _)) ?_
    exact r_lret hM rfl (Nat.le_of_ble_eq_true rfl) (Nat.le_of_ble_eq_true rfl) dX3_inLocks_30
  · refine r_lload_n (i := 1) (x := s1.1) (q := 11) 1 hX dX3_inLocks_10 rfl rfl rfl ?_
    refine r_aload_n (i := 0) (x := a0) (q := 12) 0 hX dX3_inLocks_11 rfl rfl rfl ?_
    refine r_ck (fun hc5 => ?_)
    refine r_getR (a := a0) (ci := 3) (kf := 1) (q := 15) hX hc5 flX3_19 rfl dX3_inLocks_12 rfl ?_
    refine r_iload_n (i := 3) (x := s1.2) (q := 16) 2 hX dX3_inLocks_15 rfl rfl rfl ?_
    refine r_ck (fun hc6 => ?_)
    refine r_aald (a := (rR M a0 1)) (i := s1.2) (q := 17) hX arT_111 hc6 dX3_inLocks_16 rfl ?_
    refine r_ck (fun hc7 => ?_)
    refine r_bind (fun v8 h9 => ?_)
    refine r_cv (a := (rR M (rR M a0 1) (ix s1.2))) (As := []) (st := [vj s1.1]) (r := (some (vi v8))) (Z1 := Z) (M1 := M) (k1 := 0) (n1 := 0) (st1 := [vi v8, vj s1.1]) (q := 20) hX (fun l => kX4_holds l Z M (rR M (rR M a0 1) (ix s1.2)) v8 h9) hc7 ivX4_holds ccX4_holds (Or.inl lkX3_162) rfl rfl rfl ⟨Nat.le_of_ble_eq_true rfl, Nat.le_of_ble_eq_true rfl, rfl, rfl, Nat.le_of_ble_eq_true rfl, Nat.le_of_ble_eq_true rfl⟩ (Nat.le_of_ble_eq_true rfl) dX3_inLocks_17 rfl ?_
    refine r_i2l (q := 21) hX dX3_inLocks_20 rfl ?_
    refine r_ladd (q := 22) hX dX3_inLocks_21 rfl ?_
    refine r_lstore_nP (x := (s1.1 + (v8.toInt64))) (q := 23) 1 [1, 0, 3] (fun z10 => [(0, vr a0), (1, vj z10), (3, vi s1.2)]) hX dX3_inLocks_22 rfl (Nat.le_of_ble_eq_true rfl) (fun _ => rfl) rfl (fun z10 => ?_)
    refine r_iinc (x := s1.2) (v := (s1.2 + (1 : Int32))) (q := 26) 3 2 [1, 2, 0] (L1 := [(0, vr a0), (1, vj z10), (3, vi (s1.2 + (1 : Int32)))]) hX dX3_inLocks_23 rfl rfl (Nat.le_of_ble_eq_true rfl) rfl rfl ?_
    refine r_goto (q := 4) hX dX3_inLocks_26 (by decide) ?_
    refine r_l0 ?_
    exact hn2 (z10, (s1.2 + (1 : Int32)))
theorem flX11_145 : FL RX11 145 3 9 := ⟨Nat.le_of_ble_eq_true rfl, Nat.le_of_ble_eq_true rfl, gd (hcw1_5 _ (List.mem_of_getElem? (i := 5) rfl)) rfl⟩
theorem lkX11_149 : Lk RX11 149 yX3_takenInAll := gd (hcw3_6 _ (List.mem_of_getElem? (i := 6) rfl)) rfl
theorem flX11_155 : FL RX11 155 3 10 := ⟨Nat.le_of_ble_eq_true rfl, Nat.le_of_ble_eq_true rfl, gd (hcw1_5 _ (List.mem_of_getElem? (i := 7) rfl)) rfl⟩
theorem lkX11_158 : Lk RX11 158 yX3_inPounds := gd (hcw3_6 _ (List.mem_of_getElem? (i := 11) rfl)) rfl
theorem lkX11_161 : Lk RX11 161 yX3_inLocks := gd (hcw3_6 _ (List.mem_of_getElem? (i := 15) rfl)) rfl
def mX11_sum : MD := (yX11_sum, cX11_sum, 4, (some .long), 2, 43, 0, 0)
theorem ccX11_sum : Cc mX11_sum 1 := ⟨gd (hcw1_0 _ (List.mem_of_getElem? (i := 1) rfl)) rfl, gd (hcw3_6 _ (List.mem_of_getElem? (i := 5) rfl)) rfl, by decide +kernel, by decide +kernel, by decide +kernel⟩
theorem ivX11_sum : Iv mX11_sum 11 := ⟨Nat.le_of_ble_eq_true rfl, rfl, gd (hcw3_6 _ (List.mem_of_getElem? (i := 3) rfl)) rfl, gd (hcw3_6 _ (List.mem_of_getElem? (i := 4) rfl)) rfl⟩
noncomputable def fX11_sum (Z : Shp) (M : Mem) (a0 : Nat) (x1 : Int32) : Option (Int64) := (if x1 = (0 : Int32) then (if tg Z a0 = (12, 6) then (if tg Z (rR M a0 0) = (4, 11) then some (rJ M (rR M a0 0) 9) else none) else none) else (if x1 = (1 : Int32) then (if tg Z a0 = (12, 6) then (if tg Z (rR M a0 0) = (4, 11) then (Option.bind (fX3_takenInAll Z M (rR M a0 0)) (fun v7 => (if 0 ≤ (lg_cmp v7 (0 : Int64)) then some v7 else some ((1000000 : Int64) - v7)))) else none) else none) else (if x1 = (2 : Int32) then (if tg Z a0 = (12, 6) then (if tg Z (rR M a0 0) = (4, 11) then some (rJ M (rR M a0 0) 10) else none) else none) else (if x1 = (3 : Int32) then (if tg Z a0 = (12, 6) then (if tg Z (rR M a0 0) = (4, 11) then (Option.bind (fX3_inPounds Z M (rR M a0 0)) (fun v16 => some v16)) else none) else none) else (if x1 = (4 : Int32) then (if tg Z a0 = (12, 6) then (if tg Z (rR M a0 0) = (4, 11) then (Option.bind (fX3_inLocks Z M (rR M a0 0)) (fun v21 => some v21)) else none) else none) else some (-1 : Int64))))))
set_option maxRecDepth 20000 in
theorem kX11_sum (l : Launch) (Z : Shp) (M : Mem) (a0 : Nat) (x1 : Int32) (r : Int64) (h : fX11_sum Z M a0 x1 = some r) : Ct l mX11_sum [vr a0, vi x1] Z M ((some (vj r)), Z, M) := by
  refine Ct.of rfl (Nat.le_of_ble_eq_true rfl) (fun X hM => ?_)
  have hX := hM.1
  refine r_top (mk := fun r => ((some (vj r)), Z, M)) h (fun K hK => ?_)
  unfold fX11_sum
  refine r_iload_n (i := 1) (x := x1) (q := 1) 1 hX dX11_sum_0 rfl rfl rfl ?_
  refine r_ite (fun hb1 => ?_) (fun hb1 => ?_)
  · refine r_tswI (off := 35) (q := 36) hX hb1 dX11_sum_1 (by decide) (by decide) ?_
    refine r_aload_n (i := 0) (x := a0) (q := 37) 0 hX dX11_sum_36 rfl rfl rfl ?_
    refine r_ck (fun hc2 => ?_)
    refine r_getR (a := a0) (ci := 11) (kf := 0) (q := 40) hX hc2 flX11_12 rfl dX11_sum_37 rfl ?_
    refine r_ck (fun hc3 => ?_)
    refine r_getJ (a := (rR M a0 0)) (ci := 3) (kf := 9) (q := 43) hX hc3 flX11_145 rfl rfl dX11_sum_40 rfl ?_
    refine r_lf (hK _) ?_
    exact r_lret hM rfl (Nat.le_of_ble_eq_true rfl) (Nat.le_of_ble_eq_true rfl) dX11_sum_43
  · refine r_ite (fun hb4 => ?_) (fun hb4 => ?_)
    · refine r_tswI (off := 43) (q := 44) hX hb4 dX11_sum_1 (by decide) (by decide) ?_
      refine r_aload_n (i := 0) (x := a0) (q := 45) 0 hX dX11_sum_44 rfl rfl rfl ?_
      refine r_ck (fun hc5 => ?_)
      refine r_getR (a := a0) (ci := 11) (kf := 0) (q := 48) hX hc5 flX11_12 rfl dX11_sum_45 rfl ?_
      refine r_ck (fun hc6 => ?_)
      refine r_bind (fun v7 h8 => ?_)
      refine r_cv (a := (rR M a0 0)) (As := []) (st := []) (r := (some (vj v7))) (Z1 := Z) (M1 := M) (k1 := 0) (n1 := 0) (st1 := [vj v7]) (q := 51) hX (fun l => kX3_takenInAll l Z M (rR M a0 0) v7 h8) hc6 ivX3_takenInAll ccX3_takenInAll (Or.inl lkX11_149) rfl rfl rfl ⟨Nat.le_of_ble_eq_true rfl, Nat.le_of_ble_eq_true rfl, rfl, rfl, Nat.le_of_ble_eq_true rfl, Nat.le_of_ble_eq_true rfl⟩ (Nat.le_of_ble_eq_true rfl) dX11_sum_48 rfl ?_
      refine r_lstore_n (x := v7) (q := 52) 2 [1, 2, 0] (L1 := [(0, vr a0), (1, vi x1), (2, vj v7)]) hX dX11_sum_51 rfl (Nat.le_of_ble_eq_true rfl) rfl rfl ?_
      refine r_lload_n (i := 2) (x := v7) (q := 53) 2 hX dX11_sum_52 rfl rfl rfl ?_
      refine r_lconst (v := (0 : Int64)) (q := 54) hX dX11_sum_53 rfl rfl ?_
      refine r_lcmp (q := 55) hX dX11_sum_54 rfl ?_
      refine r_if_ge (tgt := 66) (q := 58) hX dX11_sum_55 (by decide) rfl (fun hb9 => ?_) (fun hb9 => ?_)
      · refine r_lload_n (i := 2) (x := v7) (q := 67) 2 hX dX11_sum_66 rfl rfl rfl ?_
        refine r_lf (hK _) ?_
        exact r_lret hM rfl (Nat.le_of_ble_eq_true rfl) (Nat.le_of_ble_eq_true rfl) dX11_sum_67
      · refine r_ldc2 (v := (1000000 : Int64)) (q := 61) hX dX11_sum_58 (gd (hcw3_6 _ (List.mem_of_getElem? (i := 10) rfl)) rfl) rfl ?_
        refine r_lload_n (i := 2) (x := v7) (q := 62) 2 hX dX11_sum_61 rfl rfl rfl ?_
        refine r_lsub (q := 63) hX dX11_sum_62 rfl ?_
        refine r_goto (q := 67) hX dX11_sum_63 (by decide) ?_
        refine r_lf (hK _) ?_
        exact r_lret hM rfl (Nat.le_of_ble_eq_true rfl) (Nat.le_of_ble_eq_true rfl) dX11_sum_67
    · refine r_ite (fun hb10 => ?_) (fun hb10 => ?_)
      · refine r_tswI (off := 67) (q := 68) hX hb10 dX11_sum_1 (by decide) (by decide) ?_
        refine r_aload_n (i := 0) (x := a0) (q := 69) 0 hX dX11_sum_68 rfl rfl rfl ?_
        refine r_ck (fun hc11 => ?_)
        refine r_getR (a := a0) (ci := 11) (kf := 0) (q := 72) hX hc11 flX11_12 rfl dX11_sum_69 rfl ?_
        refine r_ck (fun hc12 => ?_)
        refine r_getJ (a := (rR M a0 0)) (ci := 3) (kf := 10) (q := 75) hX hc12 flX11_155 rfl rfl dX11_sum_72 rfl ?_
        refine r_lf (hK _) ?_
        exact r_lret hM rfl (Nat.le_of_ble_eq_true rfl) (Nat.le_of_ble_eq_true rfl) dX11_sum_75
      · refine r_ite (fun hb13 => ?_) (fun hb13 => ?_)
        · refine r_tswI (off := 75) (q := 76) hX hb13 dX11_sum_1 (by decide) (by decide) ?_
          refine r_aload_n (i := 0) (x := a0) (q := 77) 0 hX dX11_sum_76 rfl rfl rfl ?_
          refine r_ck (fun hc14 => ?_)
          refine r_getR (a := a0) (ci := 11) (kf := 0) (q := 80) hX hc14 flX11_12 rfl dX11_sum_77 rfl ?_
          refine r_ck (fun hc15 => ?_)
          refine r_bind (fun v16 h17 => ?_)
          refine r_cv (a := (rR M a0 0)) (As := []) (st := []) (r := (some (vj v16))) (Z1 := Z) (M1 := M) (k1 := 0) (n1 := 0) (st1 := [vj v16]) (q := 83) hX (fun l => kX3_inPounds l Z M (rR M a0 0) v16 h17) hc15 ivX3_inPounds ccX3_inPounds (Or.inl lkX11_158) rfl rfl rfl ⟨Nat.le_of_ble_eq_true rfl, Nat.le_of_ble_eq_true rfl, rfl, rfl, Nat.le_of_ble_eq_true rfl, Nat.le_of_ble_eq_true rfl⟩ (Nat.le_of_ble_eq_true rfl) dX11_sum_80 rfl ?_
          refine r_lf (hK _) ?_
          exact r_lret hM rfl (Nat.le_of_ble_eq_true rfl) (Nat.le_of_ble_eq_true rfl) dX11_sum_83
        · refine r_ite (fun hb18 => ?_) (fun hb18 => ?_)
          · refine r_tswI (off := 83) (q := 84) hX hb18 dX11_sum_1 (by decide) (by decide) ?_
            refine r_aload_n (i := 0) (x := a0) (q := 85) 0 hX dX11_sum_84 rfl rfl rfl ?_
            refine r_ck (fun hc19 => ?_)
            refine r_getR (a := a0) (ci := 11) (kf := 0) (q := 88) hX hc19 flX11_12 rfl dX11_sum_85 rfl ?_
            refine r_ck (fun hc20 => ?_)
            refine r_bind (fun v21 h22 => ?_)
            refine r_cv (a := (rR M a0 0)) (As := []) (st := []) (r := (some (vj v21))) (Z1 := Z) (M1 := M) (k1 := 0) (n1 := 0) (st1 := [vj v21]) (q := 91) hX (fun l => kX3_inLocks l Z M (rR M a0 0) v21 h22) hc20 ivX3_inLocks ccX3_inLocks (Or.inl lkX11_161) rfl rfl rfl ⟨Nat.le_of_ble_eq_true rfl, Nat.le_of_ble_eq_true rfl, rfl, rfl, Nat.le_of_ble_eq_true rfl, Nat.le_of_ble_eq_true rfl⟩ (Nat.le_of_ble_eq_true rfl) dX11_sum_88 rfl ?_
            refine r_lf (hK _) ?_
            exact r_lret hM rfl (Nat.le_of_ble_eq_true rfl) (Nat.le_of_ble_eq_true rfl) dX11_sum_91
          · refine r_tswO (cs := [(0 : Int32), (1 : Int32), (2 : Int32), (3 : Int32), (4 : Int32)]) (q := 92) hX ⟨hb1, ⟨hb4, ⟨hb10, ⟨hb13, ⟨hb18, trivial⟩⟩⟩⟩⟩ dX11_sum_1 (by decide) (by decide) ?_
            refine r_ldc2 (v := (-1 : Int64)) (q := 95) hX dX11_sum_92 (gd (hcw3_7 _ (List.mem_of_getElem? (i := 3) rfl)) rfl) rfl ?_
            refine r_lf (hK _) ?_
            exact r_lret hM rfl (Nat.le_of_ble_eq_true rfl) (Nat.le_of_ble_eq_true rfl) dX11_sum_95
theorem flX2_83 : FL RX2 83 8 4 := ⟨Nat.le_of_ble_eq_true rfl, Nat.le_of_ble_eq_true rfl, gd (hcw3_11 _ (List.mem_of_getElem? (i := 10) rfl)) rfl⟩
theorem lkX2_86 : LkN RX2 86 yX11_mix "CanalCompany" := bd (hcw5_8 _ (List.mem_of_getElem? (i := 3) rfl)) rfl
theorem flX2_90 : FL RX2 90 8 5 := ⟨Nat.le_of_ble_eq_true rfl, Nat.le_of_ble_eq_true rfl, gd (hcw3_11 _ (List.mem_of_getElem? (i := 13) rfl)) rfl⟩
def mX2_addTextsTo : MD := (yX2_addTextsTo, cX2_addTextsTo, 7, (some .long), 1, 23, 0, 0)
theorem ccX2_addTextsTo : Cc mX2_addTextsTo 1 := ⟨gd (hcw1_0 _ (List.mem_of_getElem? (i := 5) rfl)) rfl, gd (hcw5_8 _ (List.mem_of_getElem? (i := 2) rfl)) rfl, by decide +kernel, by decide +kernel, by decide +kernel⟩
theorem ivX2_addTextsTo : Iv mX2_addTextsTo 2 := ⟨Nat.le_of_ble_eq_true rfl, rfl, gd (hcw5_8 _ (List.mem_of_getElem? (i := 0) rfl)) rfl, gd (hcw5_8 _ (List.mem_of_getElem? (i := 1) rfl)) rfl⟩
noncomputable def fX2_addTextsTo (Z : Shp) (M : Mem) (a0 : Nat) (y1 : Int64) : Option (Int64) := (loop (fun s1 : Int64 × Int32 => (if tg Z a0 = (3, 4) then (if (rI M a0 3) ≤ s1.2 then some (Sum.inr s1.1) else (if aok Z (rR M a0 2) 114 s1.2 then (pu ((rR M (rR M a0 2) (ix s1.2))) (fun z7 => (if tg Z z7 = (9, 6) then (pu ((fX11_mix (fX11_mix (fX11_mix s1.1 ((rI M z7 4).toInt64)) ((rI M z7 5).toInt64)) ((rI M z7 2).toInt64))) (fun z9 => some (Sum.inl (z9, (s1.2 + (1 : Int32)))))) else none))) else none)) else none)) (y1, (0 : Int32)))
set_option maxRecDepth 20000 in
theorem kX2_addTextsTo (l : Launch) (Z : Shp) (M : Mem) (a0 : Nat) (y1 : Int64) (r : Int64) (h : fX2_addTextsTo Z M a0 y1 = some r) : Ct l mX2_addTextsTo [vr a0, vj y1] Z M ((some (vj r)), Z, M) := by
  refine Ct.of rfl (Nat.le_of_ble_eq_true rfl) (fun X hM => ?_)
  have hX := hM.1
  refine r_top (mk := fun r => ((some (vj r)), Z, M)) h (fun K hK => ?_)
  unfold fX2_addTextsTo
  refine r_lload_n (i := 1) (x := y1) (q := 1) 1 hX dX2_addTextsTo_0 rfl rfl rfl ?_
  refine r_lstore_n (x := y1) (q := 2) 3 [1, 2, 0] (L1 := [(0, vr a0), (1, vj y1), (3, vj y1)]) hX dX2_addTextsTo_1 rfl (Nat.le_of_ble_eq_true rfl) rfl rfl ?_
  refine r_iconst (v := (0 : Int32)) (q := 3) hX dX2_addTextsTo_2 rfl rfl ?_
  refine r_istore (x := (0 : Int32)) (q := 5) 5 [1, 2, 3, 0] (L1 := [(0, vr a0), (1, vj y1), (3, vj y1), (5, vi (0 : Int32))]) hX dX2_addTextsTo_3 (Nat.le_of_ble_eq_true rfl) rfl rfl ?_
  refine r_sub [0, 2, 3] rfl ?_
  refine r_loop (Hd := fun (s1 : Int64 × Int32) (P : Option Res) => Ref mX2_addTextsTo X 0 0 Z M 5 [(0, vr a0), (3, vj s1.1), (5, vi s1.2)] [] P) (fun _ => r_none) (fun s1 K1 hn2 hx3 => ?_) (y1, (0 : Int32))
  refine r_iload (i := 5) (x := s1.2) (q := 7) 2 hX dX2_addTextsTo_5 rfl rfl ?_
  refine r_aload_n (i := 0) (x := a0) (q := 8) 0 hX dX2_addTextsTo_7 rfl rfl rfl ?_
  refine r_ck (fun hc4 => ?_)
  refine r_getI (a := a0) (ci := 2) (kf := 3) (q := 11) hX hc4 flX2_21 rfl rfl dX2_addTextsTo_8 rfl ?_
  refine r_icmp_ge (tgt := 58) (q := 14) hX dX2_addTextsTo_11 (by decide) rfl (fun hb5 => ?_) (fun hb5 => ?_)
  · refine r_lload_n (i := 3) (x := s1.1) (q := 59) 1 hX dX2_addTextsTo_58 rfl rfl rfl ?_
    refine r_lf ((hx3 _).trans (hK _)) ?_
    exact r_lret hM rfl (Nat.le_of_ble_eq_true rfl) (Nat.le_of_ble_eq_true rfl) dX2_addTextsTo_59
  · refine r_aload_n (i := 0) (x := a0) (q := 15) 0 hX dX2_addTextsTo_14 rfl rfl rfl ?_
    refine r_getR (a := a0) (ci := 2) (kf := 2) (q := 18) hX hc4 flX2_17 rfl dX2_addTextsTo_15 rfl ?_
    refine r_iload (i := 5) (x := s1.2) (q := 20) 2 hX dX2_addTextsTo_18 rfl rfl ?_
    refine r_ck (fun hc6 => ?_)
    refine r_aald (a := (rR M a0 2)) (i := s1.2) (q := 21) hX arT_114 hc6 dX2_addTextsTo_20 rfl ?_
    refine r_astoreP (x := (rR M (rR M a0 2) (ix s1.2))) (q := 23) 6 [1, 2, 3, 0] (fun z7 => [(0, vr a0), (3, vj s1.1), (5, vi s1.2), (6, vr z7)]) hX dX2_addTextsTo_21 (Nat.le_of_ble_eq_true rfl) (fun _ => rfl) rfl (fun z7 => ?_)
    refine r_lload_n (i := 3) (x := s1.1) (q := 24) 1 hX dX2_addTextsTo_23 rfl rfl rfl ?_
    refine r_aload (i := 6) (x := z7) (q := 26) 3 hX dX2_addTextsTo_24 rfl rfl ?_
    refine r_ck (fun hc8 => ?_)
    refine r_getI (a := z7) (ci := 8) (kf := 4) (q := 29) hX hc8 flX2_83 rfl rfl dX2_addTextsTo_26 rfl ?_
    refine r_i2l (q := 30) hX dX2_addTextsTo_29 rfl ?_
    refine r_cs (As := [vj s1.1, vj ((rI M z7 4).toInt64)]) (st := []) (r := (some (vj (fX11_mix s1.1 ((rI M z7 4).toInt64))))) (Z1 := Z) (M1 := M) (k1 := 0) (n1 := 0) (st1 := [vj (fX11_mix s1.1 ((rI M z7 4).toInt64))]) (q := 33) hX (fun l => kX11_mix l Z M s1.1 ((rI M z7 4).toInt64)) stX11_mix ccX11_mix (Or.inr ⟨_, lkX2_86⟩) rfl rfl rfl ⟨Nat.le_of_ble_eq_true rfl, Nat.le_of_ble_eq_true rfl, rfl, rfl, Nat.le_of_ble_eq_true rfl, Nat.le_of_ble_eq_true rfl⟩ (Nat.le_of_ble_eq_true rfl) dX2_addTextsTo_30 rfl ?_
    refine r_aload (i := 6) (x := z7) (q := 35) 3 hX dX2_addTextsTo_33 rfl rfl ?_
    refine r_getI (a := z7) (ci := 8) (kf := 5) (q := 38) hX hc8 flX2_90 rfl rfl dX2_addTextsTo_35 rfl ?_
    refine r_i2l (q := 39) hX dX2_addTextsTo_38 rfl ?_
    refine r_cs (As := [vj (fX11_mix s1.1 ((rI M z7 4).toInt64)), vj ((rI M z7 5).toInt64)]) (st := []) (r := (some (vj (fX11_mix (fX11_mix s1.1 ((rI M z7 4).toInt64)) ((rI M z7 5).toInt64))))) (Z1 := Z) (M1 := M) (k1 := 0) (n1 := 0) (st1 := [vj (fX11_mix (fX11_mix s1.1 ((rI M z7 4).toInt64)) ((rI M z7 5).toInt64))]) (q := 42) hX (fun l => kX11_mix l Z M (fX11_mix s1.1 ((rI M z7 4).toInt64)) ((rI M z7 5).toInt64)) stX11_mix ccX11_mix (Or.inr ⟨_, lkX2_86⟩) rfl rfl rfl ⟨Nat.le_of_ble_eq_true rfl, Nat.le_of_ble_eq_true rfl, rfl, rfl, Nat.le_of_ble_eq_true rfl, Nat.le_of_ble_eq_true rfl⟩ (Nat.le_of_ble_eq_true rfl) dX2_addTextsTo_39 rfl ?_
    refine r_aload (i := 6) (x := z7) (q := 44) 3 hX dX2_addTextsTo_42 rfl rfl ?_
    refine r_getI (a := z7) (ci := 8) (kf := 2) (q := 47) hX hc8 flX2_80 rfl rfl dX2_addTextsTo_44 rfl ?_
    refine r_i2l (q := 48) hX dX2_addTextsTo_47 rfl ?_
    refine r_cs (As := [vj (fX11_mix (fX11_mix s1.1 ((rI M z7 4).toInt64)) ((rI M z7 5).toInt64)), vj ((rI M z7 2).toInt64)]) (st := []) (r := (some (vj (fX11_mix (fX11_mix (fX11_mix s1.1 ((rI M z7 4).toInt64)) ((rI M z7 5).toInt64)) ((rI M z7 2).toInt64))))) (Z1 := Z) (M1 := M) (k1 := 0) (n1 := 0) (st1 := [vj (fX11_mix (fX11_mix (fX11_mix s1.1 ((rI M z7 4).toInt64)) ((rI M z7 5).toInt64)) ((rI M z7 2).toInt64))]) (q := 51) hX (fun l => kX11_mix l Z M (fX11_mix (fX11_mix s1.1 ((rI M z7 4).toInt64)) ((rI M z7 5).toInt64)) ((rI M z7 2).toInt64)) stX11_mix ccX11_mix (Or.inr ⟨_, lkX2_86⟩) rfl rfl rfl ⟨Nat.le_of_ble_eq_true rfl, Nat.le_of_ble_eq_true rfl, rfl, rfl, Nat.le_of_ble_eq_true rfl, Nat.le_of_ble_eq_true rfl⟩ (Nat.le_of_ble_eq_true rfl) dX2_addTextsTo_48 rfl ?_
    refine r_lstore_nP (x := (fX11_mix (fX11_mix (fX11_mix s1.1 ((rI M z7 4).toInt64)) ((rI M z7 5).toInt64)) ((rI M z7 2).toInt64))) (q := 52) 3 [1, 0, 3, 4] (fun z9 => [(0, vr a0), (3, vj z9), (5, vi s1.2), (6, vr z7)]) hX dX2_addTextsTo_51 rfl (Nat.le_of_ble_eq_true rfl) (fun _ => rfl) rfl (fun z9 => ?_)
    refine r_iinc (x := s1.2) (v := (s1.2 + (1 : Int32))) (q := 55) 5 2 [1, 2, 0, 4] (L1 := [(0, vr a0), (3, vj z9), (5, vi (s1.2 + (1 : Int32))), (6, vr z7)]) hX dX2_addTextsTo_52 rfl rfl (Nat.le_of_ble_eq_true rfl) rfl rfl ?_
    refine r_goto (q := 5) hX dX2_addTextsTo_55 (by decide) ?_
    refine r_l0 ?_
    refine r_sub [0, 1, 2] rfl ?_
    exact hn2 (z9, (s1.2 + (1 : Int32)))
theorem lkX9_108 : LkN RX9 108 yX11_mix "CanalCompany" := bd (hcw5_8 _ (List.mem_of_getElem? (i := 8) rfl)) rfl
def mX9_addTo : MD := (yX9_addTo, cX9_addTo, 6, (some .long), 1, 23, 0, 0)
theorem ccX9_addTo : Cc mX9_addTo 1 := ⟨gd (hcw1_0 _ (List.mem_of_getElem? (i := 6) rfl)) rfl, gd (hcw5_8 _ (List.mem_of_getElem? (i := 7) rfl)) rfl, by decide +kernel, by decide +kernel, by decide +kernel⟩
theorem ivX9_addTo : Iv mX9_addTo 9 := ⟨Nat.le_of_ble_eq_true rfl, rfl, gd (hcw5_8 _ (List.mem_of_getElem? (i := 5) rfl)) rfl, gd (hcw5_8 _ (List.mem_of_getElem? (i := 6) rfl)) rfl⟩
noncomputable def fX9_addTo (Z : Shp) (M : Mem) (a0 : Nat) (y1 : Int64) : Option (Int64) := (loop (fun s1 : Int64 × Int32 => (if tg Z a0 = (10, 10) then (if (rI M a0 3) ≤ s1.2 then some (Sum.inr s1.1) else (if aok Z (rR M a0 0) 101 s1.2 then (Option.bind (if (rI M (rR M a0 0) (ix s1.2)) = 0 then some (0 : Int64) else some (1 : Int64)) (fun v10 : Int64 => (if aok Z (rR M a0 1) 100 s1.2 then (if aok Z (rR M a0 2) 100 s1.2 then (pu ((fX11_mix (fX11_mix (fX11_mix s1.1 v10) ((rI M (rR M a0 1) (ix s1.2)).toInt64)) ((rI M (rR M a0 2) (ix s1.2)).toInt64))) (fun z13 => some (Sum.inl (z13, (s1.2 + (1 : Int32)))))) else none) else none))) else none)) else none)) (y1, (0 : Int32)))
set_option maxRecDepth 20000 in
theorem kX9_addTo (l : Launch) (Z : Shp) (M : Mem) (a0 : Nat) (y1 : Int64) (r : Int64) (h : fX9_addTo Z M a0 y1 = some r) : Ct l mX9_addTo [vr a0, vj y1] Z M ((some (vj r)), Z, M) := by
  refine Ct.of rfl (Nat.le_of_ble_eq_true rfl) (fun X hM => ?_)
  have hX := hM.1
  refine r_top (mk := fun r => ((some (vj r)), Z, M)) h (fun K hK => ?_)
  unfold fX9_addTo
  refine r_lload_n (i := 1) (x := y1) (q := 1) 1 hX dX9_addTo_0 rfl rfl rfl ?_
  refine r_lstore_n (x := y1) (q := 2) 3 [1, 2, 0] (L1 := [(0, vr a0), (1, vj y1), (3, vj y1)]) hX dX9_addTo_1 rfl (Nat.le_of_ble_eq_true rfl) rfl rfl ?_
  refine r_iconst (v := (0 : Int32)) (q := 3) hX dX9_addTo_2 rfl rfl ?_
  refine r_istore (x := (0 : Int32)) (q := 5) 5 [1, 2, 3, 0] (L1 := [(0, vr a0), (1, vj y1), (3, vj y1), (5, vi (0 : Int32))]) hX dX9_addTo_3 (Nat.le_of_ble_eq_true rfl) rfl rfl ?_
  refine r_sub [0, 2, 3] rfl ?_
  refine r_loop (Hd := fun (s1 : Int64 × Int32) (P : Option Res) => Ref mX9_addTo X 0 0 Z M 5 [(0, vr a0), (3, vj s1.1), (5, vi s1.2)] [] P) (fun _ => r_none) (fun s1 K1 hn2 hx3 => ?_) (y1, (0 : Int32))
  refine r_iload (i := 5) (x := s1.2) (q := 7) 2 hX dX9_addTo_5 rfl rfl ?_
  refine r_aload_n (i := 0) (x := a0) (q := 8) 0 hX dX9_addTo_7 rfl rfl rfl ?_
  refine r_ck (fun hc4 => ?_)
  refine r_getI (a := a0) (ci := 9) (kf := 3) (q := 11) hX hc4 flX9_25 rfl rfl dX9_addTo_8 rfl ?_
  refine r_icmp_ge (tgt := 62) (q := 14) hX dX9_addTo_11 (by decide) rfl (fun hb5 => ?_) (fun hb5 => ?_)
  · refine r_lload_n (i := 3) (x := s1.1) (q := 63) 1 hX dX9_addTo_62 rfl rfl rfl ?_
    refine r_lf ((hx3 _).trans (hK _)) ?_
    exact r_lret hM rfl (Nat.le_of_ble_eq_true rfl) (Nat.le_of_ble_eq_true rfl) dX9_addTo_63
  · refine r_lload_n (i := 3) (x := s1.1) (q := 15) 1 hX dX9_addTo_14 rfl rfl rfl ?_
    refine r_aload_n (i := 0) (x := a0) (q := 16) 0 hX dX9_addTo_15 rfl rfl rfl ?_
    refine r_getR (a := a0) (ci := 9) (kf := 0) (q := 19) hX hc4 flX9_11 rfl dX9_addTo_16 rfl ?_
    refine r_iload (i := 5) (x := s1.2) (q := 21) 2 hX dX9_addTo_19 rfl rfl ?_
    refine r_ck (fun hc6 => ?_)
    refine r_zald (a := (rR M a0 0)) (i := s1.2) (q := 22) hX hc6 dX9_addTo_21 rfl ?_
    refine r_jn (J := fun (v10 : Int64) (P : Option Res) => Ref mX9_addTo X 0 0 Z M 30 [(0, vr a0), (5, vi s1.2)] [vj v10, vj s1.1] P) (fun v10 => ?_) (fun K1 hj8 => ?_)
    · refine r_cs (As := [vj s1.1, vj v10]) (st := []) (r := (some (vj (fX11_mix s1.1 v10)))) (Z1 := Z) (M1 := M) (k1 := 0) (n1 := 0) (st1 := [vj (fX11_mix s1.1 v10)]) (q := 33) hX (fun l => kX11_mix l Z M s1.1 v10) stX11_mix ccX11_mix (Or.inr ⟨_, lkX9_108⟩) rfl rfl rfl ⟨Nat.le_of_ble_eq_true rfl, Nat.le_of_ble_eq_true rfl, rfl, rfl, Nat.le_of_ble_eq_true rfl, Nat.le_of_ble_eq_true rfl⟩ (Nat.le_of_ble_eq_true rfl) dX9_addTo_30 rfl ?_
      refine r_aload_n (i := 0) (x := a0) (q := 34) 0 hX dX9_addTo_33 rfl rfl rfl ?_
      refine r_getR (a := a0) (ci := 9) (kf := 1) (q := 37) hX hc4 flX9_15 rfl dX9_addTo_34 rfl ?_
      refine r_iload (i := 5) (x := s1.2) (q := 39) 1 hX dX9_addTo_37 rfl rfl ?_
      refine r_ck (fun hc11 => ?_)
      refine r_iald (a := (rR M a0 1)) (i := s1.2) (q := 40) hX hc11 dX9_addTo_39 rfl ?_
      refine r_i2l (q := 41) hX dX9_addTo_40 rfl ?_
      refine r_cs (As := [vj (fX11_mix s1.1 v10), vj ((rI M (rR M a0 1) (ix s1.2)).toInt64)]) (st := []) (r := (some (vj (fX11_mix (fX11_mix s1.1 v10) ((rI M (rR M a0 1) (ix s1.2)).toInt64))))) (Z1 := Z) (M1 := M) (k1 := 0) (n1 := 0) (st1 := [vj (fX11_mix (fX11_mix s1.1 v10) ((rI M (rR M a0 1) (ix s1.2)).toInt64))]) (q := 44) hX (fun l => kX11_mix l Z M (fX11_mix s1.1 v10) ((rI M (rR M a0 1) (ix s1.2)).toInt64)) stX11_mix ccX11_mix (Or.inr ⟨_, lkX9_108⟩) rfl rfl rfl ⟨Nat.le_of_ble_eq_true rfl, Nat.le_of_ble_eq_true rfl, rfl, rfl, Nat.le_of_ble_eq_true rfl, Nat.le_of_ble_eq_true rfl⟩ (Nat.le_of_ble_eq_true rfl) dX9_addTo_41 rfl ?_
      refine r_aload_n (i := 0) (x := a0) (q := 45) 0 hX dX9_addTo_44 rfl rfl rfl ?_
      refine r_getR (a := a0) (ci := 9) (kf := 2) (q := 48) hX hc4 flX9_19 rfl dX9_addTo_45 rfl ?_
      refine r_iload (i := 5) (x := s1.2) (q := 50) 1 hX dX9_addTo_48 rfl rfl ?_
      refine r_ck (fun hc12 => ?_)
      refine r_iald (a := (rR M a0 2)) (i := s1.2) (q := 51) hX hc12 dX9_addTo_50 rfl ?_
      refine r_i2l (q := 52) hX dX9_addTo_51 rfl ?_
      refine r_cs (As := [vj (fX11_mix (fX11_mix s1.1 v10) ((rI M (rR M a0 1) (ix s1.2)).toInt64)), vj ((rI M (rR M a0 2) (ix s1.2)).toInt64)]) (st := []) (r := (some (vj (fX11_mix (fX11_mix (fX11_mix s1.1 v10) ((rI M (rR M a0 1) (ix s1.2)).toInt64)) ((rI M (rR M a0 2) (ix s1.2)).toInt64))))) (Z1 := Z) (M1 := M) (k1 := 0) (n1 := 0) (st1 := [vj (fX11_mix (fX11_mix (fX11_mix s1.1 v10) ((rI M (rR M a0 1) (ix s1.2)).toInt64)) ((rI M (rR M a0 2) (ix s1.2)).toInt64))]) (q := 55) hX (fun l => kX11_mix l Z M (fX11_mix (fX11_mix s1.1 v10) ((rI M (rR M a0 1) (ix s1.2)).toInt64)) ((rI M (rR M a0 2) (ix s1.2)).toInt64)) stX11_mix ccX11_mix (Or.inr ⟨_, lkX9_108⟩) rfl rfl rfl ⟨Nat.le_of_ble_eq_true rfl, Nat.le_of_ble_eq_true rfl, rfl, rfl, Nat.le_of_ble_eq_true rfl, Nat.le_of_ble_eq_true rfl⟩ (Nat.le_of_ble_eq_true rfl) dX9_addTo_52 rfl ?_
      refine r_lstore_nP (x := (fX11_mix (fX11_mix (fX11_mix s1.1 v10) ((rI M (rR M a0 1) (ix s1.2)).toInt64)) ((rI M (rR M a0 2) (ix s1.2)).toInt64))) (q := 56) 3 [1, 0, 2] (fun z13 => [(0, vr a0), (3, vj z13), (5, vi s1.2)]) hX dX9_addTo_55 rfl (Nat.le_of_ble_eq_true rfl) (fun _ => rfl) rfl (fun z13 => ?_)
      refine r_iinc (x := s1.2) (v := (s1.2 + (1 : Int32))) (q := 59) 5 2 [1, 2, 0] (L1 := [(0, vr a0), (3, vj z13), (5, vi (s1.2 + (1 : Int32)))]) hX dX9_addTo_56 rfl rfl (Nat.le_of_ble_eq_true rfl) rfl rfl ?_
      refine r_goto (q := 5) hX dX9_addTo_59 (by decide) ?_
      refine r_l0 ?_
      exact hn2 (z13, (s1.2 + (1 : Int32)))
    · refine r_if_eq (tgt := 29) (q := 25) hX dX9_addTo_22 (by decide) rfl (fun hb7 => ?_) (fun hb7 => ?_)
      · refine r_lconst (v := (0 : Int64)) (q := 30) hX dX9_addTo_29 rfl rfl ?_
        refine r_l0 ?_
        refine r_sub [0, 2] rfl ?_
        exact hj8 (0 : Int64)
      · refine r_lconst (v := (1 : Int64)) (q := 26) hX dX9_addTo_25 rfl rfl ?_
        refine r_goto (q := 30) hX dX9_addTo_26 (by decide) ?_
        refine r_l0 ?_
        refine r_sub [0, 2] rfl ?_
        exact hj8 (1 : Int64)
theorem flX5_18 : FL RX5 18 5 2 := ⟨Nat.le_of_ble_eq_true rfl, Nat.le_of_ble_eq_true rfl, gd (hcw2_0 _ (List.mem_of_getElem? (i := 3) rfl)) rfl⟩
theorem flX5_54 : FL RX5 54 5 7 := ⟨Nat.le_of_ble_eq_true rfl, Nat.le_of_ble_eq_true rfl, gd (hcw2_0 _ (List.mem_of_getElem? (i := 9) rfl)) rfl⟩
theorem flX5_30 : FL RX5 30 5 6 := ⟨Nat.le_of_ble_eq_true rfl, Nat.le_of_ble_eq_true rfl, gd (hcw2_0 _ (List.mem_of_getElem? (i := 8) rfl)) rfl⟩
theorem flX5_21 : FL RX5 21 5 3 := ⟨Nat.le_of_ble_eq_true rfl, Nat.le_of_ble_eq_true rfl, gd (hcw2_0 _ (List.mem_of_getElem? (i := 5) rfl)) rfl⟩
theorem flX5_27 : FL RX5 27 5 5 := ⟨Nat.le_of_ble_eq_true rfl, Nat.le_of_ble_eq_true rfl, gd (hcw2_0 _ (List.mem_of_getElem? (i := 7) rfl)) rfl⟩
theorem flX5_24 : FL RX5 24 5 4 := ⟨Nat.le_of_ble_eq_true rfl, Nat.le_of_ble_eq_true rfl, gd (hcw2_0 _ (List.mem_of_getElem? (i := 6) rfl)) rfl⟩
def mX5_held : MD := (yX5_held, cX5_held, 5, (some .int), 0, 0, 0, 0)
theorem ccX5_held : Cc mX5_held 2 := ⟨gd (hcw1_0 _ (List.mem_of_getElem? (i := 8) rfl)) rfl, gd (hcw5_2 _ (List.mem_of_getElem? (i := 1) rfl)) rfl, by decide +kernel, by decide +kernel, by decide +kernel⟩
theorem ivX5_held : Iv mX5_held 5 := ⟨Nat.le_of_ble_eq_true rfl, rfl, gd (hcw5_1 _ (List.mem_of_getElem? (i := 19) rfl)) rfl, gd (hcw5_2 _ (List.mem_of_getElem? (i := 0) rfl)) rfl⟩
noncomputable def fX5_held (Z : Shp) (M : Mem) (a0 : Nat) (x1 : Int32) (x2 : Int32) : Option (Int32) := (if tg Z a0 = (6, 9) then (if aok Z (rR M a0 2) 100 x1 then (pu ((rI M (rR M a0 2) (ix x1))) (fun z3 => (loop (fun s4 : Int32 × Int32 => (if (rI M a0 7) ≤ s4.2 then some (Sum.inr s4.1) else (if aok Z (rR M a0 6) 100 s4.2 then (if x2 < (rI M (rR M a0 6) (ix s4.2)) then some (Sum.inr s4.1) else (if aok Z (rR M a0 3) 100 s4.2 then (if (rI M (rR M a0 3) (ix s4.2)) = x1 then (if aok Z (rR M a0 5) 100 s4.2 then (pu ((s4.1 - (rI M (rR M a0 5) (ix s4.2)))) (fun z13 => some (Sum.inl (z13, (s4.2 + (1 : Int32)))))) else none) else (if aok Z (rR M a0 4) 100 s4.2 then (if (rI M (rR M a0 4) (ix s4.2)) = x1 then (if aok Z (rR M a0 5) 100 s4.2 then (pu ((s4.1 + (rI M (rR M a0 5) (ix s4.2)))) (fun z17 => some (Sum.inl (z17, (s4.2 + (1 : Int32)))))) else none) else some (Sum.inl (s4.1, (s4.2 + (1 : Int32))))) else none)) else none)) else none))) (z3, (0 : Int32))))) else none) else none)
set_option maxRecDepth 20000 in
theorem kX5_held (l : Launch) (Z : Shp) (M : Mem) (a0 : Nat) (x1 : Int32) (x2 : Int32) (r : Int32) (h : fX5_held Z M a0 x1 x2 = some r) : Ct l mX5_held [vr a0, vi x1, vi x2] Z M ((some (vi r)), Z, M) := by
  refine Ct.of rfl (Nat.le_of_ble_eq_true rfl) (fun X hM => ?_)
  have hX := hM.1
  refine r_top (mk := fun r => ((some (vi r)), Z, M)) h (fun K hK => ?_)
  unfold fX5_held
  refine r_aload_n (i := 0) (x := a0) (q := 1) 0 hX dX5_held_0 rfl rfl rfl ?_
  refine r_ck (fun hc1 => ?_)
  refine r_getR (a := a0) (ci := 5) (kf := 2) (q := 4) hX hc1 flX5_18 rfl dX5_held_1 rfl ?_
  refine r_iload_n (i := 1) (x := x1) (q := 5) 1 hX dX5_held_4 rfl rfl rfl ?_
  refine r_ck (fun hc2 => ?_)
  refine r_iald (a := (rR M a0 2)) (i := x1) (q := 6) hX hc2 dX5_held_5 rfl ?_
  refine r_istore_nP (x := (rI M (rR M a0 2) (ix x1))) (q := 7) 3 [1, 2, 3, 0] (fun z3 => [(0, vr a0), (1, vi x1), (2, vi x2), (3, vi z3)]) hX dX5_held_6 rfl (Nat.le_of_ble_eq_true rfl) (fun _ => rfl) rfl (fun z3 => ?_)
  refine r_iconst (v := (0 : Int32)) (q := 8) hX dX5_held_7 rfl rfl ?_
  refine r_istore (x := (0 : Int32)) (q := 10) 4 [1, 2, 3, 4, 0] (L1 := [(0, vr a0), (1, vi x1), (2, vi x2), (3, vi z3), (4, vi (0 : Int32))]) hX dX5_held_8 (Nat.le_of_ble_eq_true rfl) rfl rfl ?_
  refine r_loop (Hd := fun (s4 : Int32 × Int32) (P : Option Res) => Ref mX5_held X 0 0 Z M 10 [(0, vr a0), (1, vi x1), (2, vi x2), (3, vi s4.1), (4, vi s4.2)] [] P) (fun _ => r_none) (fun s4 K1 hn5 hx6 => ?_) (z3, (0 : Int32))
  refine r_iload (i := 4) (x := s4.2) (q := 12) 4 hX dX5_held_10 rfl rfl ?_
  refine r_aload_n (i := 0) (x := a0) (q := 13) 0 hX dX5_held_12 rfl rfl rfl ?_
  refine r_getI (a := a0) (ci := 5) (kf := 7) (q := 16) hX hc1 flX5_54 rfl rfl dX5_held_13 rfl ?_
  refine r_icmp_ge (tgt := 81) (q := 19) hX dX5_held_16 (by decide) rfl (fun hb7 => ?_) (fun hb7 => ?_)
  · refine r_iload_n (i := 3) (x := s4.1) (q := 82) 3 hX dX5_held_81 rfl rfl rfl ?_
    refine r_lf ((hx6 _).trans (hK _)) ?_
    exact r_iret hM rfl (Nat.le_of_ble_eq_true rfl) (Nat.le_of_ble_eq_true rfl) dX5_held_82
  · refine r_aload_n (i := 0) (x := a0) (q := 20) 0 hX dX5_held_19 rfl rfl rfl ?_
    refine r_getR (a := a0) (ci := 5) (kf := 6) (q := 23) hX hc1 flX5_30 rfl dX5_held_20 rfl ?_
    refine r_iload (i := 4) (x := s4.2) (q := 25) 4 hX dX5_held_23 rfl rfl ?_
    refine r_ck (fun hc8 => ?_)
    refine r_iald (a := (rR M a0 6)) (i := s4.2) (q := 26) hX hc8 dX5_held_25 rfl ?_
    refine r_iload_n (i := 2) (x := x2) (q := 27) 2 hX dX5_held_26 rfl rfl rfl ?_
    refine r_icmp_gt (tgt := 81) (q := 30) hX dX5_held_27 (by decide) rfl (fun hb9 => ?_) (fun hb9 => ?_)
    · refine r_iload_n (i := 3) (x := s4.1) (q := 82) 3 hX dX5_held_81 rfl rfl rfl ?_
      refine r_lf ((hx6 _).trans (hK _)) ?_
      exact r_iret hM rfl (Nat.le_of_ble_eq_true rfl) (Nat.le_of_ble_eq_true rfl) dX5_held_82
    · refine r_aload_n (i := 0) (x := a0) (q := 31) 0 hX dX5_held_30 rfl rfl rfl ?_
      refine r_getR (a := a0) (ci := 5) (kf := 3) (q := 34) hX hc1 flX5_21 rfl dX5_held_31 rfl ?_
      refine r_iload (i := 4) (x := s4.2) (q := 36) 4 hX dX5_held_34 rfl rfl ?_
      refine r_ck (fun hc10 => ?_)
      refine r_iald (a := (rR M a0 3)) (i := s4.2) (q := 37) hX hc10 dX5_held_36 rfl ?_
      refine r_iload_n (i := 1) (x := x1) (q := 38) 1 hX dX5_held_37 rfl rfl rfl ?_
      refine r_icmp_ne (tgt := 54) (q := 41) hX dX5_held_38 (by decide) rfl (fun hb11 => ?_) (fun hb11 => ?_)
      · refine r_iload_n (i := 3) (x := s4.1) (q := 42) 3 hX dX5_held_41 rfl rfl rfl ?_
        refine r_aload_n (i := 0) (x := a0) (q := 43) 0 hX dX5_held_42 rfl rfl rfl ?_
        refine r_getR (a := a0) (ci := 5) (kf := 5) (q := 46) hX hc1 flX5_27 rfl dX5_held_43 rfl ?_
        refine r_iload (i := 4) (x := s4.2) (q := 48) 4 hX dX5_held_46 rfl rfl ?_
        refine r_ck (fun hc12 => ?_)
        refine r_iald (a := (rR M a0 5)) (i := s4.2) (q := 49) hX hc12 dX5_held_48 rfl ?_
        refine r_isub (q := 50) hX dX5_held_49 rfl ?_
        refine r_istore_nP (x := (s4.1 - (rI M (rR M a0 5) (ix s4.2)))) (q := 51) 3 [1, 2, 3, 0, 5] (fun z13 => [(0, vr a0), (1, vi x1), (2, vi x2), (3, vi z13), (4, vi s4.2)]) hX dX5_held_50 rfl (Nat.le_of_ble_eq_true rfl) (fun _ => rfl) rfl (fun z13 => ?_)
        refine r_goto (q := 75) hX dX5_held_51 (by decide) ?_
        refine r_iinc (x := s4.2) (v := (s4.2 + (1 : Int32))) (q := 78) 4 4 [1, 2, 3, 4, 0] (L1 := [(0, vr a0), (1, vi x1), (2, vi x2), (3, vi z13), (4, vi (s4.2 + (1 : Int32)))]) hX dX5_held_75 rfl rfl (Nat.le_of_ble_eq_true rfl) rfl rfl ?_
        refine r_goto (q := 10) hX dX5_held_78 (by decide) ?_
        refine r_l0 ?_
        exact hn5 (z13, (s4.2 + (1 : Int32)))
      · refine r_aload_n (i := 0) (x := a0) (q := 55) 0 hX dX5_held_54 rfl rfl rfl ?_
        refine r_getR (a := a0) (ci := 5) (kf := 4) (q := 58) hX hc1 flX5_24 rfl dX5_held_55 rfl ?_
        refine r_iload (i := 4) (x := s4.2) (q := 60) 4 hX dX5_held_58 rfl rfl ?_
        refine r_ck (fun hc14 => ?_)
        refine r_iald (a := (rR M a0 4)) (i := s4.2) (q := 61) hX hc14 dX5_held_60 rfl ?_
        refine r_iload_n (i := 1) (x := x1) (q := 62) 1 hX dX5_held_61 rfl rfl rfl ?_
        refine r_icmp_ne (tgt := 75) (q := 65) hX dX5_held_62 (by decide) rfl (fun hb15 => ?_) (fun hb15 => ?_)
        · refine r_iload_n (i := 3) (x := s4.1) (q := 66) 3 hX dX5_held_65 rfl rfl rfl ?_
          refine r_aload_n (i := 0) (x := a0) (q := 67) 0 hX dX5_held_66 rfl rfl rfl ?_
          refine r_getR (a := a0) (ci := 5) (kf := 5) (q := 70) hX hc1 flX5_27 rfl dX5_held_67 rfl ?_
          refine r_iload (i := 4) (x := s4.2) (q := 72) 4 hX dX5_held_70 rfl rfl ?_
          refine r_ck (fun hc16 => ?_)
          refine r_iald (a := (rR M a0 5)) (i := s4.2) (q := 73) hX hc16 dX5_held_72 rfl ?_
          refine r_iadd (q := 74) hX dX5_held_73 rfl ?_
          refine r_istore_nP (x := (s4.1 + (rI M (rR M a0 5) (ix s4.2)))) (q := 75) 3 [1, 2, 3, 0, 5] (fun z17 => [(0, vr a0), (1, vi x1), (2, vi x2), (3, vi z17), (4, vi s4.2)]) hX dX5_held_74 rfl (Nat.le_of_ble_eq_true rfl) (fun _ => rfl) rfl (fun z17 => ?_)
          refine r_iinc (x := s4.2) (v := (s4.2 + (1 : Int32))) (q := 78) 4 4 [1, 2, 3, 4, 0] (L1 := [(0, vr a0), (1, vi x1), (2, vi x2), (3, vi z17), (4, vi (s4.2 + (1 : Int32)))]) hX dX5_held_75 rfl rfl (Nat.le_of_ble_eq_true rfl) rfl rfl ?_
          refine r_goto (q := 10) hX dX5_held_78 (by decide) ?_
          refine r_l0 ?_
          exact hn5 (z17, (s4.2 + (1 : Int32)))
        · refine r_iinc (x := s4.2) (v := (s4.2 + (1 : Int32))) (q := 78) 4 4 [1, 2, 3, 4, 0] (L1 := [(0, vr a0), (1, vi x1), (2, vi x2), (3, vi s4.1), (4, vi (s4.2 + (1 : Int32)))]) hX dX5_held_75 rfl rfl (Nat.le_of_ble_eq_true rfl) rfl rfl ?_
          refine r_goto (q := 10) hX dX5_held_78 (by decide) ?_
          refine r_l0 ?_
          exact hn5 (s4.1, (s4.2 + (1 : Int32)))
theorem flX5_9 : FL RX5 9 5 0 := ⟨Nat.le_of_ble_eq_true rfl, Nat.le_of_ble_eq_true rfl, gd (hcw2_0 _ (List.mem_of_getElem? (i := 0) rfl)) rfl⟩
theorem lkX5_66 : LkN RX5 66 yX11_mix "CanalCompany" := bd (hcw5_8 _ (List.mem_of_getElem? (i := 18) rfl)) rfl
theorem lkX5_57 : Lk RX5 57 yX5_held := gd (hcw5_3 _ (List.mem_of_getElem? (i := 2) rfl)) rfl
def mX5_addTo : MD := (yX5_addTo, cX5_addTo, 6, (some .long), 1, 24, 0, 0)
theorem ccX5_addTo : Cc mX5_addTo 1 := ⟨gd (hcw1_0 _ (List.mem_of_getElem? (i := 8) rfl)) rfl, gd (hcw5_8 _ (List.mem_of_getElem? (i := 17) rfl)) rfl, by decide +kernel, by decide +kernel, by decide +kernel⟩
theorem ivX5_addTo : Iv mX5_addTo 5 := ⟨Nat.le_of_ble_eq_true rfl, rfl, gd (hcw5_8 _ (List.mem_of_getElem? (i := 15) rfl)) rfl, gd (hcw5_8 _ (List.mem_of_getElem? (i := 16) rfl)) rfl⟩
noncomputable def fX5_addTo (Z : Shp) (M : Mem) (a0 : Nat) (y1 : Int64) : Option (Int64) := (Option.bind (loop (fun s4 : Int64 × Int32 => (if (4 : Int32) ≤ s4.2 then some (Sum.inr s4.1) else (if tg Z a0 = (6, 9) then (if aok Z (rR M a0 0) 100 s4.2 then (pu ((fX11_mix s4.1 ((rI M (rR M a0 0) (ix s4.2)).toInt64))) (fun z10 => some (Sum.inl (z10, (s4.2 + (1 : Int32)))))) else none) else none))) (y1, (0 : Int32))) (fun v3 : Int64 => (Option.bind (loop (fun s14 : Int64 × Int32 => (if (12 : Int32) ≤ s14.2 then some (Sum.inr s14.1) else (if tg Z a0 = (6, 9) then (if aok Z (rR M a0 1) 100 s14.2 then (pu ((fX11_mix s14.1 ((rI M (rR M a0 1) (ix s14.2)).toInt64))) (fun z20 => some (Sum.inl (z20, (s14.2 + (1 : Int32)))))) else none) else none))) (v3, (0 : Int32))) (fun v13 : Int64 => (loop (fun s21 : Int64 × Int32 => (if (6 : Int32) ≤ s21.2 then (if tg Z a0 = (6, 9) then some (Sum.inr (fX11_mix s21.1 ((rI M a0 8).toInt64))) else none) else (if tg Z a0 = (6, 9) then (Option.bind (fX5_held Z M a0 s21.2 (99 : Int32)) (fun v27 => (pu ((fX11_mix s21.1 (v27.toInt64))) (fun z29 => some (Sum.inl (z29, (s21.2 + (1 : Int32)))))))) else none))) (v13, (0 : Int32)))))))
set_option maxRecDepth 20000 in
theorem kX5_addTo (l : Launch) (Z : Shp) (M : Mem) (a0 : Nat) (y1 : Int64) (r : Int64) (h : fX5_addTo Z M a0 y1 = some r) : Ct l mX5_addTo [vr a0, vj y1] Z M ((some (vj r)), Z, M) := by
  refine Ct.of rfl (Nat.le_of_ble_eq_true rfl) (fun X hM => ?_)
  have hX := hM.1
  refine r_top (mk := fun r => ((some (vj r)), Z, M)) h (fun K hK => ?_)
  unfold fX5_addTo
  refine r_lload_n (i := 1) (x := y1) (q := 1) 1 hX dX5_addTo_0 rfl rfl rfl ?_
  refine r_lstore_n (x := y1) (q := 2) 3 [1, 2, 0] (L1 := [(0, vr a0), (1, vj y1), (3, vj y1)]) hX dX5_addTo_1 rfl (Nat.le_of_ble_eq_true rfl) rfl rfl ?_
  refine r_iconst (v := (0 : Int32)) (q := 3) hX dX5_addTo_2 rfl rfl ?_
  refine r_istore (x := (0 : Int32)) (q := 5) 5 [1, 2, 3, 0] (L1 := [(0, vr a0), (1, vj y1), (3, vj y1), (5, vi (0 : Int32))]) hX dX5_addTo_3 (Nat.le_of_ble_eq_true rfl) rfl rfl ?_
  refine r_jn (J := fun (v3 : Int64) (P : Option Res) => Ref mX5_addTo X 0 0 Z M 30 [(0, vr a0), (3, vj v3)] [] P) (fun v3 => ?_) (fun K1 hj1 => ?_)
  · refine r_iconst (v := (0 : Int32)) (q := 31) hX dX5_addTo_30 rfl rfl ?_
    refine r_istore (x := (0 : Int32)) (q := 33) 5 [1, 2, 0] (L1 := [(0, vr a0), (3, vj v3), (5, vi (0 : Int32))]) hX dX5_addTo_31 (Nat.le_of_ble_eq_true rfl) rfl rfl ?_
    refine r_jn (J := fun (v13 : Int64) (P : Option Res) => Ref mX5_addTo X 0 0 Z M 59 [(0, vr a0), (3, vj v13)] [] P) (fun v13 => ?_) (fun K1 hj11 => ?_)
    · refine r_iconst (v := (0 : Int32)) (q := 60) hX dX5_addTo_59 rfl rfl ?_
      refine r_istore (x := (0 : Int32)) (q := 62) 5 [1, 2, 0] (L1 := [(0, vr a0), (3, vj v13), (5, vi (0 : Int32))]) hX dX5_addTo_60 (Nat.le_of_ble_eq_true rfl) rfl rfl ?_
      refine r_loop (Hd := fun (s21 : Int64 × Int32) (P : Option Res) => Ref mX5_addTo X 0 0 Z M 62 [(0, vr a0), (3, vj s21.1), (5, vi s21.2)] [] P) (fun _ => r_none) (fun s21 K1 hn22 hx23 => ?_) (v13, (0 : Int32))
      refine r_iload (i := 5) (x := s21.2) (q := 64) 2 hX dX5_addTo_62 rfl rfl ?_
      refine r_bipush (v := (6 : Int32)) (q := 66) hX dX5_addTo_64 rfl rfl ?_
      refine r_icmp_ge (tgt := 89) (q := 69) hX dX5_addTo_66 (by decide) rfl (fun hb24 => ?_) (fun hb24 => ?_)
      · refine r_lload_n (i := 3) (x := s21.1) (q := 90) 1 hX dX5_addTo_89 rfl rfl rfl ?_
        refine r_aload_n (i := 0) (x := a0) (q := 91) 0 hX dX5_addTo_90 rfl rfl rfl ?_
        refine r_ck (fun hc25 => ?_)
        refine r_getI (a := a0) (ci := 5) (kf := 8) (q := 94) hX hc25 flX5_33 rfl rfl dX5_addTo_91 rfl ?_
        refine r_i2l (q := 95) hX dX5_addTo_94 rfl ?_
        refine r_cs (As := [vj s21.1, vj ((rI M a0 8).toInt64)]) (st := []) (r := (some (vj (fX11_mix s21.1 ((rI M a0 8).toInt64))))) (Z1 := Z) (M1 := M) (k1 := 0) (n1 := 0) (st1 := [vj (fX11_mix s21.1 ((rI M a0 8).toInt64))]) (q := 98) hX (fun l => kX11_mix l Z M s21.1 ((rI M a0 8).toInt64)) stX11_mix ccX11_mix (Or.inr ⟨_, lkX5_66⟩) rfl rfl rfl ⟨Nat.le_of_ble_eq_true rfl, Nat.le_of_ble_eq_true rfl, rfl, rfl, Nat.le_of_ble_eq_true rfl, Nat.le_of_ble_eq_true rfl⟩ (Nat.le_of_ble_eq_true rfl) dX5_addTo_95 rfl ?_
        refine r_lf ((hx23 _).trans (hK _)) ?_
        exact r_lret hM rfl (Nat.le_of_ble_eq_true rfl) (Nat.le_of_ble_eq_true rfl) dX5_addTo_98
      · refine r_lload_n (i := 3) (x := s21.1) (q := 70) 1 hX dX5_addTo_69 rfl rfl rfl ?_
        refine r_aload_n (i := 0) (x := a0) (q := 71) 0 hX dX5_addTo_70 rfl rfl rfl ?_
        refine r_iload (i := 5) (x := s21.2) (q := 73) 2 hX dX5_addTo_71 rfl rfl ?_
        refine r_bipush (v := (99 : Int32)) (q := 75) hX dX5_addTo_73 rfl rfl ?_
        refine r_ck (fun hc26 => ?_)
        refine r_bind (fun v27 h28 => ?_)
        refine r_cv (a := a0) (As := [vi s21.2, vi (99 : Int32)]) (st := [vj s21.1]) (r := (some (vi v27))) (Z1 := Z) (M1 := M) (k1 := 0) (n1 := 0) (st1 := [vi v27, vj s21.1]) (q := 78) hX (fun l => kX5_held l Z M a0 s21.2 (99 : Int32) v27 h28) hc26 ivX5_held ccX5_held (Or.inl lkX5_57) rfl rfl rfl ⟨Nat.le_of_ble_eq_true rfl, Nat.le_of_ble_eq_true rfl, rfl, rfl, Nat.le_of_ble_eq_true rfl, Nat.le_of_ble_eq_true rfl⟩ (Nat.le_of_ble_eq_true rfl) dX5_addTo_75 rfl ?_
        refine r_i2l (q := 79) hX dX5_addTo_78 rfl ?_
        refine r_cs (As := [vj s21.1, vj (v27.toInt64)]) (st := []) (r := (some (vj (fX11_mix s21.1 (v27.toInt64))))) (Z1 := Z) (M1 := M) (k1 := 0) (n1 := 0) (st1 := [vj (fX11_mix s21.1 (v27.toInt64))]) (q := 82) hX (fun l => kX11_mix l Z M s21.1 (v27.toInt64)) stX11_mix ccX11_mix (Or.inr ⟨_, lkX5_66⟩) rfl rfl rfl ⟨Nat.le_of_ble_eq_true rfl, Nat.le_of_ble_eq_true rfl, rfl, rfl, Nat.le_of_ble_eq_true rfl, Nat.le_of_ble_eq_true rfl⟩ (Nat.le_of_ble_eq_true rfl) dX5_addTo_79 rfl ?_
        refine r_lstore_nP (x := (fX11_mix s21.1 (v27.toInt64))) (q := 83) 3 [1, 0, 3] (fun z29 => [(0, vr a0), (3, vj z29), (5, vi s21.2)]) hX dX5_addTo_82 rfl (Nat.le_of_ble_eq_true rfl) (fun _ => rfl) rfl (fun z29 => ?_)
        refine r_iinc (x := s21.2) (v := (s21.2 + (1 : Int32))) (q := 86) 5 2 [1, 2, 0] (L1 := [(0, vr a0), (3, vj z29), (5, vi (s21.2 + (1 : Int32)))]) hX dX5_addTo_83 rfl rfl (Nat.le_of_ble_eq_true rfl) rfl rfl ?_
        refine r_goto (q := 62) hX dX5_addTo_86 (by decide) ?_
        refine r_l0 ?_
        exact hn22 (z29, (s21.2 + (1 : Int32)))
    · refine r_loop (Hd := fun (s14 : Int64 × Int32) (P : Option Res) => Ref mX5_addTo X 0 0 Z M 33 [(0, vr a0), (3, vj s14.1), (5, vi s14.2)] [] P) (fun _ => r_none) (fun s14 K1 hn15 hx16 => ?_) (v3, (0 : Int32))
      refine r_iload (i := 5) (x := s14.2) (q := 35) 2 hX dX5_addTo_33 rfl rfl ?_
      refine r_bipush (v := (12 : Int32)) (q := 37) hX dX5_addTo_35 rfl rfl ?_
      refine r_icmp_ge (tgt := 59) (q := 40) hX dX5_addTo_37 (by decide) rfl (fun hb17 => ?_) (fun hb17 => ?_)
      · refine r_lf (hx16 _) ?_
        refine r_sub [0, 1] rfl ?_
        exact hj11 s14.1
      · refine r_lload_n (i := 3) (x := s14.1) (q := 41) 1 hX dX5_addTo_40 rfl rfl rfl ?_
        refine r_aload_n (i := 0) (x := a0) (q := 42) 0 hX dX5_addTo_41 rfl rfl rfl ?_
        refine r_ck (fun hc18 => ?_)
        refine r_getR (a := a0) (ci := 5) (kf := 1) (q := 45) hX hc18 flX5_15 rfl dX5_addTo_42 rfl ?_
        refine r_iload (i := 5) (x := s14.2) (q := 47) 2 hX dX5_addTo_45 rfl rfl ?_
        refine r_ck (fun hc19 => ?_)
        refine r_iald (a := (rR M a0 1)) (i := s14.2) (q := 48) hX hc19 dX5_addTo_47 rfl ?_
        refine r_i2l (q := 49) hX dX5_addTo_48 rfl ?_
        refine r_cs (As := [vj s14.1, vj ((rI M (rR M a0 1) (ix s14.2)).toInt64)]) (st := []) (r := (some (vj (fX11_mix s14.1 ((rI M (rR M a0 1) (ix s14.2)).toInt64))))) (Z1 := Z) (M1 := M) (k1 := 0) (n1 := 0) (st1 := [vj (fX11_mix s14.1 ((rI M (rR M a0 1) (ix s14.2)).toInt64))]) (q := 52) hX (fun l => kX11_mix l Z M s14.1 ((rI M (rR M a0 1) (ix s14.2)).toInt64)) stX11_mix ccX11_mix (Or.inr ⟨_, lkX5_66⟩) rfl rfl rfl ⟨Nat.le_of_ble_eq_true rfl, Nat.le_of_ble_eq_true rfl, rfl, rfl, Nat.le_of_ble_eq_true rfl, Nat.le_of_ble_eq_true rfl⟩ (Nat.le_of_ble_eq_true rfl) dX5_addTo_49 rfl ?_
        refine r_lstore_nP (x := (fX11_mix s14.1 ((rI M (rR M a0 1) (ix s14.2)).toInt64))) (q := 53) 3 [1, 0, 3] (fun z20 => [(0, vr a0), (3, vj z20), (5, vi s14.2)]) hX dX5_addTo_52 rfl (Nat.le_of_ble_eq_true rfl) (fun _ => rfl) rfl (fun z20 => ?_)
        refine r_iinc (x := s14.2) (v := (s14.2 + (1 : Int32))) (q := 56) 5 2 [1, 2, 0] (L1 := [(0, vr a0), (3, vj z20), (5, vi (s14.2 + (1 : Int32)))]) hX dX5_addTo_53 rfl rfl (Nat.le_of_ble_eq_true rfl) rfl rfl ?_
        refine r_goto (q := 33) hX dX5_addTo_56 (by decide) ?_
        refine r_l0 ?_
        exact hn15 (z20, (s14.2 + (1 : Int32)))
  · refine r_sub [0, 2, 3] rfl ?_
    refine r_loop (Hd := fun (s4 : Int64 × Int32) (P : Option Res) => Ref mX5_addTo X 0 0 Z M 5 [(0, vr a0), (3, vj s4.1), (5, vi s4.2)] [] P) (fun _ => r_none) (fun s4 K1 hn5 hx6 => ?_) (y1, (0 : Int32))
    refine r_iload (i := 5) (x := s4.2) (q := 7) 2 hX dX5_addTo_5 rfl rfl ?_
    refine r_iconst (v := (4 : Int32)) (q := 8) hX dX5_addTo_7 rfl rfl ?_
    refine r_icmp_ge (tgt := 30) (q := 11) hX dX5_addTo_8 (by decide) rfl (fun hb7 => ?_) (fun hb7 => ?_)
    · refine r_lf (hx6 _) ?_
      refine r_sub [0, 1] rfl ?_
      exact hj1 s4.1
    · refine r_lload_n (i := 3) (x := s4.1) (q := 12) 1 hX dX5_addTo_11 rfl rfl rfl ?_
      refine r_aload_n (i := 0) (x := a0) (q := 13) 0 hX dX5_addTo_12 rfl rfl rfl ?_
      refine r_ck (fun hc8 => ?_)
      refine r_getR (a := a0) (ci := 5) (kf := 0) (q := 16) hX hc8 flX5_9 rfl dX5_addTo_13 rfl ?_
      refine r_iload (i := 5) (x := s4.2) (q := 18) 2 hX dX5_addTo_16 rfl rfl ?_
      refine r_ck (fun hc9 => ?_)
      refine r_iald (a := (rR M a0 0)) (i := s4.2) (q := 19) hX hc9 dX5_addTo_18 rfl ?_
      refine r_i2l (q := 20) hX dX5_addTo_19 rfl ?_
      refine r_cs (As := [vj s4.1, vj ((rI M (rR M a0 0) (ix s4.2)).toInt64)]) (st := []) (r := (some (vj (fX11_mix s4.1 ((rI M (rR M a0 0) (ix s4.2)).toInt64))))) (Z1 := Z) (M1 := M) (k1 := 0) (n1 := 0) (st1 := [vj (fX11_mix s4.1 ((rI M (rR M a0 0) (ix s4.2)).toInt64))]) (q := 23) hX (fun l => kX11_mix l Z M s4.1 ((rI M (rR M a0 0) (ix s4.2)).toInt64)) stX11_mix ccX11_mix (Or.inr ⟨_, lkX5_66⟩) rfl rfl rfl ⟨Nat.le_of_ble_eq_true rfl, Nat.le_of_ble_eq_true rfl, rfl, rfl, Nat.le_of_ble_eq_true rfl, Nat.le_of_ble_eq_true rfl⟩ (Nat.le_of_ble_eq_true rfl) dX5_addTo_20 rfl ?_
      refine r_lstore_nP (x := (fX11_mix s4.1 ((rI M (rR M a0 0) (ix s4.2)).toInt64))) (q := 24) 3 [1, 0, 3] (fun z10 => [(0, vr a0), (3, vj z10), (5, vi s4.2)]) hX dX5_addTo_23 rfl (Nat.le_of_ble_eq_true rfl) (fun _ => rfl) rfl (fun z10 => ?_)
      refine r_iinc (x := s4.2) (v := (s4.2 + (1 : Int32))) (q := 27) 5 2 [1, 2, 0] (L1 := [(0, vr a0), (3, vj z10), (5, vi (s4.2 + (1 : Int32)))]) hX dX5_addTo_24 rfl rfl (Nat.le_of_ble_eq_true rfl) rfl rfl ?_
      refine r_goto (q := 5) hX dX5_addTo_27 (by decide) ?_
      refine r_l0 ?_
      exact hn5 (z10, (s4.2 + (1 : Int32)))
theorem flX2_33 : FL RX2 33 2 1 := ⟨Nat.le_of_ble_eq_true rfl, Nat.le_of_ble_eq_true rfl, gd (hcw1_7 _ (List.mem_of_getElem? (i := 0) rfl)) rfl⟩
theorem flX2_11 : FL RX2 11 2 0 := ⟨Nat.le_of_ble_eq_true rfl, Nat.le_of_ble_eq_true rfl, gd (hcw1_6 _ (List.mem_of_getElem? (i := 19) rfl)) rfl⟩
def mX2_addPageTo : MD := (yX2_addPageTo, cX2_addPageTo, 6, (some .long), 1, 23, 0, 0)
theorem ccX2_addPageTo : Cc mX2_addPageTo 1 := ⟨gd (hcw1_0 _ (List.mem_of_getElem? (i := 5) rfl)) rfl, gd (hcw5_9 _ (List.mem_of_getElem? (i := 7) rfl)) rfl, by decide +kernel, by decide +kernel, by decide +kernel⟩
theorem ivX2_addPageTo : Iv mX2_addPageTo 2 := ⟨Nat.le_of_ble_eq_true rfl, rfl, gd (hcw5_9 _ (List.mem_of_getElem? (i := 5) rfl)) rfl, gd (hcw5_9 _ (List.mem_of_getElem? (i := 6) rfl)) rfl⟩
noncomputable def fX2_addPageTo (Z : Shp) (M : Mem) (a0 : Nat) (y1 : Int64) : Option (Int64) := (loop (fun s1 : Int64 × Int32 => (if tg Z a0 = (3, 4) then (if (rI M a0 1) ≤ s1.2 then some (Sum.inr s1.1) else (if aok Z (rR M a0 0) 102 s1.2 then (pu ((fX11_mix s1.1 ((rI M (rR M a0 0) (ix s1.2)).toInt64))) (fun z7 => some (Sum.inl (z7, (s1.2 + (1 : Int32)))))) else none)) else none)) (y1, (0 : Int32)))
set_option maxRecDepth 20000 in
theorem kX2_addPageTo (l : Launch) (Z : Shp) (M : Mem) (a0 : Nat) (y1 : Int64) (r : Int64) (h : fX2_addPageTo Z M a0 y1 = some r) : Ct l mX2_addPageTo [vr a0, vj y1] Z M ((some (vj r)), Z, M) := by
  refine Ct.of rfl (Nat.le_of_ble_eq_true rfl) (fun X hM => ?_)
  have hX := hM.1
  refine r_top (mk := fun r => ((some (vj r)), Z, M)) h (fun K hK => ?_)
  unfold fX2_addPageTo
  refine r_lload_n (i := 1) (x := y1) (q := 1) 1 hX dX2_addPageTo_0 rfl rfl rfl ?_
  refine r_lstore_n (x := y1) (q := 2) 3 [1, 2, 0] (L1 := [(0, vr a0), (1, vj y1), (3, vj y1)]) hX dX2_addPageTo_1 rfl (Nat.le_of_ble_eq_true rfl) rfl rfl ?_
  refine r_iconst (v := (0 : Int32)) (q := 3) hX dX2_addPageTo_2 rfl rfl ?_
  refine r_istore (x := (0 : Int32)) (q := 5) 5 [1, 2, 3, 0] (L1 := [(0, vr a0), (1, vj y1), (3, vj y1), (5, vi (0 : Int32))]) hX dX2_addPageTo_3 (Nat.le_of_ble_eq_true rfl) rfl rfl ?_
  refine r_sub [0, 2, 3] rfl ?_
  refine r_loop (Hd := fun (s1 : Int64 × Int32) (P : Option Res) => Ref mX2_addPageTo X 0 0 Z M 5 [(0, vr a0), (3, vj s1.1), (5, vi s1.2)] [] P) (fun _ => r_none) (fun s1 K1 hn2 hx3 => ?_) (y1, (0 : Int32))
  refine r_iload (i := 5) (x := s1.2) (q := 7) 2 hX dX2_addPageTo_5 rfl rfl ?_
  refine r_aload_n (i := 0) (x := a0) (q := 8) 0 hX dX2_addPageTo_7 rfl rfl rfl ?_
  refine r_ck (fun hc4 => ?_)
  refine r_getI (a := a0) (ci := 2) (kf := 1) (q := 11) hX hc4 flX2_33 rfl rfl dX2_addPageTo_8 rfl ?_
  refine r_icmp_ge (tgt := 33) (q := 14) hX dX2_addPageTo_11 (by decide) rfl (fun hb5 => ?_) (fun hb5 => ?_)
  · refine r_lload_n (i := 3) (x := s1.1) (q := 34) 1 hX dX2_addPageTo_33 rfl rfl rfl ?_
    refine r_lf ((hx3 _).trans (hK _)) ?_
    exact r_lret hM rfl (Nat.le_of_ble_eq_true rfl) (Nat.le_of_ble_eq_true rfl) dX2_addPageTo_34
  · refine r_lload_n (i := 3) (x := s1.1) (q := 15) 1 hX dX2_addPageTo_14 rfl rfl rfl ?_
    refine r_aload_n (i := 0) (x := a0) (q := 16) 0 hX dX2_addPageTo_15 rfl rfl rfl ?_
    refine r_getR (a := a0) (ci := 2) (kf := 0) (q := 19) hX hc4 flX2_11 rfl dX2_addPageTo_16 rfl ?_
    refine r_iload (i := 5) (x := s1.2) (q := 21) 2 hX dX2_addPageTo_19 rfl rfl ?_
    refine r_ck (fun hc6 => ?_)
    refine r_bald (a := (rR M a0 0)) (i := s1.2) (q := 22) hX hc6 dX2_addPageTo_21 rfl ?_
    refine r_i2l (q := 23) hX dX2_addPageTo_22 rfl ?_
    refine r_cs (As := [vj s1.1, vj ((rI M (rR M a0 0) (ix s1.2)).toInt64)]) (st := []) (r := (some (vj (fX11_mix s1.1 ((rI M (rR M a0 0) (ix s1.2)).toInt64))))) (Z1 := Z) (M1 := M) (k1 := 0) (n1 := 0) (st1 := [vj (fX11_mix s1.1 ((rI M (rR M a0 0) (ix s1.2)).toInt64))]) (q := 26) hX (fun l => kX11_mix l Z M s1.1 ((rI M (rR M a0 0) (ix s1.2)).toInt64)) stX11_mix ccX11_mix (Or.inr ⟨_, lkX2_86⟩) rfl rfl rfl ⟨Nat.le_of_ble_eq_true rfl, Nat.le_of_ble_eq_true rfl, rfl, rfl, Nat.le_of_ble_eq_true rfl, Nat.le_of_ble_eq_true rfl⟩ (Nat.le_of_ble_eq_true rfl) dX2_addPageTo_23 rfl ?_
    refine r_lstore_nP (x := (fX11_mix s1.1 ((rI M (rR M a0 0) (ix s1.2)).toInt64))) (q := 27) 3 [1, 0, 3] (fun z7 => [(0, vr a0), (3, vj z7), (5, vi s1.2)]) hX dX2_addPageTo_26 rfl (Nat.le_of_ble_eq_true rfl) (fun _ => rfl) rfl (fun z7 => ?_)
    refine r_iinc (x := s1.2) (v := (s1.2 + (1 : Int32))) (q := 30) 5 2 [1, 2, 0] (L1 := [(0, vr a0), (3, vj z7), (5, vi (s1.2 + (1 : Int32)))]) hX dX2_addPageTo_27 rfl rfl (Nat.le_of_ble_eq_true rfl) rfl rfl ?_
    refine r_goto (q := 5) hX dX2_addPageTo_30 (by decide) ?_
    refine r_l0 ?_
    exact hn2 (z7, (s1.2 + (1 : Int32)))
theorem lkX11_353 : Lk RX11 353 yX3_addTo := gd (hcw5_6 _ (List.mem_of_getElem? (i := 17) rfl)) rfl
theorem lkX11_357 : Lk RX11 357 yX11_sum := gd (hcw5_7 _ (List.mem_of_getElem? (i := 17) rfl)) rfl
theorem lkX11_361 : Lk RX11 361 yX11_mix := gd (hcw5_7 _ (List.mem_of_getElem? (i := 18) rfl)) rfl
theorem lkX11_365 : Lk RX11 365 yX2_addTextsTo := gd (hcw5_7 _ (List.mem_of_getElem? (i := 19) rfl)) rfl
theorem lkX11_368 : Lk RX11 368 yX9_addTo := gd (hcw5_8 _ (List.mem_of_getElem? (i := 4) rfl)) rfl
theorem lkX11_369 : Lk RX11 369 yX0_addTo := gd (hcw5_8 _ (List.mem_of_getElem? (i := 9) rfl)) rfl
theorem lkX11_370 : Lk RX11 370 yX5_addTo := gd (hcw5_8 _ (List.mem_of_getElem? (i := 14) rfl)) rfl
theorem lkX11_371 : Lk RX11 371 yX10_addTo := gd (hcw5_8 _ (List.mem_of_getElem? (i := 19) rfl)) rfl
theorem lkX11_372 : Lk RX11 372 yX2_addPageTo := gd (hcw5_9 _ (List.mem_of_getElem? (i := 4) rfl)) rfl
theorem lkX11_375 : Lk RX11 375 yX11_count := gd (hcw5_9 _ (List.mem_of_getElem? (i := 8) rfl)) rfl
def mX11_digest : MD := (yX11_digest, cX11_digest, 4, (some .long), 4, 94, 0, 0)
theorem ccX11_digest : Cc mX11_digest 0 := ⟨gd (hcw1_0 _ (List.mem_of_getElem? (i := 1) rfl)) rfl, gd (hcw5_6 _ (List.mem_of_getElem? (i := 15) rfl)) rfl, by decide +kernel, by decide +kernel, by decide +kernel⟩
theorem ivX11_digest : Iv mX11_digest 11 := ⟨Nat.le_of_ble_eq_true rfl, rfl, gd (hcw5_6 _ (List.mem_of_getElem? (i := 13) rfl)) rfl, gd (hcw5_6 _ (List.mem_of_getElem? (i := 14) rfl)) rfl⟩
noncomputable def fX11_digest (Z : Shp) (M : Mem) (a0 : Nat) : Option (Int64) := (if tg Z a0 = (12, 6) then (if tg Z (rR M a0 0) = (4, 11) then (Option.bind (fX3_addTo Z M (rR M a0 0) (283 : Int64)) (fun v3 => (Option.bind (loop (fun s8 : Int64 × Int32 => (if (5 : Int32) ≤ s8.2 then some (Sum.inr s8.1) else (Option.bind (fX11_sum Z M a0 s8.2) (fun v12 => (pu ((fX11_mix s8.1 v12)) (fun z14 => some (Sum.inl (z14, (s8.2 + (1 : Int32)))))))))) (v3, (0 : Int32))) (fun v7 : Int64 => (if tg Z (rR M a0 1) = (3, 4) then (Option.bind (fX2_addTextsTo Z M (rR M a0 1) v7) (fun v16 => (if tg Z (rR M a0 2) = (10, 10) then (Option.bind (fX9_addTo Z M (rR M a0 2) v16) (fun v19 => (if tg Z (rR M a0 3) = (1, 9) then (Option.bind (fX0_addTo Z M (rR M a0 3) v19) (fun v22 => (if tg Z (rR M a0 4) = (6, 9) then (Option.bind (fX5_addTo Z M (rR M a0 4) v22) (fun v25 => (if tg Z (rR M a0 5) = (11, 4) then (Option.bind (fX10_addTo Z M (rR M a0 5) v25) (fun v28 => (Option.bind (fX2_addPageTo Z M (rR M a0 1) v28) (fun v30 => (loop (fun s32 : Int64 × Int32 => (if (12 : Int32) ≤ s32.2 then some (Sum.inr s32.1) else (Option.bind (fX11_count Z M a0 s32.2) (fun v36 => (pu ((fX11_mix s32.1 (v36.toInt64))) (fun z38 => some (Sum.inl (z38, (s32.2 + (1 : Int32)))))))))) (v30, (0 : Int32))))))) else none))) else none))) else none))) else none))) else none))))) else none) else none)
set_option maxRecDepth 20000 in
theorem kX11_digest (l : Launch) (Z : Shp) (M : Mem) (a0 : Nat) (r : Int64) (h : fX11_digest Z M a0 = some r) : Ct l mX11_digest [vr a0] Z M ((some (vj r)), Z, M) := by
  refine Ct.of rfl (Nat.le_of_ble_eq_true rfl) (fun X hM => ?_)
  have hX := hM.1
  refine r_top (mk := fun r => ((some (vj r)), Z, M)) h (fun K hK => ?_)
  unfold fX11_digest
  refine r_aload_n (i := 0) (x := a0) (q := 1) 0 hX dX11_digest_0 rfl rfl rfl ?_
  refine r_ck (fun hc1 => ?_)
  refine r_getR (a := a0) (ci := 11) (kf := 0) (q := 4) hX hc1 flX11_12 rfl dX11_digest_1 rfl ?_
  refine r_ldc2 (v := (283 : Int64)) (q := 7) hX dX11_digest_4 (gd (hcw5_6 _ (List.mem_of_getElem? (i := 16) rfl)) rfl) rfl ?_
  refine r_ck (fun hc2 => ?_)
  refine r_bind (fun v3 h4 => ?_)
  refine r_cv (a := (rR M a0 0)) (As := [vj (283 : Int64)]) (st := []) (r := (some (vj v3))) (Z1 := Z) (M1 := M) (k1 := 0) (n1 := 0) (st1 := [vj v3]) (q := 10) hX (fun l => kX3_addTo l Z M (rR M a0 0) (283 : Int64) v3 h4) hc2 ivX3_addTo ccX3_addTo (Or.inl lkX11_353) rfl rfl rfl ⟨Nat.le_of_ble_eq_true rfl, Nat.le_of_ble_eq_true rfl, rfl, rfl, Nat.le_of_ble_eq_true rfl, Nat.le_of_ble_eq_true rfl⟩ (Nat.le_of_ble_eq_true rfl) dX11_digest_7 rfl ?_
  refine r_lstore_n (x := v3) (q := 11) 1 [1, 0] (L1 := [(0, vr a0), (1, vj v3)]) hX dX11_digest_10 rfl (Nat.le_of_ble_eq_true rfl) rfl rfl ?_
  refine r_iconst (v := (0 : Int32)) (q := 12) hX dX11_digest_11 rfl rfl ?_
  refine r_istore_n (x := (0 : Int32)) (q := 13) 3 [1, 2, 0] (L1 := [(0, vr a0), (1, vj v3), (3, vi (0 : Int32))]) hX dX11_digest_12 rfl (Nat.le_of_ble_eq_true rfl) rfl rfl ?_
  refine r_jn (J := fun (v7 : Int64) (P : Option Res) => Ref mX11_digest X 0 0 Z M 34 [(0, vr a0), (1, vj v7)] [] P) (fun v7 => ?_) (fun K1 hj5 => ?_)
  · refine r_aload_n (i := 0) (x := a0) (q := 35) 0 hX dX11_digest_34 rfl rfl rfl ?_
    refine r_getR (a := a0) (ci := 11) (kf := 1) (q := 38) hX hc1 flX11_19 rfl dX11_digest_35 rfl ?_
    refine r_lload_n (i := 1) (x := v7) (q := 39) 1 hX dX11_digest_38 rfl rfl rfl ?_
    refine r_ck (fun hc15 => ?_)
    refine r_bind (fun v16 h17 => ?_)
    refine r_cv (a := (rR M a0 1)) (As := [vj v7]) (st := []) (r := (some (vj v16))) (Z1 := Z) (M1 := M) (k1 := 0) (n1 := 0) (st1 := [vj v16]) (q := 42) hX (fun l => kX2_addTextsTo l Z M (rR M a0 1) v7 v16 h17) hc15 ivX2_addTextsTo ccX2_addTextsTo (Or.inl lkX11_365) rfl rfl rfl ⟨Nat.le_of_ble_eq_true rfl, Nat.le_of_ble_eq_true rfl, rfl, rfl, Nat.le_of_ble_eq_true rfl, Nat.le_of_ble_eq_true rfl⟩ (Nat.le_of_ble_eq_true rfl) dX11_digest_39 rfl ?_
    refine r_lstore_n (x := v16) (q := 43) 1 [1, 0] (L1 := [(0, vr a0), (1, vj v16)]) hX dX11_digest_42 rfl (Nat.le_of_ble_eq_true rfl) rfl rfl ?_
    refine r_aload_n (i := 0) (x := a0) (q := 44) 0 hX dX11_digest_43 rfl rfl rfl ?_
    refine r_getR (a := a0) (ci := 11) (kf := 2) (q := 47) hX hc1 flX11_26 rfl dX11_digest_44 rfl ?_
    refine r_lload_n (i := 1) (x := v16) (q := 48) 1 hX dX11_digest_47 rfl rfl rfl ?_
    refine r_ck (fun hc18 => ?_)
    refine r_bind (fun v19 h20 => ?_)
    refine r_cv (a := (rR M a0 2)) (As := [vj v16]) (st := []) (r := (some (vj v19))) (Z1 := Z) (M1 := M) (k1 := 0) (n1 := 0) (st1 := [vj v19]) (q := 51) hX (fun l => kX9_addTo l Z M (rR M a0 2) v16 v19 h20) hc18 ivX9_addTo ccX9_addTo (Or.inl lkX11_368) rfl rfl rfl ⟨Nat.le_of_ble_eq_true rfl, Nat.le_of_ble_eq_true rfl, rfl, rfl, Nat.le_of_ble_eq_true rfl, Nat.le_of_ble_eq_true rfl⟩ (Nat.le_of_ble_eq_true rfl) dX11_digest_48 rfl ?_
    refine r_lstore_n (x := v19) (q := 52) 1 [1, 0] (L1 := [(0, vr a0), (1, vj v19)]) hX dX11_digest_51 rfl (Nat.le_of_ble_eq_true rfl) rfl rfl ?_
    refine r_aload_n (i := 0) (x := a0) (q := 53) 0 hX dX11_digest_52 rfl rfl rfl ?_
    refine r_getR (a := a0) (ci := 11) (kf := 3) (q := 56) hX hc1 flX11_33 rfl dX11_digest_53 rfl ?_
    refine r_lload_n (i := 1) (x := v19) (q := 57) 1 hX dX11_digest_56 rfl rfl rfl ?_
    refine r_ck (fun hc21 => ?_)
    refine r_bind (fun v22 h23 => ?_)
    refine r_cv (a := (rR M a0 3)) (As := [vj v19]) (st := []) (r := (some (vj v22))) (Z1 := Z) (M1 := M) (k1 := 0) (n1 := 0) (st1 := [vj v22]) (q := 60) hX (fun l => kX0_addTo l Z M (rR M a0 3) v19 v22 h23) hc21 ivX0_addTo ccX0_addTo (Or.inl lkX11_369) rfl rfl rfl ⟨Nat.le_of_ble_eq_true rfl, Nat.le_of_ble_eq_true rfl, rfl, rfl, Nat.le_of_ble_eq_true rfl, Nat.le_of_ble_eq_true rfl⟩ (Nat.le_of_ble_eq_true rfl) dX11_digest_57 rfl ?_
    refine r_lstore_n (x := v22) (q := 61) 1 [1, 0] (L1 := [(0, vr a0), (1, vj v22)]) hX dX11_digest_60 rfl (Nat.le_of_ble_eq_true rfl) rfl rfl ?_
    refine r_aload_n (i := 0) (x := a0) (q := 62) 0 hX dX11_digest_61 rfl rfl rfl ?_
    refine r_getR (a := a0) (ci := 11) (kf := 4) (q := 65) hX hc1 flX11_40 rfl dX11_digest_62 rfl ?_
    refine r_lload_n (i := 1) (x := v22) (q := 66) 1 hX dX11_digest_65 rfl rfl rfl ?_
    refine r_ck (fun hc24 => ?_)
    refine r_bind (fun v25 h26 => ?_)
    refine r_cv (a := (rR M a0 4)) (As := [vj v22]) (st := []) (r := (some (vj v25))) (Z1 := Z) (M1 := M) (k1 := 0) (n1 := 0) (st1 := [vj v25]) (q := 69) hX (fun l => kX5_addTo l Z M (rR M a0 4) v22 v25 h26) hc24 ivX5_addTo ccX5_addTo (Or.inl lkX11_370) rfl rfl rfl ⟨Nat.le_of_ble_eq_true rfl, Nat.le_of_ble_eq_true rfl, rfl, rfl, Nat.le_of_ble_eq_true rfl, Nat.le_of_ble_eq_true rfl⟩ (Nat.le_of_ble_eq_true rfl) dX11_digest_66 rfl ?_
    refine r_lstore_n (x := v25) (q := 70) 1 [1, 0] (L1 := [(0, vr a0), (1, vj v25)]) hX dX11_digest_69 rfl (Nat.le_of_ble_eq_true rfl) rfl rfl ?_
    refine r_aload_n (i := 0) (x := a0) (q := 71) 0 hX dX11_digest_70 rfl rfl rfl ?_
    refine r_getR (a := a0) (ci := 11) (kf := 5) (q := 74) hX hc1 flX11_47 rfl dX11_digest_71 rfl ?_
    refine r_lload_n (i := 1) (x := v25) (q := 75) 1 hX dX11_digest_74 rfl rfl rfl ?_
    refine r_ck (fun hc27 => ?_)
    refine r_bind (fun v28 h29 => ?_)
    refine r_cv (a := (rR M a0 5)) (As := [vj v25]) (st := []) (r := (some (vj v28))) (Z1 := Z) (M1 := M) (k1 := 0) (n1 := 0) (st1 := [vj v28]) (q := 78) hX (fun l => kX10_addTo l Z M (rR M a0 5) v25 v28 h29) hc27 ivX10_addTo ccX10_addTo (Or.inl lkX11_371) rfl rfl rfl ⟨Nat.le_of_ble_eq_true rfl, Nat.le_of_ble_eq_true rfl, rfl, rfl, Nat.le_of_ble_eq_true rfl, Nat.le_of_ble_eq_true rfl⟩ (Nat.le_of_ble_eq_true rfl) dX11_digest_75 rfl ?_
    refine r_lstore_n (x := v28) (q := 79) 1 [1, 0] (L1 := [(0, vr a0), (1, vj v28)]) hX dX11_digest_78 rfl (Nat.le_of_ble_eq_true rfl) rfl rfl ?_
    refine r_aload_n (i := 0) (x := a0) (q := 80) 0 hX dX11_digest_79 rfl rfl rfl ?_
    refine r_getR (a := a0) (ci := 11) (kf := 1) (q := 83) hX hc1 flX11_19 rfl dX11_digest_80 rfl ?_
    refine r_lload_n (i := 1) (x := v28) (q := 84) 1 hX dX11_digest_83 rfl rfl rfl ?_
    refine r_bind (fun v30 h31 => ?_)
    refine r_cv (a := (rR M a0 1)) (As := [vj v28]) (st := []) (r := (some (vj v30))) (Z1 := Z) (M1 := M) (k1 := 0) (n1 := 0) (st1 := [vj v30]) (q := 87) hX (fun l => kX2_addPageTo l Z M (rR M a0 1) v28 v30 h31) hc15 ivX2_addPageTo ccX2_addPageTo (Or.inl lkX11_372) rfl rfl rfl ⟨Nat.le_of_ble_eq_true rfl, Nat.le_of_ble_eq_true rfl, rfl, rfl, Nat.le_of_ble_eq_true rfl, Nat.le_of_ble_eq_true rfl⟩ (Nat.le_of_ble_eq_true rfl) dX11_digest_84 rfl ?_
    refine r_lstore_n (x := v30) (q := 88) 1 [1, 0] (L1 := [(0, vr a0), (1, vj v30)]) hX dX11_digest_87 rfl (Nat.le_of_ble_eq_true rfl) rfl rfl ?_
    refine r_iconst (v := (0 : Int32)) (q := 89) hX dX11_digest_88 rfl rfl ?_
    refine r_istore_n (x := (0 : Int32)) (q := 90) 3 [1, 2, 0] (L1 := [(0, vr a0), (1, vj v30), (3, vi (0 : Int32))]) hX dX11_digest_89 rfl (Nat.le_of_ble_eq_true rfl) rfl rfl ?_
    refine r_loop (Hd := fun (s32 : Int64 × Int32) (P : Option Res) => Ref mX11_digest X 0 0 Z M 90 [(0, vr a0), (1, vj s32.1), (3, vi s32.2)] [] P) (fun _ => r_none) (fun s32 K1 hn33 hx34 => ?_) (v30, (0 : Int32))
    refine r_iload_n (i := 3) (x := s32.2) (q := 91) 2 hX dX11_digest_90 rfl rfl rfl ?_
    refine r_bipush (v := (12 : Int32)) (q := 93) hX dX11_digest_91 rfl rfl ?_
    refine r_icmp_ge (tgt := 113) (q := 96) hX dX11_digest_93 (by decide) rfl (fun hb35 => ?_) (fun hb35 => ?_)
    · refine r_lload_n (i := 1) (x := s32.1) (q := 114) 1 hX dX11_digest_113 rfl rfl rfl ?_
      refine r_lf ((hx34 _).trans (hK _)) ?_
      exact r_lret hM rfl (Nat.le_of_ble_eq_true rfl) (Nat.le_of_ble_eq_true rfl) dX11_digest_114
    · refine r_lload_n (i := 1) (x := s32.1) (q := 97) 1 hX dX11_digest_96 rfl rfl rfl ?_
      refine r_aload_n (i := 0) (x := a0) (q := 98) 0 hX dX11_digest_97 rfl rfl rfl ?_
      refine r_iload_n (i := 3) (x := s32.2) (q := 99) 2 hX dX11_digest_98 rfl rfl rfl ?_
      refine r_bind (fun v36 h37 => ?_)
      refine r_cv (a := a0) (As := [vi s32.2]) (st := [vj s32.1]) (r := (some (vi v36))) (Z1 := Z) (M1 := M) (k1 := 0) (n1 := 0) (st1 := [vi v36, vj s32.1]) (q := 102) hX (fun l => kX11_count l Z M a0 s32.2 v36 h37) hc1 ivX11_count ccX11_count (Or.inl lkX11_375) rfl rfl rfl ⟨Nat.le_of_ble_eq_true rfl, Nat.le_of_ble_eq_true rfl, rfl, rfl, Nat.le_of_ble_eq_true rfl, Nat.le_of_ble_eq_true rfl⟩ (Nat.le_of_ble_eq_true rfl) dX11_digest_99 rfl ?_
      refine r_i2l (q := 103) hX dX11_digest_102 rfl ?_
      refine r_cs (As := [vj s32.1, vj (v36.toInt64)]) (st := []) (r := (some (vj (fX11_mix s32.1 (v36.toInt64))))) (Z1 := Z) (M1 := M) (k1 := 0) (n1 := 0) (st1 := [vj (fX11_mix s32.1 (v36.toInt64))]) (q := 106) hX (fun l => kX11_mix l Z M s32.1 (v36.toInt64)) stX11_mix ccX11_mix (Or.inl lkX11_361) rfl rfl rfl ⟨Nat.le_of_ble_eq_true rfl, Nat.le_of_ble_eq_true rfl, rfl, rfl, Nat.le_of_ble_eq_true rfl, Nat.le_of_ble_eq_true rfl⟩ (Nat.le_of_ble_eq_true rfl) dX11_digest_103 rfl ?_
      refine r_lstore_nP (x := (fX11_mix s32.1 (v36.toInt64))) (q := 107) 1 [1, 0, 3] (fun z38 => [(0, vr a0), (1, vj z38), (3, vi s32.2)]) hX dX11_digest_106 rfl (Nat.le_of_ble_eq_true rfl) (fun _ => rfl) rfl (fun z38 => ?_)
      refine r_iinc (x := s32.2) (v := (s32.2 + (1 : Int32))) (q := 110) 3 2 [1, 2, 0] (L1 := [(0, vr a0), (1, vj z38), (3, vi (s32.2 + (1 : Int32)))]) hX dX11_digest_107 rfl rfl (Nat.le_of_ble_eq_true rfl) rfl rfl ?_
      refine r_goto (q := 90) hX dX11_digest_110 (by decide) ?_
      refine r_l0 ?_
      exact hn33 (z38, (s32.2 + (1 : Int32)))
  · refine r_loop (Hd := fun (s8 : Int64 × Int32) (P : Option Res) => Ref mX11_digest X 0 0 Z M 13 [(0, vr a0), (1, vj s8.1), (3, vi s8.2)] [] P) (fun _ => r_none) (fun s8 K1 hn9 hx10 => ?_) (v3, (0 : Int32))
    refine r_iload_n (i := 3) (x := s8.2) (q := 14) 2 hX dX11_digest_13 rfl rfl rfl ?_
    refine r_iconst (v := (5 : Int32)) (q := 15) hX dX11_digest_14 rfl rfl ?_
    refine r_icmp_ge (tgt := 34) (q := 18) hX dX11_digest_15 (by decide) rfl (fun hb11 => ?_) (fun hb11 => ?_)
    · refine r_lf (hx10 _) ?_
      refine r_sub [0, 1] rfl ?_
      exact hj5 s8.1
    · refine r_lload_n (i := 1) (x := s8.1) (q := 19) 1 hX dX11_digest_18 rfl rfl rfl ?_
      refine r_aload_n (i := 0) (x := a0) (q := 20) 0 hX dX11_digest_19 rfl rfl rfl ?_
      refine r_iload_n (i := 3) (x := s8.2) (q := 21) 2 hX dX11_digest_20 rfl rfl rfl ?_
      refine r_bind (fun v12 h13 => ?_)
      refine r_cv (a := a0) (As := [vi s8.2]) (st := [vj s8.1]) (r := (some (vj v12))) (Z1 := Z) (M1 := M) (k1 := 0) (n1 := 0) (st1 := [vj v12, vj s8.1]) (q := 24) hX (fun l => kX11_sum l Z M a0 s8.2 v12 h13) hc1 ivX11_sum ccX11_sum (Or.inl lkX11_357) rfl rfl rfl ⟨Nat.le_of_ble_eq_true rfl, Nat.le_of_ble_eq_true rfl, rfl, rfl, Nat.le_of_ble_eq_true rfl, Nat.le_of_ble_eq_true rfl⟩ (Nat.le_of_ble_eq_true rfl) dX11_digest_21 rfl ?_
      refine r_cs (As := [vj s8.1, vj v12]) (st := []) (r := (some (vj (fX11_mix s8.1 v12)))) (Z1 := Z) (M1 := M) (k1 := 0) (n1 := 0) (st1 := [vj (fX11_mix s8.1 v12)]) (q := 27) hX (fun l => kX11_mix l Z M s8.1 v12) stX11_mix ccX11_mix (Or.inl lkX11_361) rfl rfl rfl ⟨Nat.le_of_ble_eq_true rfl, Nat.le_of_ble_eq_true rfl, rfl, rfl, Nat.le_of_ble_eq_true rfl, Nat.le_of_ble_eq_true rfl⟩ (Nat.le_of_ble_eq_true rfl) dX11_digest_24 rfl ?_
      refine r_lstore_nP (x := (fX11_mix s8.1 v12)) (q := 28) 1 [1, 0, 3] (fun z14 => [(0, vr a0), (1, vj z14), (3, vi s8.2)]) hX dX11_digest_27 rfl (Nat.le_of_ble_eq_true rfl) (fun _ => rfl) rfl (fun z14 => ?_)
      refine r_iinc (x := s8.2) (v := (s8.2 + (1 : Int32))) (q := 31) 3 2 [1, 2, 0] (L1 := [(0, vr a0), (1, vj z14), (3, vi (s8.2 + (1 : Int32)))]) hX dX11_digest_28 rfl rfl (Nat.le_of_ble_eq_true rfl) rfl rfl ?_
      refine r_goto (q := 13) hX dX11_digest_31 (by decide) ?_
      refine r_l0 ?_
      exact hn9 (z14, (s8.2 + (1 : Int32)))
def mX5_allShares : MD := (yX5_allShares, cX5_allShares, 3, (some .int), 0, 0, 0, 0)
theorem ccX5_allShares : Cc mX5_allShares 0 := ⟨gd (hcw1_0 _ (List.mem_of_getElem? (i := 8) rfl)) rfl, gd (hcw5_2 _ (List.mem_of_getElem? (i := 17) rfl)) rfl, by decide +kernel, by decide +kernel, by decide +kernel⟩
theorem ivX5_allShares : Iv mX5_allShares 5 := ⟨Nat.le_of_ble_eq_true rfl, rfl, gd (hcw5_2 _ (List.mem_of_getElem? (i := 15) rfl)) rfl, gd (hcw5_2 _ (List.mem_of_getElem? (i := 16) rfl)) rfl⟩
noncomputable def fX5_allShares (Z : Shp) (M : Mem) (a0 : Nat) : Option (Int32) := (loop (fun s1 : Int32 × Int32 => (if (6 : Int32) ≤ s1.2 then some (Sum.inr s1.1) else (if tg Z a0 = (6, 9) then (if aok Z (rR M a0 2) 100 s1.2 then (pu ((s1.1 + (rI M (rR M a0 2) (ix s1.2)))) (fun z7 => some (Sum.inl (z7, (s1.2 + (1 : Int32)))))) else none) else none))) ((0 : Int32), (0 : Int32)))
set_option maxRecDepth 20000 in
theorem kX5_allShares (l : Launch) (Z : Shp) (M : Mem) (a0 : Nat) (r : Int32) (h : fX5_allShares Z M a0 = some r) : Ct l mX5_allShares [vr a0] Z M ((some (vi r)), Z, M) := by
  refine Ct.of rfl (Nat.le_of_ble_eq_true rfl) (fun X hM => ?_)
  have hX := hM.1
  refine r_top (mk := fun r => ((some (vi r)), Z, M)) h (fun K hK => ?_)
  unfold fX5_allShares
  refine r_iconst (v := (0 : Int32)) (q := 1) hX dX5_allShares_0 rfl rfl ?_
  refine r_istore_n (x := (0 : Int32)) (q := 2) 1 [1, 0] (L1 := [(0, vr a0), (1, vi (0 : Int32))]) hX dX5_allShares_1 rfl (Nat.le_of_ble_eq_true rfl) rfl rfl ?_
  refine r_iconst (v := (0 : Int32)) (q := 3) hX dX5_allShares_2 rfl rfl ?_
  refine r_istore_n (x := (0 : Int32)) (q := 4) 2 [1, 2, 0] (L1 := [(0, vr a0), (1, vi (0 : Int32)), (2, vi (0 : Int32))]) hX dX5_allShares_3 rfl (Nat.le_of_ble_eq_true rfl) rfl rfl ?_
  refine r_loop (Hd := fun (s1 : Int32 × Int32) (P : Option Res) => Ref mX5_allShares X 0 0 Z M 4 [(0, vr a0), (1, vi s1.1), (2, vi s1.2)] [] P) (fun _ => r_none) (fun s1 K1 hn2 hx3 => ?_) ((0 : Int32), (0 : Int32))
  refine r_iload_n (i := 2) (x := s1.2) (q := 5) 2 hX dX5_allShares_4 rfl rfl rfl ?_
  refine r_bipush (v := (6 : Int32)) (q := 7) hX dX5_allShares_5 rfl rfl ?_
  refine r_icmp_ge (tgt := 25) (q := 10) hX dX5_allShares_7 (by decide) rfl (fun hb4 => ?_) (fun hb4 => ?_)
  · refine r_iload_n (i := 1) (x := s1.1) (q := 26) 1 hX dX5_allShares_25 rfl rfl rfl ?_
    refine r_lf ((hx3 _).trans (hK _)) ?_
    exact r_iret hM rfl (Nat.le_of_ble_eq_true rfl) (Nat.le_of_ble_eq_true rfl) dX5_allShares_26
  · refine r_iload_n (i := 1) (x := s1.1) (q := 11) 1 hX dX5_allShares_10 rfl rfl rfl ?_
    refine r_aload_n (i := 0) (x := a0) (q := 12) 0 hX dX5_allShares_11 rfl rfl rfl ?_
    refine r_ck (fun hc5 => ?_)
    refine r_getR (a := a0) (ci := 5) (kf := 2) (q := 15) hX hc5 flX5_18 rfl dX5_allShares_12 rfl ?_
    refine r_iload_n (i := 2) (x := s1.2) (q := 16) 2 hX dX5_allShares_15 rfl rfl rfl ?_
    refine r_ck (fun hc6 => ?_)
    refine r_iald (a := (rR M a0 2)) (i := s1.2) (q := 17) hX hc6 dX5_allShares_16 rfl ?_
    refine r_iadd (q := 18) hX dX5_allShares_17 rfl ?_
    refine r_istore_nP (x := (s1.1 + (rI M (rR M a0 2) (ix s1.2)))) (q := 19) 1 [1, 0, 3] (fun z7 => [(0, vr a0), (1, vi z7), (2, vi s1.2)]) hX dX5_allShares_18 rfl (Nat.le_of_ble_eq_true rfl) (fun _ => rfl) rfl (fun z7 => ?_)
    refine r_iinc (x := s1.2) (v := (s1.2 + (1 : Int32))) (q := 22) 2 2 [1, 2, 0] (L1 := [(0, vr a0), (1, vi z7), (2, vi (s1.2 + (1 : Int32)))]) hX dX5_allShares_19 rfl rfl (Nat.le_of_ble_eq_true rfl) rfl rfl ?_
    refine r_goto (q := 4) hX dX5_allShares_22 (by decide) ?_
    refine r_l0 ?_
    exact hn2 (z7, (s1.2 + (1 : Int32)))
def mX5_partOf : MD := (yX5_partOf, cX5_partOf, 13, (some .int), 1, 24, 0, 0)
theorem ccX5_partOf : Cc mX5_partOf 4 := ⟨gd (hcw1_0 _ (List.mem_of_getElem? (i := 8) rfl)) rfl, gd (hcw5_3 _ (List.mem_of_getElem? (i := 1) rfl)) rfl, by decide +kernel, by decide +kernel, by decide +kernel⟩
theorem ivX5_partOf : Iv mX5_partOf 5 := ⟨Nat.le_of_ble_eq_true rfl, rfl, gd (hcw5_2 _ (List.mem_of_getElem? (i := 19) rfl)) rfl, gd (hcw5_3 _ (List.mem_of_getElem? (i := 0) rfl)) rfl⟩
noncomputable def fX5_partOf (Z : Shp) (M : Mem) (a0 : Nat) (x1 : Int32) (x2 : Int32) (x3 : Int32) (x4 : Int32) : Option (Int32) := (if 0 < x4 then (if tg Z a0 = (6, 9) then (Option.bind (fX5_held Z M a0 x1 x3) (fun v3 => (pu (((x2.toInt64) * (v3.toInt64))) (fun z5 => (pu ((x2.toInt64)) (fun z6 => (Option.bind (loop (fun s10 : Int64 × Int32 × Int32 => (if (6 : Int32) ≤ s10.2.2 then some (Sum.inr (s10.1, s10.2.1)) else (Option.bind (fX5_held Z M a0 s10.2.2 x3) (fun v14 => (pu (((x2.toInt64) * (v14.toInt64))) (fun z16 => (if ¬ (x4.toInt64) = 0 then (pu ((s10.1 - (z16 / (x4.toInt64)))) (fun z18 => (if 0 < (lg_cmp (z16 - z16 / (x4.toInt64) * (x4.toInt64)) (z5 - z5 / (x4.toInt64) * (x4.toInt64))) then some (Sum.inl (z18, (s10.2.1 + (1 : Int32)), (s10.2.2 + (1 : Int32)))) else (if (lg_cmp (z16 - z16 / (x4.toInt64) * (x4.toInt64)) (z5 - z5 / (x4.toInt64) * (x4.toInt64))) = 0 then (if x1 ≤ s10.2.2 then some (Sum.inl (z18, s10.2.1, (s10.2.2 + (1 : Int32)))) else some (Sum.inl (z18, (s10.2.1 + (1 : Int32)), (s10.2.2 + (1 : Int32))))) else some (Sum.inl (z18, s10.2.1, (s10.2.2 + (1 : Int32)))))))) else none))))))) (z6, (0 : Int32), (0 : Int32))) (fun v9 : Int64 × Int32 => (if ¬ (x4.toInt64) = 0 then (if 0 ≤ (lg_cmp (v9.2.toInt64) v9.1) then some (((z5 / (x4.toInt64)).toInt32) + (0 : Int32)) else some (((z5 / (x4.toInt64)).toInt32) + (1 : Int32))) else none))))))))) else none) else some (0 : Int32))
set_option maxRecDepth 20000 in
theorem kX5_partOf (l : Launch) (Z : Shp) (M : Mem) (a0 : Nat) (x1 : Int32) (x2 : Int32) (x3 : Int32) (x4 : Int32) (r : Int32) (h : fX5_partOf Z M a0 x1 x2 x3 x4 = some r) : Ct l mX5_partOf [vr a0, vi x1, vi x2, vi x3, vi x4] Z M ((some (vi r)), Z, M) := by
  refine Ct.of rfl (Nat.le_of_ble_eq_true rfl) (fun X hM => ?_)
  have hX := hM.1
  refine r_top (mk := fun r => ((some (vi r)), Z, M)) h (fun K hK => ?_)
  unfold fX5_partOf
  refine r_iload (i := 4) (x := x4) (q := 2) 4 hX dX5_partOf_0 rfl rfl ?_
  refine r_if_gt (tgt := 7) (q := 5) hX dX5_partOf_2 (by decide) rfl (fun hb1 => ?_) (fun hb1 => ?_)
  · refine r_iload_n (i := 2) (x := x2) (q := 8) 2 hX dX5_partOf_7 rfl rfl rfl ?_
    refine r_i2l (q := 9) hX dX5_partOf_8 rfl ?_
    refine r_aload_n (i := 0) (x := a0) (q := 10) 0 hX dX5_partOf_9 rfl rfl rfl ?_
    refine r_iload_n (i := 1) (x := x1) (q := 11) 1 hX dX5_partOf_10 rfl rfl rfl ?_
    refine r_iload_n (i := 3) (x := x3) (q := 12) 3 hX dX5_partOf_11 rfl rfl rfl ?_
    refine r_ck (fun hc2 => ?_)
    refine r_bind (fun v3 h4 => ?_)
    refine r_cv (a := a0) (As := [vi x1, vi x3]) (st := [vj (x2.toInt64)]) (r := (some (vi v3))) (Z1 := Z) (M1 := M) (k1 := 0) (n1 := 0) (st1 := [vi v3, vj (x2.toInt64)]) (q := 15) hX (fun l => kX5_held l Z M a0 x1 x3 v3 h4) hc2 ivX5_held ccX5_held (Or.inl lkX5_57) rfl rfl rfl ⟨Nat.le_of_ble_eq_true rfl, Nat.le_of_ble_eq_true rfl, rfl, rfl, Nat.le_of_ble_eq_true rfl, Nat.le_of_ble_eq_true rfl⟩ (Nat.le_of_ble_eq_true rfl) dX5_partOf_12 rfl ?_
    refine r_i2l (q := 16) hX dX5_partOf_15 rfl ?_
    refine r_lmul (q := 17) hX dX5_partOf_16 rfl ?_
    refine r_lstoreP (x := ((x2.toInt64) * (v3.toInt64))) (q := 19) 5 [1, 2, 3, 4, 5, 0] (fun z5 => [(0, vr a0), (1, vi x1), (2, vi x2), (3, vi x3), (4, vi x4), (5, vj z5)]) hX dX5_partOf_17 (Nat.le_of_ble_eq_true rfl) (fun _ => rfl) rfl (fun z5 => ?_)
    refine r_iload_n (i := 2) (x := x2) (q := 20) 2 hX dX5_partOf_19 rfl rfl rfl ?_
    refine r_i2l (q := 21) hX dX5_partOf_20 rfl ?_
    refine r_lstoreP (x := (x2.toInt64)) (q := 23) 7 [1, 2, 3, 4, 5, 6, 0] (fun z6 => [(0, vr a0), (1, vi x1), (2, vi x2), (3, vi x3), (4, vi x4), (5, vj z5), (7, vj z6)]) hX dX5_partOf_21 (Nat.le_of_ble_eq_true rfl) (fun _ => rfl) rfl (fun z6 => ?_)
    refine r_iconst (v := (0 : Int32)) (q := 24) hX dX5_partOf_23 rfl rfl ?_
    refine r_istore (x := (0 : Int32)) (q := 26) 9 [1, 2, 3, 4, 5, 6, 7, 0] (L1 := [(0, vr a0), (1, vi x1), (2, vi x2), (3, vi x3), (4, vi x4), (5, vj z5), (7, vj z6), (9, vi (0 : Int32))]) hX dX5_partOf_24 (Nat.le_of_ble_eq_true rfl) rfl rfl ?_
    refine r_iconst (v := (0 : Int32)) (q := 27) hX dX5_partOf_26 rfl rfl ?_
    refine r_istore (x := (0 : Int32)) (q := 29) 10 [1, 2, 3, 4, 5, 6, 7, 8, 0] (L1 := [(0, vr a0), (1, vi x1), (2, vi x2), (3, vi x3), (4, vi x4), (5, vj z5), (7, vj z6), (9, vi (0 : Int32)), (10, vi (0 : Int32))]) hX dX5_partOf_27 (Nat.le_of_ble_eq_true rfl) rfl rfl ?_
    refine r_jn (J := fun (v9 : Int64 × Int32) (P : Option Res) => Ref mX5_partOf X 0 0 Z M 107 [(4, vi x4), (5, vj z5), (7, vj v9.1), (9, vi v9.2)] [] P) (fun v9 => ?_) (fun K1 hj7 => ?_)
    · refine r_lload (i := 5) (x := z5) (q := 109) 1 hX dX5_partOf_107 rfl rfl ?_
      refine r_iload (i := 4) (x := x4) (q := 111) 0 hX dX5_partOf_109 rfl rfl ?_
      refine r_i2l (q := 112) hX dX5_partOf_111 rfl ?_
      refine r_ck (fun hd22 => ?_)
      refine r_ldiv (q := 113) hX dX5_partOf_112 hd22 rfl ?_
      refine r_l2i (q := 114) hX dX5_partOf_113 rfl ?_
      refine r_iload (i := 9) (x := v9.2) (q := 116) 3 hX dX5_partOf_114 rfl rfl ?_
      refine r_i2l (q := 117) hX dX5_partOf_116 rfl ?_
      refine r_lload (i := 7) (x := v9.1) (q := 119) 2 hX dX5_partOf_117 rfl rfl ?_
      refine r_lcmp (q := 120) hX dX5_partOf_119 rfl ?_
      refine r_if_ge (tgt := 127) (q := 123) hX dX5_partOf_120 (by decide) rfl (fun hb23 => ?_) (fun hb23 => ?_)
      · refine r_iconst (v := (0 : Int32)) (q := 128) hX dX5_partOf_127 rfl rfl ?_
        refine r_iadd (q := 129) hX dX5_partOf_128 rfl ?_
        refine r_lf (hK _) ?_
        exact r_iret hM rfl (Nat.le_of_ble_eq_true rfl) (Nat.le_of_ble_eq_true rfl) dX5_partOf_129
      · refine r_iconst (v := (1 : Int32)) (q := 124) hX dX5_partOf_123 rfl rfl ?_
        refine r_goto (q := 128) hX dX5_partOf_124 (by decide) ?_
        refine r_iadd (q := 129) hX dX5_partOf_128 rfl ?_
        refine r_lf (hK _) ?_
        exact r_iret hM rfl (Nat.le_of_ble_eq_true rfl) (Nat.le_of_ble_eq_true rfl) dX5_partOf_129
    · refine r_loop (Hd := fun (s10 : Int64 × Int32 × Int32) (P : Option Res) => Ref mX5_partOf X 0 0 Z M 29 [(0, vr a0), (1, vi x1), (2, vi x2), (3, vi x3), (4, vi x4), (5, vj z5), (7, vj s10.1), (9, vi s10.2.1), (10, vi s10.2.2)] [] P) (fun _ => r_none) (fun s10 K1 hn11 hx12 => ?_) (z6, (0 : Int32), (0 : Int32))
      refine r_iload (i := 10) (x := s10.2.2) (q := 31) 8 hX dX5_partOf_29 rfl rfl ?_
      refine r_bipush (v := (6 : Int32)) (q := 33) hX dX5_partOf_31 rfl rfl ?_
      refine r_icmp_ge (tgt := 107) (q := 36) hX dX5_partOf_33 (by decide) rfl (fun hb13 => ?_) (fun hb13 => ?_)
      · refine r_lf (hx12 _) ?_
        refine r_sub [4, 5, 6, 7] rfl ?_
        exact hj7 (s10.1, s10.2.1)
      · refine r_iload_n (i := 2) (x := x2) (q := 37) 2 hX dX5_partOf_36 rfl rfl rfl ?_
        refine r_i2l (q := 38) hX dX5_partOf_37 rfl ?_
        refine r_aload_n (i := 0) (x := a0) (q := 39) 0 hX dX5_partOf_38 rfl rfl rfl ?_
        refine r_iload (i := 10) (x := s10.2.2) (q := 41) 8 hX dX5_partOf_39 rfl rfl ?_
        refine r_iload_n (i := 3) (x := x3) (q := 42) 3 hX dX5_partOf_41 rfl rfl rfl ?_
        refine r_bind (fun v14 h15 => ?_)
        refine r_cv (a := a0) (As := [vi s10.2.2, vi x3]) (st := [vj (x2.toInt64)]) (r := (some (vi v14))) (Z1 := Z) (M1 := M) (k1 := 0) (n1 := 0) (st1 := [vi v14, vj (x2.toInt64)]) (q := 45) hX (fun l => kX5_held l Z M a0 s10.2.2 x3 v14 h15) hc2 ivX5_held ccX5_held (Or.inl lkX5_57) rfl rfl rfl ⟨Nat.le_of_ble_eq_true rfl, Nat.le_of_ble_eq_true rfl, rfl, rfl, Nat.le_of_ble_eq_true rfl, Nat.le_of_ble_eq_true rfl⟩ (Nat.le_of_ble_eq_true rfl) dX5_partOf_42 rfl ?_
        refine r_i2l (q := 46) hX dX5_partOf_45 rfl ?_
        refine r_lmul (q := 47) hX dX5_partOf_46 rfl ?_
        refine r_lstoreP (x := ((x2.toInt64) * (v14.toInt64))) (q := 49) 11 [1, 2, 3, 4, 5, 6, 7, 8, 9, 0] (fun z16 => [(0, vr a0), (1, vi x1), (2, vi x2), (3, vi x3), (4, vi x4), (5, vj z5), (7, vj s10.1), (9, vi s10.2.1), (10, vi s10.2.2), (11, vj z16)]) hX dX5_partOf_47 (Nat.le_of_ble_eq_true rfl) (fun _ => rfl) rfl (fun z16 => ?_)
        refine r_lload (i := 7) (x := s10.1) (q := 51) 6 hX dX5_partOf_49 rfl rfl ?_
        refine r_lload (i := 11) (x := z16) (q := 53) 9 hX dX5_partOf_51 rfl rfl ?_
        refine r_iload (i := 4) (x := x4) (q := 55) 4 hX dX5_partOf_53 rfl rfl ?_
        refine r_i2l (q := 56) hX dX5_partOf_55 rfl ?_
        refine r_ck (fun hd17 => ?_)
        refine r_ldiv (q := 57) hX dX5_partOf_56 hd17 rfl ?_
        refine r_lsub (q := 58) hX dX5_partOf_57 rfl ?_
        refine r_lstoreP (x := (s10.1 - (z16 / (x4.toInt64)))) (q := 60) 7 [1, 2, 3, 4, 5, 6, 0, 8, 9, 10] (fun z18 => [(0, vr a0), (1, vi x1), (2, vi x2), (3, vi x3), (4, vi x4), (5, vj z5), (7, vj z18), (9, vi s10.2.1), (10, vi s10.2.2), (11, vj z16)]) hX dX5_partOf_58 (Nat.le_of_ble_eq_true rfl) (fun _ => rfl) rfl (fun z18 => ?_)
        refine r_lload (i := 11) (x := z16) (q := 62) 9 hX dX5_partOf_60 rfl rfl ?_
        refine r_iload (i := 4) (x := x4) (q := 64) 4 hX dX5_partOf_62 rfl rfl ?_
        refine r_i2l (q := 65) hX dX5_partOf_64 rfl ?_
        refine r_lrem (q := 66) hX dX5_partOf_65 hd17 rfl ?_
        refine r_lload (i := 5) (x := z5) (q := 68) 5 hX dX5_partOf_66 rfl rfl ?_
        refine r_iload (i := 4) (x := x4) (q := 70) 4 hX dX5_partOf_68 rfl rfl ?_
        refine r_i2l (q := 71) hX dX5_partOf_70 rfl ?_
        refine r_lrem (q := 72) hX dX5_partOf_71 hd17 rfl ?_
        refine r_lcmp (q := 73) hX dX5_partOf_72 rfl ?_
        refine r_if_gt (tgt := 98) (q := 76) hX dX5_partOf_73 (by decide) rfl (fun hb19 => ?_) (fun hb19 => ?_)
        · refine r_iinc (x := s10.2.1) (v := (s10.2.1 + (1 : Int32))) (q := 101) 9 7 [1, 2, 3, 4, 5, 6, 7, 0, 9, 10] (L1 := [(0, vr a0), (1, vi x1), (2, vi x2), (3, vi x3), (4, vi x4), (5, vj z5), (7, vj z18), (9, vi (s10.2.1 + (1 : Int32))), (10, vi s10.2.2), (11, vj z16)]) hX dX5_partOf_98 rfl rfl (Nat.le_of_ble_eq_true rfl) rfl rfl ?_
          refine r_iinc (x := s10.2.2) (v := (s10.2.2 + (1 : Int32))) (q := 104) 10 8 [1, 2, 3, 4, 5, 6, 7, 8, 0, 10] (L1 := [(0, vr a0), (1, vi x1), (2, vi x2), (3, vi x3), (4, vi x4), (5, vj z5), (7, vj z18), (9, vi (s10.2.1 + (1 : Int32))), (10, vi (s10.2.2 + (1 : Int32))), (11, vj z16)]) hX dX5_partOf_101 rfl rfl (Nat.le_of_ble_eq_true rfl) rfl rfl ?_
          refine r_goto (q := 29) hX dX5_partOf_104 (by decide) ?_
          refine r_l0 ?_
          refine r_sub [0, 1, 2, 3, 4, 5, 6, 7, 8] rfl ?_
          exact hn11 (z18, (s10.2.1 + (1 : Int32)), (s10.2.2 + (1 : Int32)))
        · refine r_lload (i := 11) (x := z16) (q := 78) 9 hX dX5_partOf_76 rfl rfl ?_
          refine r_iload (i := 4) (x := x4) (q := 80) 4 hX dX5_partOf_78 rfl rfl ?_
          refine r_i2l (q := 81) hX dX5_partOf_80 rfl ?_
          refine r_lrem (q := 82) hX dX5_partOf_81 hd17 rfl ?_
          refine r_lload (i := 5) (x := z5) (q := 84) 5 hX dX5_partOf_82 rfl rfl ?_
          refine r_iload (i := 4) (x := x4) (q := 86) 4 hX dX5_partOf_84 rfl rfl ?_
          refine r_i2l (q := 87) hX dX5_partOf_86 rfl ?_
          refine r_lrem (q := 88) hX dX5_partOf_87 hd17 rfl ?_
          refine r_lcmp (q := 89) hX dX5_partOf_88 rfl ?_
          refine r_if_ne (tgt := 101) (q := 92) hX dX5_partOf_89 (by decide) rfl (fun hb20 => ?_) (fun hb20 => ?_)
          · refine r_iload (i := 10) (x := s10.2.2) (q := 94) 8 hX dX5_partOf_92 rfl rfl ?_
            refine r_iload_n (i := 1) (x := x1) (q := 95) 1 hX dX5_partOf_94 rfl rfl rfl ?_
            refine r_icmp_ge (tgt := 101) (q := 98) hX dX5_partOf_95 (by decide) rfl (fun hb21 => ?_) (fun hb21 => ?_)
            · refine r_iinc (x := s10.2.2) (v := (s10.2.2 + (1 : Int32))) (q := 104) 10 8 [1, 2, 3, 4, 5, 6, 7, 8, 0, 10] (L1 := [(0, vr a0), (1, vi x1), (2, vi x2), (3, vi x3), (4, vi x4), (5, vj z5), (7, vj z18), (9, vi s10.2.1), (10, vi (s10.2.2 + (1 : Int32))), (11, vj z16)]) hX dX5_partOf_101 rfl rfl (Nat.le_of_ble_eq_true rfl) rfl rfl ?_
              refine r_goto (q := 29) hX dX5_partOf_104 (by decide) ?_
              refine r_l0 ?_
              refine r_sub [0, 1, 2, 3, 4, 5, 6, 7, 8] rfl ?_
              exact hn11 (z18, s10.2.1, (s10.2.2 + (1 : Int32)))
            · refine r_iinc (x := s10.2.1) (v := (s10.2.1 + (1 : Int32))) (q := 101) 9 7 [1, 2, 3, 4, 5, 6, 7, 0, 9, 10] (L1 := [(0, vr a0), (1, vi x1), (2, vi x2), (3, vi x3), (4, vi x4), (5, vj z5), (7, vj z18), (9, vi (s10.2.1 + (1 : Int32))), (10, vi s10.2.2), (11, vj z16)]) hX dX5_partOf_98 rfl rfl (Nat.le_of_ble_eq_true rfl) rfl rfl ?_
              refine r_iinc (x := s10.2.2) (v := (s10.2.2 + (1 : Int32))) (q := 104) 10 8 [1, 2, 3, 4, 5, 6, 7, 8, 0, 10] (L1 := [(0, vr a0), (1, vi x1), (2, vi x2), (3, vi x3), (4, vi x4), (5, vj z5), (7, vj z18), (9, vi (s10.2.1 + (1 : Int32))), (10, vi (s10.2.2 + (1 : Int32))), (11, vj z16)]) hX dX5_partOf_101 rfl rfl (Nat.le_of_ble_eq_true rfl) rfl rfl ?_
              refine r_goto (q := 29) hX dX5_partOf_104 (by decide) ?_
              refine r_l0 ?_
              refine r_sub [0, 1, 2, 3, 4, 5, 6, 7, 8] rfl ?_
              exact hn11 (z18, (s10.2.1 + (1 : Int32)), (s10.2.2 + (1 : Int32)))
          · refine r_iinc (x := s10.2.2) (v := (s10.2.2 + (1 : Int32))) (q := 104) 10 8 [1, 2, 3, 4, 5, 6, 7, 8, 0, 10] (L1 := [(0, vr a0), (1, vi x1), (2, vi x2), (3, vi x3), (4, vi x4), (5, vj z5), (7, vj z18), (9, vi s10.2.1), (10, vi (s10.2.2 + (1 : Int32))), (11, vj z16)]) hX dX5_partOf_101 rfl rfl (Nat.le_of_ble_eq_true rfl) rfl rfl ?_
            refine r_goto (q := 29) hX dX5_partOf_104 (by decide) ?_
            refine r_l0 ?_
            refine r_sub [0, 1, 2, 3, 4, 5, 6, 7, 8] rfl ?_
            exact hn11 (z18, s10.2.1, (s10.2.2 + (1 : Int32)))
  · refine r_iconst (v := (0 : Int32)) (q := 6) hX dX5_partOf_5 rfl rfl ?_
    refine r_lf (hK _) ?_
    exact r_iret hM rfl (Nat.le_of_ble_eq_true rfl) (Nat.le_of_ble_eq_true rfl) dX5_partOf_6
theorem lkX11_312 : Lk RX11 312 yX5_allShares := gd (hcw5_2 _ (List.mem_of_getElem? (i := 14) rfl)) rfl
theorem lkX11_315 : Lk RX11 315 yX5_partOf := gd (hcw5_2 _ (List.mem_of_getElem? (i := 18) rfl)) rfl
def mX11_dividend : MD := (yX11_dividend, cX11_dividend, 5, (some .int), 2, 56, 0, 0)
theorem ccX11_dividend : Cc mX11_dividend 3 := ⟨gd (hcw1_0 _ (List.mem_of_getElem? (i := 1) rfl)) rfl, gd (hcw5_2 _ (List.mem_of_getElem? (i := 13) rfl)) rfl, by decide +kernel, by decide +kernel, by decide +kernel⟩
theorem ivX11_dividend : Iv mX11_dividend 11 := ⟨Nat.le_of_ble_eq_true rfl, rfl, gd (hcw5_2 _ (List.mem_of_getElem? (i := 11) rfl)) rfl, gd (hcw5_2 _ (List.mem_of_getElem? (i := 12) rfl)) rfl⟩
noncomputable def fX11_dividend (Z : Shp) (M : Mem) (a0 : Nat) (x1 : Int32) (x2 : Int32) (x3 : Int32) : Option (Int32) := (if (fX11_within x1 (0 : Int32) (5 : Int32)) = 0 then some (-101 : Int32) else (if (fX11_within x2 (0 : Int32) (999999 : Int32)) = 0 then some (-102 : Int32) else (if (fX11_within x3 (0 : Int32) (99 : Int32)) = 0 then some (-102 : Int32) else (if tg Z a0 = (12, 6) then (if tg Z (rR M a0 4) = (6, 9) then (Option.bind (fX5_allShares Z M (rR M a0 4)) (fun v6 => (if v6 = 0 then some (-103 : Int32) else (Option.bind (fX5_partOf Z M (rR M a0 4) x1 x2 x3 v6) (fun v9 => some v9))))) else none) else none))))
set_option maxRecDepth 20000 in
theorem kX11_dividend (l : Launch) (Z : Shp) (M : Mem) (a0 : Nat) (x1 : Int32) (x2 : Int32) (x3 : Int32) (r : Int32) (h : fX11_dividend Z M a0 x1 x2 x3 = some r) : Ct l mX11_dividend [vr a0, vi x1, vi x2, vi x3] Z M ((some (vi r)), Z, M) := by
  refine Ct.of rfl (Nat.le_of_ble_eq_true rfl) (fun X hM => ?_)
  have hX := hM.1
  refine r_top (mk := fun r => ((some (vi r)), Z, M)) h (fun K hK => ?_)
  unfold fX11_dividend
  refine r_iload_n (i := 1) (x := x1) (q := 1) 1 hX dX11_dividend_0 rfl rfl rfl ?_
  refine r_iconst (v := (0 : Int32)) (q := 2) hX dX11_dividend_1 rfl rfl ?_
  refine r_iconst (v := (5 : Int32)) (q := 3) hX dX11_dividend_2 rfl rfl ?_
  refine r_cs (As := [vi x1, vi (0 : Int32), vi (5 : Int32)]) (st := []) (r := (some (vi (fX11_within x1 (0 : Int32) (5 : Int32))))) (Z1 := Z) (M1 := M) (k1 := 0) (n1 := 0) (st1 := [vi (fX11_within x1 (0 : Int32) (5 : Int32))]) (q := 6) hX (fun l => kX11_within l Z M x1 (0 : Int32) (5 : Int32)) stX11_within ccX11_within (Or.inl lkX11_55) rfl rfl rfl ⟨Nat.le_of_ble_eq_true rfl, Nat.le_of_ble_eq_true rfl, rfl, rfl, Nat.le_of_ble_eq_true rfl, Nat.le_of_ble_eq_true rfl⟩ (Nat.le_of_ble_eq_true rfl) dX11_dividend_3 rfl ?_
  refine r_if_ne (tgt := 12) (q := 9) hX dX11_dividend_6 (by decide) rfl (fun hb1 => ?_) (fun hb1 => ?_)
  · refine r_bipush (v := (-101 : Int32)) (q := 11) hX dX11_dividend_9 rfl rfl ?_
    refine r_lf (hK _) ?_
    exact r_iret hM rfl (Nat.le_of_ble_eq_true rfl) (Nat.le_of_ble_eq_true rfl) dX11_dividend_11
  · refine r_iload_n (i := 2) (x := x2) (q := 13) 2 hX dX11_dividend_12 rfl rfl rfl ?_
    refine r_iconst (v := (0 : Int32)) (q := 14) hX dX11_dividend_13 rfl rfl ?_
    refine r_ldcw (v := (999999 : Int32)) (q := 17) hX dX11_dividend_14 (gd (hcw4_11 _ (List.mem_of_getElem? (i := 14) rfl)) rfl) rfl ?_
    refine r_cs (As := [vi x2, vi (0 : Int32), vi (999999 : Int32)]) (st := []) (r := (some (vi (fX11_within x2 (0 : Int32) (999999 : Int32))))) (Z1 := Z) (M1 := M) (k1 := 0) (n1 := 0) (st1 := [vi (fX11_within x2 (0 : Int32) (999999 : Int32))]) (q := 20) hX (fun l => kX11_within l Z M x2 (0 : Int32) (999999 : Int32)) stX11_within ccX11_within (Or.inl lkX11_55) rfl rfl rfl ⟨Nat.le_of_ble_eq_true rfl, Nat.le_of_ble_eq_true rfl, rfl, rfl, Nat.le_of_ble_eq_true rfl, Nat.le_of_ble_eq_true rfl⟩ (Nat.le_of_ble_eq_true rfl) dX11_dividend_17 rfl ?_
    refine r_if_eq (tgt := 33) (q := 23) hX dX11_dividend_20 (by decide) rfl (fun hb2 => ?_) (fun hb2 => ?_)
    · refine r_bipush (v := (-102 : Int32)) (q := 35) hX dX11_dividend_33 rfl rfl ?_
      refine r_lf (hK _) ?_
      exact r_iret hM rfl (Nat.le_of_ble_eq_true rfl) (Nat.le_of_ble_eq_true rfl) dX11_dividend_35
    · refine r_iload_n (i := 3) (x := x3) (q := 24) 3 hX dX11_dividend_23 rfl rfl rfl ?_
      refine r_iconst (v := (0 : Int32)) (q := 25) hX dX11_dividend_24 rfl rfl ?_
      refine r_bipush (v := (99 : Int32)) (q := 27) hX dX11_dividend_25 rfl rfl ?_
      refine r_cs (As := [vi x3, vi (0 : Int32), vi (99 : Int32)]) (st := []) (r := (some (vi (fX11_within x3 (0 : Int32) (99 : Int32))))) (Z1 := Z) (M1 := M) (k1 := 0) (n1 := 0) (st1 := [vi (fX11_within x3 (0 : Int32) (99 : Int32))]) (q := 30) hX (fun l => kX11_within l Z M x3 (0 : Int32) (99 : Int32)) stX11_within ccX11_within (Or.inl lkX11_55) rfl rfl rfl ⟨Nat.le_of_ble_eq_true rfl, Nat.le_of_ble_eq_true rfl, rfl, rfl, Nat.le_of_ble_eq_true rfl, Nat.le_of_ble_eq_true rfl⟩ (Nat.le_of_ble_eq_true rfl) dX11_dividend_27 rfl ?_
      refine r_if_ne (tgt := 36) (q := 33) hX dX11_dividend_30 (by decide) rfl (fun hb3 => ?_) (fun hb3 => ?_)
      · refine r_bipush (v := (-102 : Int32)) (q := 35) hX dX11_dividend_33 rfl rfl ?_
        refine r_lf (hK _) ?_
        exact r_iret hM rfl (Nat.le_of_ble_eq_true rfl) (Nat.le_of_ble_eq_true rfl) dX11_dividend_35
      · refine r_aload_n (i := 0) (x := a0) (q := 37) 0 hX dX11_dividend_36 rfl rfl rfl ?_
        refine r_ck (fun hc4 => ?_)
        refine r_getR (a := a0) (ci := 11) (kf := 4) (q := 40) hX hc4 flX11_40 rfl dX11_dividend_37 rfl ?_
        refine r_ck (fun hc5 => ?_)
        refine r_bind (fun v6 h7 => ?_)
        refine r_cv (a := (rR M a0 4)) (As := []) (st := []) (r := (some (vi v6))) (Z1 := Z) (M1 := M) (k1 := 0) (n1 := 0) (st1 := [vi v6]) (q := 43) hX (fun l => kX5_allShares l Z M (rR M a0 4) v6 h7) hc5 ivX5_allShares ccX5_allShares (Or.inl lkX11_312) rfl rfl rfl ⟨Nat.le_of_ble_eq_true rfl, Nat.le_of_ble_eq_true rfl, rfl, rfl, Nat.le_of_ble_eq_true rfl, Nat.le_of_ble_eq_true rfl⟩ (Nat.le_of_ble_eq_true rfl) dX11_dividend_40 rfl ?_
        refine r_istore (x := v6) (q := 45) 4 [1, 2, 3, 4, 0] (L1 := [(0, vr a0), (1, vi x1), (2, vi x2), (3, vi x3), (4, vi v6)]) hX dX11_dividend_43 (Nat.le_of_ble_eq_true rfl) rfl rfl ?_
        refine r_iload (i := 4) (x := v6) (q := 47) 4 hX dX11_dividend_45 rfl rfl ?_
        refine r_if_ne (tgt := 55) (q := 50) hX dX11_dividend_47 (by decide) rfl (fun hb8 => ?_) (fun hb8 => ?_)
        · refine r_bipush (v := (-103 : Int32)) (q := 52) hX dX11_dividend_50 rfl rfl ?_
          refine r_goto (q := 67) hX dX11_dividend_52 (by decide) ?_
          refine r_lf (hK _) ?_
          exact r_iret hM rfl (Nat.le_of_ble_eq_true rfl) (Nat.le_of_ble_eq_true rfl) dX11_dividend_67
        · refine r_aload_n (i := 0) (x := a0) (q := 56) 0 hX dX11_dividend_55 rfl rfl rfl ?_
          refine r_getR (a := a0) (ci := 11) (kf := 4) (q := 59) hX hc4 flX11_40 rfl dX11_dividend_56 rfl ?_
          refine r_iload_n (i := 1) (x := x1) (q := 60) 1 hX dX11_dividend_59 rfl rfl rfl ?_
          refine r_iload_n (i := 2) (x := x2) (q := 61) 2 hX dX11_dividend_60 rfl rfl rfl ?_
          refine r_iload_n (i := 3) (x := x3) (q := 62) 3 hX dX11_dividend_61 rfl rfl rfl ?_
          refine r_iload (i := 4) (x := v6) (q := 64) 4 hX dX11_dividend_62 rfl rfl ?_
          refine r_bind (fun v9 h10 => ?_)
          refine r_cv (a := (rR M a0 4)) (As := [vi x1, vi x2, vi x3, vi v6]) (st := []) (r := (some (vi v9))) (Z1 := Z) (M1 := M) (k1 := 0) (n1 := 0) (st1 := [vi v9]) (q := 67) hX (fun l => kX5_partOf l Z M (rR M a0 4) x1 x2 x3 v6 v9 h10) hc5 ivX5_partOf ccX5_partOf (Or.inl lkX11_315) rfl rfl rfl ⟨Nat.le_of_ble_eq_true rfl, Nat.le_of_ble_eq_true rfl, rfl, rfl, Nat.le_of_ble_eq_true rfl, Nat.le_of_ble_eq_true rfl⟩ (Nat.le_of_ble_eq_true rfl) dX11_dividend_64 rfl ?_
          refine r_lf (hK _) ?_
          exact r_iret hM rfl (Nat.le_of_ble_eq_true rfl) (Nat.le_of_ble_eq_true rfl) dX11_dividend_67
def mX6_firstDryDay : MD := (yX6_firstDryDay, cX6_firstDryDay, 5, (some .int), 1, 14, 0, 0)
theorem ccX6_firstDryDay : Cc mX6_firstDryDay 2 := ⟨gd (hcw1_0 _ (List.mem_of_getElem? (i := 3) rfl)) rfl, gd (hcw4_8 _ (List.mem_of_getElem? (i := 11) rfl)) rfl, by decide +kernel, by decide +kernel, by decide +kernel⟩
theorem ivX6_firstDryDay : Iv mX6_firstDryDay 6 := ⟨Nat.le_of_ble_eq_true rfl, rfl, gd (hcw4_8 _ (List.mem_of_getElem? (i := 9) rfl)) rfl, gd (hcw4_8 _ (List.mem_of_getElem? (i := 10) rfl)) rfl⟩
noncomputable def fX6_firstDryDay (Z : Shp) (M : Mem) (a0 : Nat) (x1 : Int32) (x2 : Int32) : Option (Int32) := (if tg Z a0 = (7, 3) then (pu ((rI M a0 0)) (fun z2 => (loop (fun s3 : Int32 × Int32 => (if (400 : Int32) ≤ s3.2 then some (Sum.inr (-1 : Int32)) else (pu ((mnI (rI M a0 1) ((mxI (0 : Int32) (s3.1 - x1)) + x2))) (fun z7 => (if (rI M a0 2) ≤ z7 then some (Sum.inl (z7, (s3.2 + (1 : Int32)))) else some (Sum.inr s3.2)))))) (z2, (0 : Int32))))) else none)
set_option maxRecDepth 20000 in
theorem kX6_firstDryDay (l : Launch) (Z : Shp) (M : Mem) (a0 : Nat) (x1 : Int32) (x2 : Int32) (r : Int32) (h : fX6_firstDryDay Z M a0 x1 x2 = some r) : Ct l mX6_firstDryDay [vr a0, vi x1, vi x2] Z M ((some (vi r)), Z, M) := by
  refine Ct.of rfl (Nat.le_of_ble_eq_true rfl) (fun X hM => ?_)
  have hX := hM.1
  refine r_top (mk := fun r => ((some (vi r)), Z, M)) h (fun K hK => ?_)
  unfold fX6_firstDryDay
  refine r_aload_n (i := 0) (x := a0) (q := 1) 0 hX dX6_firstDryDay_0 rfl rfl rfl ?_
  refine r_ck (fun hc1 => ?_)
  refine r_getI (a := a0) (ci := 6) (kf := 0) (q := 4) hX hc1 flX6_9 rfl rfl dX6_firstDryDay_1 rfl ?_
  refine r_istore_nP (x := (rI M a0 0)) (q := 5) 3 [1, 2, 3, 0] (fun z2 => [(0, vr a0), (1, vi x1), (2, vi x2), (3, vi z2)]) hX dX6_firstDryDay_4 rfl (Nat.le_of_ble_eq_true rfl) (fun _ => rfl) rfl (fun z2 => ?_)
  refine r_iconst (v := (0 : Int32)) (q := 6) hX dX6_firstDryDay_5 rfl rfl ?_
  refine r_istore (x := (0 : Int32)) (q := 8) 4 [1, 2, 3, 4, 0] (L1 := [(0, vr a0), (1, vi x1), (2, vi x2), (3, vi z2), (4, vi (0 : Int32))]) hX dX6_firstDryDay_6 (Nat.le_of_ble_eq_true rfl) rfl rfl ?_
  refine r_loop (Hd := fun (s3 : Int32 × Int32) (P : Option Res) => Ref mX6_firstDryDay X 0 0 Z M 8 [(0, vr a0), (1, vi x1), (2, vi x2), (3, vi s3.1), (4, vi s3.2)] [] P) (fun _ => r_none) (fun s3 K1 hn4 hx5 => ?_) (z2, (0 : Int32))
  refine r_iload (i := 4) (x := s3.2) (q := 10) 4 hX dX6_firstDryDay_8 rfl rfl ?_
  refine r_sipush (v := (400 : Int32)) (q := 13) hX dX6_firstDryDay_10 rfl rfl ?_
  refine r_icmp_ge (tgt := 50) (q := 16) hX dX6_firstDryDay_13 (by decide) rfl (fun hb6 => ?_) (fun hb6 => ?_)
  · refine r_iconst (v := (-1 : Int32)) (q := 51) hX dX6_firstDryDay_50 rfl rfl ?_
    refine r_lf ((hx5 _).trans (hK _)) ?_
    exact r_iret hM rfl (Nat.le_of_ble_eq_true rfl) (Nat.le_of_ble_eq_true rfl) dX6_firstDryDay_51
  · refine r_aload_n (i := 0) (x := a0) (q := 17) 0 hX dX6_firstDryDay_16 rfl rfl rfl ?_
    refine r_getI (a := a0) (ci := 6) (kf := 1) (q := 20) hX hc1 flX6_15 rfl rfl dX6_firstDryDay_17 rfl ?_
    refine r_iconst (v := (0 : Int32)) (q := 21) hX dX6_firstDryDay_20 rfl rfl ?_
    refine r_iload_n (i := 3) (x := s3.1) (q := 22) 3 hX dX6_firstDryDay_21 rfl rfl rfl ?_
    refine r_iload_n (i := 1) (x := x1) (q := 23) 1 hX dX6_firstDryDay_22 rfl rfl rfl ?_
    refine r_isub (q := 24) hX dX6_firstDryDay_23 rfl ?_
    refine r_mmax (q := 27) hX (gd (hcw2_4 _ (List.mem_of_getElem? (i := 8) rfl)) rfl) (Nat.le_of_ble_eq_true rfl) (Nat.le_of_ble_eq_true rfl) (Nat.le_of_ble_eq_true rfl) (Nat.le_of_ble_eq_true rfl) dX6_firstDryDay_24 rfl ?_
    refine r_iload_n (i := 2) (x := x2) (q := 28) 2 hX dX6_firstDryDay_27 rfl rfl rfl ?_
    refine r_iadd (q := 29) hX dX6_firstDryDay_28 rfl ?_
    refine r_mmin (q := 32) hX (gd (hcw4_8 _ (List.mem_of_getElem? (i := 12) rfl)) rfl) (Nat.le_of_ble_eq_true rfl) (Nat.le_of_ble_eq_true rfl) (Nat.le_of_ble_eq_true rfl) (Nat.le_of_ble_eq_true rfl) dX6_firstDryDay_29 rfl ?_
    refine r_istore_nP (x := (mnI (rI M a0 1) ((mxI (0 : Int32) (s3.1 - x1)) + x2))) (q := 33) 3 [1, 2, 3, 0, 5] (fun z7 => [(0, vr a0), (1, vi x1), (2, vi x2), (3, vi z7), (4, vi s3.2)]) hX dX6_firstDryDay_32 rfl (Nat.le_of_ble_eq_true rfl) (fun _ => rfl) rfl (fun z7 => ?_)
    refine r_iload_n (i := 3) (x := z7) (q := 34) 3 hX dX6_firstDryDay_33 rfl rfl rfl ?_
    refine r_aload_n (i := 0) (x := a0) (q := 35) 0 hX dX6_firstDryDay_34 rfl rfl rfl ?_
    refine r_getI (a := a0) (ci := 6) (kf := 2) (q := 38) hX hc1 flX6_18 rfl rfl dX6_firstDryDay_35 rfl ?_
    refine r_icmp_ge (tgt := 44) (q := 41) hX dX6_firstDryDay_38 (by decide) rfl (fun hb8 => ?_) (fun hb8 => ?_)
    · refine r_iinc (x := s3.2) (v := (s3.2 + (1 : Int32))) (q := 47) 4 4 [1, 2, 3, 4, 0] (L1 := [(0, vr a0), (1, vi x1), (2, vi x2), (3, vi z7), (4, vi (s3.2 + (1 : Int32)))]) hX dX6_firstDryDay_44 rfl rfl (Nat.le_of_ble_eq_true rfl) rfl rfl ?_
      refine r_goto (q := 8) hX dX6_firstDryDay_47 (by decide) ?_
      refine r_l0 ?_
      exact hn4 (z7, (s3.2 + (1 : Int32)))
    · refine r_iload (i := 4) (x := s3.2) (q := 43) 4 hX dX6_firstDryDay_41 rfl rfl ?_
      refine r_lf ((hx5 _).trans (hK _)) ?_
      exact r_iret hM rfl (Nat.le_of_ble_eq_true rfl) (Nat.le_of_ble_eq_true rfl) dX6_firstDryDay_43
theorem flX11_243 : FL RX11 243 3 0 := ⟨Nat.le_of_ble_eq_true rfl, Nat.le_of_ble_eq_true rfl, gd (hcw1_4 _ (List.mem_of_getElem? (i := 10) rfl)) rfl⟩
theorem flX11_76 : FL RX11 76 3 7 := ⟨Nat.le_of_ble_eq_true rfl, Nat.le_of_ble_eq_true rfl, gd (hcw1_5 _ (List.mem_of_getElem? (i := 1) rfl)) rfl⟩
theorem lkX11_247 : Lk RX11 247 yX6_firstDryDay := gd (hcw4_8 _ (List.mem_of_getElem? (i := 8) rfl)) rfl
def mX11_dry : MD := (yX11_dry, cX11_dry, 8, (some .int), 2, 38, 0, 0)
theorem ccX11_dry : Cc mX11_dry 5 := ⟨gd (hcw1_0 _ (List.mem_of_getElem? (i := 1) rfl)) rfl, gd (hcw4_8 _ (List.mem_of_getElem? (i := 7) rfl)) rfl, by decide +kernel, by decide +kernel, by decide +kernel⟩
theorem ivX11_dry : Iv mX11_dry 11 := ⟨Nat.le_of_ble_eq_true rfl, rfl, gd (hcw4_8 _ (List.mem_of_getElem? (i := 5) rfl)) rfl, gd (hcw4_8 _ (List.mem_of_getElem? (i := 6) rfl)) rfl⟩
noncomputable def fX11_dry (Z : Shp) (M : Mem) (a0 : Nat) (x1 : Int32) (x2 : Int32) (x3 : Int32) (x4 : Int32) (x5 : Int32) : Option (Int32) := (Option.bind (if (fX11_within x1 (0 : Int32) (1 : Int32)) = 0 then some (0 : Int32) else (if (fX11_within x2 (0 : Int32) x3) = 0 then some (0 : Int32) else (if (fX11_within x3 (0 : Int32) (9999 : Int32)) = 0 then some (0 : Int32) else (if (fX11_within x4 (0 : Int32) x5) = 0 then some (0 : Int32) else (if (fX11_within x5 (0 : Int32) (9999 : Int32)) = 0 then some (0 : Int32) else some (1 : Int32)))))) (fun v4 : Int32 => (if v4 = 0 then some (-102 : Int32) else (if tg Z a0 = (12, 6) then (if tg Z (rR M a0 0) = (4, 11) then (if aok Z (rR M (rR M a0 0) 0) 110 (rI M (rR M a0 0) 7) then (pu ((rR M (rR M (rR M a0 0) 0) (ix (rI M (rR M a0 0) 7)))) (fun z13 => (if x1 = 0 then (if tg Z z13 = (7, 3) then (Option.bind (fX6_firstDryDay Z M z13 x3 x4) (fun v16 => some v16)) else none) else (if tg Z z13 = (7, 3) then (Option.bind (fX6_firstDryDay Z M z13 x2 x5) (fun v19 => some v19)) else none)))) else none) else none) else none))))
set_option maxRecDepth 20000 in
theorem kX11_dry (l : Launch) (Z : Shp) (M : Mem) (a0 : Nat) (x1 : Int32) (x2 : Int32) (x3 : Int32) (x4 : Int32) (x5 : Int32) (r : Int32) (h : fX11_dry Z M a0 x1 x2 x3 x4 x5 = some r) : Ct l mX11_dry [vr a0, vi x1, vi x2, vi x3, vi x4, vi x5] Z M ((some (vi r)), Z, M) := by
  refine Ct.of rfl (Nat.le_of_ble_eq_true rfl) (fun X hM => ?_)
  have hX := hM.1
  refine r_top (mk := fun r => ((some (vi r)), Z, M)) h (fun K hK => ?_)
  unfold fX11_dry
  refine r_iload_n (i := 1) (x := x1) (q := 1) 1 hX dX11_dry_0 rfl rfl rfl ?_
  refine r_iconst (v := (0 : Int32)) (q := 2) hX dX11_dry_1 rfl rfl ?_
  refine r_iconst (v := (1 : Int32)) (q := 3) hX dX11_dry_2 rfl rfl ?_
  refine r_cs (As := [vi x1, vi (0 : Int32), vi (1 : Int32)]) (st := []) (r := (some (vi (fX11_within x1 (0 : Int32) (1 : Int32))))) (Z1 := Z) (M1 := M) (k1 := 0) (n1 := 0) (st1 := [vi (fX11_within x1 (0 : Int32) (1 : Int32))]) (q := 6) hX (fun l => kX11_within l Z M x1 (0 : Int32) (1 : Int32)) stX11_within ccX11_within (Or.inl lkX11_55) rfl rfl rfl ⟨Nat.le_of_ble_eq_true rfl, Nat.le_of_ble_eq_true rfl, rfl, rfl, Nat.le_of_ble_eq_true rfl, Nat.le_of_ble_eq_true rfl⟩ (Nat.le_of_ble_eq_true rfl) dX11_dry_3 rfl ?_
  refine r_jn (J := fun (v4 : Int32) (P : Option Res) => Ref mX11_dry X 0 0 Z M 57 [(0, vr a0), (1, vi x1), (2, vi x2), (3, vi x3), (4, vi x4), (5, vi x5)] [vi v4] P) (fun v4 => ?_) (fun K1 hj2 => ?_)
  · refine r_istore (x := v4) (q := 59) 6 [1, 2, 3, 4, 5, 6, 0] (L1 := [(0, vr a0), (1, vi x1), (2, vi x2), (3, vi x3), (4, vi x4), (5, vi x5), (6, vi v4)]) hX dX11_dry_57 (Nat.le_of_ble_eq_true rfl) rfl rfl ?_
    refine r_iload (i := 6) (x := v4) (q := 61) 6 hX dX11_dry_59 rfl rfl ?_
    refine r_if_ne (tgt := 67) (q := 64) hX dX11_dry_61 (by decide) rfl (fun hb9 => ?_) (fun hb9 => ?_)
    · refine r_bipush (v := (-102 : Int32)) (q := 66) hX dX11_dry_64 rfl rfl ?_
      refine r_lf (hK _) ?_
      exact r_iret hM rfl (Nat.le_of_ble_eq_true rfl) (Nat.le_of_ble_eq_true rfl) dX11_dry_66
    · refine r_aload_n (i := 0) (x := a0) (q := 68) 0 hX dX11_dry_67 rfl rfl rfl ?_
      refine r_ck (fun hc10 => ?_)
      refine r_getR (a := a0) (ci := 11) (kf := 0) (q := 71) hX hc10 flX11_12 rfl dX11_dry_68 rfl ?_
      refine r_ck (fun hc11 => ?_)
      refine r_getR (a := (rR M a0 0)) (ci := 3) (kf := 0) (q := 74) hX hc11 flX11_243 rfl dX11_dry_71 rfl ?_
      refine r_aload_n (i := 0) (x := a0) (q := 75) 0 hX dX11_dry_74 rfl rfl rfl ?_
      refine r_getR (a := a0) (ci := 11) (kf := 0) (q := 78) hX hc10 flX11_12 rfl dX11_dry_75 rfl ?_
      refine r_getI (a := (rR M a0 0)) (ci := 3) (kf := 7) (q := 81) hX hc11 flX11_76 rfl rfl dX11_dry_78 rfl ?_
      refine r_ck (fun hc12 => ?_)
      refine r_aald (a := (rR M (rR M a0 0) 0)) (i := (rI M (rR M a0 0) 7)) (q := 82) hX arT_110 hc12 dX11_dry_81 rfl ?_
      refine r_astoreP (x := (rR M (rR M (rR M a0 0) 0) (ix (rI M (rR M a0 0) 7)))) (q := 84) 7 [1, 2, 3, 4, 5, 6, 7, 0] (fun z13 => [(0, vr a0), (1, vi x1), (2, vi x2), (3, vi x3), (4, vi x4), (5, vi x5), (6, vi v4), (7, vr z13)]) hX dX11_dry_82 (Nat.le_of_ble_eq_true rfl) (fun _ => rfl) rfl (fun z13 => ?_)
      refine r_iload_n (i := 1) (x := x1) (q := 85) 1 hX dX11_dry_84 rfl rfl rfl ?_
      refine r_if_ne (tgt := 99) (q := 88) hX dX11_dry_85 (by decide) rfl (fun hb14 => ?_) (fun hb14 => ?_)
      · refine r_aload (i := 7) (x := z13) (q := 90) 7 hX dX11_dry_88 rfl rfl ?_
        refine r_iload_n (i := 3) (x := x3) (q := 91) 3 hX dX11_dry_90 rfl rfl rfl ?_
        refine r_iload (i := 4) (x := x4) (q := 93) 4 hX dX11_dry_91 rfl rfl ?_
        refine r_ck (fun hc15 => ?_)
        refine r_bind (fun v16 h17 => ?_)
        refine r_cv (a := z13) (As := [vi x3, vi x4]) (st := []) (r := (some (vi v16))) (Z1 := Z) (M1 := M) (k1 := 0) (n1 := 0) (st1 := [vi v16]) (q := 96) hX (fun l => kX6_firstDryDay l Z M z13 x3 x4 v16 h17) hc15 ivX6_firstDryDay ccX6_firstDryDay (Or.inl lkX11_247) rfl rfl rfl ⟨Nat.le_of_ble_eq_true rfl, Nat.le_of_ble_eq_true rfl, rfl, rfl, Nat.le_of_ble_eq_true rfl, Nat.le_of_ble_eq_true rfl⟩ (Nat.le_of_ble_eq_true rfl) dX11_dry_93 rfl ?_
        refine r_goto (q := 107) hX dX11_dry_96 (by decide) ?_
        refine r_lf (hK _) ?_
        exact r_iret hM rfl (Nat.le_of_ble_eq_true rfl) (Nat.le_of_ble_eq_true rfl) dX11_dry_107
      · refine r_aload (i := 7) (x := z13) (q := 101) 7 hX dX11_dry_99 rfl rfl ?_
        refine r_iload_n (i := 2) (x := x2) (q := 102) 2 hX dX11_dry_101 rfl rfl rfl ?_
        refine r_iload (i := 5) (x := x5) (q := 104) 5 hX dX11_dry_102 rfl rfl ?_
        refine r_ck (fun hc18 => ?_)
        refine r_bind (fun v19 h20 => ?_)
        refine r_cv (a := z13) (As := [vi x2, vi x5]) (st := []) (r := (some (vi v19))) (Z1 := Z) (M1 := M) (k1 := 0) (n1 := 0) (st1 := [vi v19]) (q := 107) hX (fun l => kX6_firstDryDay l Z M z13 x2 x5 v19 h20) hc18 ivX6_firstDryDay ccX6_firstDryDay (Or.inl lkX11_247) rfl rfl rfl ⟨Nat.le_of_ble_eq_true rfl, Nat.le_of_ble_eq_true rfl, rfl, rfl, Nat.le_of_ble_eq_true rfl, Nat.le_of_ble_eq_true rfl⟩ (Nat.le_of_ble_eq_true rfl) dX11_dry_104 rfl ?_
        refine r_lf (hK _) ?_
        exact r_iret hM rfl (Nat.le_of_ble_eq_true rfl) (Nat.le_of_ble_eq_true rfl) dX11_dry_107
  · refine r_if_eq (tgt := 56) (q := 9) hX dX11_dry_6 (by decide) rfl (fun hb1 => ?_) (fun hb1 => ?_)
    · refine r_iconst (v := (0 : Int32)) (q := 57) hX dX11_dry_56 rfl rfl ?_
      refine r_l0 ?_
      exact hj2 (0 : Int32)
    · refine r_iload_n (i := 2) (x := x2) (q := 10) 2 hX dX11_dry_9 rfl rfl rfl ?_
      refine r_iconst (v := (0 : Int32)) (q := 11) hX dX11_dry_10 rfl rfl ?_
      refine r_iload_n (i := 3) (x := x3) (q := 12) 3 hX dX11_dry_11 rfl rfl rfl ?_
      refine r_cs (As := [vi x2, vi (0 : Int32), vi x3]) (st := []) (r := (some (vi (fX11_within x2 (0 : Int32) x3)))) (Z1 := Z) (M1 := M) (k1 := 0) (n1 := 0) (st1 := [vi (fX11_within x2 (0 : Int32) x3)]) (q := 15) hX (fun l => kX11_within l Z M x2 (0 : Int32) x3) stX11_within ccX11_within (Or.inl lkX11_55) rfl rfl rfl ⟨Nat.le_of_ble_eq_true rfl, Nat.le_of_ble_eq_true rfl, rfl, rfl, Nat.le_of_ble_eq_true rfl, Nat.le_of_ble_eq_true rfl⟩ (Nat.le_of_ble_eq_true rfl) dX11_dry_12 rfl ?_
      refine r_if_eq (tgt := 56) (q := 18) hX dX11_dry_15 (by decide) rfl (fun hb5 => ?_) (fun hb5 => ?_)
      · refine r_iconst (v := (0 : Int32)) (q := 57) hX dX11_dry_56 rfl rfl ?_
        refine r_l0 ?_
        exact hj2 (0 : Int32)
      · refine r_iload_n (i := 3) (x := x3) (q := 19) 3 hX dX11_dry_18 rfl rfl rfl ?_
        refine r_iconst (v := (0 : Int32)) (q := 20) hX dX11_dry_19 rfl rfl ?_
        refine r_sipush (v := (9999 : Int32)) (q := 23) hX dX11_dry_20 rfl rfl ?_
        refine r_cs (As := [vi x3, vi (0 : Int32), vi (9999 : Int32)]) (st := []) (r := (some (vi (fX11_within x3 (0 : Int32) (9999 : Int32))))) (Z1 := Z) (M1 := M) (k1 := 0) (n1 := 0) (st1 := [vi (fX11_within x3 (0 : Int32) (9999 : Int32))]) (q := 26) hX (fun l => kX11_within l Z M x3 (0 : Int32) (9999 : Int32)) stX11_within ccX11_within (Or.inl lkX11_55) rfl rfl rfl ⟨Nat.le_of_ble_eq_true rfl, Nat.le_of_ble_eq_true rfl, rfl, rfl, Nat.le_of_ble_eq_true rfl, Nat.le_of_ble_eq_true rfl⟩ (Nat.le_of_ble_eq_true rfl) dX11_dry_23 rfl ?_
        refine r_if_eq (tgt := 56) (q := 29) hX dX11_dry_26 (by decide) rfl (fun hb6 => ?_) (fun hb6 => ?_)
        · refine r_iconst (v := (0 : Int32)) (q := 57) hX dX11_dry_56 rfl rfl ?_
          refine r_l0 ?_
          exact hj2 (0 : Int32)
        · refine r_iload (i := 4) (x := x4) (q := 31) 4 hX dX11_dry_29 rfl rfl ?_
          refine r_iconst (v := (0 : Int32)) (q := 32) hX dX11_dry_31 rfl rfl ?_
          refine r_iload (i := 5) (x := x5) (q := 34) 5 hX dX11_dry_32 rfl rfl ?_
          refine r_cs (As := [vi x4, vi (0 : Int32), vi x5]) (st := []) (r := (some (vi (fX11_within x4 (0 : Int32) x5)))) (Z1 := Z) (M1 := M) (k1 := 0) (n1 := 0) (st1 := [vi (fX11_within x4 (0 : Int32) x5)]) (q := 37) hX (fun l => kX11_within l Z M x4 (0 : Int32) x5) stX11_within ccX11_within (Or.inl lkX11_55) rfl rfl rfl ⟨Nat.le_of_ble_eq_true rfl, Nat.le_of_ble_eq_true rfl, rfl, rfl, Nat.le_of_ble_eq_true rfl, Nat.le_of_ble_eq_true rfl⟩ (Nat.le_of_ble_eq_true rfl) dX11_dry_34 rfl ?_
          refine r_if_eq (tgt := 56) (q := 40) hX dX11_dry_37 (by decide) rfl (fun hb7 => ?_) (fun hb7 => ?_)
          · refine r_iconst (v := (0 : Int32)) (q := 57) hX dX11_dry_56 rfl rfl ?_
            refine r_l0 ?_
            exact hj2 (0 : Int32)
          · refine r_iload (i := 5) (x := x5) (q := 42) 5 hX dX11_dry_40 rfl rfl ?_
            refine r_iconst (v := (0 : Int32)) (q := 43) hX dX11_dry_42 rfl rfl ?_
            refine r_sipush (v := (9999 : Int32)) (q := 46) hX dX11_dry_43 rfl rfl ?_
            refine r_cs (As := [vi x5, vi (0 : Int32), vi (9999 : Int32)]) (st := []) (r := (some (vi (fX11_within x5 (0 : Int32) (9999 : Int32))))) (Z1 := Z) (M1 := M) (k1 := 0) (n1 := 0) (st1 := [vi (fX11_within x5 (0 : Int32) (9999 : Int32))]) (q := 49) hX (fun l => kX11_within l Z M x5 (0 : Int32) (9999 : Int32)) stX11_within ccX11_within (Or.inl lkX11_55) rfl rfl rfl ⟨Nat.le_of_ble_eq_true rfl, Nat.le_of_ble_eq_true rfl, rfl, rfl, Nat.le_of_ble_eq_true rfl, Nat.le_of_ble_eq_true rfl⟩ (Nat.le_of_ble_eq_true rfl) dX11_dry_46 rfl ?_
            refine r_if_eq (tgt := 56) (q := 52) hX dX11_dry_49 (by decide) rfl (fun hb8 => ?_) (fun hb8 => ?_)
            · refine r_iconst (v := (0 : Int32)) (q := 57) hX dX11_dry_56 rfl rfl ?_
              refine r_l0 ?_
              exact hj2 (0 : Int32)
            · refine r_iconst (v := (1 : Int32)) (q := 53) hX dX11_dry_52 rfl rfl ?_
              refine r_goto (q := 57) hX dX11_dry_53 (by decide) ?_
              refine r_l0 ?_
              exact hj2 (1 : Int32)
def mX5_allOf : MD := (yX5_allOf, cX5_allOf, 4, (some .int), 1, 22, 0, 0)
theorem ccX5_allOf : Cc mX5_allOf 1 := ⟨gd (hcw1_0 _ (List.mem_of_getElem? (i := 8) rfl)) rfl, gd (hcw5_1 _ (List.mem_of_getElem? (i := 0) rfl)) rfl, by decide +kernel, by decide +kernel, by decide +kernel⟩
theorem ivX5_allOf : Iv mX5_allOf 5 := ⟨Nat.le_of_ble_eq_true rfl, rfl, gd (hcw5_0 _ (List.mem_of_getElem? (i := 19) rfl)) rfl, gd (hps2 _ (List.mem_of_getElem? (i := 10) rfl)) rfl⟩
noncomputable def fX5_allOf (Z : Shp) (M : Mem) (a0 : Nat) (x1 : Int32) : Option (Int32) := (loop (fun s1 : Int32 × Int32 => (if (4 : Int32) ≤ s1.2 then some (Sum.inr s1.1) else (if tg Z a0 = (6, 9) then (Option.bind (fX5_debtOf Z M a0 s1.2 x1) (fun v6 => (pu ((s1.1 + v6)) (fun z8 => some (Sum.inl (z8, (s1.2 + (1 : Int32)))))))) else none))) ((0 : Int32), (0 : Int32)))
set_option maxRecDepth 20000 in
theorem kX5_allOf (l : Launch) (Z : Shp) (M : Mem) (a0 : Nat) (x1 : Int32) (r : Int32) (h : fX5_allOf Z M a0 x1 = some r) : Ct l mX5_allOf [vr a0, vi x1] Z M ((some (vi r)), Z, M) := by
  refine Ct.of rfl (Nat.le_of_ble_eq_true rfl) (fun X hM => ?_)
  have hX := hM.1
  refine r_top (mk := fun r => ((some (vi r)), Z, M)) h (fun K hK => ?_)
  unfold fX5_allOf
  refine r_iconst (v := (0 : Int32)) (q := 1) hX dX5_allOf_0 rfl rfl ?_
  refine r_istore_n (x := (0 : Int32)) (q := 2) 2 [1, 2, 0] (L1 := [(0, vr a0), (1, vi x1), (2, vi (0 : Int32))]) hX dX5_allOf_1 rfl (Nat.le_of_ble_eq_true rfl) rfl rfl ?_
  refine r_iconst (v := (0 : Int32)) (q := 3) hX dX5_allOf_2 rfl rfl ?_
  refine r_istore_n (x := (0 : Int32)) (q := 4) 3 [1, 2, 3, 0] (L1 := [(0, vr a0), (1, vi x1), (2, vi (0 : Int32)), (3, vi (0 : Int32))]) hX dX5_allOf_3 rfl (Nat.le_of_ble_eq_true rfl) rfl rfl ?_
  refine r_loop (Hd := fun (s1 : Int32 × Int32) (P : Option Res) => Ref mX5_allOf X 0 0 Z M 4 [(0, vr a0), (1, vi x1), (2, vi s1.1), (3, vi s1.2)] [] P) (fun _ => r_none) (fun s1 K1 hn2 hx3 => ?_) ((0 : Int32), (0 : Int32))
  refine r_iload_n (i := 3) (x := s1.2) (q := 5) 3 hX dX5_allOf_4 rfl rfl rfl ?_
  refine r_iconst (v := (4 : Int32)) (q := 6) hX dX5_allOf_5 rfl rfl ?_
  refine r_icmp_ge (tgt := 24) (q := 9) hX dX5_allOf_6 (by decide) rfl (fun hb4 => ?_) (fun hb4 => ?_)
  · refine r_iload_n (i := 2) (x := s1.1) (q := 25) 2 hX dX5_allOf_24 rfl rfl rfl ?_
    refine r_lf ((hx3 _).trans (hK _)) ?_
    exact r_iret hM rfl (Nat.le_of_ble_eq_true rfl) (Nat.le_of_ble_eq_true rfl) dX5_allOf_25
  · refine r_iload_n (i := 2) (x := s1.1) (q := 10) 2 hX dX5_allOf_9 rfl rfl rfl ?_
    refine r_aload_n (i := 0) (x := a0) (q := 11) 0 hX dX5_allOf_10 rfl rfl rfl ?_
    refine r_iload_n (i := 3) (x := s1.2) (q := 12) 3 hX dX5_allOf_11 rfl rfl rfl ?_
    refine r_iload_n (i := 1) (x := x1) (q := 13) 1 hX dX5_allOf_12 rfl rfl rfl ?_
    refine r_ck (fun hc5 => ?_)
    refine r_bind (fun v6 h7 => ?_)
    refine r_cv (a := a0) (As := [vi s1.2, vi x1]) (st := [vi s1.1]) (r := (some (vi v6))) (Z1 := Z) (M1 := M) (k1 := 0) (n1 := 0) (st1 := [vi v6, vi s1.1]) (q := 16) hX (fun l => kX5_debtOf l Z M a0 s1.2 x1 v6 h7) hc5 ivX5_debtOf ccX5_debtOf (Or.inl lkX5_37) rfl rfl rfl ⟨Nat.le_of_ble_eq_true rfl, Nat.le_of_ble_eq_true rfl, rfl, rfl, Nat.le_of_ble_eq_true rfl, Nat.le_of_ble_eq_true rfl⟩ (Nat.le_of_ble_eq_true rfl) dX5_allOf_13 rfl ?_
    refine r_iadd (q := 17) hX dX5_allOf_16 rfl ?_
    refine r_istore_nP (x := (s1.1 + v6)) (q := 18) 2 [1, 2, 0, 4] (fun z8 => [(0, vr a0), (1, vi x1), (2, vi z8), (3, vi s1.2)]) hX dX5_allOf_17 rfl (Nat.le_of_ble_eq_true rfl) (fun _ => rfl) rfl (fun z8 => ?_)
    refine r_iinc (x := s1.2) (v := (s1.2 + (1 : Int32))) (q := 21) 3 3 [1, 2, 3, 0] (L1 := [(0, vr a0), (1, vi x1), (2, vi z8), (3, vi (s1.2 + (1 : Int32)))]) hX dX5_allOf_18 rfl rfl (Nat.le_of_ble_eq_true rfl) rfl rfl ?_
    refine r_goto (q := 4) hX dX5_allOf_21 (by decide) ?_
    refine r_l0 ?_
    exact hn2 (z8, (s1.2 + (1 : Int32)))
def mX5_partOfRank : MD := (yX5_partOfRank, cX5_partOfRank, 8, (some .int), 1, 22, 0, 0)
theorem ccX5_partOfRank : Cc mX5_partOfRank 4 := ⟨gd (hcw1_0 _ (List.mem_of_getElem? (i := 8) rfl)) rfl, gd (hcw5_1 _ (List.mem_of_getElem? (i := 4) rfl)) rfl, by decide +kernel, by decide +kernel, by decide +kernel⟩
theorem ivX5_partOfRank : Iv mX5_partOfRank 5 := ⟨Nat.le_of_ble_eq_true rfl, rfl, gd (hcw5_1 _ (List.mem_of_getElem? (i := 3) rfl)) rfl, gd (hps2 _ (List.mem_of_getElem? (i := 11) rfl)) rfl⟩
noncomputable def fX5_partOfRank (Z : Shp) (M : Mem) (a0 : Nat) (x1 : Int32) (x2 : Int32) (x3 : Int32) (x4 : Int32) : Option (Int32) := (if x4 ≤ 0 then some (0 : Int32) else (if tg Z a0 = (6, 9) then (Option.bind (fX5_debtOf Z M a0 x1 x2) (fun v3 => (if v3 = 0 then some (0 : Int32) else (Option.bind (loop (fun s9 : Int32 × Int32 × Int32 => (if (4 : Int32) ≤ s9.2.2 then some (Sum.inr (s9.1, s9.2.1)) else (Option.bind (fX5_debtOf Z M a0 s9.2.2 x2) (fun v13 => (if ¬ x4 = 0 then (pu ((s9.1 - ((x3 * v13) / x4))) (fun z16 => (if x1 ≤ s9.2.2 then (pu ((s9.2.1 + (0 : Int32))) (fun z18 => some (Sum.inl (z16, z18, (s9.2.2 + (1 : Int32)))))) else (Option.bind (fX5_debtOf Z M a0 s9.2.2 x2) (fun v19 => (if v19 ≤ 0 then (pu ((s9.2.1 + (0 : Int32))) (fun z22 => some (Sum.inl (z16, z22, (s9.2.2 + (1 : Int32)))))) else (pu ((s9.2.1 + (1 : Int32))) (fun z23 => some (Sum.inl (z16, z23, (s9.2.2 + (1 : Int32)))))))))))) else none))))) (x3, (0 : Int32), (0 : Int32))) (fun v8 : Int32 × Int32 => (Option.bind (fX5_debtOf Z M a0 x1 x2) (fun v24 => (if ¬ x4 = 0 then (if v8.1 ≤ v8.2 then some (((x3 * v24) / x4) + (0 : Int32)) else some (((x3 * v24) / x4) + (1 : Int32))) else none)))))))) else none))
set_option maxRecDepth 20000 in
theorem kX5_partOfRank (l : Launch) (Z : Shp) (M : Mem) (a0 : Nat) (x1 : Int32) (x2 : Int32) (x3 : Int32) (x4 : Int32) (r : Int32) (h : fX5_partOfRank Z M a0 x1 x2 x3 x4 = some r) : Ct l mX5_partOfRank [vr a0, vi x1, vi x2, vi x3, vi x4] Z M ((some (vi r)), Z, M) := by
  refine Ct.of rfl (Nat.le_of_ble_eq_true rfl) (fun X hM => ?_)
  have hX := hM.1
  refine r_top (mk := fun r => ((some (vi r)), Z, M)) h (fun K hK => ?_)
  unfold fX5_partOfRank
  refine r_iload (i := 4) (x := x4) (q := 2) 4 hX dX5_partOfRank_0 rfl rfl ?_
  refine r_if_le (tgt := 14) (q := 5) hX dX5_partOfRank_2 (by decide) rfl (fun hb1 => ?_) (fun hb1 => ?_)
  · refine r_iconst (v := (0 : Int32)) (q := 15) hX dX5_partOfRank_14 rfl rfl ?_
    refine r_lf (hK _) ?_
    exact r_iret hM rfl (Nat.le_of_ble_eq_true rfl) (Nat.le_of_ble_eq_true rfl) dX5_partOfRank_15
  · refine r_aload_n (i := 0) (x := a0) (q := 6) 0 hX dX5_partOfRank_5 rfl rfl rfl ?_
    refine r_iload_n (i := 1) (x := x1) (q := 7) 1 hX dX5_partOfRank_6 rfl rfl rfl ?_
    refine r_iload_n (i := 2) (x := x2) (q := 8) 2 hX dX5_partOfRank_7 rfl rfl rfl ?_
    refine r_ck (fun hc2 => ?_)
    refine r_bind (fun v3 h4 => ?_)
    refine r_cv (a := a0) (As := [vi x1, vi x2]) (st := []) (r := (some (vi v3))) (Z1 := Z) (M1 := M) (k1 := 0) (n1 := 0) (st1 := [vi v3]) (q := 11) hX (fun l => kX5_debtOf l Z M a0 x1 x2 v3 h4) hc2 ivX5_debtOf ccX5_debtOf (Or.inl lkX5_37) rfl rfl rfl ⟨Nat.le_of_ble_eq_true rfl, Nat.le_of_ble_eq_true rfl, rfl, rfl, Nat.le_of_ble_eq_true rfl, Nat.le_of_ble_eq_true rfl⟩ (Nat.le_of_ble_eq_true rfl) dX5_partOfRank_8 rfl ?_
    refine r_if_ne (tgt := 16) (q := 14) hX dX5_partOfRank_11 (by decide) rfl (fun hb5 => ?_) (fun hb5 => ?_)
    · refine r_iconst (v := (0 : Int32)) (q := 15) hX dX5_partOfRank_14 rfl rfl ?_
      refine r_lf (hK _) ?_
      exact r_iret hM rfl (Nat.le_of_ble_eq_true rfl) (Nat.le_of_ble_eq_true rfl) dX5_partOfRank_15
    · refine r_iload_n (i := 3) (x := x3) (q := 17) 3 hX dX5_partOfRank_16 rfl rfl rfl ?_
      refine r_istore (x := x3) (q := 19) 5 [1, 2, 3, 4, 5, 0] (L1 := [(0, vr a0), (1, vi x1), (2, vi x2), (3, vi x3), (4, vi x4), (5, vi x3)]) hX dX5_partOfRank_17 (Nat.le_of_ble_eq_true rfl) rfl rfl ?_
      refine r_iconst (v := (0 : Int32)) (q := 20) hX dX5_partOfRank_19 rfl rfl ?_
      refine r_istore (x := (0 : Int32)) (q := 22) 6 [1, 2, 3, 4, 5, 6, 0] (L1 := [(0, vr a0), (1, vi x1), (2, vi x2), (3, vi x3), (4, vi x4), (5, vi x3), (6, vi (0 : Int32))]) hX dX5_partOfRank_20 (Nat.le_of_ble_eq_true rfl) rfl rfl ?_
      refine r_iconst (v := (0 : Int32)) (q := 23) hX dX5_partOfRank_22 rfl rfl ?_
      refine r_istore (x := (0 : Int32)) (q := 25) 7 [1, 2, 3, 4, 5, 6, 7, 0] (L1 := [(0, vr a0), (1, vi x1), (2, vi x2), (3, vi x3), (4, vi x4), (5, vi x3), (6, vi (0 : Int32)), (7, vi (0 : Int32))]) hX dX5_partOfRank_23 (Nat.le_of_ble_eq_true rfl) rfl rfl ?_
      refine r_jn (J := fun (v8 : Int32 × Int32) (P : Option Res) => Ref mX5_partOfRank X 0 0 Z M 80 [(0, vr a0), (1, vi x1), (2, vi x2), (3, vi x3), (4, vi x4), (5, vi v8.1), (6, vi v8.2)] [] P) (fun v8 => ?_) (fun K1 hj6 => ?_)
      · refine r_iload_n (i := 3) (x := x3) (q := 81) 3 hX dX5_partOfRank_80 rfl rfl rfl ?_
        refine r_aload_n (i := 0) (x := a0) (q := 82) 0 hX dX5_partOfRank_81 rfl rfl rfl ?_
        refine r_iload_n (i := 1) (x := x1) (q := 83) 1 hX dX5_partOfRank_82 rfl rfl rfl ?_
        refine r_iload_n (i := 2) (x := x2) (q := 84) 2 hX dX5_partOfRank_83 rfl rfl rfl ?_
        refine r_bind (fun v24 h25 => ?_)
        refine r_cv (a := a0) (As := [vi x1, vi x2]) (st := [vi x3]) (r := (some (vi v24))) (Z1 := Z) (M1 := M) (k1 := 0) (n1 := 0) (st1 := [vi v24, vi x3]) (q := 87) hX (fun l => kX5_debtOf l Z M a0 x1 x2 v24 h25) hc2 ivX5_debtOf ccX5_debtOf (Or.inl lkX5_37) rfl rfl rfl ⟨Nat.le_of_ble_eq_true rfl, Nat.le_of_ble_eq_true rfl, rfl, rfl, Nat.le_of_ble_eq_true rfl, Nat.le_of_ble_eq_true rfl⟩ (Nat.le_of_ble_eq_true rfl) dX5_partOfRank_84 rfl ?_
        refine r_imul (q := 88) hX dX5_partOfRank_87 rfl ?_
        refine r_iload (i := 4) (x := x4) (q := 90) 4 hX dX5_partOfRank_88 rfl rfl ?_
        refine r_ck (fun hd26 => ?_)
        refine r_idiv (q := 91) hX dX5_partOfRank_90 hd26 rfl ?_
        refine r_iload (i := 6) (x := v8.2) (q := 93) 6 hX dX5_partOfRank_91 rfl rfl ?_
        refine r_iload (i := 5) (x := v8.1) (q := 95) 5 hX dX5_partOfRank_93 rfl rfl ?_
        refine r_icmp_ge (tgt := 102) (q := 98) hX dX5_partOfRank_95 (by decide) rfl (fun hb27 => ?_) (fun hb27 => ?_)
        · refine r_iconst (v := (0 : Int32)) (q := 103) hX dX5_partOfRank_102 rfl rfl ?_
          refine r_iadd (q := 104) hX dX5_partOfRank_103 rfl ?_
          refine r_lf (hK _) ?_
          exact r_iret hM rfl (Nat.le_of_ble_eq_true rfl) (Nat.le_of_ble_eq_true rfl) dX5_partOfRank_104
        · refine r_iconst (v := (1 : Int32)) (q := 99) hX dX5_partOfRank_98 rfl rfl ?_
          refine r_goto (q := 103) hX dX5_partOfRank_99 (by decide) ?_
          refine r_iadd (q := 104) hX dX5_partOfRank_103 rfl ?_
          refine r_lf (hK _) ?_
          exact r_iret hM rfl (Nat.le_of_ble_eq_true rfl) (Nat.le_of_ble_eq_true rfl) dX5_partOfRank_104
      · refine r_loop (Hd := fun (s9 : Int32 × Int32 × Int32) (P : Option Res) => Ref mX5_partOfRank X 0 0 Z M 25 [(0, vr a0), (1, vi x1), (2, vi x2), (3, vi x3), (4, vi x4), (5, vi s9.1), (6, vi s9.2.1), (7, vi s9.2.2)] [] P) (fun _ => r_none) (fun s9 K1 hn10 hx11 => ?_) (x3, (0 : Int32), (0 : Int32))
        refine r_iload (i := 7) (x := s9.2.2) (q := 27) 7 hX dX5_partOfRank_25 rfl rfl ?_
        refine r_iconst (v := (4 : Int32)) (q := 28) hX dX5_partOfRank_27 rfl rfl ?_
        refine r_icmp_ge (tgt := 80) (q := 31) hX dX5_partOfRank_28 (by decide) rfl (fun hb12 => ?_) (fun hb12 => ?_)
        · refine r_lf (hx11 _) ?_
          refine r_sub [0, 1, 2, 3, 4, 5, 6] rfl ?_
          exact hj6 (s9.1, s9.2.1)
        · refine r_iload (i := 5) (x := s9.1) (q := 33) 5 hX dX5_partOfRank_31 rfl rfl ?_
          refine r_iload_n (i := 3) (x := x3) (q := 34) 3 hX dX5_partOfRank_33 rfl rfl rfl ?_
          refine r_aload_n (i := 0) (x := a0) (q := 35) 0 hX dX5_partOfRank_34 rfl rfl rfl ?_
          refine r_iload (i := 7) (x := s9.2.2) (q := 37) 7 hX dX5_partOfRank_35 rfl rfl ?_
          refine r_iload_n (i := 2) (x := x2) (q := 38) 2 hX dX5_partOfRank_37 rfl rfl rfl ?_
          refine r_bind (fun v13 h14 => ?_)
          refine r_cv (a := a0) (As := [vi s9.2.2, vi x2]) (st := [vi x3, vi s9.1]) (r := (some (vi v13))) (Z1 := Z) (M1 := M) (k1 := 0) (n1 := 0) (st1 := [vi v13, vi x3, vi s9.1]) (q := 41) hX (fun l => kX5_debtOf l Z M a0 s9.2.2 x2 v13 h14) hc2 ivX5_debtOf ccX5_debtOf (Or.inl lkX5_37) rfl rfl rfl ⟨Nat.le_of_ble_eq_true rfl, Nat.le_of_ble_eq_true rfl, rfl, rfl, Nat.le_of_ble_eq_true rfl, Nat.le_of_ble_eq_true rfl⟩ (Nat.le_of_ble_eq_true rfl) dX5_partOfRank_38 rfl ?_
          refine r_imul (q := 42) hX dX5_partOfRank_41 rfl ?_
          refine r_iload (i := 4) (x := x4) (q := 44) 4 hX dX5_partOfRank_42 rfl rfl ?_
          refine r_ck (fun hd15 => ?_)
          refine r_idiv (q := 45) hX dX5_partOfRank_44 hd15 rfl ?_
          refine r_isub (q := 46) hX dX5_partOfRank_45 rfl ?_
          refine r_istoreP (x := (s9.1 - ((x3 * v13) / x4))) (q := 48) 5 [1, 2, 3, 4, 5, 0, 7, 8] (fun z16 => [(0, vr a0), (1, vi x1), (2, vi x2), (3, vi x3), (4, vi x4), (5, vi z16), (6, vi s9.2.1), (7, vi s9.2.2)]) hX dX5_partOfRank_46 (Nat.le_of_ble_eq_true rfl) (fun _ => rfl) rfl (fun z16 => ?_)
          refine r_iload (i := 6) (x := s9.2.1) (q := 50) 6 hX dX5_partOfRank_48 rfl rfl ?_
          refine r_iload (i := 7) (x := s9.2.2) (q := 52) 7 hX dX5_partOfRank_50 rfl rfl ?_
          refine r_iload_n (i := 1) (x := x1) (q := 53) 1 hX dX5_partOfRank_52 rfl rfl rfl ?_
          refine r_icmp_ge (tgt := 70) (q := 56) hX dX5_partOfRank_53 (by decide) rfl (fun hb17 => ?_) (fun hb17 => ?_)
          · refine r_iconst (v := (0 : Int32)) (q := 71) hX dX5_partOfRank_70 rfl rfl ?_
            refine r_iadd (q := 72) hX dX5_partOfRank_71 rfl ?_
            refine r_istoreP (x := (s9.2.1 + (0 : Int32))) (q := 74) 6 [1, 2, 3, 4, 5, 6, 0, 8] (fun z18 => [(0, vr a0), (1, vi x1), (2, vi x2), (3, vi x3), (4, vi x4), (5, vi z16), (6, vi z18), (7, vi s9.2.2)]) hX dX5_partOfRank_72 (Nat.le_of_ble_eq_true rfl) (fun _ => rfl) rfl (fun z18 => ?_)
            refine r_iinc (x := s9.2.2) (v := (s9.2.2 + (1 : Int32))) (q := 77) 7 7 [1, 2, 3, 4, 5, 6, 7, 0] (L1 := [(0, vr a0), (1, vi x1), (2, vi x2), (3, vi x3), (4, vi x4), (5, vi z16), (6, vi z18), (7, vi (s9.2.2 + (1 : Int32)))]) hX dX5_partOfRank_74 rfl rfl (Nat.le_of_ble_eq_true rfl) rfl rfl ?_
            refine r_goto (q := 25) hX dX5_partOfRank_77 (by decide) ?_
            refine r_l0 ?_
            exact hn10 (z16, z18, (s9.2.2 + (1 : Int32)))
          · refine r_aload_n (i := 0) (x := a0) (q := 57) 0 hX dX5_partOfRank_56 rfl rfl rfl ?_
            refine r_iload (i := 7) (x := s9.2.2) (q := 59) 7 hX dX5_partOfRank_57 rfl rfl ?_
            refine r_iload_n (i := 2) (x := x2) (q := 60) 2 hX dX5_partOfRank_59 rfl rfl rfl ?_
            refine r_bind (fun v19 h20 => ?_)
            refine r_cv (a := a0) (As := [vi s9.2.2, vi x2]) (st := [vi s9.2.1]) (r := (some (vi v19))) (Z1 := Z) (M1 := M) (k1 := 0) (n1 := 0) (st1 := [vi v19, vi s9.2.1]) (q := 63) hX (fun l => kX5_debtOf l Z M a0 s9.2.2 x2 v19 h20) hc2 ivX5_debtOf ccX5_debtOf (Or.inl lkX5_37) rfl rfl rfl ⟨Nat.le_of_ble_eq_true rfl, Nat.le_of_ble_eq_true rfl, rfl, rfl, Nat.le_of_ble_eq_true rfl, Nat.le_of_ble_eq_true rfl⟩ (Nat.le_of_ble_eq_true rfl) dX5_partOfRank_60 rfl ?_
            refine r_if_le (tgt := 70) (q := 66) hX dX5_partOfRank_63 (by decide) rfl (fun hb21 => ?_) (fun hb21 => ?_)
            · refine r_iconst (v := (0 : Int32)) (q := 71) hX dX5_partOfRank_70 rfl rfl ?_
              refine r_iadd (q := 72) hX dX5_partOfRank_71 rfl ?_
              refine r_istoreP (x := (s9.2.1 + (0 : Int32))) (q := 74) 6 [1, 2, 3, 4, 5, 6, 0, 8] (fun z22 => [(0, vr a0), (1, vi x1), (2, vi x2), (3, vi x3), (4, vi x4), (5, vi z16), (6, vi z22), (7, vi s9.2.2)]) hX dX5_partOfRank_72 (Nat.le_of_ble_eq_true rfl) (fun _ => rfl) rfl (fun z22 => ?_)
              refine r_iinc (x := s9.2.2) (v := (s9.2.2 + (1 : Int32))) (q := 77) 7 7 [1, 2, 3, 4, 5, 6, 7, 0] (L1 := [(0, vr a0), (1, vi x1), (2, vi x2), (3, vi x3), (4, vi x4), (5, vi z16), (6, vi z22), (7, vi (s9.2.2 + (1 : Int32)))]) hX dX5_partOfRank_74 rfl rfl (Nat.le_of_ble_eq_true rfl) rfl rfl ?_
              refine r_goto (q := 25) hX dX5_partOfRank_77 (by decide) ?_
              refine r_l0 ?_
              exact hn10 (z16, z22, (s9.2.2 + (1 : Int32)))
            · refine r_iconst (v := (1 : Int32)) (q := 67) hX dX5_partOfRank_66 rfl rfl ?_
              refine r_goto (q := 71) hX dX5_partOfRank_67 (by decide) ?_
              refine r_iadd (q := 72) hX dX5_partOfRank_71 rfl ?_
              refine r_istoreP (x := (s9.2.1 + (1 : Int32))) (q := 74) 6 [1, 2, 3, 4, 5, 6, 0, 8] (fun z23 => [(0, vr a0), (1, vi x1), (2, vi x2), (3, vi x3), (4, vi x4), (5, vi z16), (6, vi z23), (7, vi s9.2.2)]) hX dX5_partOfRank_72 (Nat.le_of_ble_eq_true rfl) (fun _ => rfl) rfl (fun z23 => ?_)
              refine r_iinc (x := s9.2.2) (v := (s9.2.2 + (1 : Int32))) (q := 77) 7 7 [1, 2, 3, 4, 5, 6, 7, 0] (L1 := [(0, vr a0), (1, vi x1), (2, vi x2), (3, vi x3), (4, vi x4), (5, vi z16), (6, vi z23), (7, vi (s9.2.2 + (1 : Int32)))]) hX dX5_partOfRank_74 rfl rfl (Nat.le_of_ble_eq_true rfl) rfl rfl ?_
              refine r_goto (q := 25) hX dX5_partOfRank_77 (by decide) ?_
              refine r_l0 ?_
              exact hn10 (z16, z23, (s9.2.2 + (1 : Int32)))
theorem lkX5_41 : Lk RX5 41 yX5_allOf := gd (hcw5_0 _ (List.mem_of_getElem? (i := 17) rfl)) rfl
theorem lkX5_45 : Lk RX5 45 yX5_partOfRank := gd (hcw5_1 _ (List.mem_of_getElem? (i := 1) rfl)) rfl
def mX5_paidTo : MD := (yX5_paidTo, cX5_paidTo, 7, (some .int), 2, 49, 0, 0)
theorem ccX5_paidTo : Cc mX5_paidTo 2 := ⟨gd (hcw1_0 _ (List.mem_of_getElem? (i := 8) rfl)) rfl, gd (hcw5_0 _ (List.mem_of_getElem? (i := 16) rfl)) rfl, by decide +kernel, by decide +kernel, by decide +kernel⟩
theorem ivX5_paidTo : Iv mX5_paidTo 5 := ⟨Nat.le_of_ble_eq_true rfl, rfl, gd (hcw5_0 _ (List.mem_of_getElem? (i := 14) rfl)) rfl, gd (hcw5_0 _ (List.mem_of_getElem? (i := 15) rfl)) rfl⟩
noncomputable def fX5_paidTo (Z : Shp) (M : Mem) (a0 : Nat) (x1 : Int32) (x2 : Int32) : Option (Int32) := (loop (fun s1 : Int32 × Int32 × Int32 => (if (3 : Int32) ≤ s1.2.2 then some (Sum.inr s1.2.1) else (if tg Z a0 = (6, 9) then (Option.bind (fX5_allOf Z M a0 s1.2.2) (fun v6 => (Option.bind (if s1.1 < v6 then (Option.bind (fX5_partOfRank Z M a0 x1 s1.2.2 s1.1 v6) (fun v12 => some v12)) else (Option.bind (fX5_debtOf Z M a0 x1 s1.2.2) (fun v14 => some v14))) (fun v11 : Int32 => (pu ((s1.2.1 + v11)) (fun z16 => (pu ((mxI (0 : Int32) (s1.1 - v6))) (fun z17 => some (Sum.inl (z17, z16, (s1.2.2 + (1 : Int32)))))))))))) else none))) (x2, (0 : Int32), (0 : Int32)))
set_option maxRecDepth 20000 in
theorem kX5_paidTo (l : Launch) (Z : Shp) (M : Mem) (a0 : Nat) (x1 : Int32) (x2 : Int32) (r : Int32) (h : fX5_paidTo Z M a0 x1 x2 = some r) : Ct l mX5_paidTo [vr a0, vi x1, vi x2] Z M ((some (vi r)), Z, M) := by
  refine Ct.of rfl (Nat.le_of_ble_eq_true rfl) (fun X hM => ?_)
  have hX := hM.1
  refine r_top (mk := fun r => ((some (vi r)), Z, M)) h (fun K hK => ?_)
  unfold fX5_paidTo
  refine r_iload_n (i := 2) (x := x2) (q := 1) 2 hX dX5_paidTo_0 rfl rfl rfl ?_
  refine r_istore_n (x := x2) (q := 2) 3 [1, 2, 3, 0] (L1 := [(0, vr a0), (1, vi x1), (2, vi x2), (3, vi x2)]) hX dX5_paidTo_1 rfl (Nat.le_of_ble_eq_true rfl) rfl rfl ?_
  refine r_iconst (v := (0 : Int32)) (q := 3) hX dX5_paidTo_2 rfl rfl ?_
  refine r_istore (x := (0 : Int32)) (q := 5) 4 [1, 2, 3, 4, 0] (L1 := [(0, vr a0), (1, vi x1), (2, vi x2), (3, vi x2), (4, vi (0 : Int32))]) hX dX5_paidTo_3 (Nat.le_of_ble_eq_true rfl) rfl rfl ?_
  refine r_iconst (v := (0 : Int32)) (q := 6) hX dX5_paidTo_5 rfl rfl ?_
  refine r_istore (x := (0 : Int32)) (q := 8) 5 [1, 2, 3, 4, 5, 0] (L1 := [(0, vr a0), (1, vi x1), (2, vi x2), (3, vi x2), (4, vi (0 : Int32)), (5, vi (0 : Int32))]) hX dX5_paidTo_6 (Nat.le_of_ble_eq_true rfl) rfl rfl ?_
  refine r_sub [0, 1, 3, 4, 5] rfl ?_
  refine r_loop (Hd := fun (s1 : Int32 × Int32 × Int32) (P : Option Res) => Ref mX5_paidTo X 0 0 Z M 8 [(0, vr a0), (1, vi x1), (3, vi s1.1), (4, vi s1.2.1), (5, vi s1.2.2)] [] P) (fun _ => r_none) (fun s1 K1 hn2 hx3 => ?_) (x2, (0 : Int32), (0 : Int32))
  refine r_iload (i := 5) (x := s1.2.2) (q := 10) 4 hX dX5_paidTo_8 rfl rfl ?_
  refine r_iconst (v := (3 : Int32)) (q := 11) hX dX5_paidTo_10 rfl rfl ?_
  refine r_icmp_ge (tgt := 68) (q := 14) hX dX5_paidTo_11 (by decide) rfl (fun hb4 => ?_) (fun hb4 => ?_)
  · refine r_iload (i := 4) (x := s1.2.1) (q := 70) 3 hX dX5_paidTo_68 rfl rfl ?_
    refine r_lf ((hx3 _).trans (hK _)) ?_
    exact r_iret hM rfl (Nat.le_of_ble_eq_true rfl) (Nat.le_of_ble_eq_true rfl) dX5_paidTo_70
  · refine r_aload_n (i := 0) (x := a0) (q := 15) 0 hX dX5_paidTo_14 rfl rfl rfl ?_
    refine r_iload (i := 5) (x := s1.2.2) (q := 17) 4 hX dX5_paidTo_15 rfl rfl ?_
    refine r_ck (fun hc5 => ?_)
    refine r_bind (fun v6 h7 => ?_)
    refine r_cv (a := a0) (As := [vi s1.2.2]) (st := []) (r := (some (vi v6))) (Z1 := Z) (M1 := M) (k1 := 0) (n1 := 0) (st1 := [vi v6]) (q := 20) hX (fun l => kX5_allOf l Z M a0 s1.2.2 v6 h7) hc5 ivX5_allOf ccX5_allOf (Or.inl lkX5_41) rfl rfl rfl ⟨Nat.le_of_ble_eq_true rfl, Nat.le_of_ble_eq_true rfl, rfl, rfl, Nat.le_of_ble_eq_true rfl, Nat.le_of_ble_eq_true rfl⟩ (Nat.le_of_ble_eq_true rfl) dX5_paidTo_17 rfl ?_
    refine r_istore (x := v6) (q := 22) 6 [1, 2, 3, 4, 5, 0] (L1 := [(0, vr a0), (1, vi x1), (3, vi s1.1), (4, vi s1.2.1), (5, vi s1.2.2), (6, vi v6)]) hX dX5_paidTo_20 (Nat.le_of_ble_eq_true rfl) rfl rfl ?_
    refine r_iload (i := 4) (x := s1.2.1) (q := 24) 3 hX dX5_paidTo_22 rfl rfl ?_
    refine r_iload (i := 6) (x := v6) (q := 26) 5 hX dX5_paidTo_24 rfl rfl ?_
    refine r_iload_n (i := 3) (x := s1.1) (q := 27) 2 hX dX5_paidTo_26 rfl rfl rfl ?_
    refine r_jn (J := fun (v11 : Int32) (P : Option Res) => Ref mX5_paidTo X 0 0 Z M 50 [(0, vr a0), (1, vi x1), (3, vi s1.1), (5, vi s1.2.2), (6, vi v6)] [vi v11, vi s1.2.1] P) (fun v11 => ?_) (fun K1 hj9 => ?_)
    · refine r_iadd (q := 51) hX dX5_paidTo_50 rfl ?_
      refine r_istoreP (x := (s1.2.1 + v11)) (q := 53) 4 [1, 2, 3, 0, 4, 5] (fun z16 => [(0, vr a0), (1, vi x1), (3, vi s1.1), (4, vi z16), (5, vi s1.2.2), (6, vi v6)]) hX dX5_paidTo_51 (Nat.le_of_ble_eq_true rfl) (fun _ => rfl) rfl (fun z16 => ?_)
      refine r_iconst (v := (0 : Int32)) (q := 54) hX dX5_paidTo_53 rfl rfl ?_
      refine r_iload_n (i := 3) (x := s1.1) (q := 55) 2 hX dX5_paidTo_54 rfl rfl rfl ?_
      refine r_iload (i := 6) (x := v6) (q := 57) 5 hX dX5_paidTo_55 rfl rfl ?_
      refine r_isub (q := 58) hX dX5_paidTo_57 rfl ?_
      refine r_mmax (q := 61) hX (gd (hcw5_1 _ (List.mem_of_getElem? (i := 5) rfl)) rfl) (Nat.le_of_ble_eq_true rfl) (Nat.le_of_ble_eq_true rfl) (Nat.le_of_ble_eq_true rfl) (Nat.le_of_ble_eq_true rfl) dX5_paidTo_58 rfl ?_
      refine r_istore_nP (x := (mxI (0 : Int32) (s1.1 - v6))) (q := 62) 3 [1, 2, 0, 4, 5, 6] (fun z17 => [(0, vr a0), (1, vi x1), (3, vi z17), (4, vi z16), (5, vi s1.2.2), (6, vi v6)]) hX dX5_paidTo_61 rfl (Nat.le_of_ble_eq_true rfl) (fun _ => rfl) rfl (fun z17 => ?_)
      refine r_iinc (x := s1.2.2) (v := (s1.2.2 + (1 : Int32))) (q := 65) 5 4 [1, 2, 3, 4, 0, 6] (L1 := [(0, vr a0), (1, vi x1), (3, vi z17), (4, vi z16), (5, vi (s1.2.2 + (1 : Int32))), (6, vi v6)]) hX dX5_paidTo_62 rfl rfl (Nat.le_of_ble_eq_true rfl) rfl rfl ?_
      refine r_goto (q := 8) hX dX5_paidTo_65 (by decide) ?_
      refine r_l0 ?_
      refine r_sub [0, 1, 2, 3, 4] rfl ?_
      exact hn2 (z17, z16, (s1.2.2 + (1 : Int32)))
    · refine r_icmp_gt (tgt := 40) (q := 30) hX dX5_paidTo_27 (by decide) rfl (fun hb8 => ?_) (fun hb8 => ?_)
      · refine r_aload_n (i := 0) (x := a0) (q := 41) 0 hX dX5_paidTo_40 rfl rfl rfl ?_
        refine r_iload_n (i := 1) (x := x1) (q := 42) 1 hX dX5_paidTo_41 rfl rfl rfl ?_
        refine r_iload (i := 5) (x := s1.2.2) (q := 44) 4 hX dX5_paidTo_42 rfl rfl ?_
        refine r_iload_n (i := 3) (x := s1.1) (q := 45) 2 hX dX5_paidTo_44 rfl rfl rfl ?_
        refine r_iload (i := 6) (x := v6) (q := 47) 5 hX dX5_paidTo_45 rfl rfl ?_
        refine r_bind (fun v12 h13 => ?_)
        refine r_cv (a := a0) (As := [vi x1, vi s1.2.2, vi s1.1, vi v6]) (st := [vi s1.2.1]) (r := (some (vi v12))) (Z1 := Z) (M1 := M) (k1 := 0) (n1 := 0) (st1 := [vi v12, vi s1.2.1]) (q := 50) hX (fun l => kX5_partOfRank l Z M a0 x1 s1.2.2 s1.1 v6 v12 h13) hc5 ivX5_partOfRank ccX5_partOfRank (Or.inl lkX5_45) rfl rfl rfl ⟨Nat.le_of_ble_eq_true rfl, Nat.le_of_ble_eq_true rfl, rfl, rfl, Nat.le_of_ble_eq_true rfl, Nat.le_of_ble_eq_true rfl⟩ (Nat.le_of_ble_eq_true rfl) dX5_paidTo_47 rfl ?_
        refine r_l0 ?_
        refine r_sub [0, 1, 2, 4, 5] rfl ?_
        exact hj9 v12
      · refine r_aload_n (i := 0) (x := a0) (q := 31) 0 hX dX5_paidTo_30 rfl rfl rfl ?_
        refine r_iload_n (i := 1) (x := x1) (q := 32) 1 hX dX5_paidTo_31 rfl rfl rfl ?_
        refine r_iload (i := 5) (x := s1.2.2) (q := 34) 4 hX dX5_paidTo_32 rfl rfl ?_
        refine r_bind (fun v14 h15 => ?_)
        refine r_cv (a := a0) (As := [vi x1, vi s1.2.2]) (st := [vi s1.2.1]) (r := (some (vi v14))) (Z1 := Z) (M1 := M) (k1 := 0) (n1 := 0) (st1 := [vi v14, vi s1.2.1]) (q := 37) hX (fun l => kX5_debtOf l Z M a0 x1 s1.2.2 v14 h15) hc5 ivX5_debtOf ccX5_debtOf (Or.inl lkX5_37) rfl rfl rfl ⟨Nat.le_of_ble_eq_true rfl, Nat.le_of_ble_eq_true rfl, rfl, rfl, Nat.le_of_ble_eq_true rfl, Nat.le_of_ble_eq_true rfl⟩ (Nat.le_of_ble_eq_true rfl) dX5_paidTo_34 rfl ?_
        refine r_goto (q := 50) hX dX5_paidTo_37 (by decide) ?_
        refine r_l0 ?_
        refine r_sub [0, 1, 2, 4, 5] rfl ?_
        exact hj9 v14
theorem lkX11_293 : Lk RX11 293 yX5_paidTo := gd (hcw5_0 _ (List.mem_of_getElem? (i := 13) rfl)) rfl
def mX11_failed : MD := (yX11_failed, cX11_failed, 3, (some .int), 3, 75, 0, 0)
theorem ccX11_failed : Cc mX11_failed 2 := ⟨gd (hcw1_0 _ (List.mem_of_getElem? (i := 1) rfl)) rfl, gd (hcw5_0 _ (List.mem_of_getElem? (i := 11) rfl)) rfl, by decide +kernel, by decide +kernel, by decide +kernel⟩
theorem ivX11_failed : Iv mX11_failed 11 := ⟨Nat.le_of_ble_eq_true rfl, rfl, gd (hcw5_0 _ (List.mem_of_getElem? (i := 9) rfl)) rfl, gd (hcw5_0 _ (List.mem_of_getElem? (i := 10) rfl)) rfl⟩
noncomputable def fX11_failed (Z : Shp) (M : Mem) (a0 : Nat) (x1 : Int32) (x2 : Int32) : Option (Int32) := (if (fX11_within x1 (0 : Int32) (3 : Int32)) = 0 then some (-101 : Int32) else (if (fX11_within x2 (0 : Int32) (99999 : Int32)) = 0 then some (-102 : Int32) else (if tg Z a0 = (12, 6) then (if tg Z (rR M a0 4) = (6, 9) then (Option.bind (fX5_paidTo Z M (rR M a0 4) x1 x2) (fun v5 => some v5)) else none) else none)))
set_option maxRecDepth 20000 in
theorem kX11_failed (l : Launch) (Z : Shp) (M : Mem) (a0 : Nat) (x1 : Int32) (x2 : Int32) (r : Int32) (h : fX11_failed Z M a0 x1 x2 = some r) : Ct l mX11_failed [vr a0, vi x1, vi x2] Z M ((some (vi r)), Z, M) := by
  refine Ct.of rfl (Nat.le_of_ble_eq_true rfl) (fun X hM => ?_)
  have hX := hM.1
  refine r_top (mk := fun r => ((some (vi r)), Z, M)) h (fun K hK => ?_)
  unfold fX11_failed
  refine r_iload_n (i := 1) (x := x1) (q := 1) 1 hX dX11_failed_0 rfl rfl rfl ?_
  refine r_iconst (v := (0 : Int32)) (q := 2) hX dX11_failed_1 rfl rfl ?_
  refine r_iconst (v := (3 : Int32)) (q := 3) hX dX11_failed_2 rfl rfl ?_
  refine r_cs (As := [vi x1, vi (0 : Int32), vi (3 : Int32)]) (st := []) (r := (some (vi (fX11_within x1 (0 : Int32) (3 : Int32))))) (Z1 := Z) (M1 := M) (k1 := 0) (n1 := 0) (st1 := [vi (fX11_within x1 (0 : Int32) (3 : Int32))]) (q := 6) hX (fun l => kX11_within l Z M x1 (0 : Int32) (3 : Int32)) stX11_within ccX11_within (Or.inl lkX11_55) rfl rfl rfl ⟨Nat.le_of_ble_eq_true rfl, Nat.le_of_ble_eq_true rfl, rfl, rfl, Nat.le_of_ble_eq_true rfl, Nat.le_of_ble_eq_true rfl⟩ (Nat.le_of_ble_eq_true rfl) dX11_failed_3 rfl ?_
  refine r_if_ne (tgt := 12) (q := 9) hX dX11_failed_6 (by decide) rfl (fun hb1 => ?_) (fun hb1 => ?_)
  · refine r_bipush (v := (-101 : Int32)) (q := 11) hX dX11_failed_9 rfl rfl ?_
    refine r_lf (hK _) ?_
    exact r_iret hM rfl (Nat.le_of_ble_eq_true rfl) (Nat.le_of_ble_eq_true rfl) dX11_failed_11
  · refine r_iload_n (i := 2) (x := x2) (q := 13) 2 hX dX11_failed_12 rfl rfl rfl ?_
    refine r_iconst (v := (0 : Int32)) (q := 14) hX dX11_failed_13 rfl rfl ?_
    refine r_ldcw (v := (99999 : Int32)) (q := 17) hX dX11_failed_14 (gd (hcw5_0 _ (List.mem_of_getElem? (i := 12) rfl)) rfl) rfl ?_
    refine r_cs (As := [vi x2, vi (0 : Int32), vi (99999 : Int32)]) (st := []) (r := (some (vi (fX11_within x2 (0 : Int32) (99999 : Int32))))) (Z1 := Z) (M1 := M) (k1 := 0) (n1 := 0) (st1 := [vi (fX11_within x2 (0 : Int32) (99999 : Int32))]) (q := 20) hX (fun l => kX11_within l Z M x2 (0 : Int32) (99999 : Int32)) stX11_within ccX11_within (Or.inl lkX11_55) rfl rfl rfl ⟨Nat.le_of_ble_eq_true rfl, Nat.le_of_ble_eq_true rfl, rfl, rfl, Nat.le_of_ble_eq_true rfl, Nat.le_of_ble_eq_true rfl⟩ (Nat.le_of_ble_eq_true rfl) dX11_failed_17 rfl ?_
    refine r_if_eq (tgt := 35) (q := 23) hX dX11_failed_20 (by decide) rfl (fun hb2 => ?_) (fun hb2 => ?_)
    · refine r_bipush (v := (-102 : Int32)) (q := 37) hX dX11_failed_35 rfl rfl ?_
      refine r_lf (hK _) ?_
      exact r_iret hM rfl (Nat.le_of_ble_eq_true rfl) (Nat.le_of_ble_eq_true rfl) dX11_failed_37
    · refine r_aload_n (i := 0) (x := a0) (q := 24) 0 hX dX11_failed_23 rfl rfl rfl ?_
      refine r_ck (fun hc3 => ?_)
      refine r_getR (a := a0) (ci := 11) (kf := 4) (q := 27) hX hc3 flX11_40 rfl dX11_failed_24 rfl ?_
      refine r_iload_n (i := 1) (x := x1) (q := 28) 1 hX dX11_failed_27 rfl rfl rfl ?_
      refine r_iload_n (i := 2) (x := x2) (q := 29) 2 hX dX11_failed_28 rfl rfl rfl ?_
      refine r_ck (fun hc4 => ?_)
      refine r_bind (fun v5 h6 => ?_)
      refine r_cv (a := (rR M a0 4)) (As := [vi x1, vi x2]) (st := []) (r := (some (vi v5))) (Z1 := Z) (M1 := M) (k1 := 0) (n1 := 0) (st1 := [vi v5]) (q := 32) hX (fun l => kX5_paidTo l Z M (rR M a0 4) x1 x2 v5 h6) hc4 ivX5_paidTo ccX5_paidTo (Or.inl lkX11_293) rfl rfl rfl ⟨Nat.le_of_ble_eq_true rfl, Nat.le_of_ble_eq_true rfl, rfl, rfl, Nat.le_of_ble_eq_true rfl, Nat.le_of_ble_eq_true rfl⟩ (Nat.le_of_ble_eq_true rfl) dX11_failed_29 rfl ?_
      refine r_goto (q := 37) hX dX11_failed_32 (by decide) ?_
      refine r_lf (hK _) ?_
      exact r_iret hM rfl (Nat.le_of_ble_eq_true rfl) (Nat.le_of_ble_eq_true rfl) dX11_failed_37
theorem lkX2_50 : Lk RX2 50 yX2_isDigit := gd (hcw3_8 _ (List.mem_of_getElem? (i := 16) rfl)) rfl
def mX2_stepInNumber : MD := (yX2_stepInNumber, cX2_stepInNumber, 2, (some .int), 1, 20, 0, 0)
theorem ccX2_stepInNumber : Cc mX2_stepInNumber 2 := ⟨gd (hcw1_0 _ (List.mem_of_getElem? (i := 5) rfl)) rfl, gd (hcw3_8 _ (List.mem_of_getElem? (i := 15) rfl)) rfl, by decide +kernel, by decide +kernel, by decide +kernel⟩
theorem stX2_stepInNumber : Cond.static (yN mX2_stepInNumber) ∈ lw_gd := gd (hcw3_8 _ (List.mem_of_getElem? (i := 14) rfl)) rfl
def fX2_stepInNumber (x0 : Int32) (x1 : Int32) : Option (Int32) := (js (if (6 : Int32) ≤ x0 then some (Sum.inl ()) else (if (fX2_isDigit x1) = 0 then some (Sum.inl ()) else some (Sum.inr (x0 + (1 : Int32))))) (fun v4 : Unit => (if x0 ≤ (2 : Int32) then some (-1 : Int32) else (if x1 = (63 : Int32) then some (7 : Int32) else some (-1 : Int32)))))
set_option maxRecDepth 20000 in
theorem kX2_stepInNumber (l : Launch) (Z : Shp) (M : Mem) (x0 : Int32) (x1 : Int32) (r : Int32) (h : fX2_stepInNumber x0 x1 = some r) : Ct l mX2_stepInNumber [vi x0, vi x1] Z M ((some (vi r)), Z, M) := by
  refine Ct.of rfl (Nat.le_of_ble_eq_true rfl) (fun X hM => ?_)
  have hX := hM.1
  refine r_top (mk := fun r => ((some (vi r)), Z, M)) h (fun K hK => ?_)
  unfold fX2_stepInNumber
  refine r_iload_n (i := 0) (x := x0) (q := 1) 0 hX dX2_stepInNumber_0 rfl rfl rfl ?_
  refine r_bipush (v := (6 : Int32)) (q := 3) hX dX2_stepInNumber_1 rfl rfl ?_
  refine r_js (J := fun (v4 : Unit) (P : Option Res) => Ref mX2_stepInNumber X 0 0 Z M 17 [(0, vi x0), (1, vi x1)] [] P) (fun v4 => ?_) (fun K1 hj2 ho3 => ?_)
  · refine r_iload_n (i := 0) (x := x0) (q := 18) 0 hX dX2_stepInNumber_17 rfl rfl rfl ?_
    refine r_iconst (v := (2 : Int32)) (q := 19) hX dX2_stepInNumber_18 rfl rfl ?_
    refine r_icmp_le (tgt := 33) (q := 22) hX dX2_stepInNumber_19 (by decide) rfl (fun hb6 => ?_) (fun hb6 => ?_)
    · refine r_iconst (v := (-1 : Int32)) (q := 34) hX dX2_stepInNumber_33 rfl rfl ?_
      refine r_lf (hK _) ?_
      exact r_iret hM rfl (Nat.le_of_ble_eq_true rfl) (Nat.le_of_ble_eq_true rfl) dX2_stepInNumber_34
    · refine r_iload_n (i := 1) (x := x1) (q := 23) 1 hX dX2_stepInNumber_22 rfl rfl rfl ?_
      refine r_bipush (v := (63 : Int32)) (q := 25) hX dX2_stepInNumber_23 rfl rfl ?_
      refine r_icmp_ne (tgt := 33) (q := 28) hX dX2_stepInNumber_25 (by decide) rfl (fun hb7 => ?_) (fun hb7 => ?_)
      · refine r_bipush (v := (7 : Int32)) (q := 30) hX dX2_stepInNumber_28 rfl rfl ?_
        refine r_goto (q := 34) hX dX2_stepInNumber_30 (by decide) ?_
        refine r_lf (hK _) ?_
        exact r_iret hM rfl (Nat.le_of_ble_eq_true rfl) (Nat.le_of_ble_eq_true rfl) dX2_stepInNumber_34
      · refine r_iconst (v := (-1 : Int32)) (q := 34) hX dX2_stepInNumber_33 rfl rfl ?_
        refine r_lf (hK _) ?_
        exact r_iret hM rfl (Nat.le_of_ble_eq_true rfl) (Nat.le_of_ble_eq_true rfl) dX2_stepInNumber_34
  · refine r_icmp_ge (tgt := 17) (q := 6) hX dX2_stepInNumber_3 (by decide) rfl (fun hb1 => ?_) (fun hb1 => ?_)
    · refine r_l0 ?_
      exact hj2 ()
    · refine r_iload_n (i := 1) (x := x1) (q := 7) 1 hX dX2_stepInNumber_6 rfl rfl rfl ?_
      refine r_cs (As := [vi x1]) (st := []) (r := (some (vi (fX2_isDigit x1)))) (Z1 := Z) (M1 := M) (k1 := 0) (n1 := 0) (st1 := [vi (fX2_isDigit x1)]) (q := 10) hX (fun l => kX2_isDigit l Z M x1) stX2_isDigit ccX2_isDigit (Or.inl lkX2_50) rfl rfl rfl ⟨Nat.le_of_ble_eq_true rfl, Nat.le_of_ble_eq_true rfl, rfl, rfl, Nat.le_of_ble_eq_true rfl, Nat.le_of_ble_eq_true rfl⟩ (Nat.le_of_ble_eq_true rfl) dX2_stepInNumber_7 rfl ?_
      refine r_if_eq (tgt := 17) (q := 13) hX dX2_stepInNumber_10 (by decide) rfl (fun hb5 => ?_) (fun hb5 => ?_)
      · refine r_l0 ?_
        exact hj2 ()
      · refine r_iload_n (i := 0) (x := x0) (q := 14) 0 hX dX2_stepInNumber_13 rfl rfl rfl ?_
        refine r_iconst (v := (1 : Int32)) (q := 15) hX dX2_stepInNumber_14 rfl rfl ?_
        refine r_iadd (q := 16) hX dX2_stepInNumber_15 rfl ?_
        refine r_lf ((ho3 _).trans (hK _)) ?_
        exact r_iret hM rfl (Nat.le_of_ble_eq_true rfl) (Nat.le_of_ble_eq_true rfl) dX2_stepInNumber_16
def mX2_isName : MD := (yX2_isName, cX2_isName, 1, (some .boolean), 0, 0, 0, 0)
theorem ccX2_isName : Cc mX2_isName 1 := ⟨gd (hcw1_0 _ (List.mem_of_getElem? (i := 5) rfl)) rfl, gd (hcw3_9 _ (List.mem_of_getElem? (i := 4) rfl)) rfl, by decide +kernel, by decide +kernel, by decide +kernel⟩
theorem stX2_isName : Cond.static (yN mX2_isName) ∈ lw_gd := gd (hcw3_9 _ (List.mem_of_getElem? (i := 3) rfl)) rfl
def fX2_isName (x0 : Int32) : Int32 := (if x0 = (108 : Int32) then (1 : Int32) else (if x0 = (109 : Int32) then (1 : Int32) else (if x0 = (103 : Int32) then (1 : Int32) else (if x0 = (99 : Int32) then (1 : Int32) else (if x0 = (100 : Int32) then (1 : Int32) else (0 : Int32))))))
def gX2_isName (x0 : Int32) : Option (Int32) := (if x0 = (108 : Int32) then some (1 : Int32) else (if x0 = (109 : Int32) then some (1 : Int32) else (if x0 = (103 : Int32) then some (1 : Int32) else (if x0 = (99 : Int32) then some (1 : Int32) else (if x0 = (100 : Int32) then some (1 : Int32) else some (0 : Int32))))))
theorem eX2_isName (x0 : Int32) : gX2_isName x0 = some (fX2_isName x0) := by
  unfold gX2_isName fX2_isName
  try simp only [pu]
  (repeat' split) <;> rfl
theorem bX2_isName (x0 : Int32) : zb (fX2_isName x0) := by
  unfold fX2_isName
  try simp only [pu]
  (repeat' split) <;> first | exact Or.inl rfl | exact Or.inr rfl
set_option maxRecDepth 20000 in
theorem kX2_isName (l : Launch) (Z : Shp) (M : Mem) (x0 : Int32) : Ct l mX2_isName [vi x0] Z M ((some (vi (fX2_isName x0))), Z, M) := by
  refine Ct.of rfl (Nat.le_of_ble_eq_true rfl) (fun X hM => ?_)
  have hX := hM.1
  refine r_top (mk := fun r => ((some (vi r)), Z, M)) (eX2_isName x0) (fun K hK => ?_)
  unfold gX2_isName
  refine r_iload_n (i := 0) (x := x0) (q := 1) 0 hX dX2_isName_0 rfl rfl rfl ?_
  refine r_bipush (v := (108 : Int32)) (q := 3) hX dX2_isName_1 rfl rfl ?_
  refine r_icmp_eq (tgt := 30) (q := 6) hX dX2_isName_3 (by decide) rfl (fun hb1 => ?_) (fun hb1 => ?_)
  · refine r_iconst (v := (1 : Int32)) (q := 31) hX dX2_isName_30 rfl rfl ?_
    refine r_goto (q := 35) hX dX2_isName_31 (by decide) ?_
    refine r_lf (hK _) ?_
    exact r_zret hM rfl (Or.inr rfl) (Nat.le_of_ble_eq_true rfl) (Nat.le_of_ble_eq_true rfl) dX2_isName_35
  · refine r_iload_n (i := 0) (x := x0) (q := 7) 0 hX dX2_isName_6 rfl rfl rfl ?_
    refine r_bipush (v := (109 : Int32)) (q := 9) hX dX2_isName_7 rfl rfl ?_
    refine r_icmp_eq (tgt := 30) (q := 12) hX dX2_isName_9 (by decide) rfl (fun hb2 => ?_) (fun hb2 => ?_)
    · refine r_iconst (v := (1 : Int32)) (q := 31) hX dX2_isName_30 rfl rfl ?_
      refine r_goto (q := 35) hX dX2_isName_31 (by decide) ?_
      refine r_lf (hK _) ?_
      exact r_zret hM rfl (Or.inr rfl) (Nat.le_of_ble_eq_true rfl) (Nat.le_of_ble_eq_true rfl) dX2_isName_35
    · refine r_iload_n (i := 0) (x := x0) (q := 13) 0 hX dX2_isName_12 rfl rfl rfl ?_
      refine r_bipush (v := (103 : Int32)) (q := 15) hX dX2_isName_13 rfl rfl ?_
      refine r_icmp_eq (tgt := 30) (q := 18) hX dX2_isName_15 (by decide) rfl (fun hb3 => ?_) (fun hb3 => ?_)
      · refine r_iconst (v := (1 : Int32)) (q := 31) hX dX2_isName_30 rfl rfl ?_
        refine r_goto (q := 35) hX dX2_isName_31 (by decide) ?_
        refine r_lf (hK _) ?_
        exact r_zret hM rfl (Or.inr rfl) (Nat.le_of_ble_eq_true rfl) (Nat.le_of_ble_eq_true rfl) dX2_isName_35
      · refine r_iload_n (i := 0) (x := x0) (q := 19) 0 hX dX2_isName_18 rfl rfl rfl ?_
        refine r_bipush (v := (99 : Int32)) (q := 21) hX dX2_isName_19 rfl rfl ?_
        refine r_icmp_eq (tgt := 30) (q := 24) hX dX2_isName_21 (by decide) rfl (fun hb4 => ?_) (fun hb4 => ?_)
        · refine r_iconst (v := (1 : Int32)) (q := 31) hX dX2_isName_30 rfl rfl ?_
          refine r_goto (q := 35) hX dX2_isName_31 (by decide) ?_
          refine r_lf (hK _) ?_
          exact r_zret hM rfl (Or.inr rfl) (Nat.le_of_ble_eq_true rfl) (Nat.le_of_ble_eq_true rfl) dX2_isName_35
        · refine r_iload_n (i := 0) (x := x0) (q := 25) 0 hX dX2_isName_24 rfl rfl rfl ?_
          refine r_bipush (v := (100 : Int32)) (q := 27) hX dX2_isName_25 rfl rfl ?_
          refine r_icmp_ne (tgt := 34) (q := 30) hX dX2_isName_27 (by decide) rfl (fun hb5 => ?_) (fun hb5 => ?_)
          · refine r_iconst (v := (1 : Int32)) (q := 31) hX dX2_isName_30 rfl rfl ?_
            refine r_goto (q := 35) hX dX2_isName_31 (by decide) ?_
            refine r_lf (hK _) ?_
            exact r_zret hM rfl (Or.inr rfl) (Nat.le_of_ble_eq_true rfl) (Nat.le_of_ble_eq_true rfl) dX2_isName_35
          · refine r_iconst (v := (0 : Int32)) (q := 35) hX dX2_isName_34 rfl rfl ?_
            refine r_lf (hK _) ?_
            exact r_zret hM rfl (Or.inl rfl) (Nat.le_of_ble_eq_true rfl) (Nat.le_of_ble_eq_true rfl) dX2_isName_35
theorem lkX2_56 : Lk RX2 56 yX2_isName := gd (hcw3_9 _ (List.mem_of_getElem? (i := 2) rfl)) rfl
def mX2_stepAtFactor : MD := (yX2_stepAtFactor, cX2_stepAtFactor, 2, (some .int), 1, 20, 0, 0)
theorem ccX2_stepAtFactor : Cc mX2_stepAtFactor 2 := ⟨gd (hcw1_0 _ (List.mem_of_getElem? (i := 5) rfl)) rfl, gd (hcw3_9 _ (List.mem_of_getElem? (i := 1) rfl)) rfl, by decide +kernel, by decide +kernel, by decide +kernel⟩
theorem stX2_stepAtFactor : Cond.static (yN mX2_stepAtFactor) ∈ lw_gd := gd (hcw3_9 _ (List.mem_of_getElem? (i := 0) rfl)) rfl
def fX2_stepAtFactor (x0 : Int32) (x1 : Int32) : Int32 := (if x1 = (33 : Int32) then x0 else (if x1 = (40 : Int32) then (x0 + (16 : Int32)) else (if (fX2_isName x1) = 0 then (-1 : Int32) else ((x0 - (7 : Int32)) + (8 : Int32)))))
def gX2_stepAtFactor (x0 : Int32) (x1 : Int32) : Option (Int32) := (if x1 = (33 : Int32) then some x0 else (if x1 = (40 : Int32) then some (x0 + (16 : Int32)) else (if (fX2_isName x1) = 0 then some (-1 : Int32) else some ((x0 - (7 : Int32)) + (8 : Int32)))))
theorem eX2_stepAtFactor (x0 : Int32) (x1 : Int32) : gX2_stepAtFactor x0 x1 = some (fX2_stepAtFactor x0 x1) := by
  unfold gX2_stepAtFactor fX2_stepAtFactor
  try simp only [pu]
  (repeat' split) <;> rfl
set_option maxRecDepth 20000 in
theorem kX2_stepAtFactor (l : Launch) (Z : Shp) (M : Mem) (x0 : Int32) (x1 : Int32) : Ct l mX2_stepAtFactor [vi x0, vi x1] Z M ((some (vi (fX2_stepAtFactor x0 x1))), Z, M) := by
  refine Ct.of rfl (Nat.le_of_ble_eq_true rfl) (fun X hM => ?_)
  have hX := hM.1
  refine r_top (mk := fun r => ((some (vi r)), Z, M)) (eX2_stepAtFactor x0 x1) (fun K hK => ?_)
  unfold gX2_stepAtFactor
  refine r_iload_n (i := 1) (x := x1) (q := 1) 1 hX dX2_stepAtFactor_0 rfl rfl rfl ?_
  refine r_bipush (v := (33 : Int32)) (q := 3) hX dX2_stepAtFactor_1 rfl rfl ?_
  refine r_icmp_ne (tgt := 8) (q := 6) hX dX2_stepAtFactor_3 (by decide) rfl (fun hb1 => ?_) (fun hb1 => ?_)
  · refine r_iload_n (i := 0) (x := x0) (q := 7) 0 hX dX2_stepAtFactor_6 rfl rfl rfl ?_
    refine r_lf (hK _) ?_
    exact r_iret hM rfl (Nat.le_of_ble_eq_true rfl) (Nat.le_of_ble_eq_true rfl) dX2_stepAtFactor_7
  · refine r_iload_n (i := 1) (x := x1) (q := 9) 1 hX dX2_stepAtFactor_8 rfl rfl rfl ?_
    refine r_bipush (v := (40 : Int32)) (q := 11) hX dX2_stepAtFactor_9 rfl rfl ?_
    refine r_icmp_ne (tgt := 19) (q := 14) hX dX2_stepAtFactor_11 (by decide) rfl (fun hb2 => ?_) (fun hb2 => ?_)
    · refine r_iload_n (i := 0) (x := x0) (q := 15) 0 hX dX2_stepAtFactor_14 rfl rfl rfl ?_
      refine r_bipush (v := (16 : Int32)) (q := 17) hX dX2_stepAtFactor_15 rfl rfl ?_
      refine r_iadd (q := 18) hX dX2_stepAtFactor_17 rfl ?_
      refine r_lf (hK _) ?_
      exact r_iret hM rfl (Nat.le_of_ble_eq_true rfl) (Nat.le_of_ble_eq_true rfl) dX2_stepAtFactor_18
    · refine r_iload_n (i := 1) (x := x1) (q := 20) 1 hX dX2_stepAtFactor_19 rfl rfl rfl ?_
      refine r_cs (As := [vi x1]) (st := []) (r := (some (vi (fX2_isName x1)))) (Z1 := Z) (M1 := M) (k1 := 0) (n1 := 0) (st1 := [vi (fX2_isName x1)]) (q := 23) hX (fun l => kX2_isName l Z M x1) stX2_isName ccX2_isName (Or.inl lkX2_56) rfl rfl rfl ⟨Nat.le_of_ble_eq_true rfl, Nat.le_of_ble_eq_true rfl, rfl, rfl, Nat.le_of_ble_eq_true rfl, Nat.le_of_ble_eq_true rfl⟩ (Nat.le_of_ble_eq_true rfl) dX2_stepAtFactor_20 rfl ?_
      refine r_if_eq (tgt := 36) (q := 26) hX dX2_stepAtFactor_23 (by decide) rfl (fun hb3 => ?_) (fun hb3 => ?_)
      · refine r_iconst (v := (-1 : Int32)) (q := 37) hX dX2_stepAtFactor_36 rfl rfl ?_
        refine r_lf (hK _) ?_
        exact r_iret hM rfl (Nat.le_of_ble_eq_true rfl) (Nat.le_of_ble_eq_true rfl) dX2_stepAtFactor_37
      · refine r_iload_n (i := 0) (x := x0) (q := 27) 0 hX dX2_stepAtFactor_26 rfl rfl rfl ?_
        refine r_bipush (v := (7 : Int32)) (q := 29) hX dX2_stepAtFactor_27 rfl rfl ?_
        refine r_isub (q := 30) hX dX2_stepAtFactor_29 rfl ?_
        refine r_bipush (v := (8 : Int32)) (q := 32) hX dX2_stepAtFactor_30 rfl rfl ?_
        refine r_iadd (q := 33) hX dX2_stepAtFactor_32 rfl ?_
        refine r_goto (q := 37) hX dX2_stepAtFactor_33 (by decide) ?_
        refine r_lf (hK _) ?_
        exact r_iret hM rfl (Nat.le_of_ble_eq_true rfl) (Nat.le_of_ble_eq_true rfl) dX2_stepAtFactor_37
def mX2_stepBehindFactor : MD := (yX2_stepBehindFactor, cX2_stepBehindFactor, 2, (some .int), 0, 0, 0, 0)
theorem ccX2_stepBehindFactor : Cc mX2_stepBehindFactor 2 := ⟨gd (hcw1_0 _ (List.mem_of_getElem? (i := 5) rfl)) rfl, gd (hcw3_9 _ (List.mem_of_getElem? (i := 10) rfl)) rfl, by decide +kernel, by decide +kernel, by decide +kernel⟩
theorem stX2_stepBehindFactor : Cond.static (yN mX2_stepBehindFactor) ∈ lw_gd := gd (hcw3_9 _ (List.mem_of_getElem? (i := 9) rfl)) rfl
def fX2_stepBehindFactor (x0 : Int32) (x1 : Int32) : Int32 := (if x1 = (124 : Int32) then (x0 + (7 : Int32)) else (if x1 = (38 : Int32) then (x0 + (7 : Int32)) else (if x1 = (41 : Int32) then (if x0 ≤ 0 then (-1 : Int32) else ((x0 - (16 : Int32)) + (13 : Int32))) else (-1 : Int32))))
def gX2_stepBehindFactor (x0 : Int32) (x1 : Int32) : Option (Int32) := (if x1 = (124 : Int32) then some (x0 + (7 : Int32)) else (if x1 = (38 : Int32) then some (x0 + (7 : Int32)) else (if x1 = (41 : Int32) then (if x0 ≤ 0 then some (-1 : Int32) else some ((x0 - (16 : Int32)) + (13 : Int32))) else some (-1 : Int32))))
theorem eX2_stepBehindFactor (x0 : Int32) (x1 : Int32) : gX2_stepBehindFactor x0 x1 = some (fX2_stepBehindFactor x0 x1) := by
  unfold gX2_stepBehindFactor fX2_stepBehindFactor
  try simp only [pu]
  (repeat' split) <;> rfl
set_option maxRecDepth 20000 in
theorem kX2_stepBehindFactor (l : Launch) (Z : Shp) (M : Mem) (x0 : Int32) (x1 : Int32) : Ct l mX2_stepBehindFactor [vi x0, vi x1] Z M ((some (vi (fX2_stepBehindFactor x0 x1))), Z, M) := by
  refine Ct.of rfl (Nat.le_of_ble_eq_true rfl) (fun X hM => ?_)
  have hX := hM.1
  refine r_top (mk := fun r => ((some (vi r)), Z, M)) (eX2_stepBehindFactor x0 x1) (fun K hK => ?_)
  unfold gX2_stepBehindFactor
  refine r_iload_n (i := 1) (x := x1) (q := 1) 1 hX dX2_stepBehindFactor_0 rfl rfl rfl ?_
  refine r_bipush (v := (124 : Int32)) (q := 3) hX dX2_stepBehindFactor_1 rfl rfl ?_
  refine r_icmp_eq (tgt := 12) (q := 6) hX dX2_stepBehindFactor_3 (by decide) rfl (fun hb1 => ?_) (fun hb1 => ?_)
  · refine r_iload_n (i := 0) (x := x0) (q := 13) 0 hX dX2_stepBehindFactor_12 rfl rfl rfl ?_
    refine r_bipush (v := (7 : Int32)) (q := 15) hX dX2_stepBehindFactor_13 rfl rfl ?_
    refine r_iadd (q := 16) hX dX2_stepBehindFactor_15 rfl ?_
    refine r_lf (hK _) ?_
    exact r_iret hM rfl (Nat.le_of_ble_eq_true rfl) (Nat.le_of_ble_eq_true rfl) dX2_stepBehindFactor_16
  · refine r_iload_n (i := 1) (x := x1) (q := 7) 1 hX dX2_stepBehindFactor_6 rfl rfl rfl ?_
    refine r_bipush (v := (38 : Int32)) (q := 9) hX dX2_stepBehindFactor_7 rfl rfl ?_
    refine r_icmp_ne (tgt := 17) (q := 12) hX dX2_stepBehindFactor_9 (by decide) rfl (fun hb2 => ?_) (fun hb2 => ?_)
    · refine r_iload_n (i := 0) (x := x0) (q := 13) 0 hX dX2_stepBehindFactor_12 rfl rfl rfl ?_
      refine r_bipush (v := (7 : Int32)) (q := 15) hX dX2_stepBehindFactor_13 rfl rfl ?_
      refine r_iadd (q := 16) hX dX2_stepBehindFactor_15 rfl ?_
      refine r_lf (hK _) ?_
      exact r_iret hM rfl (Nat.le_of_ble_eq_true rfl) (Nat.le_of_ble_eq_true rfl) dX2_stepBehindFactor_16
    · refine r_iload_n (i := 1) (x := x1) (q := 18) 1 hX dX2_stepBehindFactor_17 rfl rfl rfl ?_
      refine r_bipush (v := (41 : Int32)) (q := 20) hX dX2_stepBehindFactor_18 rfl rfl ?_
      refine r_icmp_ne (tgt := 37) (q := 23) hX dX2_stepBehindFactor_20 (by decide) rfl (fun hb3 => ?_) (fun hb3 => ?_)
      · refine r_iload_n (i := 0) (x := x0) (q := 24) 0 hX dX2_stepBehindFactor_23 rfl rfl rfl ?_
        refine r_if_le (tgt := 37) (q := 27) hX dX2_stepBehindFactor_24 (by decide) rfl (fun hb4 => ?_) (fun hb4 => ?_)
        · refine r_iconst (v := (-1 : Int32)) (q := 38) hX dX2_stepBehindFactor_37 rfl rfl ?_
          refine r_lf (hK _) ?_
          exact r_iret hM rfl (Nat.le_of_ble_eq_true rfl) (Nat.le_of_ble_eq_true rfl) dX2_stepBehindFactor_38
        · refine r_iload_n (i := 0) (x := x0) (q := 28) 0 hX dX2_stepBehindFactor_27 rfl rfl rfl ?_
          refine r_bipush (v := (16 : Int32)) (q := 30) hX dX2_stepBehindFactor_28 rfl rfl ?_
          refine r_isub (q := 31) hX dX2_stepBehindFactor_30 rfl ?_
          refine r_bipush (v := (13 : Int32)) (q := 33) hX dX2_stepBehindFactor_31 rfl rfl ?_
          refine r_iadd (q := 34) hX dX2_stepBehindFactor_33 rfl ?_
          refine r_goto (q := 38) hX dX2_stepBehindFactor_34 (by decide) ?_
          refine r_lf (hK _) ?_
          exact r_iret hM rfl (Nat.le_of_ble_eq_true rfl) (Nat.le_of_ble_eq_true rfl) dX2_stepBehindFactor_38
      · refine r_iconst (v := (-1 : Int32)) (q := 38) hX dX2_stepBehindFactor_37 rfl rfl ?_
        refine r_lf (hK _) ?_
        exact r_iret hM rfl (Nat.le_of_ble_eq_true rfl) (Nat.le_of_ble_eq_true rfl) dX2_stepBehindFactor_38
