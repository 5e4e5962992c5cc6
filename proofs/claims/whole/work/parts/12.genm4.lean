def mX12_refusal : MD := (yX12_refusal, cX12_refusal, 4, (some .int), 2, 46, 0, 0)
theorem ccX12_refusal : Cc mX12_refusal 3 := ⟨gd (hcw1_0 _ (List.mem_of_getElem? (i := 10) rfl)) rfl, gd (hcw7_9 _ (List.mem_of_getElem? (i := 19) rfl)) rfl, by decide +kernel, by decide +kernel, by decide +kernel⟩
theorem ivX12_refusal : Iv mX12_refusal 12 := ⟨Nat.le_of_ble_eq_true rfl, rfl, gd (hcw7_9 _ (List.mem_of_getElem? (i := 18) rfl)) rfl, gd (hps4 _ (List.mem_of_getElem? (i := 13) rfl)) rfl⟩
noncomputable def fX12_refusal (Z : Shp) (M : Mem) (a0 : Nat) (x1 : Int32) (x2 : Int32) (x3 : Int32) : Option (Int32) := (if (fX12_in (x1.toInt64) (0 : Int64) (1 : Int64)) = 0 then some (-102 : Int32) else (if (fX12_isDay x3) = 0 then some (-102 : Int32) else (if tg Z a0 = (13, 86) then (Option.bind (fX12_isBoat Z M a0 x2) (fun v4 => (if v4 = 0 then some (-101 : Int32) else some (0 : Int32)))) else none)))
set_option maxRecDepth 20000 in
theorem kX12_refusal (l : Launch) (Z : Shp) (M : Mem) (a0 : Nat) (x1 : Int32) (x2 : Int32) (x3 : Int32) (r : Int32) (h : fX12_refusal Z M a0 x1 x2 x3 = some r) : Ct l mX12_refusal [vr a0, vi x1, vi x2, vi x3] Z M ((some (vi r)), Z, M) := by
  refine Ct.of rfl (Nat.le_of_ble_eq_true rfl) (fun X hM => ?_)
  have hX := hM.1
  refine r_top (mk := fun r => ((some (vi r)), Z, M)) h (fun K hK => ?_)
  unfold fX12_refusal
  refine r_iload_n (i := 1) (x := x1) (q := 1) 1 hX dX12_refusal_0 rfl rfl rfl ?_
  refine r_i2l (q := 2) hX dX12_refusal_1 rfl ?_
  refine r_lconst (v := (0 : Int64)) (q := 3) hX dX12_refusal_2 rfl rfl ?_
  refine r_lconst (v := (1 : Int64)) (q := 4) hX dX12_refusal_3 rfl rfl ?_
  refine r_cs (As := [vj (x1.toInt64), vj (0 : Int64), vj (1 : Int64)]) (st := []) (r := (some (vi (fX12_in (x1.toInt64) (0 : Int64) (1 : Int64))))) (Z1 := Z) (M1 := M) (k1 := 0) (n1 := 0) (st1 := [vi (fX12_in (x1.toInt64) (0 : Int64) (1 : Int64))]) (q := 7) hX (fun l => kX12_in l Z M (x1.toInt64) (0 : Int64) (1 : Int64)) stX12_in ccX12_in (Or.inl lkX12_194) rfl rfl rfl ⟨Nat.le_of_ble_eq_true rfl, Nat.le_of_ble_eq_true rfl, rfl, rfl, Nat.le_of_ble_eq_true rfl, Nat.le_of_ble_eq_true rfl⟩ (Nat.le_of_ble_eq_true rfl) dX12_refusal_4 rfl ?_
  refine r_if_eq (tgt := 17) (q := 10) hX dX12_refusal_7 (by decide) rfl (fun hb1 => ?_) (fun hb1 => ?_)
  · refine r_bipush (v := (-102 : Int32)) (q := 19) hX dX12_refusal_17 rfl rfl ?_
    refine r_lf (hK _) ?_
    exact r_iret hM rfl (Nat.le_of_ble_eq_true rfl) (Nat.le_of_ble_eq_true rfl) dX12_refusal_19
  · refine r_iload_n (i := 3) (x := x3) (q := 11) 3 hX dX12_refusal_10 rfl rfl rfl ?_
    refine r_cs (As := [vi x3]) (st := []) (r := (some (vi (fX12_isDay x3)))) (Z1 := Z) (M1 := M) (k1 := 0) (n1 := 0) (st1 := [vi (fX12_isDay x3)]) (q := 14) hX (fun l => kX12_isDay l Z M x3) stX12_isDay ccX12_isDay (Or.inl lkX12_393) rfl rfl rfl ⟨Nat.le_of_ble_eq_true rfl, Nat.le_of_ble_eq_true rfl, rfl, rfl, Nat.le_of_ble_eq_true rfl, Nat.le_of_ble_eq_true rfl⟩ (Nat.le_of_ble_eq_true rfl) dX12_refusal_11 rfl ?_
    refine r_if_ne (tgt := 20) (q := 17) hX dX12_refusal_14 (by decide) rfl (fun hb2 => ?_) (fun hb2 => ?_)
    · refine r_bipush (v := (-102 : Int32)) (q := 19) hX dX12_refusal_17 rfl rfl ?_
      refine r_lf (hK _) ?_
      exact r_iret hM rfl (Nat.le_of_ble_eq_true rfl) (Nat.le_of_ble_eq_true rfl) dX12_refusal_19
    · refine r_aload_n (i := 0) (x := a0) (q := 21) 0 hX dX12_refusal_20 rfl rfl rfl ?_
      refine r_iload_n (i := 2) (x := x2) (q := 22) 2 hX dX12_refusal_21 rfl rfl rfl ?_
      refine r_ck (fun hc3 => ?_)
      refine r_bind (fun v4 h5 => ?_)
      refine r_cv (a := a0) (As := [vi x2]) (st := []) (r := (some (vi v4))) (Z1 := Z) (M1 := M) (k1 := 0) (n1 := 0) (st1 := [vi v4]) (q := 25) hX (fun l => kX12_isBoat l Z M a0 x2 v4 h5) hc3 ivX12_isBoat ccX12_isBoat (Or.inl lkX12_261) rfl rfl rfl ⟨Nat.le_of_ble_eq_true rfl, Nat.le_of_ble_eq_true rfl, rfl, rfl, Nat.le_of_ble_eq_true rfl, Nat.le_of_ble_eq_true rfl⟩ (Nat.le_of_ble_eq_true rfl) dX12_refusal_22 rfl ?_
      refine r_if_eq (tgt := 32) (q := 28) hX dX12_refusal_25 (by decide) rfl (fun hb6 => ?_) (fun hb6 => ?_)
      · refine r_bipush (v := (-101 : Int32)) (q := 34) hX dX12_refusal_32 rfl rfl ?_
        refine r_lf (hK _) ?_
        exact r_iret hM rfl (Nat.le_of_ble_eq_true rfl) (Nat.le_of_ble_eq_true rfl) dX12_refusal_34
      · refine r_iconst (v := (0 : Int32)) (q := 29) hX dX12_refusal_28 rfl rfl ?_
        refine r_goto (q := 34) hX dX12_refusal_29 (by decide) ?_
        refine r_lf (hK _) ?_
        exact r_iret hM rfl (Nat.le_of_ble_eq_true rfl) (Nat.le_of_ble_eq_true rfl) dX12_refusal_34
theorem lkX12_404 : Lk RX12 404 yX12_refusal := gd (hcw7_9 _ (List.mem_of_getElem? (i := 16) rfl)) rfl
def mX12_quarrel : MD := (yX12_quarrel, cX12_quarrel, 8, (some .int), 4, 100, 0, 0)
theorem ccX12_quarrel : Cc mX12_quarrel 3 := ⟨gd (hcw1_0 _ (List.mem_of_getElem? (i := 10) rfl)) rfl, gd (hcw7_10 _ (List.mem_of_getElem? (i := 15) rfl)) rfl, by decide +kernel, by decide +kernel, by decide +kernel⟩
theorem ivX12_quarrel : Iv mX12_quarrel 12 := ⟨Nat.le_of_ble_eq_true rfl, rfl, gd (hcw7_10 _ (List.mem_of_getElem? (i := 13) rfl)) rfl, gd (hcw7_10 _ (List.mem_of_getElem? (i := 14) rfl)) rfl⟩
noncomputable def fX12_quarrel (Z : Shp) (M : Mem) (a0 : Nat) (x1 : Int32) (x2 : Int32) (x3 : Int32) : Option (Int32 × Mem) := (if tg Z a0 = (13, 86) then (Option.bind (fX12_refusal Z M a0 x1 x2 x3) (fun v2 => (if v2 = 0 then (Option.bind (fX12_speaker Z M a0 x1 x2 x3) (fun v5 => (loop (fun s7 : Int32 × Int32 × Mem => (if (rI s7.2.2 a0 35) ≤ s7.2.1 then some (Sum.inr (s7.1, s7.2.2)) else (if v5.1 = (-1 : Int32) then (pu ((s7.1 + (0 : Int32))) (fun z12 => some (Sum.inl (z12, (s7.2.1 + (1 : Int32)), s7.2.2)))) else (Option.bind (fX12_binds Z s7.2.2 a0 s7.2.1 x1 x2 x3) (fun v13 => (if v13.1 = 0 then (pu ((s7.1 + (0 : Int32))) (fun z16 => some (Sum.inl (z16, (s7.2.1 + (1 : Int32)), v13.2)))) else (if aok Z (rR v13.2 a0 37) 100 s7.2.1 then (if aok Z (rR v13.2 a0 37) 100 v5.1 then (if (rI v13.2 (rR v13.2 a0 37) (ix s7.2.1)) = (rI v13.2 (rR v13.2 a0 37) (ix v5.1)) then (pu ((s7.1 + (0 : Int32))) (fun z20 => some (Sum.inl (z20, (s7.2.1 + (1 : Int32)), v13.2)))) else (pu ((s7.1 + (1 : Int32))) (fun z21 => some (Sum.inl (z21, (s7.2.1 + (1 : Int32)), v13.2))))) else none) else none))))))) ((0 : Int32), (0 : Int32), v5.2)))) else some (v2, M)))) else none)
set_option maxRecDepth 20000 in
theorem kX12_quarrel (l : Launch) (Z : Shp) (M : Mem) (a0 : Nat) (x1 : Int32) (x2 : Int32) (x3 : Int32) (r : Int32 × Mem) (h : fX12_quarrel Z M a0 x1 x2 x3 = some r) : Ct l mX12_quarrel [vr a0, vi x1, vi x2, vi x3] Z M ((some (vi r.1)), Z, r.2) := by
  refine Ct.of rfl (Nat.le_of_ble_eq_true rfl) (fun X hM => ?_)
  have hX := hM.1
  refine r_top (mk := fun r => ((some (vi r.1)), Z, r.2)) h (fun K hK => ?_)
  unfold fX12_quarrel
  refine r_aload_n (i := 0) (x := a0) (q := 1) 0 hX dX12_quarrel_0 rfl rfl rfl ?_
  refine r_iload_n (i := 1) (x := x1) (q := 2) 1 hX dX12_quarrel_1 rfl rfl rfl ?_
  refine r_iload_n (i := 2) (x := x2) (q := 3) 2 hX dX12_quarrel_2 rfl rfl rfl ?_
  refine r_iload_n (i := 3) (x := x3) (q := 4) 3 hX dX12_quarrel_3 rfl rfl rfl ?_
  refine r_ck (fun hc1 => ?_)
  refine r_bind (fun v2 h3 => ?_)
  refine r_cv (a := a0) (As := [vi x1, vi x2, vi x3]) (st := []) (r := (some (vi v2))) (Z1 := Z) (M1 := M) (k1 := 0) (n1 := 0) (st1 := [vi v2]) (q := 7) hX (fun l => kX12_refusal l Z M a0 x1 x2 x3 v2 h3) hc1 ivX12_refusal ccX12_refusal (Or.inl lkX12_404) rfl rfl rfl ⟨Nat.le_of_ble_eq_true rfl, Nat.le_of_ble_eq_true rfl, rfl, rfl, Nat.le_of_ble_eq_true rfl, Nat.le_of_ble_eq_true rfl⟩ (Nat.le_of_ble_eq_true rfl) dX12_quarrel_4 rfl ?_
  refine r_istore (x := v2) (q := 9) 4 [1, 2, 3, 4, 0] (L1 := [(0, vr a0), (1, vi x1), (2, vi x2), (3, vi x3), (4, vi v2)]) hX dX12_quarrel_7 (Nat.le_of_ble_eq_true rfl) rfl rfl ?_
  refine r_iload (i := 4) (x := v2) (q := 11) 4 hX dX12_quarrel_9 rfl rfl ?_
  refine r_if_eq (tgt := 17) (q := 14) hX dX12_quarrel_11 (by decide) rfl (fun hb4 => ?_) (fun hb4 => ?_)
  · refine r_aload_n (i := 0) (x := a0) (q := 18) 0 hX dX12_quarrel_17 rfl rfl rfl ?_
    refine r_iload_n (i := 1) (x := x1) (q := 19) 1 hX dX12_quarrel_18 rfl rfl rfl ?_
    refine r_iload_n (i := 2) (x := x2) (q := 20) 2 hX dX12_quarrel_19 rfl rfl rfl ?_
    refine r_iload_n (i := 3) (x := x3) (q := 21) 3 hX dX12_quarrel_20 rfl rfl rfl ?_
    refine r_bind (fun v5 h6 => ?_)
    refine r_cv (a := a0) (As := [vi x1, vi x2, vi x3]) (st := []) (r := (some (vi v5.1))) (Z1 := Z) (M1 := v5.2) (k1 := 0) (n1 := 0) (st1 := [vi v5.1]) (q := 24) hX (fun l => kX12_speaker l Z M a0 x1 x2 x3 v5 h6) hc1 ivX12_speaker ccX12_speaker (Or.inl lkX12_408) rfl rfl rfl ⟨Nat.le_of_ble_eq_true rfl, Nat.le_of_ble_eq_true rfl, rfl, rfl, Nat.le_of_ble_eq_true rfl, Nat.le_of_ble_eq_true rfl⟩ (Nat.le_of_ble_eq_true rfl) dX12_quarrel_21 rfl ?_
    refine r_istore (x := v5.1) (q := 26) 5 [1, 2, 3, 4, 5, 0] (L1 := [(0, vr a0), (1, vi x1), (2, vi x2), (3, vi x3), (4, vi v2), (5, vi v5.1)]) hX dX12_quarrel_24 (Nat.le_of_ble_eq_true rfl) rfl rfl ?_
    refine r_iconst (v := (0 : Int32)) (q := 27) hX dX12_quarrel_26 rfl rfl ?_
    refine r_istore (x := (0 : Int32)) (q := 29) 6 [1, 2, 3, 4, 5, 6, 0] (L1 := [(0, vr a0), (1, vi x1), (2, vi x2), (3, vi x3), (4, vi v2), (5, vi v5.1), (6, vi (0 : Int32))]) hX dX12_quarrel_27 (Nat.le_of_ble_eq_true rfl) rfl rfl ?_
    refine r_iconst (v := (0 : Int32)) (q := 30) hX dX12_quarrel_29 rfl rfl ?_
    refine r_istore (x := (0 : Int32)) (q := 32) 7 [1, 2, 3, 4, 5, 6, 7, 0] (L1 := [(0, vr a0), (1, vi x1), (2, vi x2), (3, vi x3), (4, vi v2), (5, vi v5.1), (6, vi (0 : Int32)), (7, vi (0 : Int32))]) hX dX12_quarrel_30 (Nat.le_of_ble_eq_true rfl) rfl rfl ?_
    refine r_sub [0, 1, 2, 3, 5, 6, 7] rfl ?_
    refine r_loop (Hd := fun (s7 : Int32 × Int32 × Mem) (P : Option Res) => Ref mX12_quarrel X 0 0 Z s7.2.2 32 [(0, vr a0), (1, vi x1), (2, vi x2), (3, vi x3), (5, vi v5.1), (6, vi s7.1), (7, vi s7.2.1)] [] P) (fun _ => r_none) (fun s7 K1 hn8 hx9 => ?_) ((0 : Int32), (0 : Int32), v5.2)
    refine r_iload (i := 7) (x := s7.2.1) (q := 34) 6 hX dX12_quarrel_32 rfl rfl ?_
    refine r_aload_n (i := 0) (x := a0) (q := 35) 0 hX dX12_quarrel_34 rfl rfl rfl ?_
    refine r_getI (a := a0) (ci := 12) (kf := 35) (q := 38) hX hc1 flX12_388 rfl rfl dX12_quarrel_35 rfl ?_
    refine r_icmp_ge (tgt := 92) (q := 41) hX dX12_quarrel_38 (by decide) rfl (fun hb10 => ?_) (fun hb10 => ?_)
    · refine r_iload (i := 6) (x := s7.1) (q := 94) 5 hX dX12_quarrel_92 rfl rfl ?_
      refine r_lf ((hx9 _).trans (hK _)) ?_
      exact r_iret hM rfl (Nat.le_of_ble_eq_true rfl) (Nat.le_of_ble_eq_true rfl) dX12_quarrel_94
    · refine r_iload (i := 6) (x := s7.1) (q := 43) 5 hX dX12_quarrel_41 rfl rfl ?_
      refine r_iload (i := 5) (x := v5.1) (q := 45) 4 hX dX12_quarrel_43 rfl rfl ?_
      refine r_iconst (v := (-1 : Int32)) (q := 46) hX dX12_quarrel_45 rfl rfl ?_
      refine r_icmp_eq (tgt := 82) (q := 49) hX dX12_quarrel_46 (by decide) rfl (fun hb11 => ?_) (fun hb11 => ?_)
      · refine r_iconst (v := (0 : Int32)) (q := 83) hX dX12_quarrel_82 rfl rfl ?_
        refine r_iadd (q := 84) hX dX12_quarrel_83 rfl ?_
        refine r_istoreP (x := (s7.1 + (0 : Int32))) (q := 86) 6 [1, 2, 3, 4, 5, 0, 7] (fun z12 => [(0, vr a0), (1, vi x1), (2, vi x2), (3, vi x3), (5, vi v5.1), (6, vi z12), (7, vi s7.2.1)]) hX dX12_quarrel_84 (Nat.le_of_ble_eq_true rfl) (fun _ => rfl) rfl (fun z12 => ?_)
        refine r_iinc (x := s7.2.1) (v := (s7.2.1 + (1 : Int32))) (q := 89) 7 6 [1, 2, 3, 4, 5, 6, 0] (L1 := [(0, vr a0), (1, vi x1), (2, vi x2), (3, vi x3), (5, vi v5.1), (6, vi z12), (7, vi (s7.2.1 + (1 : Int32)))]) hX dX12_quarrel_86 rfl rfl (Nat.le_of_ble_eq_true rfl) rfl rfl ?_
        refine r_goto (q := 32) hX dX12_quarrel_89 (by decide) ?_
        refine r_l0 ?_
        exact hn8 (z12, (s7.2.1 + (1 : Int32)), s7.2.2)
      · refine r_aload_n (i := 0) (x := a0) (q := 50) 0 hX dX12_quarrel_49 rfl rfl rfl ?_
        refine r_iload (i := 7) (x := s7.2.1) (q := 52) 6 hX dX12_quarrel_50 rfl rfl ?_
        refine r_iload_n (i := 1) (x := x1) (q := 53) 1 hX dX12_quarrel_52 rfl rfl rfl ?_
        refine r_iload_n (i := 2) (x := x2) (q := 54) 2 hX dX12_quarrel_53 rfl rfl rfl ?_
        refine r_iload_n (i := 3) (x := x3) (q := 55) 3 hX dX12_quarrel_54 rfl rfl rfl ?_
        refine r_bind (fun v13 h14 => ?_)
        refine r_cv (a := a0) (As := [vi s7.2.1, vi x1, vi x2, vi x3]) (st := [vi s7.1]) (r := (some (vi v13.1))) (Z1 := Z) (M1 := v13.2) (k1 := 0) (n1 := 0) (st1 := [vi v13.1, vi s7.1]) (q := 58) hX (fun l => kX12_binds l Z s7.2.2 a0 s7.2.1 x1 x2 x3 v13 h14) hc1 ivX12_binds ccX12_binds (Or.inl lkX12_400) rfl rfl rfl ⟨Nat.le_of_ble_eq_true rfl, Nat.le_of_ble_eq_true rfl, rfl, rfl, Nat.le_of_ble_eq_true rfl, Nat.le_of_ble_eq_true rfl⟩ (Nat.le_of_ble_eq_true rfl) dX12_quarrel_55 rfl ?_
        refine r_if_eq (tgt := 82) (q := 61) hX dX12_quarrel_58 (by decide) rfl (fun hb15 => ?_) (fun hb15 => ?_)
        · refine r_iconst (v := (0 : Int32)) (q := 83) hX dX12_quarrel_82 rfl rfl ?_
          refine r_iadd (q := 84) hX dX12_quarrel_83 rfl ?_
          refine r_istoreP (x := (s7.1 + (0 : Int32))) (q := 86) 6 [1, 2, 3, 4, 5, 0, 7] (fun z16 => [(0, vr a0), (1, vi x1), (2, vi x2), (3, vi x3), (5, vi v5.1), (6, vi z16), (7, vi s7.2.1)]) hX dX12_quarrel_84 (Nat.le_of_ble_eq_true rfl) (fun _ => rfl) rfl (fun z16 => ?_)
          refine r_iinc (x := s7.2.1) (v := (s7.2.1 + (1 : Int32))) (q := 89) 7 6 [1, 2, 3, 4, 5, 6, 0] (L1 := [(0, vr a0), (1, vi x1), (2, vi x2), (3, vi x3), (5, vi v5.1), (6, vi z16), (7, vi (s7.2.1 + (1 : Int32)))]) hX dX12_quarrel_86 rfl rfl (Nat.le_of_ble_eq_true rfl) rfl rfl ?_
          refine r_goto (q := 32) hX dX12_quarrel_89 (by decide) ?_
          refine r_l0 ?_
          exact hn8 (z16, (s7.2.1 + (1 : Int32)), v13.2)
        · refine r_aload_n (i := 0) (x := a0) (q := 62) 0 hX dX12_quarrel_61 rfl rfl rfl ?_
          refine r_getR (a := a0) (ci := 12) (kf := 37) (q := 65) hX hc1 flX12_95 rfl dX12_quarrel_62 rfl ?_
          refine r_iload (i := 7) (x := s7.2.1) (q := 67) 6 hX dX12_quarrel_65 rfl rfl ?_
          refine r_ck (fun hc17 => ?_)
          refine r_iald (a := (rR v13.2 a0 37)) (i := s7.2.1) (q := 68) hX hc17 dX12_quarrel_67 rfl ?_
          refine r_aload_n (i := 0) (x := a0) (q := 69) 0 hX dX12_quarrel_68 rfl rfl rfl ?_
          refine r_getR (a := a0) (ci := 12) (kf := 37) (q := 72) hX hc1 flX12_95 rfl dX12_quarrel_69 rfl ?_
          refine r_iload (i := 5) (x := v5.1) (q := 74) 4 hX dX12_quarrel_72 rfl rfl ?_
          refine r_ck (fun hc18 => ?_)
          refine r_iald (a := (rR v13.2 a0 37)) (i := v5.1) (q := 75) hX hc18 dX12_quarrel_74 rfl ?_
          refine r_icmp_eq (tgt := 82) (q := 78) hX dX12_quarrel_75 (by decide) rfl (fun hb19 => ?_) (fun hb19 => ?_)
          · refine r_iconst (v := (0 : Int32)) (q := 83) hX dX12_quarrel_82 rfl rfl ?_
            refine r_iadd (q := 84) hX dX12_quarrel_83 rfl ?_
            refine r_istoreP (x := (s7.1 + (0 : Int32))) (q := 86) 6 [1, 2, 3, 4, 5, 0, 7] (fun z20 => [(0, vr a0), (1, vi x1), (2, vi x2), (3, vi x3), (5, vi v5.1), (6, vi z20), (7, vi s7.2.1)]) hX dX12_quarrel_84 (Nat.le_of_ble_eq_true rfl) (fun _ => rfl) rfl (fun z20 => ?_)
            refine r_iinc (x := s7.2.1) (v := (s7.2.1 + (1 : Int32))) (q := 89) 7 6 [1, 2, 3, 4, 5, 6, 0] (L1 := [(0, vr a0), (1, vi x1), (2, vi x2), (3, vi x3), (5, vi v5.1), (6, vi z20), (7, vi (s7.2.1 + (1 : Int32)))]) hX dX12_quarrel_86 rfl rfl (Nat.le_of_ble_eq_true rfl) rfl rfl ?_
            refine r_goto (q := 32) hX dX12_quarrel_89 (by decide) ?_
            refine r_l0 ?_
            exact hn8 (z20, (s7.2.1 + (1 : Int32)), v13.2)
          · refine r_iconst (v := (1 : Int32)) (q := 79) hX dX12_quarrel_78 rfl rfl ?_
            refine r_goto (q := 83) hX dX12_quarrel_79 (by decide) ?_
            refine r_iadd (q := 84) hX dX12_quarrel_83 rfl ?_
            refine r_istoreP (x := (s7.1 + (1 : Int32))) (q := 86) 6 [1, 2, 3, 4, 5, 0, 7] (fun z21 => [(0, vr a0), (1, vi x1), (2, vi x2), (3, vi x3), (5, vi v5.1), (6, vi z21), (7, vi s7.2.1)]) hX dX12_quarrel_84 (Nat.le_of_ble_eq_true rfl) (fun _ => rfl) rfl (fun z21 => ?_)
            refine r_iinc (x := s7.2.1) (v := (s7.2.1 + (1 : Int32))) (q := 89) 7 6 [1, 2, 3, 4, 5, 6, 0] (L1 := [(0, vr a0), (1, vi x1), (2, vi x2), (3, vi x3), (5, vi v5.1), (6, vi z21), (7, vi (s7.2.1 + (1 : Int32)))]) hX dX12_quarrel_86 rfl rfl (Nat.le_of_ble_eq_true rfl) rfl rfl ?_
            refine r_goto (q := 32) hX dX12_quarrel_89 (by decide) ?_
            refine r_l0 ?_
            exact hn8 (z21, (s7.2.1 + (1 : Int32)), v13.2)
  · refine r_iload (i := 4) (x := v2) (q := 16) 4 hX dX12_quarrel_14 rfl rfl ?_
    refine r_lf (hK _) ?_
    exact r_iret hM rfl (Nat.le_of_ble_eq_true rfl) (Nat.le_of_ble_eq_true rfl) dX12_quarrel_16
def mX12_rate : MD := (yX12_rate, cX12_rate, 3, (some .int), 1, 25, 0, 0)
theorem ccX12_rate : Cc mX12_rate 1 := ⟨gd (hcw1_0 _ (List.mem_of_getElem? (i := 10) rfl)) rfl, gd (hcw8_4 _ (List.mem_of_getElem? (i := 13) rfl)) rfl, by decide +kernel, by decide +kernel, by decide +kernel⟩
theorem ivX12_rate : Iv mX12_rate 12 := ⟨Nat.le_of_ble_eq_true rfl, rfl, gd (hcw8_4 _ (List.mem_of_getElem? (i := 11) rfl)) rfl, gd (hcw8_4 _ (List.mem_of_getElem? (i := 12) rfl)) rfl⟩
def fX12_rate (Z : Shp) (M : Mem) (a0 : Nat) (x1 : Int32) : Option (Int32 × Mem) := (if (fX12_in (x1.toInt64) (0 : Int64) (999 : Int64)) = 0 then some ((-102 : Int32), M) else (if tg Z a0 = (13, 86) then (pu ((rI M a0 80)) (fun z3 => (pu (wI M a0 80 x1) (fun M4 => some (z3, M4))))) else none))
set_option maxRecDepth 20000 in
theorem kX12_rate (l : Launch) (Z : Shp) (M : Mem) (a0 : Nat) (x1 : Int32) (r : Int32 × Mem) (h : fX12_rate Z M a0 x1 = some r) : Ct l mX12_rate [vr a0, vi x1] Z M ((some (vi r.1)), Z, r.2) := by
  refine Ct.of rfl (Nat.le_of_ble_eq_true rfl) (fun X hM => ?_)
  have hX := hM.1
  refine r_top (mk := fun r => ((some (vi r.1)), Z, r.2)) h (fun K hK => ?_)
  unfold fX12_rate
  refine r_iload_n (i := 1) (x := x1) (q := 1) 1 hX dX12_rate_0 rfl rfl rfl ?_
  refine r_i2l (q := 2) hX dX12_rate_1 rfl ?_
  refine r_lconst (v := (0 : Int64)) (q := 3) hX dX12_rate_2 rfl rfl ?_
  refine r_ldc2 (v := (999 : Int64)) (q := 6) hX dX12_rate_3 (gd (hcw8_1 _ (List.mem_of_getElem? (i := 1) rfl)) rfl) rfl ?_
  refine r_cs (As := [vj (x1.toInt64), vj (0 : Int64), vj (999 : Int64)]) (st := []) (r := (some (vi (fX12_in (x1.toInt64) (0 : Int64) (999 : Int64))))) (Z1 := Z) (M1 := M) (k1 := 0) (n1 := 0) (st1 := [vi (fX12_in (x1.toInt64) (0 : Int64) (999 : Int64))]) (q := 9) hX (fun l => kX12_in l Z M (x1.toInt64) (0 : Int64) (999 : Int64)) stX12_in ccX12_in (Or.inl lkX12_194) rfl rfl rfl ⟨Nat.le_of_ble_eq_true rfl, Nat.le_of_ble_eq_true rfl, rfl, rfl, Nat.le_of_ble_eq_true rfl, Nat.le_of_ble_eq_true rfl⟩ (Nat.le_of_ble_eq_true rfl) dX12_rate_6 rfl ?_
  refine r_if_ne (tgt := 15) (q := 12) hX dX12_rate_9 (by decide) rfl (fun hb1 => ?_) (fun hb1 => ?_)
  · refine r_bipush (v := (-102 : Int32)) (q := 14) hX dX12_rate_12 rfl rfl ?_
    refine r_lf (hK _) ?_
    exact r_iret hM rfl (Nat.le_of_ble_eq_true rfl) (Nat.le_of_ble_eq_true rfl) dX12_rate_14
  · refine r_aload_n (i := 0) (x := a0) (q := 16) 0 hX dX12_rate_15 rfl rfl rfl ?_
    refine r_ck (fun hc2 => ?_)
    refine r_getI (a := a0) (ci := 12) (kf := 80) (q := 19) hX hc2 flX12_189 rfl rfl dX12_rate_16 rfl ?_
    refine r_istore_nP (x := (rI M a0 80)) (q := 20) 2 [1, 2, 0] (fun z3 => [(0, vr a0), (1, vi x1), (2, vi z3)]) hX dX12_rate_19 rfl (Nat.le_of_ble_eq_true rfl) (fun _ => rfl) rfl (fun z3 => ?_)
    refine r_aload_n (i := 0) (x := a0) (q := 21) 0 hX dX12_rate_20 rfl rfl rfl ?_
    refine r_iload_n (i := 1) (x := x1) (q := 22) 1 hX dX12_rate_21 rfl rfl rfl ?_
    refine r_putI (a := a0) (ci := 12) (kf := 80) (q := 25) hX hc2 flX12_189 rfl rfl (Or.inl rfl) rfl rfl dX12_rate_22 rfl (fun M4 => ?_)
    refine r_iload_n (i := 2) (x := z3) (q := 26) 2 hX dX12_rate_25 rfl rfl rfl ?_
    refine r_lf (hK _) ?_
    exact r_iret hM rfl (Nat.le_of_ble_eq_true rfl) (Nat.le_of_ble_eq_true rfl) dX12_rate_26
def mX12_read : MD := (yX12_read, cX12_read, 4, (some .int), 2, 45, 0, 0)
theorem ccX12_read : Cc mX12_read 3 := ⟨gd (hcw1_0 _ (List.mem_of_getElem? (i := 10) rfl)) rfl, gd (hcw8_1 _ (List.mem_of_getElem? (i := 5) rfl)) rfl, by decide +kernel, by decide +kernel, by decide +kernel⟩
theorem ivX12_read : Iv mX12_read 12 := ⟨Nat.le_of_ble_eq_true rfl, rfl, gd (hcw8_1 _ (List.mem_of_getElem? (i := 3) rfl)) rfl, gd (hcw8_1 _ (List.mem_of_getElem? (i := 4) rfl)) rfl⟩
def fX12_read (Z : Shp) (M : Mem) (a0 : Nat) (x1 : Int32) (x2 : Int32) (x3 : Int32) : Option (Int32 × Mem) := (if (fX12_isPound x1) = 0 then some ((-101 : Int32), M) else (if (fX12_in (x2.toInt64) (0 : Int64) (9999 : Int64)) = 0 then some ((-102 : Int32), M) else (if (fX12_isDay x3) = 0 then some ((-102 : Int32), M) else (if tg Z a0 = (13, 86) then (if aok Z (rR M a0 69) 100 x1 then (pu (wI M (rR M a0 69) (ix x1) x2) (fun M6 => (if aok Z (rR M6 a0 70) 100 x1 then (pu (wI M6 (rR M6 a0 70) (ix x1) x3) (fun M8 => some ((1 : Int32), M8))) else none))) else none) else none))))
set_option maxRecDepth 20000 in
theorem kX12_read (l : Launch) (Z : Shp) (M : Mem) (a0 : Nat) (x1 : Int32) (x2 : Int32) (x3 : Int32) (r : Int32 × Mem) (h : fX12_read Z M a0 x1 x2 x3 = some r) : Ct l mX12_read [vr a0, vi x1, vi x2, vi x3] Z M ((some (vi r.1)), Z, r.2) := by
  refine Ct.of rfl (Nat.le_of_ble_eq_true rfl) (fun X hM => ?_)
  have hX := hM.1
  refine r_top (mk := fun r => ((some (vi r.1)), Z, r.2)) h (fun K hK => ?_)
  unfold fX12_read
  refine r_iload_n (i := 1) (x := x1) (q := 1) 1 hX dX12_read_0 rfl rfl rfl ?_
  refine r_cs (As := [vi x1]) (st := []) (r := (some (vi (fX12_isPound x1)))) (Z1 := Z) (M1 := M) (k1 := 0) (n1 := 0) (st1 := [vi (fX12_isPound x1)]) (q := 4) hX (fun l => kX12_isPound l Z M x1) stX12_isPound ccX12_isPound (Or.inl lkX12_198) rfl rfl rfl ⟨Nat.le_of_ble_eq_true rfl, Nat.le_of_ble_eq_true rfl, rfl, rfl, Nat.le_of_ble_eq_true rfl, Nat.le_of_ble_eq_true rfl⟩ (Nat.le_of_ble_eq_true rfl) dX12_read_1 rfl ?_
  refine r_if_ne (tgt := 10) (q := 7) hX dX12_read_4 (by decide) rfl (fun hb1 => ?_) (fun hb1 => ?_)
  · refine r_bipush (v := (-101 : Int32)) (q := 9) hX dX12_read_7 rfl rfl ?_
    refine r_lf (hK _) ?_
    exact r_iret hM rfl (Nat.le_of_ble_eq_true rfl) (Nat.le_of_ble_eq_true rfl) dX12_read_9
  · refine r_iload_n (i := 2) (x := x2) (q := 11) 2 hX dX12_read_10 rfl rfl rfl ?_
    refine r_i2l (q := 12) hX dX12_read_11 rfl ?_
    refine r_lconst (v := (0 : Int64)) (q := 13) hX dX12_read_12 rfl rfl ?_
    refine r_ldc2 (v := (9999 : Int64)) (q := 16) hX dX12_read_13 (gd (hcw6_11 _ (List.mem_of_getElem? (i := 6) rfl)) rfl) rfl ?_
    refine r_cs (As := [vj (x2.toInt64), vj (0 : Int64), vj (9999 : Int64)]) (st := []) (r := (some (vi (fX12_in (x2.toInt64) (0 : Int64) (9999 : Int64))))) (Z1 := Z) (M1 := M) (k1 := 0) (n1 := 0) (st1 := [vi (fX12_in (x2.toInt64) (0 : Int64) (9999 : Int64))]) (q := 19) hX (fun l => kX12_in l Z M (x2.toInt64) (0 : Int64) (9999 : Int64)) stX12_in ccX12_in (Or.inl lkX12_194) rfl rfl rfl ⟨Nat.le_of_ble_eq_true rfl, Nat.le_of_ble_eq_true rfl, rfl, rfl, Nat.le_of_ble_eq_true rfl, Nat.le_of_ble_eq_true rfl⟩ (Nat.le_of_ble_eq_true rfl) dX12_read_16 rfl ?_
    refine r_if_eq (tgt := 29) (q := 22) hX dX12_read_19 (by decide) rfl (fun hb2 => ?_) (fun hb2 => ?_)
    · refine r_bipush (v := (-102 : Int32)) (q := 31) hX dX12_read_29 rfl rfl ?_
      refine r_lf (hK _) ?_
      exact r_iret hM rfl (Nat.le_of_ble_eq_true rfl) (Nat.le_of_ble_eq_true rfl) dX12_read_31
    · refine r_iload_n (i := 3) (x := x3) (q := 23) 3 hX dX12_read_22 rfl rfl rfl ?_
      refine r_cs (As := [vi x3]) (st := []) (r := (some (vi (fX12_isDay x3)))) (Z1 := Z) (M1 := M) (k1 := 0) (n1 := 0) (st1 := [vi (fX12_isDay x3)]) (q := 26) hX (fun l => kX12_isDay l Z M x3) stX12_isDay ccX12_isDay (Or.inl lkX12_393) rfl rfl rfl ⟨Nat.le_of_ble_eq_true rfl, Nat.le_of_ble_eq_true rfl, rfl, rfl, Nat.le_of_ble_eq_true rfl, Nat.le_of_ble_eq_true rfl⟩ (Nat.le_of_ble_eq_true rfl) dX12_read_23 rfl ?_
      refine r_if_ne (tgt := 32) (q := 29) hX dX12_read_26 (by decide) rfl (fun hb3 => ?_) (fun hb3 => ?_)
      · refine r_bipush (v := (-102 : Int32)) (q := 31) hX dX12_read_29 rfl rfl ?_
        refine r_lf (hK _) ?_
        exact r_iret hM rfl (Nat.le_of_ble_eq_true rfl) (Nat.le_of_ble_eq_true rfl) dX12_read_31
      · refine r_aload_n (i := 0) (x := a0) (q := 33) 0 hX dX12_read_32 rfl rfl rfl ?_
        refine r_ck (fun hc4 => ?_)
        refine r_getR (a := a0) (ci := 12) (kf := 69) (q := 36) hX hc4 flX12_146 rfl dX12_read_33 rfl ?_
        refine r_iload_n (i := 1) (x := x1) (q := 37) 1 hX dX12_read_36 rfl rfl rfl ?_
        refine r_iload_n (i := 2) (x := x2) (q := 38) 2 hX dX12_read_37 rfl rfl rfl ?_
        refine r_ck (fun hc5 => ?_)
        refine r_iast (a := (rR M a0 69)) (i := x1) (x := x2) (q := 39) hX hc5 dX12_read_38 rfl (fun M6 => ?_)
        refine r_aload_n (i := 0) (x := a0) (q := 40) 0 hX dX12_read_39 rfl rfl rfl ?_
        refine r_getR (a := a0) (ci := 12) (kf := 70) (q := 43) hX hc4 flX12_149 rfl dX12_read_40 rfl ?_
        refine r_iload_n (i := 1) (x := x1) (q := 44) 1 hX dX12_read_43 rfl rfl rfl ?_
        refine r_iload_n (i := 3) (x := x3) (q := 45) 3 hX dX12_read_44 rfl rfl rfl ?_
        refine r_ck (fun hc7 => ?_)
        refine r_iast (a := (rR M6 a0 70)) (i := x1) (x := x3) (q := 46) hX hc7 dX12_read_45 rfl (fun M8 => ?_)
        refine r_iconst (v := (1 : Int32)) (q := 47) hX dX12_read_46 rfl rfl ?_
        refine r_lf (hK _) ?_
        exact r_iret hM rfl (Nat.le_of_ble_eq_true rfl) (Nat.le_of_ble_eq_true rfl) dX12_read_47
def mX12_shares : MD := (yX12_shares, cX12_shares, 4, (some .int), 2, 45, 0, 0)
theorem ccX12_shares : Cc mX12_shares 2 := ⟨gd (hcw1_0 _ (List.mem_of_getElem? (i := 10) rfl)) rfl, gd (hcw8_3 _ (List.mem_of_getElem? (i := 9) rfl)) rfl, by decide +kernel, by decide +kernel, by decide +kernel⟩
theorem ivX12_shares : Iv mX12_shares 12 := ⟨Nat.le_of_ble_eq_true rfl, rfl, gd (hcw8_3 _ (List.mem_of_getElem? (i := 7) rfl)) rfl, gd (hcw8_3 _ (List.mem_of_getElem? (i := 8) rfl)) rfl⟩
def fX12_shares (Z : Shp) (M : Mem) (a0 : Nat) (x1 : Int32) (x2 : Int32) : Option (Int32 × Mem) := (if (fX12_isHolder x1) = 0 then some ((-101 : Int32), M) else (if (fX12_in (x2.toInt64) (0 : Int64) (999 : Int64)) = 0 then some ((-102 : Int32), M) else (if tg Z a0 = (13, 86) then (if (rI M a0 75) ≤ 0 then (if aok Z (rR M a0 74) 100 x1 then (pu ((rI M (rR M a0 74) (ix x1))) (fun z6 => (pu (wI M (rR M a0 74) (ix x1) x2) (fun M7 => some (z6, M7))))) else none) else some ((-103 : Int32), M)) else none)))
set_option maxRecDepth 20000 in
theorem kX12_shares (l : Launch) (Z : Shp) (M : Mem) (a0 : Nat) (x1 : Int32) (x2 : Int32) (r : Int32 × Mem) (h : fX12_shares Z M a0 x1 x2 = some r) : Ct l mX12_shares [vr a0, vi x1, vi x2] Z M ((some (vi r.1)), Z, r.2) := by
  refine Ct.of rfl (Nat.le_of_ble_eq_true rfl) (fun X hM => ?_)
  have hX := hM.1
  refine r_top (mk := fun r => ((some (vi r.1)), Z, r.2)) h (fun K hK => ?_)
  unfold fX12_shares
  refine r_iload_n (i := 1) (x := x1) (q := 1) 1 hX dX12_shares_0 rfl rfl rfl ?_
  refine r_cs (As := [vi x1]) (st := []) (r := (some (vi (fX12_isHolder x1)))) (Z1 := Z) (M1 := M) (k1 := 0) (n1 := 0) (st1 := [vi (fX12_isHolder x1)]) (q := 4) hX (fun l => kX12_isHolder l Z M x1) stX12_isHolder ccX12_isHolder (Or.inl lkX12_460) rfl rfl rfl ⟨Nat.le_of_ble_eq_true rfl, Nat.le_of_ble_eq_true rfl, rfl, rfl, Nat.le_of_ble_eq_true rfl, Nat.le_of_ble_eq_true rfl⟩ (Nat.le_of_ble_eq_true rfl) dX12_shares_1 rfl ?_
  refine r_if_ne (tgt := 10) (q := 7) hX dX12_shares_4 (by decide) rfl (fun hb1 => ?_) (fun hb1 => ?_)
  · refine r_bipush (v := (-101 : Int32)) (q := 9) hX dX12_shares_7 rfl rfl ?_
    refine r_lf (hK _) ?_
    exact r_iret hM rfl (Nat.le_of_ble_eq_true rfl) (Nat.le_of_ble_eq_true rfl) dX12_shares_9
  · refine r_iload_n (i := 2) (x := x2) (q := 11) 2 hX dX12_shares_10 rfl rfl rfl ?_
    refine r_i2l (q := 12) hX dX12_shares_11 rfl ?_
    refine r_lconst (v := (0 : Int64)) (q := 13) hX dX12_shares_12 rfl rfl ?_
    refine r_ldc2 (v := (999 : Int64)) (q := 16) hX dX12_shares_13 (gd (hcw8_1 _ (List.mem_of_getElem? (i := 1) rfl)) rfl) rfl ?_
    refine r_cs (As := [vj (x2.toInt64), vj (0 : Int64), vj (999 : Int64)]) (st := []) (r := (some (vi (fX12_in (x2.toInt64) (0 : Int64) (999 : Int64))))) (Z1 := Z) (M1 := M) (k1 := 0) (n1 := 0) (st1 := [vi (fX12_in (x2.toInt64) (0 : Int64) (999 : Int64))]) (q := 19) hX (fun l => kX12_in l Z M (x2.toInt64) (0 : Int64) (999 : Int64)) stX12_in ccX12_in (Or.inl lkX12_194) rfl rfl rfl ⟨Nat.le_of_ble_eq_true rfl, Nat.le_of_ble_eq_true rfl, rfl, rfl, Nat.le_of_ble_eq_true rfl, Nat.le_of_ble_eq_true rfl⟩ (Nat.le_of_ble_eq_true rfl) dX12_shares_16 rfl ?_
    refine r_if_ne (tgt := 25) (q := 22) hX dX12_shares_19 (by decide) rfl (fun hb2 => ?_) (fun hb2 => ?_)
    · refine r_bipush (v := (-102 : Int32)) (q := 24) hX dX12_shares_22 rfl rfl ?_
      refine r_lf (hK _) ?_
      exact r_iret hM rfl (Nat.le_of_ble_eq_true rfl) (Nat.le_of_ble_eq_true rfl) dX12_shares_24
    · refine r_aload_n (i := 0) (x := a0) (q := 26) 0 hX dX12_shares_25 rfl rfl rfl ?_
      refine r_ck (fun hc3 => ?_)
      refine r_getI (a := a0) (ci := 12) (kf := 75) (q := 29) hX hc3 flX12_463 rfl rfl dX12_shares_26 rfl ?_
      refine r_if_le (tgt := 35) (q := 32) hX dX12_shares_29 (by decide) rfl (fun hb4 => ?_) (fun hb4 => ?_)
      · refine r_aload_n (i := 0) (x := a0) (q := 36) 0 hX dX12_shares_35 rfl rfl rfl ?_
        refine r_getR (a := a0) (ci := 12) (kf := 74) (q := 39) hX hc3 flX12_161 rfl dX12_shares_36 rfl ?_
        refine r_iload_n (i := 1) (x := x1) (q := 40) 1 hX dX12_shares_39 rfl rfl rfl ?_
        refine r_ck (fun hc5 => ?_)
        refine r_iald (a := (rR M a0 74)) (i := x1) (q := 41) hX hc5 dX12_shares_40 rfl ?_
        refine r_istore_nP (x := (rI M (rR M a0 74) (ix x1))) (q := 42) 3 [1, 2, 3, 0] (fun z6 => [(0, vr a0), (1, vi x1), (2, vi x2), (3, vi z6)]) hX dX12_shares_41 rfl (Nat.le_of_ble_eq_true rfl) (fun _ => rfl) rfl (fun z6 => ?_)
        refine r_aload_n (i := 0) (x := a0) (q := 43) 0 hX dX12_shares_42 rfl rfl rfl ?_
        refine r_getR (a := a0) (ci := 12) (kf := 74) (q := 46) hX hc3 flX12_161 rfl dX12_shares_43 rfl ?_
        refine r_iload_n (i := 1) (x := x1) (q := 47) 1 hX dX12_shares_46 rfl rfl rfl ?_
        refine r_iload_n (i := 2) (x := x2) (q := 48) 2 hX dX12_shares_47 rfl rfl rfl ?_
        refine r_iast (a := (rR M a0 74)) (i := x1) (x := x2) (q := 49) hX hc5 dX12_shares_48 rfl (fun M7 => ?_)
        refine r_iload_n (i := 3) (x := z6) (q := 50) 3 hX dX12_shares_49 rfl rfl rfl ?_
        refine r_lf (hK _) ?_
        exact r_iret hM rfl (Nat.le_of_ble_eq_true rfl) (Nat.le_of_ble_eq_true rfl) dX12_shares_50
      · refine r_bipush (v := (-103 : Int32)) (q := 34) hX dX12_shares_32 rfl rfl ?_
        refine r_lf (hK _) ?_
        exact r_iret hM rfl (Nat.le_of_ble_eq_true rfl) (Nat.le_of_ble_eq_true rfl) dX12_shares_34
def mX12_speaks : MD := (yX12_speaks, cX12_speaks, 5, (some .int), 4, 100, 0, 0)
theorem ccX12_speaks : Cc mX12_speaks 3 := ⟨gd (hcw1_0 _ (List.mem_of_getElem? (i := 10) rfl)) rfl, gd (hcw7_9 _ (List.mem_of_getElem? (i := 15) rfl)) rfl, by decide +kernel, by decide +kernel, by decide +kernel⟩
theorem ivX12_speaks : Iv mX12_speaks 12 := ⟨Nat.le_of_ble_eq_true rfl, rfl, gd (hcw7_9 _ (List.mem_of_getElem? (i := 13) rfl)) rfl, gd (hcw7_9 _ (List.mem_of_getElem? (i := 14) rfl)) rfl⟩
noncomputable def fX12_speaks (Z : Shp) (M : Mem) (a0 : Nat) (x1 : Int32) (x2 : Int32) (x3 : Int32) : Option (Int32 × Mem) := (if tg Z a0 = (13, 86) then (Option.bind (fX12_refusal Z M a0 x1 x2 x3) (fun v2 => (if v2 = 0 then (Option.bind (fX12_speaker Z M a0 x1 x2 x3) (fun v5 => some (v5.1, v5.2))) else some (v2, M)))) else none)
set_option maxRecDepth 20000 in
theorem kX12_speaks (l : Launch) (Z : Shp) (M : Mem) (a0 : Nat) (x1 : Int32) (x2 : Int32) (x3 : Int32) (r : Int32 × Mem) (h : fX12_speaks Z M a0 x1 x2 x3 = some r) : Ct l mX12_speaks [vr a0, vi x1, vi x2, vi x3] Z M ((some (vi r.1)), Z, r.2) := by
  refine Ct.of rfl (Nat.le_of_ble_eq_true rfl) (fun X hM => ?_)
  have hX := hM.1
  refine r_top (mk := fun r => ((some (vi r.1)), Z, r.2)) h (fun K hK => ?_)
  unfold fX12_speaks
  refine r_aload_n (i := 0) (x := a0) (q := 1) 0 hX dX12_speaks_0 rfl rfl rfl ?_
  refine r_iload_n (i := 1) (x := x1) (q := 2) 1 hX dX12_speaks_1 rfl rfl rfl ?_
  refine r_iload_n (i := 2) (x := x2) (q := 3) 2 hX dX12_speaks_2 rfl rfl rfl ?_
  refine r_iload_n (i := 3) (x := x3) (q := 4) 3 hX dX12_speaks_3 rfl rfl rfl ?_
  refine r_ck (fun hc1 => ?_)
  refine r_bind (fun v2 h3 => ?_)
  refine r_cv (a := a0) (As := [vi x1, vi x2, vi x3]) (st := []) (r := (some (vi v2))) (Z1 := Z) (M1 := M) (k1 := 0) (n1 := 0) (st1 := [vi v2]) (q := 7) hX (fun l => kX12_refusal l Z M a0 x1 x2 x3 v2 h3) hc1 ivX12_refusal ccX12_refusal (Or.inl lkX12_404) rfl rfl rfl ⟨Nat.le_of_ble_eq_true rfl, Nat.le_of_ble_eq_true rfl, rfl, rfl, Nat.le_of_ble_eq_true rfl, Nat.le_of_ble_eq_true rfl⟩ (Nat.le_of_ble_eq_true rfl) dX12_speaks_4 rfl ?_
  refine r_istore (x := v2) (q := 9) 4 [1, 2, 3, 4, 0] (L1 := [(0, vr a0), (1, vi x1), (2, vi x2), (3, vi x3), (4, vi v2)]) hX dX12_speaks_7 (Nat.le_of_ble_eq_true rfl) rfl rfl ?_
  refine r_iload (i := 4) (x := v2) (q := 11) 4 hX dX12_speaks_9 rfl rfl ?_
  refine r_if_eq (tgt := 19) (q := 14) hX dX12_speaks_11 (by decide) rfl (fun hb4 => ?_) (fun hb4 => ?_)
  · refine r_aload_n (i := 0) (x := a0) (q := 20) 0 hX dX12_speaks_19 rfl rfl rfl ?_
    refine r_iload_n (i := 1) (x := x1) (q := 21) 1 hX dX12_speaks_20 rfl rfl rfl ?_
    refine r_iload_n (i := 2) (x := x2) (q := 22) 2 hX dX12_speaks_21 rfl rfl rfl ?_
    refine r_iload_n (i := 3) (x := x3) (q := 23) 3 hX dX12_speaks_22 rfl rfl rfl ?_
    refine r_bind (fun v5 h6 => ?_)
    refine r_cv (a := a0) (As := [vi x1, vi x2, vi x3]) (st := []) (r := (some (vi v5.1))) (Z1 := Z) (M1 := v5.2) (k1 := 0) (n1 := 0) (st1 := [vi v5.1]) (q := 26) hX (fun l => kX12_speaker l Z M a0 x1 x2 x3 v5 h6) hc1 ivX12_speaker ccX12_speaker (Or.inl lkX12_408) rfl rfl rfl ⟨Nat.le_of_ble_eq_true rfl, Nat.le_of_ble_eq_true rfl, rfl, rfl, Nat.le_of_ble_eq_true rfl, Nat.le_of_ble_eq_true rfl⟩ (Nat.le_of_ble_eq_true rfl) dX12_speaks_23 rfl ?_
    refine r_lf (hK _) ?_
    exact r_iret hM rfl (Nat.le_of_ble_eq_true rfl) (Nat.le_of_ble_eq_true rfl) dX12_speaks_26
  · refine r_iload (i := 4) (x := v2) (q := 16) 4 hX dX12_speaks_14 rfl rfl ?_
    refine r_goto (q := 26) hX dX12_speaks_16 (by decide) ?_
    refine r_lf (hK _) ?_
    exact r_iret hM rfl (Nat.le_of_ble_eq_true rfl) (Nat.le_of_ble_eq_true rfl) dX12_speaks_26
def mX12_sum : MD := (yX12_sum, cX12_sum, 2, (some .long), 1, 25, 0, 0)
theorem ccX12_sum : Cc mX12_sum 1 := ⟨gd (hcw1_0 _ (List.mem_of_getElem? (i := 10) rfl)) rfl, gd (hcw7_6 _ (List.mem_of_getElem? (i := 4) rfl)) rfl, by decide +kernel, by decide +kernel, by decide +kernel⟩
theorem ivX12_sum : Iv mX12_sum 12 := ⟨Nat.le_of_ble_eq_true rfl, rfl, gd (hcw7_6 _ (List.mem_of_getElem? (i := 2) rfl)) rfl, gd (hcw7_6 _ (List.mem_of_getElem? (i := 3) rfl)) rfl⟩
noncomputable def fX12_sum (Z : Shp) (M : Mem) (a0 : Nat) (x1 : Int32) : Option (Int64) := (if (fX12_in (x1.toInt64) (0 : Int64) (4 : Int64)) = 0 then some (-1 : Int64) else (if tg Z a0 = (13, 86) then (Option.bind (fX12_sumOf Z M a0 x1) (fun v3 => some v3)) else none))
set_option maxRecDepth 20000 in
theorem kX12_sum (l : Launch) (Z : Shp) (M : Mem) (a0 : Nat) (x1 : Int32) (r : Int64) (h : fX12_sum Z M a0 x1 = some r) : Ct l mX12_sum [vr a0, vi x1] Z M ((some (vj r)), Z, M) := by
  refine Ct.of rfl (Nat.le_of_ble_eq_true rfl) (fun X hM => ?_)
  have hX := hM.1
  refine r_top (mk := fun r => ((some (vj r)), Z, M)) h (fun K hK => ?_)
  unfold fX12_sum
  refine r_iload_n (i := 1) (x := x1) (q := 1) 1 hX dX12_sum_0 rfl rfl rfl ?_
  refine r_i2l (q := 2) hX dX12_sum_1 rfl ?_
  refine r_lconst (v := (0 : Int64)) (q := 3) hX dX12_sum_2 rfl rfl ?_
  refine r_ldc2 (v := (4 : Int64)) (q := 6) hX dX12_sum_3 (gd (hcw7_0 _ (List.mem_of_getElem? (i := 10) rfl)) rfl) rfl ?_
  refine r_cs (As := [vj (x1.toInt64), vj (0 : Int64), vj (4 : Int64)]) (st := []) (r := (some (vi (fX12_in (x1.toInt64) (0 : Int64) (4 : Int64))))) (Z1 := Z) (M1 := M) (k1 := 0) (n1 := 0) (st1 := [vi (fX12_in (x1.toInt64) (0 : Int64) (4 : Int64))]) (q := 9) hX (fun l => kX12_in l Z M (x1.toInt64) (0 : Int64) (4 : Int64)) stX12_in ccX12_in (Or.inl lkX12_194) rfl rfl rfl ⟨Nat.le_of_ble_eq_true rfl, Nat.le_of_ble_eq_true rfl, rfl, rfl, Nat.le_of_ble_eq_true rfl, Nat.le_of_ble_eq_true rfl⟩ (Nat.le_of_ble_eq_true rfl) dX12_sum_6 rfl ?_
  refine r_if_eq (tgt := 20) (q := 12) hX dX12_sum_9 (by decide) rfl (fun hb1 => ?_) (fun hb1 => ?_)
  · refine r_ldc2 (v := (-1 : Int64)) (q := 23) hX dX12_sum_20 (gd (hcw7_6 _ (List.mem_of_getElem? (i := 10) rfl)) rfl) rfl ?_
    refine r_lf (hK _) ?_
    exact r_lret hM rfl (Nat.le_of_ble_eq_true rfl) (Nat.le_of_ble_eq_true rfl) dX12_sum_23
  · refine r_aload_n (i := 0) (x := a0) (q := 13) 0 hX dX12_sum_12 rfl rfl rfl ?_
    refine r_iload_n (i := 1) (x := x1) (q := 14) 1 hX dX12_sum_13 rfl rfl rfl ?_
    refine r_ck (fun hc2 => ?_)
    refine r_bind (fun v3 h4 => ?_)
    refine r_cv (a := a0) (As := [vi x1]) (st := []) (r := (some (vj v3))) (Z1 := Z) (M1 := M) (k1 := 0) (n1 := 0) (st1 := [vj v3]) (q := 17) hX (fun l => kX12_sumOf l Z M a0 x1 v3 h4) hc2 ivX12_sumOf ccX12_sumOf (Or.inl lkX12_315) rfl rfl rfl ⟨Nat.le_of_ble_eq_true rfl, Nat.le_of_ble_eq_true rfl, rfl, rfl, Nat.le_of_ble_eq_true rfl, Nat.le_of_ble_eq_true rfl⟩ (Nat.le_of_ble_eq_true rfl) dX12_sum_14 rfl ?_
    refine r_goto (q := 23) hX dX12_sum_17 (by decide) ?_
    refine r_lf (hK _) ?_
    exact r_lret hM rfl (Nat.le_of_ble_eq_true rfl) (Nat.le_of_ble_eq_true rfl) dX12_sum_23
def mX12_summit : MD := (yX12_summit, cX12_summit, 3, (some .int), 1, 25, 0, 0)
theorem ccX12_summit : Cc mX12_summit 1 := ⟨gd (hcw1_0 _ (List.mem_of_getElem? (i := 10) rfl)) rfl, gd (hcw6_11 _ (List.mem_of_getElem? (i := 14) rfl)) rfl, by decide +kernel, by decide +kernel, by decide +kernel⟩
theorem ivX12_summit : Iv mX12_summit 12 := ⟨Nat.le_of_ble_eq_true rfl, rfl, gd (hcw6_11 _ (List.mem_of_getElem? (i := 12) rfl)) rfl, gd (hcw6_11 _ (List.mem_of_getElem? (i := 13) rfl)) rfl⟩
def fX12_summit (Z : Shp) (M : Mem) (a0 : Nat) (x1 : Int32) : Option (Int32 × Mem) := (if (fX12_in (x1.toInt64) (1 : Int64) (6 : Int64)) = 0 then some ((-102 : Int32), M) else (if tg Z a0 = (13, 86) then (if 0 < (rI M a0 11) then some ((-103 : Int32), M) else (if (rI M a0 21) ≤ 0 then (pu ((rI M a0 3)) (fun z5 => (pu (wI M a0 3 x1) (fun M6 => some (z5, M6))))) else some ((-103 : Int32), M))) else none))
set_option maxRecDepth 20000 in
theorem kX12_summit (l : Launch) (Z : Shp) (M : Mem) (a0 : Nat) (x1 : Int32) (r : Int32 × Mem) (h : fX12_summit Z M a0 x1 = some r) : Ct l mX12_summit [vr a0, vi x1] Z M ((some (vi r.1)), Z, r.2) := by
  refine Ct.of rfl (Nat.le_of_ble_eq_true rfl) (fun X hM => ?_)
  have hX := hM.1
  refine r_top (mk := fun r => ((some (vi r.1)), Z, r.2)) h (fun K hK => ?_)
  unfold fX12_summit
  refine r_iload_n (i := 1) (x := x1) (q := 1) 1 hX dX12_summit_0 rfl rfl rfl ?_
  refine r_i2l (q := 2) hX dX12_summit_1 rfl ?_
  refine r_lconst (v := (1 : Int64)) (q := 3) hX dX12_summit_2 rfl rfl ?_
  refine r_ldc2 (v := (6 : Int64)) (q := 6) hX dX12_summit_3 (gd (hcw6_11 _ (List.mem_of_getElem? (i := 15) rfl)) rfl) rfl ?_
  refine r_cs (As := [vj (x1.toInt64), vj (1 : Int64), vj (6 : Int64)]) (st := []) (r := (some (vi (fX12_in (x1.toInt64) (1 : Int64) (6 : Int64))))) (Z1 := Z) (M1 := M) (k1 := 0) (n1 := 0) (st1 := [vi (fX12_in (x1.toInt64) (1 : Int64) (6 : Int64))]) (q := 9) hX (fun l => kX12_in l Z M (x1.toInt64) (1 : Int64) (6 : Int64)) stX12_in ccX12_in (Or.inl lkX12_194) rfl rfl rfl ⟨Nat.le_of_ble_eq_true rfl, Nat.le_of_ble_eq_true rfl, rfl, rfl, Nat.le_of_ble_eq_true rfl, Nat.le_of_ble_eq_true rfl⟩ (Nat.le_of_ble_eq_true rfl) dX12_summit_6 rfl ?_
  refine r_if_ne (tgt := 15) (q := 12) hX dX12_summit_9 (by decide) rfl (fun hb1 => ?_) (fun hb1 => ?_)
  · refine r_bipush (v := (-102 : Int32)) (q := 14) hX dX12_summit_12 rfl rfl ?_
    refine r_lf (hK _) ?_
    exact r_iret hM rfl (Nat.le_of_ble_eq_true rfl) (Nat.le_of_ble_eq_true rfl) dX12_summit_14
  · refine r_aload_n (i := 0) (x := a0) (q := 16) 0 hX dX12_summit_15 rfl rfl rfl ?_
    refine r_ck (fun hc2 => ?_)
    refine r_getI (a := a0) (ci := 12) (kf := 11) (q := 19) hX hc2 flX12_212 rfl rfl dX12_summit_16 rfl ?_
    refine r_if_gt (tgt := 29) (q := 22) hX dX12_summit_19 (by decide) rfl (fun hb3 => ?_) (fun hb3 => ?_)
    · refine r_bipush (v := (-103 : Int32)) (q := 31) hX dX12_summit_29 rfl rfl ?_
      refine r_lf (hK _) ?_
      exact r_iret hM rfl (Nat.le_of_ble_eq_true rfl) (Nat.le_of_ble_eq_true rfl) dX12_summit_31
    · refine r_aload_n (i := 0) (x := a0) (q := 23) 0 hX dX12_summit_22 rfl rfl rfl ?_
      refine r_getI (a := a0) (ci := 12) (kf := 21) (q := 26) hX hc2 flX12_215 rfl rfl dX12_summit_23 rfl ?_
      refine r_if_le (tgt := 32) (q := 29) hX dX12_summit_26 (by decide) rfl (fun hb4 => ?_) (fun hb4 => ?_)
      · refine r_aload_n (i := 0) (x := a0) (q := 33) 0 hX dX12_summit_32 rfl rfl rfl ?_
        refine r_getI (a := a0) (ci := 12) (kf := 3) (q := 36) hX hc2 flX12_185 rfl rfl dX12_summit_33 rfl ?_
        refine r_istore_nP (x := (rI M a0 3)) (q := 37) 2 [1, 2, 0] (fun z5 => [(0, vr a0), (1, vi x1), (2, vi z5)]) hX dX12_summit_36 rfl (Nat.le_of_ble_eq_true rfl) (fun _ => rfl) rfl (fun z5 => ?_)
        refine r_aload_n (i := 0) (x := a0) (q := 38) 0 hX dX12_summit_37 rfl rfl rfl ?_
        refine r_iload_n (i := 1) (x := x1) (q := 39) 1 hX dX12_summit_38 rfl rfl rfl ?_
        refine r_putI (a := a0) (ci := 12) (kf := 3) (q := 42) hX hc2 flX12_185 rfl rfl (Or.inl rfl) rfl rfl dX12_summit_39 rfl (fun M6 => ?_)
        refine r_iload_n (i := 2) (x := z5) (q := 43) 2 hX dX12_summit_42 rfl rfl rfl ?_
        refine r_lf (hK _) ?_
        exact r_iret hM rfl (Nat.le_of_ble_eq_true rfl) (Nat.le_of_ble_eq_true rfl) dX12_summit_43
      · refine r_bipush (v := (-103 : Int32)) (q := 31) hX dX12_summit_29 rfl rfl ?_
        refine r_lf (hK _) ?_
        exact r_iret hM rfl (Nat.le_of_ble_eq_true rfl) (Nat.le_of_ble_eq_true rfl) dX12_summit_31
def mX12_taker : MD := (yX12_taker, cX12_taker, 5, (some .int), 2, 45, 0, 0)
theorem ccX12_taker : Cc mX12_taker 4 := ⟨gd (hcw1_0 _ (List.mem_of_getElem? (i := 10) rfl)) rfl, gd (hcw7_0 _ (List.mem_of_getElem? (i := 9) rfl)) rfl, by decide +kernel, by decide +kernel, by decide +kernel⟩
theorem ivX12_taker : Iv mX12_taker 12 := ⟨Nat.le_of_ble_eq_true rfl, rfl, gd (hcw7_0 _ (List.mem_of_getElem? (i := 7) rfl)) rfl, gd (hcw7_0 _ (List.mem_of_getElem? (i := 8) rfl)) rfl⟩
def fX12_taker (Z : Shp) (M : Mem) (a0 : Nat) (x1 : Int32) (x2 : Int32) (x3 : Int32) (x4 : Int32) : Option (Int32 × Mem) := (if (fX12_isPound x2) = 0 then some ((-101 : Int32), M) else (if (fX12_in (x1.toInt64) (0 : Int64) (4 : Int64)) = 0 then some ((-102 : Int32), M) else (if (fX12_in (x3.toInt64) (1 : Int64) (200 : Int64)) = 0 then some ((-102 : Int32), M) else (if (fX12_in (x4.toInt64) (0 : Int64) (9 : Int64)) = 0 then some ((-102 : Int32), M) else (if tg Z a0 = (13, 86) then (if (rI M a0 15) = (12 : Int32) then some ((-104 : Int32), M) else (if aok Z (rR M a0 16) 100 (rI M a0 15) then (pu (wI M (rR M a0 16) (ix (rI M a0 15)) x1) (fun M8 => (if aok Z (rR M8 a0 17) 100 (rI M8 a0 15) then (pu (wI M8 (rR M8 a0 17) (ix (rI M8 a0 15)) x2) (fun M10 => (if aok Z (rR M10 a0 18) 100 (rI M10 a0 15) then (pu (wI M10 (rR M10 a0 18) (ix (rI M10 a0 15)) x3) (fun M12 => (if aok Z (rR M12 a0 19) 100 (rI M12 a0 15) then (pu (wI M12 (rR M12 a0 19) (ix (rI M12 a0 15)) x4) (fun M14 => (pu (wI M14 a0 15 ((rI M14 a0 15) + (1 : Int32))) (fun M15 => some (((rI M15 a0 15) - (1 : Int32)), M15))))) else none))) else none))) else none))) else none)) else none)))))
set_option maxRecDepth 20000 in
theorem kX12_taker (l : Launch) (Z : Shp) (M : Mem) (a0 : Nat) (x1 : Int32) (x2 : Int32) (x3 : Int32) (x4 : Int32) (r : Int32 × Mem) (h : fX12_taker Z M a0 x1 x2 x3 x4 = some r) : Ct l mX12_taker [vr a0, vi x1, vi x2, vi x3, vi x4] Z M ((some (vi r.1)), Z, r.2) := by
  refine Ct.of rfl (Nat.le_of_ble_eq_true rfl) (fun X hM => ?_)
  have hX := hM.1
  refine r_top (mk := fun r => ((some (vi r.1)), Z, r.2)) h (fun K hK => ?_)
  unfold fX12_taker
  refine r_iload_n (i := 2) (x := x2) (q := 1) 2 hX dX12_taker_0 rfl rfl rfl ?_
  refine r_cs (As := [vi x2]) (st := []) (r := (some (vi (fX12_isPound x2)))) (Z1 := Z) (M1 := M) (k1 := 0) (n1 := 0) (st1 := [vi (fX12_isPound x2)]) (q := 4) hX (fun l => kX12_isPound l Z M x2) stX12_isPound ccX12_isPound (Or.inl lkX12_198) rfl rfl rfl ⟨Nat.le_of_ble_eq_true rfl, Nat.le_of_ble_eq_true rfl, rfl, rfl, Nat.le_of_ble_eq_true rfl, Nat.le_of_ble_eq_true rfl⟩ (Nat.le_of_ble_eq_true rfl) dX12_taker_1 rfl ?_
  refine r_if_ne (tgt := 10) (q := 7) hX dX12_taker_4 (by decide) rfl (fun hb1 => ?_) (fun hb1 => ?_)
  · refine r_bipush (v := (-101 : Int32)) (q := 9) hX dX12_taker_7 rfl rfl ?_
    refine r_lf (hK _) ?_
    exact r_iret hM rfl (Nat.le_of_ble_eq_true rfl) (Nat.le_of_ble_eq_true rfl) dX12_taker_9
  · refine r_iload_n (i := 1) (x := x1) (q := 11) 1 hX dX12_taker_10 rfl rfl rfl ?_
    refine r_i2l (q := 12) hX dX12_taker_11 rfl ?_
    refine r_lconst (v := (0 : Int64)) (q := 13) hX dX12_taker_12 rfl rfl ?_
    refine r_ldc2 (v := (4 : Int64)) (q := 16) hX dX12_taker_13 (gd (hcw7_0 _ (List.mem_of_getElem? (i := 10) rfl)) rfl) rfl ?_
    refine r_cs (As := [vj (x1.toInt64), vj (0 : Int64), vj (4 : Int64)]) (st := []) (r := (some (vi (fX12_in (x1.toInt64) (0 : Int64) (4 : Int64))))) (Z1 := Z) (M1 := M) (k1 := 0) (n1 := 0) (st1 := [vi (fX12_in (x1.toInt64) (0 : Int64) (4 : Int64))]) (q := 19) hX (fun l => kX12_in l Z M (x1.toInt64) (0 : Int64) (4 : Int64)) stX12_in ccX12_in (Or.inl lkX12_194) rfl rfl rfl ⟨Nat.le_of_ble_eq_true rfl, Nat.le_of_ble_eq_true rfl, rfl, rfl, Nat.le_of_ble_eq_true rfl, Nat.le_of_ble_eq_true rfl⟩ (Nat.le_of_ble_eq_true rfl) dX12_taker_16 rfl ?_
    refine r_if_eq (tgt := 47) (q := 22) hX dX12_taker_19 (by decide) rfl (fun hb2 => ?_) (fun hb2 => ?_)
    · refine r_bipush (v := (-102 : Int32)) (q := 49) hX dX12_taker_47 rfl rfl ?_
      refine r_lf (hK _) ?_
      exact r_iret hM rfl (Nat.le_of_ble_eq_true rfl) (Nat.le_of_ble_eq_true rfl) dX12_taker_49
    · refine r_iload_n (i := 3) (x := x3) (q := 23) 3 hX dX12_taker_22 rfl rfl rfl ?_
      refine r_i2l (q := 24) hX dX12_taker_23 rfl ?_
      refine r_lconst (v := (1 : Int64)) (q := 25) hX dX12_taker_24 rfl rfl ?_
      refine r_ldc2 (v := (200 : Int64)) (q := 28) hX dX12_taker_25 (gd (hcw7_0 _ (List.mem_of_getElem? (i := 1) rfl)) rfl) rfl ?_
      refine r_cs (As := [vj (x3.toInt64), vj (1 : Int64), vj (200 : Int64)]) (st := []) (r := (some (vi (fX12_in (x3.toInt64) (1 : Int64) (200 : Int64))))) (Z1 := Z) (M1 := M) (k1 := 0) (n1 := 0) (st1 := [vi (fX12_in (x3.toInt64) (1 : Int64) (200 : Int64))]) (q := 31) hX (fun l => kX12_in l Z M (x3.toInt64) (1 : Int64) (200 : Int64)) stX12_in ccX12_in (Or.inl lkX12_194) rfl rfl rfl ⟨Nat.le_of_ble_eq_true rfl, Nat.le_of_ble_eq_true rfl, rfl, rfl, Nat.le_of_ble_eq_true rfl, Nat.le_of_ble_eq_true rfl⟩ (Nat.le_of_ble_eq_true rfl) dX12_taker_28 rfl ?_
      refine r_if_eq (tgt := 47) (q := 34) hX dX12_taker_31 (by decide) rfl (fun hb3 => ?_) (fun hb3 => ?_)
      · refine r_bipush (v := (-102 : Int32)) (q := 49) hX dX12_taker_47 rfl rfl ?_
        refine r_lf (hK _) ?_
        exact r_iret hM rfl (Nat.le_of_ble_eq_true rfl) (Nat.le_of_ble_eq_true rfl) dX12_taker_49
      · refine r_iload (i := 4) (x := x4) (q := 36) 4 hX dX12_taker_34 rfl rfl ?_
        refine r_i2l (q := 37) hX dX12_taker_36 rfl ?_
        refine r_lconst (v := (0 : Int64)) (q := 38) hX dX12_taker_37 rfl rfl ?_
        refine r_ldc2 (v := (9 : Int64)) (q := 41) hX dX12_taker_38 (gd (hcw7_0 _ (List.mem_of_getElem? (i := 11) rfl)) rfl) rfl ?_
        refine r_cs (As := [vj (x4.toInt64), vj (0 : Int64), vj (9 : Int64)]) (st := []) (r := (some (vi (fX12_in (x4.toInt64) (0 : Int64) (9 : Int64))))) (Z1 := Z) (M1 := M) (k1 := 0) (n1 := 0) (st1 := [vi (fX12_in (x4.toInt64) (0 : Int64) (9 : Int64))]) (q := 44) hX (fun l => kX12_in l Z M (x4.toInt64) (0 : Int64) (9 : Int64)) stX12_in ccX12_in (Or.inl lkX12_194) rfl rfl rfl ⟨Nat.le_of_ble_eq_true rfl, Nat.le_of_ble_eq_true rfl, rfl, rfl, Nat.le_of_ble_eq_true rfl, Nat.le_of_ble_eq_true rfl⟩ (Nat.le_of_ble_eq_true rfl) dX12_taker_41 rfl ?_
        refine r_if_ne (tgt := 50) (q := 47) hX dX12_taker_44 (by decide) rfl (fun hb4 => ?_) (fun hb4 => ?_)
        · refine r_bipush (v := (-102 : Int32)) (q := 49) hX dX12_taker_47 rfl rfl ?_
          refine r_lf (hK _) ?_
          exact r_iret hM rfl (Nat.le_of_ble_eq_true rfl) (Nat.le_of_ble_eq_true rfl) dX12_taker_49
        · refine r_aload_n (i := 0) (x := a0) (q := 51) 0 hX dX12_taker_50 rfl rfl rfl ?_
          refine r_ck (fun hc5 => ?_)
          refine r_getI (a := a0) (ci := 12) (kf := 15) (q := 54) hX hc5 flX12_230 rfl rfl dX12_taker_51 rfl ?_
          refine r_bipush (v := (12 : Int32)) (q := 56) hX dX12_taker_54 rfl rfl ?_
          refine r_icmp_ne (tgt := 62) (q := 59) hX dX12_taker_56 (by decide) rfl (fun hb6 => ?_) (fun hb6 => ?_)
          · refine r_bipush (v := (-104 : Int32)) (q := 61) hX dX12_taker_59 rfl rfl ?_
            refine r_lf (hK _) ?_
            exact r_iret hM rfl (Nat.le_of_ble_eq_true rfl) (Nat.le_of_ble_eq_true rfl) dX12_taker_61
          · refine r_aload_n (i := 0) (x := a0) (q := 63) 0 hX dX12_taker_62 rfl rfl rfl ?_
            refine r_getR (a := a0) (ci := 12) (kf := 16) (q := 66) hX hc5 flX12_41 rfl dX12_taker_63 rfl ?_
            refine r_aload_n (i := 0) (x := a0) (q := 67) 0 hX dX12_taker_66 rfl rfl rfl ?_
            refine r_getI (a := a0) (ci := 12) (kf := 15) (q := 70) hX hc5 flX12_230 rfl rfl dX12_taker_67 rfl ?_
            refine r_iload_n (i := 1) (x := x1) (q := 71) 1 hX dX12_taker_70 rfl rfl rfl ?_
            refine r_ck (fun hc7 => ?_)
            refine r_iast (a := (rR M a0 16)) (i := (rI M a0 15)) (x := x1) (q := 72) hX hc7 dX12_taker_71 rfl (fun M8 => ?_)
            refine r_aload_n (i := 0) (x := a0) (q := 73) 0 hX dX12_taker_72 rfl rfl rfl ?_
            refine r_getR (a := a0) (ci := 12) (kf := 17) (q := 76) hX hc5 flX12_44 rfl dX12_taker_73 rfl ?_
            refine r_aload_n (i := 0) (x := a0) (q := 77) 0 hX dX12_taker_76 rfl rfl rfl ?_
            refine r_getI (a := a0) (ci := 12) (kf := 15) (q := 80) hX hc5 flX12_230 rfl rfl dX12_taker_77 rfl ?_
            refine r_iload_n (i := 2) (x := x2) (q := 81) 2 hX dX12_taker_80 rfl rfl rfl ?_
            refine r_ck (fun hc9 => ?_)
            refine r_iast (a := (rR M8 a0 17)) (i := (rI M8 a0 15)) (x := x2) (q := 82) hX hc9 dX12_taker_81 rfl (fun M10 => ?_)
            refine r_aload_n (i := 0) (x := a0) (q := 83) 0 hX dX12_taker_82 rfl rfl rfl ?_
            refine r_getR (a := a0) (ci := 12) (kf := 18) (q := 86) hX hc5 flX12_47 rfl dX12_taker_83 rfl ?_
            refine r_aload_n (i := 0) (x := a0) (q := 87) 0 hX dX12_taker_86 rfl rfl rfl ?_
            refine r_getI (a := a0) (ci := 12) (kf := 15) (q := 90) hX hc5 flX12_230 rfl rfl dX12_taker_87 rfl ?_
            refine r_iload_n (i := 3) (x := x3) (q := 91) 3 hX dX12_taker_90 rfl rfl rfl ?_
            refine r_ck (fun hc11 => ?_)
            refine r_iast (a := (rR M10 a0 18)) (i := (rI M10 a0 15)) (x := x3) (q := 92) hX hc11 dX12_taker_91 rfl (fun M12 => ?_)
            refine r_aload_n (i := 0) (x := a0) (q := 93) 0 hX dX12_taker_92 rfl rfl rfl ?_
            refine r_getR (a := a0) (ci := 12) (kf := 19) (q := 96) hX hc5 flX12_50 rfl dX12_taker_93 rfl ?_
            refine r_aload_n (i := 0) (x := a0) (q := 97) 0 hX dX12_taker_96 rfl rfl rfl ?_
            refine r_getI (a := a0) (ci := 12) (kf := 15) (q := 100) hX hc5 flX12_230 rfl rfl dX12_taker_97 rfl ?_
            refine r_iload (i := 4) (x := x4) (q := 102) 4 hX dX12_taker_100 rfl rfl ?_
            refine r_ck (fun hc13 => ?_)
            refine r_iast (a := (rR M12 a0 19)) (i := (rI M12 a0 15)) (x := x4) (q := 103) hX hc13 dX12_taker_102 rfl (fun M14 => ?_)
            refine r_aload_n (i := 0) (x := a0) (q := 104) 0 hX dX12_taker_103 rfl rfl rfl ?_
            refine r_dup (q := 105) hX dX12_taker_104 rfl rfl ?_
            refine r_getI (a := a0) (ci := 12) (kf := 15) (q := 108) hX hc5 flX12_230 rfl rfl dX12_taker_105 rfl ?_
            refine r_iconst (v := (1 : Int32)) (q := 109) hX dX12_taker_108 rfl rfl ?_
            refine r_iadd (q := 110) hX dX12_taker_109 rfl ?_
            refine r_putI (a := a0) (ci := 12) (kf := 15) (q := 113) hX hc5 flX12_230 rfl rfl (Or.inl rfl) rfl rfl dX12_taker_110 rfl (fun M15 => ?_)
            refine r_aload_n (i := 0) (x := a0) (q := 114) 0 hX dX12_taker_113 rfl rfl rfl ?_
            refine r_getI (a := a0) (ci := 12) (kf := 15) (q := 117) hX hc5 flX12_230 rfl rfl dX12_taker_114 rfl ?_
            refine r_iconst (v := (1 : Int32)) (q := 118) hX dX12_taker_117 rfl rfl ?_
            refine r_isub (q := 119) hX dX12_taker_118 rfl ?_
            refine r_lf (hK _) ?_
            exact r_iret hM rfl (Nat.le_of_ble_eq_true rfl) (Nat.le_of_ble_eq_true rfl) dX12_taker_119
def mX12_text : MD := (yX12_text, cX12_text, 3, (some .int), 5, 106, 0, 0)
theorem ccX12_text : Cc mX12_text 0 := ⟨gd (hcw1_0 _ (List.mem_of_getElem? (i := 10) rfl)) rfl, gd (hcw7_9 _ (List.mem_of_getElem? (i := 3) rfl)) rfl, by decide +kernel, by decide +kernel, by decide +kernel⟩
theorem ivX12_text : Iv mX12_text 12 := ⟨Nat.le_of_ble_eq_true rfl, rfl, gd (hcw7_9 _ (List.mem_of_getElem? (i := 1) rfl)) rfl, gd (hcw7_9 _ (List.mem_of_getElem? (i := 2) rfl)) rfl⟩
noncomputable def fX12_text (Z : Shp) (M : Mem) (a0 : Nat) : Option (Int32 × Mem) := (if tg Z a0 = (13, 86) then (Option.bind (fX12_faultOf Z M a0) (fun v2 => (Option.bind (if v2.1 = (rI v2.2 a0 34) then (if (rI v2.2 a0 43) = (3 : Int32) then some (1 : Int32) else (if (rI v2.2 a0 43) < (7 : Int32) then some (0 : Int32) else (if (rI v2.2 a0 44) = 0 then some (1 : Int32) else some (0 : Int32)))) else some (0 : Int32)) (fun v7 : Int32 => (if v7 = 0 then some ((-103 : Int32), v2.2) else (if (rI v2.2 a0 35) = (16 : Int32) then some ((-104 : Int32), v2.2) else (Option.bind (fX12_endNumber Z v2.2 a0) (fun v13 => (Option.bind (fX12_layDown Z v13 a0 (17 : Int32)) (fun v15 => (if aok Z (rR v15 a0 36) 100 (rI v15 a0 35) then (pu (wI v15 (rR v15 a0 36) (ix (rI v15 a0 35)) (rI v15 a0 46)) (fun M18 => (if aok Z (rR M18 a0 37) 100 (rI M18 a0 35) then (pu (wI M18 (rR M18 a0 37) (ix (rI M18 a0 35)) (rI M18 a0 47)) (fun M20 => (if aok Z (rR M20 a0 38) 100 (rI M20 a0 35) then (pu (wI M20 (rR M20 a0 38) (ix (rI M20 a0 35)) (0 : Int32)) (fun M22 => (if aok Z (rR M22 a0 39) 100 (rI M22 a0 35) then (pu (wI M22 (rR M22 a0 39) (ix (rI M22 a0 35)) (99 : Int32)) (fun M24 => (if aok Z (rR M24 a0 40) 100 (rI M24 a0 35) then (pu (wI M24 (rR M24 a0 40) (ix (rI M24 a0 35)) (rI M24 a0 53)) (fun M26 => (Option.bind (loop (fun s30 : Int32 × Mem => (if (rI s30.2 a0 53) ≤ s30.1 then some (Sum.inr s30.2) else (if aok Z (rR s30.2 a0 51) 100 s30.1 then (if aok Z (rR s30.2 a0 41) 100 (((60 : Int32) * (rI s30.2 a0 35)) + s30.1) then (pu (wI s30.2 (rR s30.2 a0 41) (ix (((60 : Int32) * (rI s30.2 a0 35)) + s30.1)) (rI s30.2 (rR s30.2 a0 51) (ix s30.1))) (fun M36 => (if aok Z (rR M36 a0 52) 100 s30.1 then (if aok Z (rR M36 a0 42) 100 (((60 : Int32) * (rI M36 a0 35)) + s30.1) then (pu (wI M36 (rR M36 a0 42) (ix (((60 : Int32) * (rI M36 a0 35)) + s30.1)) (rI M36 (rR M36 a0 52) (ix s30.1))) (fun M39 => some (Sum.inl ((s30.1 + (1 : Int32)), M39)))) else none) else none))) else none) else none))) ((0 : Int32), M26)) (fun v29 : Mem => (pu (wI v29 a0 35 ((rI v29 a0 35) + (1 : Int32))) (fun M40 => (pu (wI M40 a0 34 (0 : Int32)) (fun M41 => some (((rI M41 a0 35) - (1 : Int32)), M41))))))))) else none))) else none))) else none))) else none))) else none))))))))))) else none)
set_option maxRecDepth 20000 in
theorem kX12_text (l : Launch) (Z : Shp) (M : Mem) (a0 : Nat) (r : Int32 × Mem) (h : fX12_text Z M a0 = some r) : Ct l mX12_text [vr a0] Z M ((some (vi r.1)), Z, r.2) := by
  refine Ct.of rfl (Nat.le_of_ble_eq_true rfl) (fun X hM => ?_)
  have hX := hM.1
  refine r_top (mk := fun r => ((some (vi r.1)), Z, r.2)) h (fun K hK => ?_)
  unfold fX12_text
  refine r_aload_n (i := 0) (x := a0) (q := 1) 0 hX dX12_text_0 rfl rfl rfl ?_
  refine r_ck (fun hc1 => ?_)
  refine r_bind (fun v2 h3 => ?_)
  refine r_cv (a := a0) (As := []) (st := []) (r := (some (vi v2.1))) (Z1 := Z) (M1 := v2.2) (k1 := 0) (n1 := 0) (st1 := [vi v2.1]) (q := 4) hX (fun l => kX12_faultOf l Z M a0 v2 h3) hc1 ivX12_faultOf ccX12_faultOf (Or.inl lkX12_384) rfl rfl rfl ⟨Nat.le_of_ble_eq_true rfl, Nat.le_of_ble_eq_true rfl, rfl, rfl, Nat.le_of_ble_eq_true rfl, Nat.le_of_ble_eq_true rfl⟩ (Nat.le_of_ble_eq_true rfl) dX12_text_1 rfl ?_
  refine r_aload_n (i := 0) (x := a0) (q := 5) 0 hX dX12_text_4 rfl rfl rfl ?_
  refine r_getI (a := a0) (ci := 12) (kf := 34) (q := 8) hX hc1 flX12_323 rfl rfl dX12_text_5 rfl ?_
  refine r_jn (J := fun (v7 : Int32) (P : Option Res) => Ref mX12_text X 0 0 Z v2.2 40 [(0, vr a0)] [vi v7] P) (fun v7 => ?_) (fun K1 hj5 => ?_)
  · refine r_istore_n (x := v7) (q := 41) 1 [1, 0] (L1 := [(0, vr a0), (1, vi v7)]) hX dX12_text_40 rfl (Nat.le_of_ble_eq_true rfl) rfl rfl ?_
    refine r_iload_n (i := 1) (x := v7) (q := 42) 1 hX dX12_text_41 rfl rfl rfl ?_
    refine r_if_ne (tgt := 48) (q := 45) hX dX12_text_42 (by decide) rfl (fun hb11 => ?_) (fun hb11 => ?_)
    · refine r_bipush (v := (-103 : Int32)) (q := 47) hX dX12_text_45 rfl rfl ?_
      refine r_lf (hK _) ?_
      exact r_iret hM rfl (Nat.le_of_ble_eq_true rfl) (Nat.le_of_ble_eq_true rfl) dX12_text_47
    · refine r_aload_n (i := 0) (x := a0) (q := 49) 0 hX dX12_text_48 rfl rfl rfl ?_
      refine r_getI (a := a0) (ci := 12) (kf := 35) (q := 52) hX hc1 flX12_388 rfl rfl dX12_text_49 rfl ?_
      refine r_bipush (v := (16 : Int32)) (q := 54) hX dX12_text_52 rfl rfl ?_
      refine r_icmp_ne (tgt := 60) (q := 57) hX dX12_text_54 (by decide) rfl (fun hb12 => ?_) (fun hb12 => ?_)
      · refine r_bipush (v := (-104 : Int32)) (q := 59) hX dX12_text_57 rfl rfl ?_
        refine r_lf (hK _) ?_
        exact r_iret hM rfl (Nat.le_of_ble_eq_true rfl) (Nat.le_of_ble_eq_true rfl) dX12_text_59
      · refine r_aload_n (i := 0) (x := a0) (q := 61) 0 hX dX12_text_60 rfl rfl rfl ?_
        refine r_bind (fun v13 h14 => ?_)
        refine r_cv (a := a0) (As := []) (st := []) (r := none) (Z1 := Z) (M1 := v13) (k1 := 0) (n1 := 0) (st1 := []) (q := 64) hX (fun l => kX12_endNumber l Z v2.2 a0 v13 h14) hc1 ivX12_endNumber ccX12_endNumber (Or.inl lkX12_351) rfl rfl rfl ⟨Nat.le_of_ble_eq_true rfl, Nat.le_of_ble_eq_true rfl, rfl, rfl, Nat.le_of_ble_eq_true rfl, Nat.le_of_ble_eq_true rfl⟩ (Nat.le_of_ble_eq_true rfl) dX12_text_61 rfl ?_
        refine r_aload_n (i := 0) (x := a0) (q := 65) 0 hX dX12_text_64 rfl rfl rfl ?_
        refine r_bipush (v := (17 : Int32)) (q := 67) hX dX12_text_65 rfl rfl ?_
        refine r_bind (fun v15 h16 => ?_)
        refine r_cv (a := a0) (As := [vi (17 : Int32)]) (st := []) (r := none) (Z1 := Z) (M1 := v15) (k1 := 0) (n1 := 0) (st1 := []) (q := 70) hX (fun l => kX12_layDown l Z v13 a0 (17 : Int32) v15 h16) hc1 ivX12_layDown ccX12_layDown (Or.inl lkX12_354) rfl rfl rfl ⟨Nat.le_of_ble_eq_true rfl, Nat.le_of_ble_eq_true rfl, rfl, rfl, Nat.le_of_ble_eq_true rfl, Nat.le_of_ble_eq_true rfl⟩ (Nat.le_of_ble_eq_true rfl) dX12_text_67 rfl ?_
        refine r_aload_n (i := 0) (x := a0) (q := 71) 0 hX dX12_text_70 rfl rfl rfl ?_
        refine r_getR (a := a0) (ci := 12) (kf := 36) (q := 74) hX hc1 flX12_92 rfl dX12_text_71 rfl ?_
        refine r_aload_n (i := 0) (x := a0) (q := 75) 0 hX dX12_text_74 rfl rfl rfl ?_
        refine r_getI (a := a0) (ci := 12) (kf := 35) (q := 78) hX hc1 flX12_388 rfl rfl dX12_text_75 rfl ?_
        refine r_aload_n (i := 0) (x := a0) (q := 79) 0 hX dX12_text_78 rfl rfl rfl ?_
        refine r_getI (a := a0) (ci := 12) (kf := 46) (q := 82) hX hc1 flX12_363 rfl rfl dX12_text_79 rfl ?_
        refine r_ck (fun hc17 => ?_)
        refine r_iast (a := (rR v15 a0 36)) (i := (rI v15 a0 35)) (x := (rI v15 a0 46)) (q := 83) hX hc17 dX12_text_82 rfl (fun M18 => ?_)
        refine r_aload_n (i := 0) (x := a0) (q := 84) 0 hX dX12_text_83 rfl rfl rfl ?_
        refine r_getR (a := a0) (ci := 12) (kf := 37) (q := 87) hX hc1 flX12_95 rfl dX12_text_84 rfl ?_
        refine r_aload_n (i := 0) (x := a0) (q := 88) 0 hX dX12_text_87 rfl rfl rfl ?_
        refine r_getI (a := a0) (ci := 12) (kf := 35) (q := 91) hX hc1 flX12_388 rfl rfl dX12_text_88 rfl ?_
        refine r_aload_n (i := 0) (x := a0) (q := 92) 0 hX dX12_text_91 rfl rfl rfl ?_
        refine r_getI (a := a0) (ci := 12) (kf := 47) (q := 95) hX hc1 flX12_366 rfl rfl dX12_text_92 rfl ?_
        refine r_ck (fun hc19 => ?_)
        refine r_iast (a := (rR M18 a0 37)) (i := (rI M18 a0 35)) (x := (rI M18 a0 47)) (q := 96) hX hc19 dX12_text_95 rfl (fun M20 => ?_)
        refine r_aload_n (i := 0) (x := a0) (q := 97) 0 hX dX12_text_96 rfl rfl rfl ?_
        refine r_getR (a := a0) (ci := 12) (kf := 38) (q := 100) hX hc1 flX12_98 rfl dX12_text_97 rfl ?_
        refine r_aload_n (i := 0) (x := a0) (q := 101) 0 hX dX12_text_100 rfl rfl rfl ?_
        refine r_getI (a := a0) (ci := 12) (kf := 35) (q := 104) hX hc1 flX12_388 rfl rfl dX12_text_101 rfl ?_
        refine r_iconst (v := (0 : Int32)) (q := 105) hX dX12_text_104 rfl rfl ?_
        refine r_ck (fun hc21 => ?_)
        refine r_iast (a := (rR M20 a0 38)) (i := (rI M20 a0 35)) (x := (0 : Int32)) (q := 106) hX hc21 dX12_text_105 rfl (fun M22 => ?_)
        refine r_aload_n (i := 0) (x := a0) (q := 107) 0 hX dX12_text_106 rfl rfl rfl ?_
        refine r_getR (a := a0) (ci := 12) (kf := 39) (q := 110) hX hc1 flX12_101 rfl dX12_text_107 rfl ?_
        refine r_aload_n (i := 0) (x := a0) (q := 111) 0 hX dX12_text_110 rfl rfl rfl ?_
        refine r_getI (a := a0) (ci := 12) (kf := 35) (q := 114) hX hc1 flX12_388 rfl rfl dX12_text_111 rfl ?_
        refine r_bipush (v := (99 : Int32)) (q := 116) hX dX12_text_114 rfl rfl ?_
        refine r_ck (fun hc23 => ?_)
        refine r_iast (a := (rR M22 a0 39)) (i := (rI M22 a0 35)) (x := (99 : Int32)) (q := 117) hX hc23 dX12_text_116 rfl (fun M24 => ?_)
        refine r_aload_n (i := 0) (x := a0) (q := 118) 0 hX dX12_text_117 rfl rfl rfl ?_
        refine r_getR (a := a0) (ci := 12) (kf := 40) (q := 121) hX hc1 flX12_104 rfl dX12_text_118 rfl ?_
        refine r_aload_n (i := 0) (x := a0) (q := 122) 0 hX dX12_text_121 rfl rfl rfl ?_
        refine r_getI (a := a0) (ci := 12) (kf := 35) (q := 125) hX hc1 flX12_388 rfl rfl dX12_text_122 rfl ?_
        refine r_aload_n (i := 0) (x := a0) (q := 126) 0 hX dX12_text_125 rfl rfl rfl ?_
        refine r_getI (a := a0) (ci := 12) (kf := 53) (q := 129) hX hc1 flX12_330 rfl rfl dX12_text_126 rfl ?_
        refine r_ck (fun hc25 => ?_)
        refine r_iast (a := (rR M24 a0 40)) (i := (rI M24 a0 35)) (x := (rI M24 a0 53)) (q := 130) hX hc25 dX12_text_129 rfl (fun M26 => ?_)
        refine r_iconst (v := (0 : Int32)) (q := 131) hX dX12_text_130 rfl rfl ?_
        refine r_istore_n (x := (0 : Int32)) (q := 132) 2 [1, 2, 0] (L1 := [(0, vr a0), (1, vi v7), (2, vi (0 : Int32))]) hX dX12_text_131 rfl (Nat.le_of_ble_eq_true rfl) rfl rfl ?_
        refine r_jn (J := fun (v29 : Mem) (P : Option Res) => Ref mX12_text X 0 0 Z v29 186 [(0, vr a0)] [] P) (fun v29 => ?_) (fun K1 hj27 => ?_)
        · refine r_aload_n (i := 0) (x := a0) (q := 187) 0 hX dX12_text_186 rfl rfl rfl ?_
          refine r_dup (q := 188) hX dX12_text_187 rfl rfl ?_
          refine r_getI (a := a0) (ci := 12) (kf := 35) (q := 191) hX hc1 flX12_388 rfl rfl dX12_text_188 rfl ?_
          refine r_iconst (v := (1 : Int32)) (q := 192) hX dX12_text_191 rfl rfl ?_
          refine r_iadd (q := 193) hX dX12_text_192 rfl ?_
          refine r_putI (a := a0) (ci := 12) (kf := 35) (q := 196) hX hc1 flX12_388 rfl rfl (Or.inl rfl) rfl rfl dX12_text_193 rfl (fun M40 => ?_)
          refine r_aload_n (i := 0) (x := a0) (q := 197) 0 hX dX12_text_196 rfl rfl rfl ?_
          refine r_iconst (v := (0 : Int32)) (q := 198) hX dX12_text_197 rfl rfl ?_
          refine r_putI (a := a0) (ci := 12) (kf := 34) (q := 201) hX hc1 flX12_323 rfl rfl (Or.inl rfl) rfl rfl dX12_text_198 rfl (fun M41 => ?_)
          refine r_aload_n (i := 0) (x := a0) (q := 202) 0 hX dX12_text_201 rfl rfl rfl ?_
          refine r_getI (a := a0) (ci := 12) (kf := 35) (q := 205) hX hc1 flX12_388 rfl rfl dX12_text_202 rfl ?_
          refine r_iconst (v := (1 : Int32)) (q := 206) hX dX12_text_205 rfl rfl ?_
          refine r_isub (q := 207) hX dX12_text_206 rfl ?_
          refine r_lf (hK _) ?_
          exact r_iret hM rfl (Nat.le_of_ble_eq_true rfl) (Nat.le_of_ble_eq_true rfl) dX12_text_207
        · refine r_sub [0, 2] rfl ?_
          refine r_loop (Hd := fun (s30 : Int32 × Mem) (P : Option Res) => Ref mX12_text X 0 0 Z s30.2 132 [(0, vr a0), (2, vi s30.1)] [] P) (fun _ => r_none) (fun s30 K1 hn31 hx32 => ?_) ((0 : Int32), M26)
          refine r_iload_n (i := 2) (x := s30.1) (q := 133) 1 hX dX12_text_132 rfl rfl rfl ?_
          refine r_aload_n (i := 0) (x := a0) (q := 134) 0 hX dX12_text_133 rfl rfl rfl ?_
          refine r_getI (a := a0) (ci := 12) (kf := 53) (q := 137) hX hc1 flX12_330 rfl rfl dX12_text_134 rfl ?_
          refine r_icmp_ge (tgt := 186) (q := 140) hX dX12_text_137 (by decide) rfl (fun hb33 => ?_) (fun hb33 => ?_)
          · refine r_lf (hx32 _) ?_
            refine r_sub [0] rfl ?_
            exact hj27 s30.2
          · refine r_aload_n (i := 0) (x := a0) (q := 141) 0 hX dX12_text_140 rfl rfl rfl ?_
            refine r_getR (a := a0) (ci := 12) (kf := 41) (q := 144) hX hc1 flX12_107 rfl dX12_text_141 rfl ?_
            refine r_bipush (v := (60 : Int32)) (q := 146) hX dX12_text_144 rfl rfl ?_
            refine r_aload_n (i := 0) (x := a0) (q := 147) 0 hX dX12_text_146 rfl rfl rfl ?_
            refine r_getI (a := a0) (ci := 12) (kf := 35) (q := 150) hX hc1 flX12_388 rfl rfl dX12_text_147 rfl ?_
            refine r_imul (q := 151) hX dX12_text_150 rfl ?_
            refine r_iload_n (i := 2) (x := s30.1) (q := 152) 1 hX dX12_text_151 rfl rfl rfl ?_
            refine r_iadd (q := 153) hX dX12_text_152 rfl ?_
            refine r_aload_n (i := 0) (x := a0) (q := 154) 0 hX dX12_text_153 rfl rfl rfl ?_
            refine r_getR (a := a0) (ci := 12) (kf := 51) (q := 157) hX hc1 flX12_113 rfl dX12_text_154 rfl ?_
            refine r_iload_n (i := 2) (x := s30.1) (q := 158) 1 hX dX12_text_157 rfl rfl rfl ?_
            refine r_ck (fun hc34 => ?_)
            refine r_iald (a := (rR s30.2 a0 51)) (i := s30.1) (q := 159) hX hc34 dX12_text_158 rfl ?_
            refine r_ck (fun hc35 => ?_)
            refine r_iast (a := (rR s30.2 a0 41)) (i := (((60 : Int32) * (rI s30.2 a0 35)) + s30.1)) (x := (rI s30.2 (rR s30.2 a0 51) (ix s30.1))) (q := 160) hX hc35 dX12_text_159 rfl (fun M36 => ?_)
            refine r_aload_n (i := 0) (x := a0) (q := 161) 0 hX dX12_text_160 rfl rfl rfl ?_
            refine r_getR (a := a0) (ci := 12) (kf := 42) (q := 164) hX hc1 flX12_110 rfl dX12_text_161 rfl ?_
            refine r_bipush (v := (60 : Int32)) (q := 166) hX dX12_text_164 rfl rfl ?_
            refine r_aload_n (i := 0) (x := a0) (q := 167) 0 hX dX12_text_166 rfl rfl rfl ?_
            refine r_getI (a := a0) (ci := 12) (kf := 35) (q := 170) hX hc1 flX12_388 rfl rfl dX12_text_167 rfl ?_
            refine r_imul (q := 171) hX dX12_text_170 rfl ?_
            refine r_iload_n (i := 2) (x := s30.1) (q := 172) 1 hX dX12_text_171 rfl rfl rfl ?_
            refine r_iadd (q := 173) hX dX12_text_172 rfl ?_
            refine r_aload_n (i := 0) (x := a0) (q := 174) 0 hX dX12_text_173 rfl rfl rfl ?_
            refine r_getR (a := a0) (ci := 12) (kf := 52) (q := 177) hX hc1 flX12_116 rfl dX12_text_174 rfl ?_
            refine r_iload_n (i := 2) (x := s30.1) (q := 178) 1 hX dX12_text_177 rfl rfl rfl ?_
            refine r_ck (fun hc37 => ?_)
            refine r_iald (a := (rR M36 a0 52)) (i := s30.1) (q := 179) hX hc37 dX12_text_178 rfl ?_
            refine r_ck (fun hc38 => ?_)
            refine r_iast (a := (rR M36 a0 42)) (i := (((60 : Int32) * (rI M36 a0 35)) + s30.1)) (x := (rI M36 (rR M36 a0 52) (ix s30.1))) (q := 180) hX hc38 dX12_text_179 rfl (fun M39 => ?_)
            refine r_iinc (x := s30.1) (v := (s30.1 + (1 : Int32))) (q := 183) 2 1 [1, 0] (L1 := [(0, vr a0), (2, vi (s30.1 + (1 : Int32)))]) hX dX12_text_180 rfl rfl (Nat.le_of_ble_eq_true rfl) rfl rfl ?_
            refine r_goto (q := 132) hX dX12_text_183 (by decide) ?_
            refine r_l0 ?_
            exact hn31 ((s30.1 + (1 : Int32)), M39)
  · refine r_icmp_ne (tgt := 39) (q := 11) hX dX12_text_8 (by decide) rfl (fun hb4 => ?_) (fun hb4 => ?_)
    · refine r_aload_n (i := 0) (x := a0) (q := 12) 0 hX dX12_text_11 rfl rfl rfl ?_
      refine r_getI (a := a0) (ci := 12) (kf := 43) (q := 15) hX hc1 flX12_339 rfl rfl dX12_text_12 rfl ?_
      refine r_iconst (v := (3 : Int32)) (q := 16) hX dX12_text_15 rfl rfl ?_
      refine r_icmp_eq (tgt := 35) (q := 19) hX dX12_text_16 (by decide) rfl (fun hb8 => ?_) (fun hb8 => ?_)
      · refine r_iconst (v := (1 : Int32)) (q := 36) hX dX12_text_35 rfl rfl ?_
        refine r_goto (q := 40) hX dX12_text_36 (by decide) ?_
        refine r_l0 ?_
        exact hj5 (1 : Int32)
      · refine r_aload_n (i := 0) (x := a0) (q := 20) 0 hX dX12_text_19 rfl rfl rfl ?_
        refine r_getI (a := a0) (ci := 12) (kf := 43) (q := 23) hX hc1 flX12_339 rfl rfl dX12_text_20 rfl ?_
        refine r_bipush (v := (7 : Int32)) (q := 25) hX dX12_text_23 rfl rfl ?_
        refine r_icmp_lt (tgt := 39) (q := 28) hX dX12_text_25 (by decide) rfl (fun hb9 => ?_) (fun hb9 => ?_)
        · refine r_iconst (v := (0 : Int32)) (q := 40) hX dX12_text_39 rfl rfl ?_
          refine r_l0 ?_
          exact hj5 (0 : Int32)
        · refine r_aload_n (i := 0) (x := a0) (q := 29) 0 hX dX12_text_28 rfl rfl rfl ?_
          refine r_getI (a := a0) (ci := 12) (kf := 44) (q := 32) hX hc1 flX12_357 rfl rfl dX12_text_29 rfl ?_
          refine r_if_ne (tgt := 39) (q := 35) hX dX12_text_32 (by decide) rfl (fun hb10 => ?_) (fun hb10 => ?_)
          · refine r_iconst (v := (1 : Int32)) (q := 36) hX dX12_text_35 rfl rfl ?_
            refine r_goto (q := 40) hX dX12_text_36 (by decide) ?_
            refine r_l0 ?_
            exact hj5 (1 : Int32)
          · refine r_iconst (v := (0 : Int32)) (q := 40) hX dX12_text_39 rfl rfl ?_
            refine r_l0 ?_
            exact hj5 (0 : Int32)
    · refine r_iconst (v := (0 : Int32)) (q := 40) hX dX12_text_39 rfl rfl ?_
      refine r_l0 ?_
      exact hj5 (0 : Int32)
def mX12_toll : MD := (yX12_toll, cX12_toll, 3, (some .int), 6, 146, 0, 0)
theorem ccX12_toll : Cc mX12_toll 2 := ⟨gd (hcw1_0 _ (List.mem_of_getElem? (i := 10) rfl)) rfl, gd (hcw7_10 _ (List.mem_of_getElem? (i := 19) rfl)) rfl, by decide +kernel, by decide +kernel, by decide +kernel⟩
theorem ivX12_toll : Iv mX12_toll 12 := ⟨Nat.le_of_ble_eq_true rfl, rfl, gd (hcw7_10 _ (List.mem_of_getElem? (i := 17) rfl)) rfl, gd (hcw7_10 _ (List.mem_of_getElem? (i := 18) rfl)) rfl⟩
noncomputable def fX12_toll (Z : Shp) (M : Mem) (a0 : Nat) (x1 : Int32) (x2 : Int32) : Option (Int32 × Mem) := (if tg Z a0 = (13, 86) then (Option.bind (fX12_isBoat Z M a0 x1) (fun v2 => (if v2 = 0 then some ((-101 : Int32), M) else (if (fX12_isDay x2) = 0 then some ((-102 : Int32), M) else (Option.bind (fX12_tollOf Z M a0 x1 x2) (fun v6 => some (v6.1, v6.2))))))) else none)
set_option maxRecDepth 20000 in
theorem kX12_toll (l : Launch) (Z : Shp) (M : Mem) (a0 : Nat) (x1 : Int32) (x2 : Int32) (r : Int32 × Mem) (h : fX12_toll Z M a0 x1 x2 = some r) : Ct l mX12_toll [vr a0, vi x1, vi x2] Z M ((some (vi r.1)), Z, r.2) := by
  refine Ct.of rfl (Nat.le_of_ble_eq_true rfl) (fun X hM => ?_)
  have hX := hM.1
  refine r_top (mk := fun r => ((some (vi r.1)), Z, r.2)) h (fun K hK => ?_)
  unfold fX12_toll
  refine r_aload_n (i := 0) (x := a0) (q := 1) 0 hX dX12_toll_0 rfl rfl rfl ?_
  refine r_iload_n (i := 1) (x := x1) (q := 2) 1 hX dX12_toll_1 rfl rfl rfl ?_
  refine r_ck (fun hc1 => ?_)
  refine r_bind (fun v2 h3 => ?_)
  refine r_cv (a := a0) (As := [vi x1]) (st := []) (r := (some (vi v2))) (Z1 := Z) (M1 := M) (k1 := 0) (n1 := 0) (st1 := [vi v2]) (q := 5) hX (fun l => kX12_isBoat l Z M a0 x1 v2 h3) hc1 ivX12_isBoat ccX12_isBoat (Or.inl lkX12_261) rfl rfl rfl ⟨Nat.le_of_ble_eq_true rfl, Nat.le_of_ble_eq_true rfl, rfl, rfl, Nat.le_of_ble_eq_true rfl, Nat.le_of_ble_eq_true rfl⟩ (Nat.le_of_ble_eq_true rfl) dX12_toll_2 rfl ?_
  refine r_if_ne (tgt := 11) (q := 8) hX dX12_toll_5 (by decide) rfl (fun hb4 => ?_) (fun hb4 => ?_)
  · refine r_bipush (v := (-101 : Int32)) (q := 10) hX dX12_toll_8 rfl rfl ?_
    refine r_lf (hK _) ?_
    exact r_iret hM rfl (Nat.le_of_ble_eq_true rfl) (Nat.le_of_ble_eq_true rfl) dX12_toll_10
  · refine r_iload_n (i := 2) (x := x2) (q := 12) 2 hX dX12_toll_11 rfl rfl rfl ?_
    refine r_cs (As := [vi x2]) (st := []) (r := (some (vi (fX12_isDay x2)))) (Z1 := Z) (M1 := M) (k1 := 0) (n1 := 0) (st1 := [vi (fX12_isDay x2)]) (q := 15) hX (fun l => kX12_isDay l Z M x2) stX12_isDay ccX12_isDay (Or.inl lkX12_393) rfl rfl rfl ⟨Nat.le_of_ble_eq_true rfl, Nat.le_of_ble_eq_true rfl, rfl, rfl, Nat.le_of_ble_eq_true rfl, Nat.le_of_ble_eq_true rfl⟩ (Nat.le_of_ble_eq_true rfl) dX12_toll_12 rfl ?_
    refine r_if_eq (tgt := 27) (q := 18) hX dX12_toll_15 (by decide) rfl (fun hb5 => ?_) (fun hb5 => ?_)
    · refine r_bipush (v := (-102 : Int32)) (q := 29) hX dX12_toll_27 rfl rfl ?_
      refine r_lf (hK _) ?_
      exact r_iret hM rfl (Nat.le_of_ble_eq_true rfl) (Nat.le_of_ble_eq_true rfl) dX12_toll_29
    · refine r_aload_n (i := 0) (x := a0) (q := 19) 0 hX dX12_toll_18 rfl rfl rfl ?_
      refine r_iload_n (i := 1) (x := x1) (q := 20) 1 hX dX12_toll_19 rfl rfl rfl ?_
      refine r_iload_n (i := 2) (x := x2) (q := 21) 2 hX dX12_toll_20 rfl rfl rfl ?_
      refine r_bind (fun v6 h7 => ?_)
      refine r_cv (a := a0) (As := [vi x1, vi x2]) (st := []) (r := (some (vi v6.1))) (Z1 := Z) (M1 := v6.2) (k1 := 0) (n1 := 0) (st1 := [vi v6.1]) (q := 24) hX (fun l => kX12_tollOf l Z M a0 x1 x2 v6 h7) hc1 ivX12_tollOf ccX12_tollOf (Or.inl lkX12_414) rfl rfl rfl ⟨Nat.le_of_ble_eq_true rfl, Nat.le_of_ble_eq_true rfl, rfl, rfl, Nat.le_of_ble_eq_true rfl, Nat.le_of_ble_eq_true rfl⟩ (Nat.le_of_ble_eq_true rfl) dX12_toll_21 rfl ?_
      refine r_goto (q := 29) hX dX12_toll_24 (by decide) ?_
      refine r_lf (hK _) ?_
      exact r_iret hM rfl (Nat.le_of_ble_eq_true rfl) (Nat.le_of_ble_eq_true rfl) dX12_toll_29
theorem lkX12_434 : Lk RX12 434 yX12_nextOrder := gd (hcw8_0 _ (List.mem_of_getElem? (i := 5) rfl)) rfl
def mX12_turn : MD := (yX12_turn, cX12_turn, 7, (some .int), 1, 25, 0, 0)
theorem ccX12_turn : Cc mX12_turn 1 := ⟨gd (hcw1_0 _ (List.mem_of_getElem? (i := 10) rfl)) rfl, gd (hcw8_0 _ (List.mem_of_getElem? (i := 0) rfl)) rfl, by decide +kernel, by decide +kernel, by decide +kernel⟩
theorem ivX12_turn : Iv mX12_turn 12 := ⟨Nat.le_of_ble_eq_true rfl, rfl, gd (hcw7_11 _ (List.mem_of_getElem? (i := 18) rfl)) rfl, gd (hcw7_11 _ (List.mem_of_getElem? (i := 19) rfl)) rfl⟩
noncomputable def fX12_turn (Z : Shp) (M : Mem) (a0 : Nat) (x1 : Int32) : Option (Int32 × Mem) := (js (if (fX12_in (x1.toInt64) (0 : Int64) (1 : Int64)) = 0 then (if (fX12_in (x1.toInt64) (10 : Int64) (17 : Int64)) = 0 then some (Sum.inr ((-102 : Int32), M)) else some (Sum.inl ())) else some (Sum.inl ())) (fun v4 : Unit => (if tg Z a0 = (13, 86) then (if (rI M a0 61) = (20 : Int32) then some ((-103 : Int32), M) else (pu (wI M a0 61 ((rI M a0 61) + (1 : Int32))) (fun M8 => (Option.bind (loop (fun s12 : Int32 × Mem => (if (rI s12.2 a0 57) ≤ s12.1 then some (Sum.inr s12.2) else (if aok Z (rR s12.2 a0 62) 100 s12.1 then (pu (wI s12.2 (rR s12.2 a0 62) (ix s12.1) s12.1) (fun M17 => some (Sum.inl ((s12.1 + (1 : Int32)), M17)))) else none))) ((0 : Int32), M8)) (fun v11 : Mem => (Option.bind (loop (fun s21 : Int32 × Int32 × Int32 × Mem => (if s21.2.2.1 = 0 then some (Sum.inr (s21.1, s21.2.1, s21.2.2.2)) else (Option.bind (fX12_workOff Z s21.2.2.2 a0) (fun v25 => (Option.bind (if v25.1 = (-1 : Int32) then some (1 : Int32) else some (0 : Int32)) (fun v30 : Int32 => (if v30 = 0 then (Option.bind (fX12_nextOrder Z v25.2 a0) (fun v32 => some (Sum.inl (s21.1, s21.2.1, v32.1, v32.2)))) else (js (if s21.1 = (-1 : Int32) then some (Sum.inl ()) else (if (rI v25.2 a0 64) < s21.1 then some (Sum.inl ()) else (if (rI v25.2 a0 64) = s21.1 then (if s21.2.1 ≤ (rI v25.2 a0 65) then (Option.bind (fX12_nextOrder Z v25.2 a0) (fun v41 => some (Sum.inr (Sum.inl (s21.1, s21.2.1, v41.1, v41.2))))) else some (Sum.inl ())) else (Option.bind (fX12_nextOrder Z v25.2 a0) (fun v43 => some (Sum.inr (Sum.inl (s21.1, s21.2.1, v43.1, v43.2)))))))) (fun v37 : Unit => (pu ((rI v25.2 a0 64)) (fun z45 => (pu ((rI v25.2 a0 65)) (fun z46 => (loop (fun s47 : Int32 × Mem => (if (rI s47.2 a0 57) ≤ s47.1 then (Option.bind (fX12_nextOrder Z s47.2 a0) (fun v51 => some (Sum.inr (Sum.inl (z45, z46, v51.1, v51.2))))) else (if aok Z (rR s47.2 a0 62) 100 s47.1 then (if aok Z (rR s47.2 a0 63) 100 s47.1 then (pu (wI s47.2 (rR s47.2 a0 63) (ix s47.1) (rI s47.2 (rR s47.2 a0 62) (ix s47.1))) (fun M55 => some (Sum.inl ((s47.1 + (1 : Int32)), M55)))) else none) else none))) ((0 : Int32), v25.2))))))))))))))) ((-1 : Int32), (0 : Int32), (1 : Int32), v11)) (fun v20 : Int32 × Int32 × Mem => (if v20.1 = (-1 : Int32) then some (v20.1, v20.2.2) else (if x1 = 0 then some (v20.1, v20.2.2) else (if x1 = (1 : Int32) then some (v20.2.1, v20.2.2) else (if (rI v20.2.2 a0 57) ≤ (x1 - (10 : Int32)) then some ((-1 : Int32), v20.2.2) else (if aok Z (rR v20.2.2 a0 63) 100 (x1 - (10 : Int32)) then some ((rI v20.2.2 (rR v20.2.2 a0 63) (ix (x1 - (10 : Int32)))), v20.2.2) else none)))))))))))) else none)))
set_option maxRecDepth 20000 in
theorem kX12_turn (l : Launch) (Z : Shp) (M : Mem) (a0 : Nat) (x1 : Int32) (r : Int32 × Mem) (h : fX12_turn Z M a0 x1 = some r) : Ct l mX12_turn [vr a0, vi x1] Z M ((some (vi r.1)), Z, r.2) := by
  refine Ct.of rfl (Nat.le_of_ble_eq_true rfl) (fun X hM => ?_)
  have hX := hM.1
  refine r_top (mk := fun r => ((some (vi r.1)), Z, r.2)) h (fun K hK => ?_)
  unfold fX12_turn
  refine r_iload_n (i := 1) (x := x1) (q := 1) 1 hX dX12_turn_0 rfl rfl rfl ?_
  refine r_i2l (q := 2) hX dX12_turn_1 rfl ?_
  refine r_lconst (v := (0 : Int64)) (q := 3) hX dX12_turn_2 rfl rfl ?_
  refine r_lconst (v := (1 : Int64)) (q := 4) hX dX12_turn_3 rfl rfl ?_
  refine r_cs (As := [vj (x1.toInt64), vj (0 : Int64), vj (1 : Int64)]) (st := []) (r := (some (vi (fX12_in (x1.toInt64) (0 : Int64) (1 : Int64))))) (Z1 := Z) (M1 := M) (k1 := 0) (n1 := 0) (st1 := [vi (fX12_in (x1.toInt64) (0 : Int64) (1 : Int64))]) (q := 7) hX (fun l => kX12_in l Z M (x1.toInt64) (0 : Int64) (1 : Int64)) stX12_in ccX12_in (Or.inl lkX12_194) rfl rfl rfl ⟨Nat.le_of_ble_eq_true rfl, Nat.le_of_ble_eq_true rfl, rfl, rfl, Nat.le_of_ble_eq_true rfl, Nat.le_of_ble_eq_true rfl⟩ (Nat.le_of_ble_eq_true rfl) dX12_turn_4 rfl ?_
  refine r_js (J := fun (v4 : Unit) (P : Option Res) => Ref mX12_turn X 0 0 Z M 27 [(0, vr a0), (1, vi x1)] [] P) (fun v4 => ?_) (fun K1 hj2 ho3 => ?_)
  · refine r_aload_n (i := 0) (x := a0) (q := 28) 0 hX dX12_turn_27 rfl rfl rfl ?_
    refine r_ck (fun hc6 => ?_)
    refine r_getI (a := a0) (ci := 12) (kf := 61) (q := 31) hX hc6 flX12_428 rfl rfl dX12_turn_28 rfl ?_
    refine r_bipush (v := (20 : Int32)) (q := 33) hX dX12_turn_31 rfl rfl ?_
    refine r_icmp_ne (tgt := 39) (q := 36) hX dX12_turn_33 (by decide) rfl (fun hb7 => ?_) (fun hb7 => ?_)
    · refine r_bipush (v := (-103 : Int32)) (q := 38) hX dX12_turn_36 rfl rfl ?_
      refine r_lf (hK _) ?_
      exact r_iret hM rfl (Nat.le_of_ble_eq_true rfl) (Nat.le_of_ble_eq_true rfl) dX12_turn_38
    · refine r_aload_n (i := 0) (x := a0) (q := 40) 0 hX dX12_turn_39 rfl rfl rfl ?_
      refine r_dup (q := 41) hX dX12_turn_40 rfl rfl ?_
      refine r_getI (a := a0) (ci := 12) (kf := 61) (q := 44) hX hc6 flX12_428 rfl rfl dX12_turn_41 rfl ?_
      refine r_iconst (v := (1 : Int32)) (q := 45) hX dX12_turn_44 rfl rfl ?_
      refine r_iadd (q := 46) hX dX12_turn_45 rfl ?_
      refine r_putI (a := a0) (ci := 12) (kf := 61) (q := 49) hX hc6 flX12_428 rfl rfl (Or.inl rfl) rfl rfl dX12_turn_46 rfl (fun M8 => ?_)
      refine r_iconst (v := (-1 : Int32)) (q := 50) hX dX12_turn_49 rfl rfl ?_
      refine r_istore_n (x := (-1 : Int32)) (q := 51) 2 [1, 2, 0] (L1 := [(0, vr a0), (1, vi x1), (2, vi (-1 : Int32))]) hX dX12_turn_50 rfl (Nat.le_of_ble_eq_true rfl) rfl rfl ?_
      refine r_iconst (v := (0 : Int32)) (q := 52) hX dX12_turn_51 rfl rfl ?_
      refine r_istore_n (x := (0 : Int32)) (q := 53) 3 [1, 2, 3, 0] (L1 := [(0, vr a0), (1, vi x1), (2, vi (-1 : Int32)), (3, vi (0 : Int32))]) hX dX12_turn_52 rfl (Nat.le_of_ble_eq_true rfl) rfl rfl ?_
      refine r_iconst (v := (0 : Int32)) (q := 54) hX dX12_turn_53 rfl rfl ?_
      refine r_istore (x := (0 : Int32)) (q := 56) 4 [1, 2, 3, 4, 0] (L1 := [(0, vr a0), (1, vi x1), (2, vi (-1 : Int32)), (3, vi (0 : Int32)), (4, vi (0 : Int32))]) hX dX12_turn_54 (Nat.le_of_ble_eq_true rfl) rfl rfl ?_
      refine r_jn (J := fun (v11 : Mem) (P : Option Res) => Ref mX12_turn X 0 0 Z v11 80 [(0, vr a0), (1, vi x1), (2, vi (-1 : Int32)), (3, vi (0 : Int32))] [] P) (fun v11 => ?_) (fun K1 hj9 => ?_)
      · refine r_iconst (v := (1 : Int32)) (q := 81) hX dX12_turn_80 rfl rfl ?_
        refine r_istore (x := (1 : Int32)) (q := 83) 4 [1, 2, 3, 4, 0] (L1 := [(0, vr a0), (1, vi x1), (2, vi (-1 : Int32)), (3, vi (0 : Int32)), (4, vi (1 : Int32))]) hX dX12_turn_81 (Nat.le_of_ble_eq_true rfl) rfl rfl ?_
        refine r_jn (J := fun (v20 : Int32 × Int32 × Mem) (P : Option Res) => Ref mX12_turn X 0 0 Z v20.2.2 188 [(0, vr a0), (1, vi x1), (2, vi v20.1), (3, vi v20.2.1)] [] P) (fun v20 => ?_) (fun K1 hj18 => ?_)
        · refine r_iload_n (i := 2) (x := v20.1) (q := 189) 2 hX dX12_turn_188 rfl rfl rfl ?_
          refine r_iconst (v := (-1 : Int32)) (q := 190) hX dX12_turn_189 rfl rfl ?_
          refine r_icmp_eq (tgt := 197) (q := 193) hX dX12_turn_190 (by decide) rfl (fun hb56 => ?_) (fun hb56 => ?_)
          · refine r_iload_n (i := 2) (x := v20.1) (q := 198) 2 hX dX12_turn_197 rfl rfl rfl ?_
            refine r_lf (hK _) ?_
            exact r_iret hM rfl (Nat.le_of_ble_eq_true rfl) (Nat.le_of_ble_eq_true rfl) dX12_turn_198
          · refine r_iload_n (i := 1) (x := x1) (q := 194) 1 hX dX12_turn_193 rfl rfl rfl ?_
            refine r_if_ne (tgt := 199) (q := 197) hX dX12_turn_194 (by decide) rfl (fun hb57 => ?_) (fun hb57 => ?_)
            · refine r_iload_n (i := 2) (x := v20.1) (q := 198) 2 hX dX12_turn_197 rfl rfl rfl ?_
              refine r_lf (hK _) ?_
              exact r_iret hM rfl (Nat.le_of_ble_eq_true rfl) (Nat.le_of_ble_eq_true rfl) dX12_turn_198
            · refine r_iload_n (i := 1) (x := x1) (q := 200) 1 hX dX12_turn_199 rfl rfl rfl ?_
              refine r_iconst (v := (1 : Int32)) (q := 201) hX dX12_turn_200 rfl rfl ?_
              refine r_icmp_ne (tgt := 208) (q := 204) hX dX12_turn_201 (by decide) rfl (fun hb58 => ?_) (fun hb58 => ?_)
              · refine r_iload_n (i := 3) (x := v20.2.1) (q := 205) 3 hX dX12_turn_204 rfl rfl rfl ?_
                refine r_goto (q := 232) hX dX12_turn_205 (by decide) ?_
                refine r_lf (hK _) ?_
                exact r_iret hM rfl (Nat.le_of_ble_eq_true rfl) (Nat.le_of_ble_eq_true rfl) dX12_turn_232
              · refine r_iload_n (i := 1) (x := x1) (q := 209) 1 hX dX12_turn_208 rfl rfl rfl ?_
                refine r_bipush (v := (10 : Int32)) (q := 211) hX dX12_turn_209 rfl rfl ?_
                refine r_isub (q := 212) hX dX12_turn_211 rfl ?_
                refine r_aload_n (i := 0) (x := a0) (q := 213) 0 hX dX12_turn_212 rfl rfl rfl ?_
                refine r_getI (a := a0) (ci := 12) (kf := 57) (q := 216) hX hc6 flX12_419 rfl rfl dX12_turn_213 rfl ?_
                refine r_icmp_ge (tgt := 231) (q := 219) hX dX12_turn_216 (by decide) rfl (fun hb59 => ?_) (fun hb59 => ?_)
                · refine r_iconst (v := (-1 : Int32)) (q := 232) hX dX12_turn_231 rfl rfl ?_
                  refine r_lf (hK _) ?_
                  exact r_iret hM rfl (Nat.le_of_ble_eq_true rfl) (Nat.le_of_ble_eq_true rfl) dX12_turn_232
                · refine r_aload_n (i := 0) (x := a0) (q := 220) 0 hX dX12_turn_219 rfl rfl rfl ?_
                  refine r_getR (a := a0) (ci := 12) (kf := 63) (q := 223) hX hc6 flX12_137 rfl dX12_turn_220 rfl ?_
                  refine r_iload_n (i := 1) (x := x1) (q := 224) 1 hX dX12_turn_223 rfl rfl rfl ?_
                  refine r_bipush (v := (10 : Int32)) (q := 226) hX dX12_turn_224 rfl rfl ?_
                  refine r_isub (q := 227) hX dX12_turn_226 rfl ?_
                  refine r_ck (fun hc60 => ?_)
                  refine r_iald (a := (rR v20.2.2 a0 63)) (i := (x1 - (10 : Int32))) (q := 228) hX hc60 dX12_turn_227 rfl ?_
                  refine r_goto (q := 232) hX dX12_turn_228 (by decide) ?_
                  refine r_lf (hK _) ?_
                  exact r_iret hM rfl (Nat.le_of_ble_eq_true rfl) (Nat.le_of_ble_eq_true rfl) dX12_turn_232
        · refine r_loop (Hd := fun (s21 : Int32 × Int32 × Int32 × Mem) (P : Option Res) => Ref mX12_turn X 0 0 Z s21.2.2.2 83 [(0, vr a0), (1, vi x1), (2, vi s21.1), (3, vi s21.2.1), (4, vi s21.2.2.1)] [] P) (fun _ => r_none) (fun s21 K1 hn22 hx23 => ?_) ((-1 : Int32), (0 : Int32), (1 : Int32), v11)
          refine r_iload (i := 4) (x := s21.2.2.1) (q := 85) 4 hX dX12_turn_83 rfl rfl ?_
          refine r_if_eq (tgt := 188) (q := 88) hX dX12_turn_85 (by decide) rfl (fun hb24 => ?_) (fun hb24 => ?_)
          · refine r_lf (hx23 _) ?_
            refine r_sub [0, 1, 2, 3] rfl ?_
            exact hj18 (s21.1, s21.2.1, s21.2.2.2)
          · refine r_aload_n (i := 0) (x := a0) (q := 89) 0 hX dX12_turn_88 rfl rfl rfl ?_
            refine r_bind (fun v25 h26 => ?_)
            refine r_cv (a := a0) (As := []) (st := []) (r := (some (vi v25.1))) (Z1 := Z) (M1 := v25.2) (k1 := 0) (n1 := 0) (st1 := [vi v25.1]) (q := 92) hX (fun l => kX12_workOff l Z s21.2.2.2 a0 v25 h26) hc6 ivX12_workOff ccX12_workOff (Or.inl lkX12_431) rfl rfl rfl ⟨Nat.le_of_ble_eq_true rfl, Nat.le_of_ble_eq_true rfl, rfl, rfl, Nat.le_of_ble_eq_true rfl, Nat.le_of_ble_eq_true rfl⟩ (Nat.le_of_ble_eq_true rfl) dX12_turn_89 rfl ?_
            refine r_iconst (v := (-1 : Int32)) (q := 93) hX dX12_turn_92 rfl rfl ?_
            refine r_jn (J := fun (v30 : Int32) (P : Option Res) => Ref mX12_turn X 0 0 Z v25.2 101 [(0, vr a0), (1, vi x1), (2, vi s21.1), (3, vi s21.2.1)] [vi v30] P) (fun v30 => ?_) (fun K1 hj28 => ?_)
            · refine r_istore (x := v30) (q := 103) 5 [1, 2, 3, 4, 0] (L1 := [(0, vr a0), (1, vi x1), (2, vi s21.1), (3, vi s21.2.1), (5, vi v30)]) hX dX12_turn_101 (Nat.le_of_ble_eq_true rfl) rfl rfl ?_
              refine r_iload (i := 5) (x := v30) (q := 105) 4 hX dX12_turn_103 rfl rfl ?_
              refine r_if_eq (tgt := 179) (q := 108) hX dX12_turn_105 (by decide) rfl (fun hb31 => ?_) (fun hb31 => ?_)
              · refine r_aload_n (i := 0) (x := a0) (q := 180) 0 hX dX12_turn_179 rfl rfl rfl ?_
                refine r_bind (fun v32 h33 => ?_)
                refine r_cv (a := a0) (As := []) (st := []) (r := (some (vi v32.1))) (Z1 := Z) (M1 := v32.2) (k1 := 0) (n1 := 0) (st1 := [vi v32.1]) (q := 183) hX (fun l => kX12_nextOrder l Z v25.2 a0 v32 h33) hc6 ivX12_nextOrder ccX12_nextOrder (Or.inl lkX12_434) rfl rfl rfl ⟨Nat.le_of_ble_eq_true rfl, Nat.le_of_ble_eq_true rfl, rfl, rfl, Nat.le_of_ble_eq_true rfl, Nat.le_of_ble_eq_true rfl⟩ (Nat.le_of_ble_eq_true rfl) dX12_turn_180 rfl ?_
                refine r_istore (x := v32.1) (q := 185) 4 [1, 2, 3, 4, 0, 5] (L1 := [(0, vr a0), (1, vi x1), (2, vi s21.1), (3, vi s21.2.1), (4, vi v32.1), (5, vi v30)]) hX dX12_turn_183 (Nat.le_of_ble_eq_true rfl) rfl rfl ?_
                refine r_goto (q := 83) hX dX12_turn_185 (by decide) ?_
                refine r_l0 ?_
                refine r_sub [0, 1, 2, 3, 4] rfl ?_
                exact hn22 (s21.1, s21.2.1, v32.1, v32.2)
              · refine r_iload_n (i := 2) (x := s21.1) (q := 109) 2 hX dX12_turn_108 rfl rfl rfl ?_
                refine r_iconst (v := (-1 : Int32)) (q := 110) hX dX12_turn_109 rfl rfl ?_
                refine r_js (J := fun (v37 : Unit) (P : Option Res) => Ref mX12_turn X 0 0 Z v25.2 137 [(0, vr a0), (1, vi x1)] [] P) (fun v37 => ?_) (fun K1 hj35 ho36 => ?_)
                · refine r_aload_n (i := 0) (x := a0) (q := 138) 0 hX dX12_turn_137 rfl rfl rfl ?_
                  refine r_getI (a := a0) (ci := 12) (kf := 64) (q := 141) hX hc6 flX12_422 rfl rfl dX12_turn_138 rfl ?_
                  refine r_istore_nP (x := (rI v25.2 a0 64)) (q := 142) 2 [1, 2, 0] (fun z45 => [(0, vr a0), (1, vi x1), (2, vi z45)]) hX dX12_turn_141 rfl (Nat.le_of_ble_eq_true rfl) (fun _ => rfl) rfl (fun z45 => ?_)
                  refine r_aload_n (i := 0) (x := a0) (q := 143) 0 hX dX12_turn_142 rfl rfl rfl ?_
                  refine r_getI (a := a0) (ci := 12) (kf := 65) (q := 146) hX hc6 flX12_425 rfl rfl dX12_turn_143 rfl ?_
                  refine r_istore_nP (x := (rI v25.2 a0 65)) (q := 147) 3 [1, 2, 3, 0] (fun z46 => [(0, vr a0), (1, vi x1), (2, vi z45), (3, vi z46)]) hX dX12_turn_146 rfl (Nat.le_of_ble_eq_true rfl) (fun _ => rfl) rfl (fun z46 => ?_)
                  refine r_iconst (v := (0 : Int32)) (q := 148) hX dX12_turn_147 rfl rfl ?_
                  refine r_istore (x := (0 : Int32)) (q := 150) 6 [1, 2, 3, 4, 0] (L1 := [(0, vr a0), (1, vi x1), (2, vi z45), (3, vi z46), (6, vi (0 : Int32))]) hX dX12_turn_148 (Nat.le_of_ble_eq_true rfl) rfl rfl ?_
                  refine r_loop (Hd := fun (s47 : Int32 × Mem) (P : Option Res) => Ref mX12_turn X 0 0 Z s47.2 150 [(0, vr a0), (1, vi x1), (2, vi z45), (3, vi z46), (6, vi s47.1)] [] P) (fun _ => r_none) (fun s47 K1 hn48 hx49 => ?_) ((0 : Int32), v25.2)
                  refine r_iload (i := 6) (x := s47.1) (q := 152) 4 hX dX12_turn_150 rfl rfl ?_
                  refine r_aload_n (i := 0) (x := a0) (q := 153) 0 hX dX12_turn_152 rfl rfl rfl ?_
                  refine r_getI (a := a0) (ci := 12) (kf := 57) (q := 156) hX hc6 flX12_419 rfl rfl dX12_turn_153 rfl ?_
                  refine r_icmp_ge (tgt := 179) (q := 159) hX dX12_turn_156 (by decide) rfl (fun hb50 => ?_) (fun hb50 => ?_)
                  · refine r_aload_n (i := 0) (x := a0) (q := 180) 0 hX dX12_turn_179 rfl rfl rfl ?_
                    refine r_bind (fun v51 h52 => ?_)
                    refine r_cv (a := a0) (As := []) (st := []) (r := (some (vi v51.1))) (Z1 := Z) (M1 := v51.2) (k1 := 0) (n1 := 0) (st1 := [vi v51.1]) (q := 183) hX (fun l => kX12_nextOrder l Z s47.2 a0 v51 h52) hc6 ivX12_nextOrder ccX12_nextOrder (Or.inl lkX12_434) rfl rfl rfl ⟨Nat.le_of_ble_eq_true rfl, Nat.le_of_ble_eq_true rfl, rfl, rfl, Nat.le_of_ble_eq_true rfl, Nat.le_of_ble_eq_true rfl⟩ (Nat.le_of_ble_eq_true rfl) dX12_turn_180 rfl ?_
                    refine r_istore (x := v51.1) (q := 185) 4 [1, 2, 3, 4, 0, 5] (L1 := [(0, vr a0), (1, vi x1), (2, vi z45), (3, vi z46), (4, vi v51.1), (6, vi s47.1)]) hX dX12_turn_183 (Nat.le_of_ble_eq_true rfl) rfl rfl ?_
                    refine r_goto (q := 83) hX dX12_turn_185 (by decide) ?_
                    refine r_lf (hx49 _) ?_
                    refine r_sub [0, 1, 2, 3, 4] rfl ?_
                    exact hn22 (z45, z46, v51.1, v51.2)
                  · refine r_aload_n (i := 0) (x := a0) (q := 160) 0 hX dX12_turn_159 rfl rfl rfl ?_
                    refine r_getR (a := a0) (ci := 12) (kf := 63) (q := 163) hX hc6 flX12_137 rfl dX12_turn_160 rfl ?_
                    refine r_iload (i := 6) (x := s47.1) (q := 165) 4 hX dX12_turn_163 rfl rfl ?_
                    refine r_aload_n (i := 0) (x := a0) (q := 166) 0 hX dX12_turn_165 rfl rfl rfl ?_
                    refine r_getR (a := a0) (ci := 12) (kf := 62) (q := 169) hX hc6 flX12_134 rfl dX12_turn_166 rfl ?_
                    refine r_iload (i := 6) (x := s47.1) (q := 171) 4 hX dX12_turn_169 rfl rfl ?_
                    refine r_ck (fun hc53 => ?_)
                    refine r_iald (a := (rR s47.2 a0 62)) (i := s47.1) (q := 172) hX hc53 dX12_turn_171 rfl ?_
                    refine r_ck (fun hc54 => ?_)
                    refine r_iast (a := (rR s47.2 a0 63)) (i := s47.1) (x := (rI s47.2 (rR s47.2 a0 62) (ix s47.1))) (q := 173) hX hc54 dX12_turn_172 rfl (fun M55 => ?_)
                    refine r_iinc (x := s47.1) (v := (s47.1 + (1 : Int32))) (q := 176) 6 4 [1, 2, 3, 4, 0] (L1 := [(0, vr a0), (1, vi x1), (2, vi z45), (3, vi z46), (6, vi (s47.1 + (1 : Int32)))]) hX dX12_turn_173 rfl rfl (Nat.le_of_ble_eq_true rfl) rfl rfl ?_
                    refine r_goto (q := 150) hX dX12_turn_176 (by decide) ?_
                    refine r_l0 ?_
                    exact hn48 ((s47.1 + (1 : Int32)), M55)
                · refine r_icmp_eq (tgt := 137) (q := 113) hX dX12_turn_110 (by decide) rfl (fun hb34 => ?_) (fun hb34 => ?_)
                  · refine r_l0 ?_
                    refine r_sub [0, 1] rfl ?_
                    exact hj35 ()
                  · refine r_aload_n (i := 0) (x := a0) (q := 114) 0 hX dX12_turn_113 rfl rfl rfl ?_
                    refine r_getI (a := a0) (ci := 12) (kf := 64) (q := 117) hX hc6 flX12_422 rfl rfl dX12_turn_114 rfl ?_
                    refine r_iload_n (i := 2) (x := s21.1) (q := 118) 2 hX dX12_turn_117 rfl rfl rfl ?_
                    refine r_icmp_lt (tgt := 137) (q := 121) hX dX12_turn_118 (by decide) rfl (fun hb38 => ?_) (fun hb38 => ?_)
                    · refine r_l0 ?_
                      refine r_sub [0, 1] rfl ?_
                      exact hj35 ()
                    · refine r_aload_n (i := 0) (x := a0) (q := 122) 0 hX dX12_turn_121 rfl rfl rfl ?_
                      refine r_getI (a := a0) (ci := 12) (kf := 64) (q := 125) hX hc6 flX12_422 rfl rfl dX12_turn_122 rfl ?_
                      refine r_iload_n (i := 2) (x := s21.1) (q := 126) 2 hX dX12_turn_125 rfl rfl rfl ?_
                      refine r_icmp_ne (tgt := 179) (q := 129) hX dX12_turn_126 (by decide) rfl (fun hb39 => ?_) (fun hb39 => ?_)
                      · refine r_aload_n (i := 0) (x := a0) (q := 130) 0 hX dX12_turn_129 rfl rfl rfl ?_
                        refine r_getI (a := a0) (ci := 12) (kf := 65) (q := 133) hX hc6 flX12_425 rfl rfl dX12_turn_130 rfl ?_
                        refine r_iload_n (i := 3) (x := s21.2.1) (q := 134) 3 hX dX12_turn_133 rfl rfl rfl ?_
                        refine r_icmp_ge (tgt := 179) (q := 137) hX dX12_turn_134 (by decide) rfl (fun hb40 => ?_) (fun hb40 => ?_)
                        · refine r_aload_n (i := 0) (x := a0) (q := 180) 0 hX dX12_turn_179 rfl rfl rfl ?_
                          refine r_bind (fun v41 h42 => ?_)
                          refine r_cv (a := a0) (As := []) (st := []) (r := (some (vi v41.1))) (Z1 := Z) (M1 := v41.2) (k1 := 0) (n1 := 0) (st1 := [vi v41.1]) (q := 183) hX (fun l => kX12_nextOrder l Z v25.2 a0 v41 h42) hc6 ivX12_nextOrder ccX12_nextOrder (Or.inl lkX12_434) rfl rfl rfl ⟨Nat.le_of_ble_eq_true rfl, Nat.le_of_ble_eq_true rfl, rfl, rfl, Nat.le_of_ble_eq_true rfl, Nat.le_of_ble_eq_true rfl⟩ (Nat.le_of_ble_eq_true rfl) dX12_turn_180 rfl ?_
                          refine r_istore (x := v41.1) (q := 185) 4 [1, 2, 3, 4, 0, 5] (L1 := [(0, vr a0), (1, vi x1), (2, vi s21.1), (3, vi s21.2.1), (4, vi v41.1), (5, vi v30)]) hX dX12_turn_183 (Nat.le_of_ble_eq_true rfl) rfl rfl ?_
                          refine r_goto (q := 83) hX dX12_turn_185 (by decide) ?_
                          refine r_lf (ho36 _) ?_
                          refine r_sub [0, 1, 2, 3, 4] rfl ?_
                          exact hn22 (s21.1, s21.2.1, v41.1, v41.2)
                        · refine r_l0 ?_
                          refine r_sub [0, 1] rfl ?_
                          exact hj35 ()
                      · refine r_aload_n (i := 0) (x := a0) (q := 180) 0 hX dX12_turn_179 rfl rfl rfl ?_
                        refine r_bind (fun v43 h44 => ?_)
                        refine r_cv (a := a0) (As := []) (st := []) (r := (some (vi v43.1))) (Z1 := Z) (M1 := v43.2) (k1 := 0) (n1 := 0) (st1 := [vi v43.1]) (q := 183) hX (fun l => kX12_nextOrder l Z v25.2 a0 v43 h44) hc6 ivX12_nextOrder ccX12_nextOrder (Or.inl lkX12_434) rfl rfl rfl ⟨Nat.le_of_ble_eq_true rfl, Nat.le_of_ble_eq_true rfl, rfl, rfl, Nat.le_of_ble_eq_true rfl, Nat.le_of_ble_eq_true rfl⟩ (Nat.le_of_ble_eq_true rfl) dX12_turn_180 rfl ?_
                        refine r_istore (x := v43.1) (q := 185) 4 [1, 2, 3, 4, 0, 5] (L1 := [(0, vr a0), (1, vi x1), (2, vi s21.1), (3, vi s21.2.1), (4, vi v43.1), (5, vi v30)]) hX dX12_turn_183 (Nat.le_of_ble_eq_true rfl) rfl rfl ?_
                        refine r_goto (q := 83) hX dX12_turn_185 (by decide) ?_
                        refine r_lf (ho36 _) ?_
                        refine r_sub [0, 1, 2, 3, 4] rfl ?_
                        exact hn22 (s21.1, s21.2.1, v43.1, v43.2)
            · refine r_icmp_ne (tgt := 100) (q := 96) hX dX12_turn_93 (by decide) rfl (fun hb27 => ?_) (fun hb27 => ?_)
              · refine r_iconst (v := (1 : Int32)) (q := 97) hX dX12_turn_96 rfl rfl ?_
                refine r_goto (q := 101) hX dX12_turn_97 (by decide) ?_
                refine r_l0 ?_
                refine r_sub [0, 1, 2, 3] rfl ?_
                exact hj28 (1 : Int32)
              · refine r_iconst (v := (0 : Int32)) (q := 101) hX dX12_turn_100 rfl rfl ?_
                refine r_l0 ?_
                refine r_sub [0, 1, 2, 3] rfl ?_
                exact hj28 (0 : Int32)
      · refine r_loop (Hd := fun (s12 : Int32 × Mem) (P : Option Res) => Ref mX12_turn X 0 0 Z s12.2 56 [(0, vr a0), (1, vi x1), (2, vi (-1 : Int32)), (3, vi (0 : Int32)), (4, vi s12.1)] [] P) (fun _ => r_none) (fun s12 K1 hn13 hx14 => ?_) ((0 : Int32), M8)
        refine r_iload (i := 4) (x := s12.1) (q := 58) 4 hX dX12_turn_56 rfl rfl ?_
        refine r_aload_n (i := 0) (x := a0) (q := 59) 0 hX dX12_turn_58 rfl rfl rfl ?_
        refine r_getI (a := a0) (ci := 12) (kf := 57) (q := 62) hX hc6 flX12_419 rfl rfl dX12_turn_59 rfl ?_
        refine r_icmp_ge (tgt := 80) (q := 65) hX dX12_turn_62 (by decide) rfl (fun hb15 => ?_) (fun hb15 => ?_)
        · refine r_lf (hx14 _) ?_
          refine r_sub [0, 1, 2, 3] rfl ?_
          exact hj9 s12.2
        · refine r_aload_n (i := 0) (x := a0) (q := 66) 0 hX dX12_turn_65 rfl rfl rfl ?_
          refine r_getR (a := a0) (ci := 12) (kf := 62) (q := 69) hX hc6 flX12_134 rfl dX12_turn_66 rfl ?_
          refine r_iload (i := 4) (x := s12.1) (q := 71) 4 hX dX12_turn_69 rfl rfl ?_
          refine r_iload (i := 4) (x := s12.1) (q := 73) 4 hX dX12_turn_71 rfl rfl ?_
          refine r_ck (fun hc16 => ?_)
          refine r_iast (a := (rR s12.2 a0 62)) (i := s12.1) (x := s12.1) (q := 74) hX hc16 dX12_turn_73 rfl (fun M17 => ?_)
          refine r_iinc (x := s12.1) (v := (s12.1 + (1 : Int32))) (q := 77) 4 4 [1, 2, 3, 4, 0] (L1 := [(0, vr a0), (1, vi x1), (2, vi (-1 : Int32)), (3, vi (0 : Int32)), (4, vi (s12.1 + (1 : Int32)))]) hX dX12_turn_74 rfl rfl (Nat.le_of_ble_eq_true rfl) rfl rfl ?_
          refine r_goto (q := 56) hX dX12_turn_77 (by decide) ?_
          refine r_l0 ?_
          exact hn13 ((s12.1 + (1 : Int32)), M17)
  · refine r_if_ne (tgt := 27) (q := 10) hX dX12_turn_7 (by decide) rfl (fun hb1 => ?_) (fun hb1 => ?_)
    · refine r_iload_n (i := 1) (x := x1) (q := 11) 1 hX dX12_turn_10 rfl rfl rfl ?_
      refine r_i2l (q := 12) hX dX12_turn_11 rfl ?_
      refine r_ldc2 (v := (10 : Int64)) (q := 15) hX dX12_turn_12 (gd (hcw7_0 _ (List.mem_of_getElem? (i := 0) rfl)) rfl) rfl ?_
      refine r_ldc2 (v := (17 : Int64)) (q := 18) hX dX12_turn_15 (gd (hcw7_1 _ (List.mem_of_getElem? (i := 9) rfl)) rfl) rfl ?_
      refine r_cs (As := [vj (x1.toInt64), vj (10 : Int64), vj (17 : Int64)]) (st := []) (r := (some (vi (fX12_in (x1.toInt64) (10 : Int64) (17 : Int64))))) (Z1 := Z) (M1 := M) (k1 := 0) (n1 := 0) (st1 := [vi (fX12_in (x1.toInt64) (10 : Int64) (17 : Int64))]) (q := 21) hX (fun l => kX12_in l Z M (x1.toInt64) (10 : Int64) (17 : Int64)) stX12_in ccX12_in (Or.inl lkX12_194) rfl rfl rfl ⟨Nat.le_of_ble_eq_true rfl, Nat.le_of_ble_eq_true rfl, rfl, rfl, Nat.le_of_ble_eq_true rfl, Nat.le_of_ble_eq_true rfl⟩ (Nat.le_of_ble_eq_true rfl) dX12_turn_18 rfl ?_
      refine r_if_ne (tgt := 27) (q := 24) hX dX12_turn_21 (by decide) rfl (fun hb5 => ?_) (fun hb5 => ?_)
      · refine r_bipush (v := (-102 : Int32)) (q := 26) hX dX12_turn_24 rfl rfl ?_
        refine r_lf ((ho3 _).trans (hK _)) ?_
        exact r_iret hM rfl (Nat.le_of_ble_eq_true rfl) (Nat.le_of_ble_eq_true rfl) dX12_turn_26
      · refine r_l0 ?_
        exact hj2 ()
    · refine r_l0 ?_
      exact hj2 ()
def mX12_unread : MD := (yX12_unread, cX12_unread, 3, (some .int), 1, 22, 0, 0)
theorem ccX12_unread : Cc mX12_unread 0 := ⟨gd (hcw1_0 _ (List.mem_of_getElem? (i := 10) rfl)) rfl, gd (hcw8_1 _ (List.mem_of_getElem? (i := 9) rfl)) rfl, by decide +kernel, by decide +kernel, by decide +kernel⟩
theorem ivX12_unread : Iv mX12_unread 12 := ⟨Nat.le_of_ble_eq_true rfl, rfl, gd (hcw8_1 _ (List.mem_of_getElem? (i := 7) rfl)) rfl, gd (hcw8_1 _ (List.mem_of_getElem? (i := 8) rfl)) rfl⟩
noncomputable def fX12_unread (Z : Shp) (M : Mem) (a0 : Nat) : Option (Int32 × Mem) := (if tg Z a0 = (13, 86) then (Option.bind (fX12_readMany Z M a0) (fun v2 => (loop (fun s4 : Int32 × Mem => (if (8 : Int32) ≤ s4.1 then some (Sum.inr (v2, s4.2)) else (if aok Z (rR s4.2 a0 69) 100 s4.1 then (pu (wI s4.2 (rR s4.2 a0 69) (ix s4.1) (-1 : Int32)) (fun M9 => some (Sum.inl ((s4.1 + (1 : Int32)), M9)))) else none))) ((0 : Int32), M)))) else none)
set_option maxRecDepth 20000 in
theorem kX12_unread (l : Launch) (Z : Shp) (M : Mem) (a0 : Nat) (r : Int32 × Mem) (h : fX12_unread Z M a0 = some r) : Ct l mX12_unread [vr a0] Z M ((some (vi r.1)), Z, r.2) := by
  refine Ct.of rfl (Nat.le_of_ble_eq_true rfl) (fun X hM => ?_)
  have hX := hM.1
  refine r_top (mk := fun r => ((some (vi r.1)), Z, r.2)) h (fun K hK => ?_)
  unfold fX12_unread
  refine r_aload_n (i := 0) (x := a0) (q := 1) 0 hX dX12_unread_0 rfl rfl rfl ?_
  refine r_ck (fun hc1 => ?_)
  refine r_bind (fun v2 h3 => ?_)
  refine r_cv (a := a0) (As := []) (st := []) (r := (some (vi v2))) (Z1 := Z) (M1 := M) (k1 := 0) (n1 := 0) (st1 := [vi v2]) (q := 4) hX (fun l => kX12_readMany l Z M a0 v2 h3) hc1 ivX12_readMany ccX12_readMany (Or.inl lkX12_443) rfl rfl rfl ⟨Nat.le_of_ble_eq_true rfl, Nat.le_of_ble_eq_true rfl, rfl, rfl, Nat.le_of_ble_eq_true rfl, Nat.le_of_ble_eq_true rfl⟩ (Nat.le_of_ble_eq_true rfl) dX12_unread_1 rfl ?_
  refine r_istore_n (x := v2) (q := 5) 1 [1, 0] (L1 := [(0, vr a0), (1, vi v2)]) hX dX12_unread_4 rfl (Nat.le_of_ble_eq_true rfl) rfl rfl ?_
  refine r_iconst (v := (0 : Int32)) (q := 6) hX dX12_unread_5 rfl rfl ?_
  refine r_istore_n (x := (0 : Int32)) (q := 7) 2 [1, 2, 0] (L1 := [(0, vr a0), (1, vi v2), (2, vi (0 : Int32))]) hX dX12_unread_6 rfl (Nat.le_of_ble_eq_true rfl) rfl rfl ?_
  refine r_loop (Hd := fun (s4 : Int32 × Mem) (P : Option Res) => Ref mX12_unread X 0 0 Z s4.2 7 [(0, vr a0), (1, vi v2), (2, vi s4.1)] [] P) (fun _ => r_none) (fun s4 K1 hn5 hx6 => ?_) ((0 : Int32), M)
  refine r_iload_n (i := 2) (x := s4.1) (q := 8) 2 hX dX12_unread_7 rfl rfl rfl ?_
  refine r_bipush (v := (8 : Int32)) (q := 10) hX dX12_unread_8 rfl rfl ?_
  refine r_icmp_ge (tgt := 26) (q := 13) hX dX12_unread_10 (by decide) rfl (fun hb7 => ?_) (fun hb7 => ?_)
  · refine r_iload_n (i := 1) (x := v2) (q := 27) 1 hX dX12_unread_26 rfl rfl rfl ?_
    refine r_lf ((hx6 _).trans (hK _)) ?_
    exact r_iret hM rfl (Nat.le_of_ble_eq_true rfl) (Nat.le_of_ble_eq_true rfl) dX12_unread_27
  · refine r_aload_n (i := 0) (x := a0) (q := 14) 0 hX dX12_unread_13 rfl rfl rfl ?_
    refine r_getR (a := a0) (ci := 12) (kf := 69) (q := 17) hX hc1 flX12_146 rfl dX12_unread_14 rfl ?_
    refine r_iload_n (i := 2) (x := s4.1) (q := 18) 2 hX dX12_unread_17 rfl rfl rfl ?_
    refine r_iconst (v := (-1 : Int32)) (q := 19) hX dX12_unread_18 rfl rfl ?_
    refine r_ck (fun hc8 => ?_)
    refine r_iast (a := (rR s4.2 a0 69)) (i := s4.1) (x := (-1 : Int32)) (q := 20) hX hc8 dX12_unread_19 rfl (fun M9 => ?_)
    refine r_iinc (x := s4.1) (v := (s4.1 + (1 : Int32))) (q := 23) 2 2 [1, 2, 0] (L1 := [(0, vr a0), (1, vi v2), (2, vi (s4.1 + (1 : Int32)))]) hX dX12_unread_20 rfl rfl (Nat.le_of_ble_eq_true rfl) rfl rfl ?_
    refine r_goto (q := 7) hX dX12_unread_23 (by decide) ?_
    refine r_l0 ?_
    exact hn5 ((s4.1 + (1 : Int32)), M9)
def mX12_work : MD := (yX12_work, cX12_work, 4, (some .int), 1, 25, 0, 0)
theorem ccX12_work : Cc mX12_work 3 := ⟨gd (hcw1_0 _ (List.mem_of_getElem? (i := 10) rfl)) rfl, gd (hcw8_5 _ (List.mem_of_getElem? (i := 9) rfl)) rfl, by decide +kernel, by decide +kernel, by decide +kernel⟩
theorem ivX12_work : Iv mX12_work 12 := ⟨Nat.le_of_ble_eq_true rfl, rfl, gd (hcw8_5 _ (List.mem_of_getElem? (i := 7) rfl)) rfl, gd (hcw8_5 _ (List.mem_of_getElem? (i := 8) rfl)) rfl⟩
def fX12_work (Z : Shp) (M : Mem) (a0 : Nat) (x1 : Int32) (x2 : Int32) (x3 : Int32) : Option (Int32 × Mem) := (if tg Z a0 = (13, 86) then (if (fX12_in (x3.toInt64) (-1 : Int64) (((rI M a0 81) - (1 : Int32)).toInt64)) = 0 then some ((-101 : Int32), M) else (if (fX12_in (x1.toInt64) (1 : Int64) (999 : Int64)) = 0 then some ((-102 : Int32), M) else (if (fX12_in (x2.toInt64) (0 : Int64) (999 : Int64)) = 0 then some ((-102 : Int32), M) else (if (rI M a0 81) = (8 : Int32) then some ((-104 : Int32), M) else (if aok Z (rR M a0 82) 100 (rI M a0 81) then (pu (wI M (rR M a0 82) (ix (rI M a0 81)) x1) (fun M7 => (if aok Z (rR M7 a0 83) 100 (rI M7 a0 81) then (pu (wI M7 (rR M7 a0 83) (ix (rI M7 a0 81)) x2) (fun M9 => (if aok Z (rR M9 a0 84) 100 (rI M9 a0 81) then (pu (wI M9 (rR M9 a0 84) (ix (rI M9 a0 81)) x3) (fun M11 => (pu (wI M11 a0 81 ((rI M11 a0 81) + (1 : Int32))) (fun M12 => some (((rI M12 a0 81) - (1 : Int32)), M12))))) else none))) else none))) else none))))) else none)
set_option maxRecDepth 20000 in
theorem kX12_work (l : Launch) (Z : Shp) (M : Mem) (a0 : Nat) (x1 : Int32) (x2 : Int32) (x3 : Int32) (r : Int32 × Mem) (h : fX12_work Z M a0 x1 x2 x3 = some r) : Ct l mX12_work [vr a0, vi x1, vi x2, vi x3] Z M ((some (vi r.1)), Z, r.2) := by
  refine Ct.of rfl (Nat.le_of_ble_eq_true rfl) (fun X hM => ?_)
  have hX := hM.1
  refine r_top (mk := fun r => ((some (vi r.1)), Z, r.2)) h (fun K hK => ?_)
  unfold fX12_work
  refine r_iload_n (i := 3) (x := x3) (q := 1) 3 hX dX12_work_0 rfl rfl rfl ?_
  refine r_i2l (q := 2) hX dX12_work_1 rfl ?_
  refine r_ldc2 (v := (-1 : Int64)) (q := 5) hX dX12_work_2 (gd (hcw7_6 _ (List.mem_of_getElem? (i := 10) rfl)) rfl) rfl ?_
  refine r_aload_n (i := 0) (x := a0) (q := 6) 0 hX dX12_work_5 rfl rfl rfl ?_
  refine r_ck (fun hc1 => ?_)
  refine r_getI (a := a0) (ci := 12) (kf := 81) (q := 9) hX hc1 flX12_472 rfl rfl dX12_work_6 rfl ?_
  refine r_iconst (v := (1 : Int32)) (q := 10) hX dX12_work_9 rfl rfl ?_
  refine r_isub (q := 11) hX dX12_work_10 rfl ?_
  refine r_i2l (q := 12) hX dX12_work_11 rfl ?_
  refine r_cs (As := [vj (x3.toInt64), vj (-1 : Int64), vj (((rI M a0 81) - (1 : Int32)).toInt64)]) (st := []) (r := (some (vi (fX12_in (x3.toInt64) (-1 : Int64) (((rI M a0 81) - (1 : Int32)).toInt64))))) (Z1 := Z) (M1 := M) (k1 := 0) (n1 := 0) (st1 := [vi (fX12_in (x3.toInt64) (-1 : Int64) (((rI M a0 81) - (1 : Int32)).toInt64))]) (q := 15) hX (fun l => kX12_in l Z M (x3.toInt64) (-1 : Int64) (((rI M a0 81) - (1 : Int32)).toInt64)) stX12_in ccX12_in (Or.inl lkX12_194) rfl rfl rfl ⟨Nat.le_of_ble_eq_true rfl, Nat.le_of_ble_eq_true rfl, rfl, rfl, Nat.le_of_ble_eq_true rfl, Nat.le_of_ble_eq_true rfl⟩ (Nat.le_of_ble_eq_true rfl) dX12_work_12 rfl ?_
  refine r_if_ne (tgt := 21) (q := 18) hX dX12_work_15 (by decide) rfl (fun hb2 => ?_) (fun hb2 => ?_)
  · refine r_bipush (v := (-101 : Int32)) (q := 20) hX dX12_work_18 rfl rfl ?_
    refine r_lf (hK _) ?_
    exact r_iret hM rfl (Nat.le_of_ble_eq_true rfl) (Nat.le_of_ble_eq_true rfl) dX12_work_20
  · refine r_iload_n (i := 1) (x := x1) (q := 22) 1 hX dX12_work_21 rfl rfl rfl ?_
    refine r_i2l (q := 23) hX dX12_work_22 rfl ?_
    refine r_lconst (v := (1 : Int64)) (q := 24) hX dX12_work_23 rfl rfl ?_
    refine r_ldc2 (v := (999 : Int64)) (q := 27) hX dX12_work_24 (gd (hcw8_1 _ (List.mem_of_getElem? (i := 1) rfl)) rfl) rfl ?_
    refine r_cs (As := [vj (x1.toInt64), vj (1 : Int64), vj (999 : Int64)]) (st := []) (r := (some (vi (fX12_in (x1.toInt64) (1 : Int64) (999 : Int64))))) (Z1 := Z) (M1 := M) (k1 := 0) (n1 := 0) (st1 := [vi (fX12_in (x1.toInt64) (1 : Int64) (999 : Int64))]) (q := 30) hX (fun l => kX12_in l Z M (x1.toInt64) (1 : Int64) (999 : Int64)) stX12_in ccX12_in (Or.inl lkX12_194) rfl rfl rfl ⟨Nat.le_of_ble_eq_true rfl, Nat.le_of_ble_eq_true rfl, rfl, rfl, Nat.le_of_ble_eq_true rfl, Nat.le_of_ble_eq_true rfl⟩ (Nat.le_of_ble_eq_true rfl) dX12_work_27 rfl ?_
    refine r_if_eq (tgt := 45) (q := 33) hX dX12_work_30 (by decide) rfl (fun hb3 => ?_) (fun hb3 => ?_)
    · refine r_bipush (v := (-102 : Int32)) (q := 47) hX dX12_work_45 rfl rfl ?_
      refine r_lf (hK _) ?_
      exact r_iret hM rfl (Nat.le_of_ble_eq_true rfl) (Nat.le_of_ble_eq_true rfl) dX12_work_47
    · refine r_iload_n (i := 2) (x := x2) (q := 34) 2 hX dX12_work_33 rfl rfl rfl ?_
      refine r_i2l (q := 35) hX dX12_work_34 rfl ?_
      refine r_lconst (v := (0 : Int64)) (q := 36) hX dX12_work_35 rfl rfl ?_
      refine r_ldc2 (v := (999 : Int64)) (q := 39) hX dX12_work_36 (gd (hcw8_1 _ (List.mem_of_getElem? (i := 1) rfl)) rfl) rfl ?_
      refine r_cs (As := [vj (x2.toInt64), vj (0 : Int64), vj (999 : Int64)]) (st := []) (r := (some (vi (fX12_in (x2.toInt64) (0 : Int64) (999 : Int64))))) (Z1 := Z) (M1 := M) (k1 := 0) (n1 := 0) (st1 := [vi (fX12_in (x2.toInt64) (0 : Int64) (999 : Int64))]) (q := 42) hX (fun l => kX12_in l Z M (x2.toInt64) (0 : Int64) (999 : Int64)) stX12_in ccX12_in (Or.inl lkX12_194) rfl rfl rfl ⟨Nat.le_of_ble_eq_true rfl, Nat.le_of_ble_eq_true rfl, rfl, rfl, Nat.le_of_ble_eq_true rfl, Nat.le_of_ble_eq_true rfl⟩ (Nat.le_of_ble_eq_true rfl) dX12_work_39 rfl ?_
      refine r_if_ne (tgt := 48) (q := 45) hX dX12_work_42 (by decide) rfl (fun hb4 => ?_) (fun hb4 => ?_)
      · refine r_bipush (v := (-102 : Int32)) (q := 47) hX dX12_work_45 rfl rfl ?_
        refine r_lf (hK _) ?_
        exact r_iret hM rfl (Nat.le_of_ble_eq_true rfl) (Nat.le_of_ble_eq_true rfl) dX12_work_47
      · refine r_aload_n (i := 0) (x := a0) (q := 49) 0 hX dX12_work_48 rfl rfl rfl ?_
        refine r_getI (a := a0) (ci := 12) (kf := 81) (q := 52) hX hc1 flX12_472 rfl rfl dX12_work_49 rfl ?_
        refine r_bipush (v := (8 : Int32)) (q := 54) hX dX12_work_52 rfl rfl ?_
        refine r_icmp_ne (tgt := 60) (q := 57) hX dX12_work_54 (by decide) rfl (fun hb5 => ?_) (fun hb5 => ?_)
        · refine r_bipush (v := (-104 : Int32)) (q := 59) hX dX12_work_57 rfl rfl ?_
          refine r_lf (hK _) ?_
          exact r_iret hM rfl (Nat.le_of_ble_eq_true rfl) (Nat.le_of_ble_eq_true rfl) dX12_work_59
        · refine r_aload_n (i := 0) (x := a0) (q := 61) 0 hX dX12_work_60 rfl rfl rfl ?_
          refine r_getR (a := a0) (ci := 12) (kf := 82) (q := 64) hX hc1 flX12_176 rfl dX12_work_61 rfl ?_
          refine r_aload_n (i := 0) (x := a0) (q := 65) 0 hX dX12_work_64 rfl rfl rfl ?_
          refine r_getI (a := a0) (ci := 12) (kf := 81) (q := 68) hX hc1 flX12_472 rfl rfl dX12_work_65 rfl ?_
          refine r_iload_n (i := 1) (x := x1) (q := 69) 1 hX dX12_work_68 rfl rfl rfl ?_
          refine r_ck (fun hc6 => ?_)
          refine r_iast (a := (rR M a0 82)) (i := (rI M a0 81)) (x := x1) (q := 70) hX hc6 dX12_work_69 rfl (fun M7 => ?_)
          refine r_aload_n (i := 0) (x := a0) (q := 71) 0 hX dX12_work_70 rfl rfl rfl ?_
          refine r_getR (a := a0) (ci := 12) (kf := 83) (q := 74) hX hc1 flX12_179 rfl dX12_work_71 rfl ?_
          refine r_aload_n (i := 0) (x := a0) (q := 75) 0 hX dX12_work_74 rfl rfl rfl ?_
          refine r_getI (a := a0) (ci := 12) (kf := 81) (q := 78) hX hc1 flX12_472 rfl rfl dX12_work_75 rfl ?_
          refine r_iload_n (i := 2) (x := x2) (q := 79) 2 hX dX12_work_78 rfl rfl rfl ?_
          refine r_ck (fun hc8 => ?_)
          refine r_iast (a := (rR M7 a0 83)) (i := (rI M7 a0 81)) (x := x2) (q := 80) hX hc8 dX12_work_79 rfl (fun M9 => ?_)
          refine r_aload_n (i := 0) (x := a0) (q := 81) 0 hX dX12_work_80 rfl rfl rfl ?_
          refine r_getR (a := a0) (ci := 12) (kf := 84) (q := 84) hX hc1 flX12_182 rfl dX12_work_81 rfl ?_
          refine r_aload_n (i := 0) (x := a0) (q := 85) 0 hX dX12_work_84 rfl rfl rfl ?_
          refine r_getI (a := a0) (ci := 12) (kf := 81) (q := 88) hX hc1 flX12_472 rfl rfl dX12_work_85 rfl ?_
          refine r_iload_n (i := 3) (x := x3) (q := 89) 3 hX dX12_work_88 rfl rfl rfl ?_
          refine r_ck (fun hc10 => ?_)
          refine r_iast (a := (rR M9 a0 84)) (i := (rI M9 a0 81)) (x := x3) (q := 90) hX hc10 dX12_work_89 rfl (fun M11 => ?_)
          refine r_aload_n (i := 0) (x := a0) (q := 91) 0 hX dX12_work_90 rfl rfl rfl ?_
          refine r_dup (q := 92) hX dX12_work_91 rfl rfl ?_
          refine r_getI (a := a0) (ci := 12) (kf := 81) (q := 95) hX hc1 flX12_472 rfl rfl dX12_work_92 rfl ?_
          refine r_iconst (v := (1 : Int32)) (q := 96) hX dX12_work_95 rfl rfl ?_
          refine r_iadd (q := 97) hX dX12_work_96 rfl ?_
          refine r_putI (a := a0) (ci := 12) (kf := 81) (q := 100) hX hc1 flX12_472 rfl rfl (Or.inl rfl) rfl rfl dX12_work_97 rfl (fun M12 => ?_)
          refine r_aload_n (i := 0) (x := a0) (q := 101) 0 hX dX12_work_100 rfl rfl rfl ?_
          refine r_getI (a := a0) (ci := 12) (kf := 81) (q := 104) hX hc1 flX12_472 rfl rfl dX12_work_101 rfl ?_
          refine r_iconst (v := (1 : Int32)) (q := 105) hX dX12_work_104 rfl rfl ?_
          refine r_isub (q := 106) hX dX12_work_105 rfl ?_
          refine r_lf (hK _) ?_
          exact r_iret hM rfl (Nat.le_of_ble_eq_true rfl) (Nat.le_of_ble_eq_true rfl) dX12_work_106
