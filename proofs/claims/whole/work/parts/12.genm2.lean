theorem lkX12_483 : Lk RX12 483 yX12_tell := gd (hcw8_6 _ (List.mem_of_getElem? (i := 11) rfl)) rfl
theorem lkX12_206 : Lk RX12 206 yX12_nowOf := gd (hcw6_11 _ (List.mem_of_getElem? (i := 7) rfl)) rfl
theorem flX12_22 : FL RX12 22 12 5 := ⟨Nat.le_of_ble_eq_true rfl, Nat.le_of_ble_eq_true rfl, gd (hcw5_10 _ (List.mem_of_getElem? (i := 0) rfl)) rfl⟩
theorem lkX12_310 : Lk RX12 310 yX12_lockOf := gd (hcw7_5 _ (List.mem_of_getElem? (i := 17) rfl)) rfl
theorem flX12_50 : FL RX12 50 12 19 := ⟨Nat.le_of_ble_eq_true rfl, Nat.le_of_ble_eq_true rfl, gd (hcw5_10 _ (List.mem_of_getElem? (i := 14) rfl)) rfl⟩
theorem lkX12_315 : Lk RX12 315 yX12_sumOf := gd (hcw7_6 _ (List.mem_of_getElem? (i := 5) rfl)) rfl
def mX12_tellLine : MD := (yX12_tellLine, cX12_tellLine, 3, none, 2, 44, 0, 0)
theorem ccX12_tellLine : Cc mX12_tellLine 0 := ⟨gd (hcw1_0 _ (List.mem_of_getElem? (i := 10) rfl)) rfl, gd (hcw8_6 _ (List.mem_of_getElem? (i := 10) rfl)) rfl, by decide +kernel, by decide +kernel, by decide +kernel⟩
theorem ivX12_tellLine : Iv mX12_tellLine 12 := ⟨Nat.le_of_ble_eq_true rfl, rfl, gd (hcw8_6 _ (List.mem_of_getElem? (i := 9) rfl)) rfl, gd (hps5 _ (List.mem_of_getElem? (i := 10) rfl)) rfl⟩
set_option maxRecDepth 20000 in
noncomputable def fX12_tellLine (Z : Shp) (M : Mem) (a0 : Nat) : Option (Mem) := (if tg Z a0 = (13, 86) then (Option.bind (fX12_tell Z M a0 ((rI M a0 3).toInt64)) (fun v2 => (Option.bind (loop (fun s7 : Int32 × Mem => (if (8 : Int32) ≤ s7.1 then some (Sum.inr s7.2) else (loop (fun s11 : Int32 × Mem => (if (3 : Int32) ≤ s11.1 then some (Sum.inr (Sum.inl ((s7.1 + (1 : Int32)), s11.2))) else (Option.bind (fX12_nowOf Z s11.2 a0 s7.1 s11.1) (fun v15 => (Option.bind (fX12_tell Z s11.2 a0 (v15.toInt64)) (fun v17 => some (Sum.inl ((s11.1 + (1 : Int32)), v17)))))))) ((0 : Int32), s7.2)))) ((0 : Int32), v2)) (fun v6 : Mem => (Option.bind (loop (fun s22 : Int32 × Mem => (if (7 : Int32) ≤ s22.1 then some (Sum.inr s22.2) else (if aok Z (rR s22.2 a0 4) 100 s22.1 then (Option.bind (fX12_tell Z s22.2 a0 ((rI s22.2 (rR s22.2 a0 4) (ix s22.1)).toInt64)) (fun v27 => (if aok Z (rR v27 a0 5) 101 s22.1 then (Option.bind (if (rI v27 (rR v27 a0 5) (ix s22.1)) = 0 then some (0 : Int64) else some (1 : Int64)) (fun v33 : Int64 => (Option.bind (fX12_tell Z v27 a0 v33) (fun v34 => (if aok Z (rR v34 a0 6) 100 s22.1 then (Option.bind (fX12_tell Z v34 a0 ((rI v34 (rR v34 a0 6) (ix s22.1)).toInt64)) (fun v37 => (loop (fun s39 : Int32 × Mem => (if (4 : Int32) ≤ s39.1 then some (Sum.inr (Sum.inl ((s22.1 + (1 : Int32)), s39.2))) else (Option.bind (fX12_lockOf Z s39.2 a0 s22.1 s39.1) (fun v43 => (Option.bind (fX12_tell Z s39.2 a0 (v43.toInt64)) (fun v45 => some (Sum.inl ((s39.1 + (1 : Int32)), v45)))))))) ((0 : Int32), v37)))) else none))))) else none))) else none))) ((0 : Int32), v6)) (fun v21 : Mem => (Option.bind (loop (fun s50 : Int32 × Mem => (if (rI s50.2 a0 15) ≤ s50.1 then some (Sum.inr s50.2) else (if aok Z (rR s50.2 a0 16) 100 s50.1 then (Option.bind (fX12_tell Z s50.2 a0 ((rI s50.2 (rR s50.2 a0 16) (ix s50.1)).toInt64)) (fun v55 => (if aok Z (rR v55 a0 17) 100 s50.1 then (Option.bind (fX12_tell Z v55 a0 ((rI v55 (rR v55 a0 17) (ix s50.1)).toInt64)) (fun v58 => (if aok Z (rR v58 a0 18) 100 s50.1 then (Option.bind (fX12_tell Z v58 a0 ((rI v58 (rR v58 a0 18) (ix s50.1)).toInt64)) (fun v61 => (if aok Z (rR v61 a0 19) 100 s50.1 then (Option.bind (fX12_tell Z v61 a0 ((rI v61 (rR v61 a0 19) (ix s50.1)).toInt64)) (fun v64 => (if aok Z (rR v64 a0 20) 100 s50.1 then (Option.bind (fX12_tell Z v64 a0 ((rI v64 (rR v64 a0 20) (ix s50.1)).toInt64)) (fun v67 => some (Sum.inl ((s50.1 + (1 : Int32)), v67)))) else none))) else none))) else none))) else none))) else none))) ((0 : Int32), v21)) (fun v49 : Mem => (Option.bind (loop (fun s72 : Int32 × Mem => (if (rI s72.2 a0 21) ≤ s72.1 then some (Sum.inr s72.2) else (Option.bind (loop (fun s79 : Int32 × Mem => (if (5 : Int32) ≤ s79.1 then some (Sum.inr s79.2) else (Option.bind (fX12_atOf Z s79.2 a0 s72.1 s79.1) (fun v83 => (Option.bind (fX12_tell Z s79.2 a0 (v83.toInt64)) (fun v85 => some (Sum.inl ((s79.1 + (1 : Int32)), v85)))))))) ((0 : Int32), s72.2)) (fun v78 : Mem => (if aok Z (rR v78 a0 24) 100 s72.1 then (Option.bind (fX12_tell Z v78 a0 ((rI v78 (rR v78 a0 24) (ix s72.1)).toInt64)) (fun v88 => (if aok Z (rR v88 a0 26) 100 s72.1 then (Option.bind (fX12_tell Z v88 a0 ((rI v88 (rR v88 a0 26) (ix s72.1)).toInt64)) (fun v91 => (if aok Z (rR v91 a0 27) 100 s72.1 then (Option.bind (fX12_tell Z v91 a0 ((rI v91 (rR v91 a0 27) (ix s72.1)).toInt64)) (fun v94 => some (Sum.inl ((s72.1 + (1 : Int32)), v94)))) else none))) else none))) else none))))) ((0 : Int32), v49)) (fun v71 : Mem => (loop (fun s96 : Int32 × Mem => (if (5 : Int32) ≤ s96.1 then some (Sum.inr s96.2) else (Option.bind (fX12_sumOf Z s96.2 a0 s96.1) (fun v100 => (Option.bind (fX12_tell Z s96.2 a0 v100) (fun v102 => some (Sum.inl ((s96.1 + (1 : Int32)), v102)))))))) ((0 : Int32), v71)))))))))))) else none)
set_option maxRecDepth 20000 in
theorem kX12_tellLine (l : Launch) (Z : Shp) (M : Mem) (a0 : Nat) (r : Mem) (h : fX12_tellLine Z M a0 = some r) : Ct l mX12_tellLine [vr a0] Z M (none, Z, r) := by
  refine Ct.of rfl (Nat.le_of_ble_eq_true rfl) (fun X hM => ?_)
  have hX := hM.1
  refine r_top (mk := fun r => (none, Z, r)) h (fun K hK => ?_)
  unfold fX12_tellLine
  refine r_aload_n (i := 0) (x := a0) (q := 1) 0 hX dX12_tellLine_0 rfl rfl rfl ?_
  refine r_aload_n (i := 0) (x := a0) (q := 2) 0 hX dX12_tellLine_1 rfl rfl rfl ?_
  refine r_ck (fun hc1 => ?_)
  refine r_getI (a := a0) (ci := 12) (kf := 3) (q := 5) hX hc1 flX12_185 rfl rfl dX12_tellLine_2 rfl ?_
  refine r_i2l (q := 6) hX dX12_tellLine_5 rfl ?_
  refine r_bind (fun v2 h3 => ?_)
  refine r_cv (a := a0) (As := [vj ((rI M a0 3).toInt64)]) (st := []) (r := none) (Z1 := Z) (M1 := v2) (k1 := 0) (n1 := 0) (st1 := []) (q := 9) hX (fun l => kX12_tell l Z M a0 ((rI M a0 3).toInt64) v2 h3) hc1 ivX12_tell ccX12_tell (Or.inl lkX12_483) rfl rfl rfl ⟨Nat.le_of_ble_eq_true rfl, Nat.le_of_ble_eq_true rfl, rfl, rfl, Nat.le_of_ble_eq_true rfl, Nat.le_of_ble_eq_true rfl⟩ (Nat.le_of_ble_eq_true rfl) dX12_tellLine_6 rfl ?_
  refine r_iconst (v := (0 : Int32)) (q := 10) hX dX12_tellLine_9 rfl rfl ?_
  refine r_istore_n (x := (0 : Int32)) (q := 11) 1 [1, 0] (L1 := [(0, vr a0), (1, vi (0 : Int32))]) hX dX12_tellLine_10 rfl (Nat.le_of_ble_eq_true rfl) rfl rfl ?_
  refine r_jn (J := fun (v6 : Mem) (P : Option Res) => Ref mX12_tellLine X 0 0 Z v6 47 [(0, vr a0)] [] P) (fun v6 => ?_) (fun K1 hj4 => ?_)
  · refine r_iconst (v := (0 : Int32)) (q := 48) hX dX12_tellLine_47 rfl rfl ?_
    refine r_istore_n (x := (0 : Int32)) (q := 49) 1 [1, 0] (L1 := [(0, vr a0), (1, vi (0 : Int32))]) hX dX12_tellLine_48 rfl (Nat.le_of_ble_eq_true rfl) rfl rfl ?_
    refine r_jn (J := fun (v21 : Mem) (P : Option Res) => Ref mX12_tellLine X 0 0 Z v21 125 [(0, vr a0)] [] P) (fun v21 => ?_) (fun K1 hj19 => ?_)
    · refine r_iconst (v := (0 : Int32)) (q := 126) hX dX12_tellLine_125 rfl rfl ?_
      refine r_istore_n (x := (0 : Int32)) (q := 127) 1 [1, 0] (L1 := [(0, vr a0), (1, vi (0 : Int32))]) hX dX12_tellLine_126 rfl (Nat.le_of_ble_eq_true rfl) rfl rfl ?_
      refine r_jn (J := fun (v49 : Mem) (P : Option Res) => Ref mX12_tellLine X 0 0 Z v49 196 [(0, vr a0)] [] P) (fun v49 => ?_) (fun K1 hj47 => ?_)
      · refine r_iconst (v := (0 : Int32)) (q := 197) hX dX12_tellLine_196 rfl rfl ?_
        refine r_istore_n (x := (0 : Int32)) (q := 198) 1 [1, 0] (L1 := [(0, vr a0), (1, vi (0 : Int32))]) hX dX12_tellLine_197 rfl (Nat.le_of_ble_eq_true rfl) rfl rfl ?_
        refine r_jn (J := fun (v71 : Mem) (P : Option Res) => Ref mX12_tellLine X 0 0 Z v71 269 [(0, vr a0)] [] P) (fun v71 => ?_) (fun K1 hj69 => ?_)
        · refine r_iconst (v := (0 : Int32)) (q := 270) hX dX12_tellLine_269 rfl rfl ?_
          refine r_istore_n (x := (0 : Int32)) (q := 271) 1 [1, 0] (L1 := [(0, vr a0), (1, vi (0 : Int32))]) hX dX12_tellLine_270 rfl (Nat.le_of_ble_eq_true rfl) rfl rfl ?_
          refine r_loop (Hd := fun (s96 : Int32 × Mem) (P : Option Res) => Ref mX12_tellLine X 0 0 Z s96.2 271 [(0, vr a0), (1, vi s96.1)] [] P) (fun _ => r_none) (fun s96 K1 hn97 hx98 => ?_) ((0 : Int32), v71)
          refine r_iload_n (i := 1) (x := s96.1) (q := 272) 1 hX dX12_tellLine_271 rfl rfl rfl ?_
          refine r_iconst (v := (5 : Int32)) (q := 273) hX dX12_tellLine_272 rfl rfl ?_
          refine r_icmp_ge (tgt := 291) (q := 276) hX dX12_tellLine_273 (by decide) rfl (fun hb99 => ?_) (fun hb99 => ?_)
          · refine r_lf ((hx98 _).trans (hK _)) ?_
            exact r_vret hM rfl (Nat.le_of_ble_eq_true rfl) (Nat.le_of_ble_eq_true rfl) dX12_tellLine_291
          · refine r_aload_n (i := 0) (x := a0) (q := 277) 0 hX dX12_tellLine_276 rfl rfl rfl ?_
            refine r_aload_n (i := 0) (x := a0) (q := 278) 0 hX dX12_tellLine_277 rfl rfl rfl ?_
            refine r_iload_n (i := 1) (x := s96.1) (q := 279) 1 hX dX12_tellLine_278 rfl rfl rfl ?_
            refine r_bind (fun v100 h101 => ?_)
            refine r_cv (a := a0) (As := [vi s96.1]) (st := [vr a0]) (r := (some (vj v100))) (Z1 := Z) (M1 := s96.2) (k1 := 0) (n1 := 0) (st1 := [vj v100, vr a0]) (q := 282) hX (fun l => kX12_sumOf l Z s96.2 a0 s96.1 v100 h101) hc1 ivX12_sumOf ccX12_sumOf (Or.inl lkX12_315) rfl rfl rfl ⟨Nat.le_of_ble_eq_true rfl, Nat.le_of_ble_eq_true rfl, rfl, rfl, Nat.le_of_ble_eq_true rfl, Nat.le_of_ble_eq_true rfl⟩ (Nat.le_of_ble_eq_true rfl) dX12_tellLine_279 rfl ?_
            refine r_bind (fun v102 h103 => ?_)
            refine r_cv (a := a0) (As := [vj v100]) (st := []) (r := none) (Z1 := Z) (M1 := v102) (k1 := 0) (n1 := 0) (st1 := []) (q := 285) hX (fun l => kX12_tell l Z s96.2 a0 v100 v102 h103) hc1 ivX12_tell ccX12_tell (Or.inl lkX12_483) rfl rfl rfl ⟨Nat.le_of_ble_eq_true rfl, Nat.le_of_ble_eq_true rfl, rfl, rfl, Nat.le_of_ble_eq_true rfl, Nat.le_of_ble_eq_true rfl⟩ (Nat.le_of_ble_eq_true rfl) dX12_tellLine_282 rfl ?_
            refine r_iinc (x := s96.1) (v := (s96.1 + (1 : Int32))) (q := 288) 1 1 [1, 0] (L1 := [(0, vr a0), (1, vi (s96.1 + (1 : Int32)))]) hX dX12_tellLine_285 rfl rfl (Nat.le_of_ble_eq_true rfl) rfl rfl ?_
            refine r_goto (q := 271) hX dX12_tellLine_288 (by decide) ?_
            refine r_l0 ?_
            exact hn97 ((s96.1 + (1 : Int32)), v102)
        · refine r_loop (Hd := fun (s72 : Int32 × Mem) (P : Option Res) => Ref mX12_tellLine X 0 0 Z s72.2 198 [(0, vr a0), (1, vi s72.1)] [] P) (fun _ => r_none) (fun s72 K1 hn73 hx74 => ?_) ((0 : Int32), v49)
          refine r_iload_n (i := 1) (x := s72.1) (q := 199) 1 hX dX12_tellLine_198 rfl rfl rfl ?_
          refine r_aload_n (i := 0) (x := a0) (q := 200) 0 hX dX12_tellLine_199 rfl rfl rfl ?_
          refine r_getI (a := a0) (ci := 12) (kf := 21) (q := 203) hX hc1 flX12_215 rfl rfl dX12_tellLine_200 rfl ?_
          refine r_icmp_ge (tgt := 269) (q := 206) hX dX12_tellLine_203 (by decide) rfl (fun hb75 => ?_) (fun hb75 => ?_)
          · refine r_lf (hx74 _) ?_
            refine r_sub [0] rfl ?_
            exact hj69 s72.2
          · refine r_iconst (v := (0 : Int32)) (q := 207) hX dX12_tellLine_206 rfl rfl ?_
            refine r_istore_n (x := (0 : Int32)) (q := 208) 2 [1, 2, 0] (L1 := [(0, vr a0), (1, vi s72.1), (2, vi (0 : Int32))]) hX dX12_tellLine_207 rfl (Nat.le_of_ble_eq_true rfl) rfl rfl ?_
            refine r_jn (J := fun (v78 : Mem) (P : Option Res) => Ref mX12_tellLine X 0 0 Z v78 230 [(0, vr a0), (1, vi s72.1)] [] P) (fun v78 => ?_) (fun K1 hj76 => ?_)
            · refine r_aload_n (i := 0) (x := a0) (q := 231) 0 hX dX12_tellLine_230 rfl rfl rfl ?_
              refine r_aload_n (i := 0) (x := a0) (q := 232) 0 hX dX12_tellLine_231 rfl rfl rfl ?_
              refine r_getR (a := a0) (ci := 12) (kf := 24) (q := 235) hX hc1 flX12_62 rfl dX12_tellLine_232 rfl ?_
              refine r_iload_n (i := 1) (x := s72.1) (q := 236) 1 hX dX12_tellLine_235 rfl rfl rfl ?_
              refine r_ck (fun hc87 => ?_)
              refine r_iald (a := (rR v78 a0 24)) (i := s72.1) (q := 237) hX hc87 dX12_tellLine_236 rfl ?_
              refine r_i2l (q := 238) hX dX12_tellLine_237 rfl ?_
              refine r_bind (fun v88 h89 => ?_)
              refine r_cv (a := a0) (As := [vj ((rI v78 (rR v78 a0 24) (ix s72.1)).toInt64)]) (st := []) (r := none) (Z1 := Z) (M1 := v88) (k1 := 0) (n1 := 0) (st1 := []) (q := 241) hX (fun l => kX12_tell l Z v78 a0 ((rI v78 (rR v78 a0 24) (ix s72.1)).toInt64) v88 h89) hc1 ivX12_tell ccX12_tell (Or.inl lkX12_483) rfl rfl rfl ⟨Nat.le_of_ble_eq_true rfl, Nat.le_of_ble_eq_true rfl, rfl, rfl, Nat.le_of_ble_eq_true rfl, Nat.le_of_ble_eq_true rfl⟩ (Nat.le_of_ble_eq_true rfl) dX12_tellLine_238 rfl ?_
              refine r_aload_n (i := 0) (x := a0) (q := 242) 0 hX dX12_tellLine_241 rfl rfl rfl ?_
              refine r_aload_n (i := 0) (x := a0) (q := 243) 0 hX dX12_tellLine_242 rfl rfl rfl ?_
              refine r_getR (a := a0) (ci := 12) (kf := 26) (q := 246) hX hc1 flX12_68 rfl dX12_tellLine_243 rfl ?_
              refine r_iload_n (i := 1) (x := s72.1) (q := 247) 1 hX dX12_tellLine_246 rfl rfl rfl ?_
              refine r_ck (fun hc90 => ?_)
              refine r_iald (a := (rR v88 a0 26)) (i := s72.1) (q := 248) hX hc90 dX12_tellLine_247 rfl ?_
              refine r_i2l (q := 249) hX dX12_tellLine_248 rfl ?_
              refine r_bind (fun v91 h92 => ?_)
              refine r_cv (a := a0) (As := [vj ((rI v88 (rR v88 a0 26) (ix s72.1)).toInt64)]) (st := []) (r := none) (Z1 := Z) (M1 := v91) (k1 := 0) (n1 := 0) (st1 := []) (q := 252) hX (fun l => kX12_tell l Z v88 a0 ((rI v88 (rR v88 a0 26) (ix s72.1)).toInt64) v91 h92) hc1 ivX12_tell ccX12_tell (Or.inl lkX12_483) rfl rfl rfl ⟨Nat.le_of_ble_eq_true rfl, Nat.le_of_ble_eq_true rfl, rfl, rfl, Nat.le_of_ble_eq_true rfl, Nat.le_of_ble_eq_true rfl⟩ (Nat.le_of_ble_eq_true rfl) dX12_tellLine_249 rfl ?_
              refine r_aload_n (i := 0) (x := a0) (q := 253) 0 hX dX12_tellLine_252 rfl rfl rfl ?_
              refine r_aload_n (i := 0) (x := a0) (q := 254) 0 hX dX12_tellLine_253 rfl rfl rfl ?_
              refine r_getR (a := a0) (ci := 12) (kf := 27) (q := 257) hX hc1 flX12_71 rfl dX12_tellLine_254 rfl ?_
              refine r_iload_n (i := 1) (x := s72.1) (q := 258) 1 hX dX12_tellLine_257 rfl rfl rfl ?_
              refine r_ck (fun hc93 => ?_)
              refine r_iald (a := (rR v91 a0 27)) (i := s72.1) (q := 259) hX hc93 dX12_tellLine_258 rfl ?_
              refine r_i2l (q := 260) hX dX12_tellLine_259 rfl ?_
              refine r_bind (fun v94 h95 => ?_)
              refine r_cv (a := a0) (As := [vj ((rI v91 (rR v91 a0 27) (ix s72.1)).toInt64)]) (st := []) (r := none) (Z1 := Z) (M1 := v94) (k1 := 0) (n1 := 0) (st1 := []) (q := 263) hX (fun l => kX12_tell l Z v91 a0 ((rI v91 (rR v91 a0 27) (ix s72.1)).toInt64) v94 h95) hc1 ivX12_tell ccX12_tell (Or.inl lkX12_483) rfl rfl rfl ⟨Nat.le_of_ble_eq_true rfl, Nat.le_of_ble_eq_true rfl, rfl, rfl, Nat.le_of_ble_eq_true rfl, Nat.le_of_ble_eq_true rfl⟩ (Nat.le_of_ble_eq_true rfl) dX12_tellLine_260 rfl ?_
              refine r_iinc (x := s72.1) (v := (s72.1 + (1 : Int32))) (q := 266) 1 1 [1, 0] (L1 := [(0, vr a0), (1, vi (s72.1 + (1 : Int32)))]) hX dX12_tellLine_263 rfl rfl (Nat.le_of_ble_eq_true rfl) rfl rfl ?_
              refine r_goto (q := 198) hX dX12_tellLine_266 (by decide) ?_
              refine r_l0 ?_
              exact hn73 ((s72.1 + (1 : Int32)), v94)
            · refine r_loop (Hd := fun (s79 : Int32 × Mem) (P : Option Res) => Ref mX12_tellLine X 0 0 Z s79.2 208 [(0, vr a0), (1, vi s72.1), (2, vi s79.1)] [] P) (fun _ => r_none) (fun s79 K1 hn80 hx81 => ?_) ((0 : Int32), s72.2)
              refine r_iload_n (i := 2) (x := s79.1) (q := 209) 2 hX dX12_tellLine_208 rfl rfl rfl ?_
              refine r_iconst (v := (5 : Int32)) (q := 210) hX dX12_tellLine_209 rfl rfl ?_
              refine r_icmp_ge (tgt := 230) (q := 213) hX dX12_tellLine_210 (by decide) rfl (fun hb82 => ?_) (fun hb82 => ?_)
              · refine r_lf (hx81 _) ?_
                refine r_sub [0, 1] rfl ?_
                exact hj76 s79.2
              · refine r_aload_n (i := 0) (x := a0) (q := 214) 0 hX dX12_tellLine_213 rfl rfl rfl ?_
                refine r_aload_n (i := 0) (x := a0) (q := 215) 0 hX dX12_tellLine_214 rfl rfl rfl ?_
                refine r_iload_n (i := 1) (x := s72.1) (q := 216) 1 hX dX12_tellLine_215 rfl rfl rfl ?_
                refine r_iload_n (i := 2) (x := s79.1) (q := 217) 2 hX dX12_tellLine_216 rfl rfl rfl ?_
                refine r_bind (fun v83 h84 => ?_)
                refine r_cv (a := a0) (As := [vi s72.1, vi s79.1]) (st := [vr a0]) (r := (some (vi v83))) (Z1 := Z) (M1 := s79.2) (k1 := 0) (n1 := 0) (st1 := [vi v83, vr a0]) (q := 220) hX (fun l => kX12_atOf l Z s79.2 a0 s72.1 s79.1 v83 h84) hc1 ivX12_atOf ccX12_atOf (Or.inl lkX12_264) rfl rfl rfl ⟨Nat.le_of_ble_eq_true rfl, Nat.le_of_ble_eq_true rfl, rfl, rfl, Nat.le_of_ble_eq_true rfl, Nat.le_of_ble_eq_true rfl⟩ (Nat.le_of_ble_eq_true rfl) dX12_tellLine_217 rfl ?_
                refine r_i2l (q := 221) hX dX12_tellLine_220 rfl ?_
                refine r_bind (fun v85 h86 => ?_)
                refine r_cv (a := a0) (As := [vj (v83.toInt64)]) (st := []) (r := none) (Z1 := Z) (M1 := v85) (k1 := 0) (n1 := 0) (st1 := []) (q := 224) hX (fun l => kX12_tell l Z s79.2 a0 (v83.toInt64) v85 h86) hc1 ivX12_tell ccX12_tell (Or.inl lkX12_483) rfl rfl rfl ⟨Nat.le_of_ble_eq_true rfl, Nat.le_of_ble_eq_true rfl, rfl, rfl, Nat.le_of_ble_eq_true rfl, Nat.le_of_ble_eq_true rfl⟩ (Nat.le_of_ble_eq_true rfl) dX12_tellLine_221 rfl ?_
                refine r_iinc (x := s79.1) (v := (s79.1 + (1 : Int32))) (q := 227) 2 2 [1, 2, 0] (L1 := [(0, vr a0), (1, vi s72.1), (2, vi (s79.1 + (1 : Int32)))]) hX dX12_tellLine_224 rfl rfl (Nat.le_of_ble_eq_true rfl) rfl rfl ?_
                refine r_goto (q := 208) hX dX12_tellLine_227 (by decide) ?_
                refine r_l0 ?_
                exact hn80 ((s79.1 + (1 : Int32)), v85)
      · refine r_loop (Hd := fun (s50 : Int32 × Mem) (P : Option Res) => Ref mX12_tellLine X 0 0 Z s50.2 127 [(0, vr a0), (1, vi s50.1)] [] P) (fun _ => r_none) (fun s50 K1 hn51 hx52 => ?_) ((0 : Int32), v21)
        refine r_iload_n (i := 1) (x := s50.1) (q := 128) 1 hX dX12_tellLine_127 rfl rfl rfl ?_
        refine r_aload_n (i := 0) (x := a0) (q := 129) 0 hX dX12_tellLine_128 rfl rfl rfl ?_
        refine r_getI (a := a0) (ci := 12) (kf := 15) (q := 132) hX hc1 flX12_230 rfl rfl dX12_tellLine_129 rfl ?_
        refine r_icmp_ge (tgt := 196) (q := 135) hX dX12_tellLine_132 (by decide) rfl (fun hb53 => ?_) (fun hb53 => ?_)
        · refine r_lf (hx52 _) ?_
          refine r_sub [0] rfl ?_
          exact hj47 s50.2
        · refine r_aload_n (i := 0) (x := a0) (q := 136) 0 hX dX12_tellLine_135 rfl rfl rfl ?_
          refine r_aload_n (i := 0) (x := a0) (q := 137) 0 hX dX12_tellLine_136 rfl rfl rfl ?_
          refine r_getR (a := a0) (ci := 12) (kf := 16) (q := 140) hX hc1 flX12_41 rfl dX12_tellLine_137 rfl ?_
          refine r_iload_n (i := 1) (x := s50.1) (q := 141) 1 hX dX12_tellLine_140 rfl rfl rfl ?_
          refine r_ck (fun hc54 => ?_)
          refine r_iald (a := (rR s50.2 a0 16)) (i := s50.1) (q := 142) hX hc54 dX12_tellLine_141 rfl ?_
          refine r_i2l (q := 143) hX dX12_tellLine_142 rfl ?_
          refine r_bind (fun v55 h56 => ?_)
          refine r_cv (a := a0) (As := [vj ((rI s50.2 (rR s50.2 a0 16) (ix s50.1)).toInt64)]) (st := []) (r := none) (Z1 := Z) (M1 := v55) (k1 := 0) (n1 := 0) (st1 := []) (q := 146) hX (fun l => kX12_tell l Z s50.2 a0 ((rI s50.2 (rR s50.2 a0 16) (ix s50.1)).toInt64) v55 h56) hc1 ivX12_tell ccX12_tell (Or.inl lkX12_483) rfl rfl rfl ⟨Nat.le_of_ble_eq_true rfl, Nat.le_of_ble_eq_true rfl, rfl, rfl, Nat.le_of_ble_eq_true rfl, Nat.le_of_ble_eq_true rfl⟩ (Nat.le_of_ble_eq_true rfl) dX12_tellLine_143 rfl ?_
          refine r_aload_n (i := 0) (x := a0) (q := 147) 0 hX dX12_tellLine_146 rfl rfl rfl ?_
          refine r_aload_n (i := 0) (x := a0) (q := 148) 0 hX dX12_tellLine_147 rfl rfl rfl ?_
          refine r_getR (a := a0) (ci := 12) (kf := 17) (q := 151) hX hc1 flX12_44 rfl dX12_tellLine_148 rfl ?_
          refine r_iload_n (i := 1) (x := s50.1) (q := 152) 1 hX dX12_tellLine_151 rfl rfl rfl ?_
          refine r_ck (fun hc57 => ?_)
          refine r_iald (a := (rR v55 a0 17)) (i := s50.1) (q := 153) hX hc57 dX12_tellLine_152 rfl ?_
          refine r_i2l (q := 154) hX dX12_tellLine_153 rfl ?_
          refine r_bind (fun v58 h59 => ?_)
          refine r_cv (a := a0) (As := [vj ((rI v55 (rR v55 a0 17) (ix s50.1)).toInt64)]) (st := []) (r := none) (Z1 := Z) (M1 := v58) (k1 := 0) (n1 := 0) (st1 := []) (q := 157) hX (fun l => kX12_tell l Z v55 a0 ((rI v55 (rR v55 a0 17) (ix s50.1)).toInt64) v58 h59) hc1 ivX12_tell ccX12_tell (Or.inl lkX12_483) rfl rfl rfl ⟨Nat.le_of_ble_eq_true rfl, Nat.le_of_ble_eq_true rfl, rfl, rfl, Nat.le_of_ble_eq_true rfl, Nat.le_of_ble_eq_true rfl⟩ (Nat.le_of_ble_eq_true rfl) dX12_tellLine_154 rfl ?_
          refine r_aload_n (i := 0) (x := a0) (q := 158) 0 hX dX12_tellLine_157 rfl rfl rfl ?_
          refine r_aload_n (i := 0) (x := a0) (q := 159) 0 hX dX12_tellLine_158 rfl rfl rfl ?_
          refine r_getR (a := a0) (ci := 12) (kf := 18) (q := 162) hX hc1 flX12_47 rfl dX12_tellLine_159 rfl ?_
          refine r_iload_n (i := 1) (x := s50.1) (q := 163) 1 hX dX12_tellLine_162 rfl rfl rfl ?_
          refine r_ck (fun hc60 => ?_)
          refine r_iald (a := (rR v58 a0 18)) (i := s50.1) (q := 164) hX hc60 dX12_tellLine_163 rfl ?_
          refine r_i2l (q := 165) hX dX12_tellLine_164 rfl ?_
          refine r_bind (fun v61 h62 => ?_)
          refine r_cv (a := a0) (As := [vj ((rI v58 (rR v58 a0 18) (ix s50.1)).toInt64)]) (st := []) (r := none) (Z1 := Z) (M1 := v61) (k1 := 0) (n1 := 0) (st1 := []) (q := 168) hX (fun l => kX12_tell l Z v58 a0 ((rI v58 (rR v58 a0 18) (ix s50.1)).toInt64) v61 h62) hc1 ivX12_tell ccX12_tell (Or.inl lkX12_483) rfl rfl rfl ⟨Nat.le_of_ble_eq_true rfl, Nat.le_of_ble_eq_true rfl, rfl, rfl, Nat.le_of_ble_eq_true rfl, Nat.le_of_ble_eq_true rfl⟩ (Nat.le_of_ble_eq_true rfl) dX12_tellLine_165 rfl ?_
          refine r_aload_n (i := 0) (x := a0) (q := 169) 0 hX dX12_tellLine_168 rfl rfl rfl ?_
          refine r_aload_n (i := 0) (x := a0) (q := 170) 0 hX dX12_tellLine_169 rfl rfl rfl ?_
          refine r_getR (a := a0) (ci := 12) (kf := 19) (q := 173) hX hc1 flX12_50 rfl dX12_tellLine_170 rfl ?_
          refine r_iload_n (i := 1) (x := s50.1) (q := 174) 1 hX dX12_tellLine_173 rfl rfl rfl ?_
          refine r_ck (fun hc63 => ?_)
          refine r_iald (a := (rR v61 a0 19)) (i := s50.1) (q := 175) hX hc63 dX12_tellLine_174 rfl ?_
          refine r_i2l (q := 176) hX dX12_tellLine_175 rfl ?_
          refine r_bind (fun v64 h65 => ?_)
          refine r_cv (a := a0) (As := [vj ((rI v61 (rR v61 a0 19) (ix s50.1)).toInt64)]) (st := []) (r := none) (Z1 := Z) (M1 := v64) (k1 := 0) (n1 := 0) (st1 := []) (q := 179) hX (fun l => kX12_tell l Z v61 a0 ((rI v61 (rR v61 a0 19) (ix s50.1)).toInt64) v64 h65) hc1 ivX12_tell ccX12_tell (Or.inl lkX12_483) rfl rfl rfl ⟨Nat.le_of_ble_eq_true rfl, Nat.le_of_ble_eq_true rfl, rfl, rfl, Nat.le_of_ble_eq_true rfl, Nat.le_of_ble_eq_true rfl⟩ (Nat.le_of_ble_eq_true rfl) dX12_tellLine_176 rfl ?_
          refine r_aload_n (i := 0) (x := a0) (q := 180) 0 hX dX12_tellLine_179 rfl rfl rfl ?_
          refine r_aload_n (i := 0) (x := a0) (q := 181) 0 hX dX12_tellLine_180 rfl rfl rfl ?_
          refine r_getR (a := a0) (ci := 12) (kf := 20) (q := 184) hX hc1 flX12_53 rfl dX12_tellLine_181 rfl ?_
          refine r_iload_n (i := 1) (x := s50.1) (q := 185) 1 hX dX12_tellLine_184 rfl rfl rfl ?_
          refine r_ck (fun hc66 => ?_)
          refine r_iald (a := (rR v64 a0 20)) (i := s50.1) (q := 186) hX hc66 dX12_tellLine_185 rfl ?_
          refine r_i2l (q := 187) hX dX12_tellLine_186 rfl ?_
          refine r_bind (fun v67 h68 => ?_)
          refine r_cv (a := a0) (As := [vj ((rI v64 (rR v64 a0 20) (ix s50.1)).toInt64)]) (st := []) (r := none) (Z1 := Z) (M1 := v67) (k1 := 0) (n1 := 0) (st1 := []) (q := 190) hX (fun l => kX12_tell l Z v64 a0 ((rI v64 (rR v64 a0 20) (ix s50.1)).toInt64) v67 h68) hc1 ivX12_tell ccX12_tell (Or.inl lkX12_483) rfl rfl rfl ⟨Nat.le_of_ble_eq_true rfl, Nat.le_of_ble_eq_true rfl, rfl, rfl, Nat.le_of_ble_eq_true rfl, Nat.le_of_ble_eq_true rfl⟩ (Nat.le_of_ble_eq_true rfl) dX12_tellLine_187 rfl ?_
          refine r_iinc (x := s50.1) (v := (s50.1 + (1 : Int32))) (q := 193) 1 1 [1, 0] (L1 := [(0, vr a0), (1, vi (s50.1 + (1 : Int32)))]) hX dX12_tellLine_190 rfl rfl (Nat.le_of_ble_eq_true rfl) rfl rfl ?_
          refine r_goto (q := 127) hX dX12_tellLine_193 (by decide) ?_
          refine r_l0 ?_
          exact hn51 ((s50.1 + (1 : Int32)), v67)
    · refine r_loop (Hd := fun (s22 : Int32 × Mem) (P : Option Res) => Ref mX12_tellLine X 0 0 Z s22.2 49 [(0, vr a0), (1, vi s22.1)] [] P) (fun _ => r_none) (fun s22 K1 hn23 hx24 => ?_) ((0 : Int32), v6)
      refine r_iload_n (i := 1) (x := s22.1) (q := 50) 1 hX dX12_tellLine_49 rfl rfl rfl ?_
      refine r_bipush (v := (7 : Int32)) (q := 52) hX dX12_tellLine_50 rfl rfl ?_
      refine r_icmp_ge (tgt := 125) (q := 55) hX dX12_tellLine_52 (by decide) rfl (fun hb25 => ?_) (fun hb25 => ?_)
      · refine r_lf (hx24 _) ?_
        refine r_sub [0] rfl ?_
        exact hj19 s22.2
      · refine r_aload_n (i := 0) (x := a0) (q := 56) 0 hX dX12_tellLine_55 rfl rfl rfl ?_
        refine r_aload_n (i := 0) (x := a0) (q := 57) 0 hX dX12_tellLine_56 rfl rfl rfl ?_
        refine r_getR (a := a0) (ci := 12) (kf := 4) (q := 60) hX hc1 flX12_19 rfl dX12_tellLine_57 rfl ?_
        refine r_iload_n (i := 1) (x := s22.1) (q := 61) 1 hX dX12_tellLine_60 rfl rfl rfl ?_
        refine r_ck (fun hc26 => ?_)
        refine r_iald (a := (rR s22.2 a0 4)) (i := s22.1) (q := 62) hX hc26 dX12_tellLine_61 rfl ?_
        refine r_i2l (q := 63) hX dX12_tellLine_62 rfl ?_
        refine r_bind (fun v27 h28 => ?_)
        refine r_cv (a := a0) (As := [vj ((rI s22.2 (rR s22.2 a0 4) (ix s22.1)).toInt64)]) (st := []) (r := none) (Z1 := Z) (M1 := v27) (k1 := 0) (n1 := 0) (st1 := []) (q := 66) hX (fun l => kX12_tell l Z s22.2 a0 ((rI s22.2 (rR s22.2 a0 4) (ix s22.1)).toInt64) v27 h28) hc1 ivX12_tell ccX12_tell (Or.inl lkX12_483) rfl rfl rfl ⟨Nat.le_of_ble_eq_true rfl, Nat.le_of_ble_eq_true rfl, rfl, rfl, Nat.le_of_ble_eq_true rfl, Nat.le_of_ble_eq_true rfl⟩ (Nat.le_of_ble_eq_true rfl) dX12_tellLine_63 rfl ?_
        refine r_aload_n (i := 0) (x := a0) (q := 67) 0 hX dX12_tellLine_66 rfl rfl rfl ?_
        refine r_aload_n (i := 0) (x := a0) (q := 68) 0 hX dX12_tellLine_67 rfl rfl rfl ?_
        refine r_getR (a := a0) (ci := 12) (kf := 5) (q := 71) hX hc1 flX12_22 rfl dX12_tellLine_68 rfl ?_
        refine r_iload_n (i := 1) (x := s22.1) (q := 72) 1 hX dX12_tellLine_71 rfl rfl rfl ?_
        refine r_ck (fun hc29 => ?_)
        refine r_zald (a := (rR v27 a0 5)) (i := s22.1) (q := 73) hX hc29 dX12_tellLine_72 rfl ?_
        refine r_jn (J := fun (v33 : Int64) (P : Option Res) => Ref mX12_tellLine X 0 0 Z v27 81 [(0, vr a0), (1, vi s22.1)] [vj v33, vr a0] P) (fun v33 => ?_) (fun K1 hj31 => ?_)
        · refine r_bind (fun v34 h35 => ?_)
          refine r_cv (a := a0) (As := [vj v33]) (st := []) (r := none) (Z1 := Z) (M1 := v34) (k1 := 0) (n1 := 0) (st1 := []) (q := 84) hX (fun l => kX12_tell l Z v27 a0 v33 v34 h35) hc1 ivX12_tell ccX12_tell (Or.inl lkX12_483) rfl rfl rfl ⟨Nat.le_of_ble_eq_true rfl, Nat.le_of_ble_eq_true rfl, rfl, rfl, Nat.le_of_ble_eq_true rfl, Nat.le_of_ble_eq_true rfl⟩ (Nat.le_of_ble_eq_true rfl) dX12_tellLine_81 rfl ?_
          refine r_aload_n (i := 0) (x := a0) (q := 85) 0 hX dX12_tellLine_84 rfl rfl rfl ?_
          refine r_aload_n (i := 0) (x := a0) (q := 86) 0 hX dX12_tellLine_85 rfl rfl rfl ?_
          refine r_getR (a := a0) (ci := 12) (kf := 6) (q := 89) hX hc1 flX12_26 rfl dX12_tellLine_86 rfl ?_
          refine r_iload_n (i := 1) (x := s22.1) (q := 90) 1 hX dX12_tellLine_89 rfl rfl rfl ?_
          refine r_ck (fun hc36 => ?_)
          refine r_iald (a := (rR v34 a0 6)) (i := s22.1) (q := 91) hX hc36 dX12_tellLine_90 rfl ?_
          refine r_i2l (q := 92) hX dX12_tellLine_91 rfl ?_
          refine r_bind (fun v37 h38 => ?_)
          refine r_cv (a := a0) (As := [vj ((rI v34 (rR v34 a0 6) (ix s22.1)).toInt64)]) (st := []) (r := none) (Z1 := Z) (M1 := v37) (k1 := 0) (n1 := 0) (st1 := []) (q := 95) hX (fun l => kX12_tell l Z v34 a0 ((rI v34 (rR v34 a0 6) (ix s22.1)).toInt64) v37 h38) hc1 ivX12_tell ccX12_tell (Or.inl lkX12_483) rfl rfl rfl ⟨Nat.le_of_ble_eq_true rfl, Nat.le_of_ble_eq_true rfl, rfl, rfl, Nat.le_of_ble_eq_true rfl, Nat.le_of_ble_eq_true rfl⟩ (Nat.le_of_ble_eq_true rfl) dX12_tellLine_92 rfl ?_
          refine r_iconst (v := (0 : Int32)) (q := 96) hX dX12_tellLine_95 rfl rfl ?_
          refine r_istore_n (x := (0 : Int32)) (q := 97) 2 [1, 2, 0] (L1 := [(0, vr a0), (1, vi s22.1), (2, vi (0 : Int32))]) hX dX12_tellLine_96 rfl (Nat.le_of_ble_eq_true rfl) rfl rfl ?_
          refine r_loop (Hd := fun (s39 : Int32 × Mem) (P : Option Res) => Ref mX12_tellLine X 0 0 Z s39.2 97 [(0, vr a0), (1, vi s22.1), (2, vi s39.1)] [] P) (fun _ => r_none) (fun s39 K1 hn40 hx41 => ?_) ((0 : Int32), v37)
          refine r_iload_n (i := 2) (x := s39.1) (q := 98) 2 hX dX12_tellLine_97 rfl rfl rfl ?_
          refine r_iconst (v := (4 : Int32)) (q := 99) hX dX12_tellLine_98 rfl rfl ?_
          refine r_icmp_ge (tgt := 119) (q := 102) hX dX12_tellLine_99 (by decide) rfl (fun hb42 => ?_) (fun hb42 => ?_)
          · refine r_iinc (x := s22.1) (v := (s22.1 + (1 : Int32))) (q := 122) 1 1 [1, 0, 3] (L1 := [(0, vr a0), (1, vi (s22.1 + (1 : Int32))), (2, vi s39.1)]) hX dX12_tellLine_119 rfl rfl (Nat.le_of_ble_eq_true rfl) rfl rfl ?_
            refine r_goto (q := 49) hX dX12_tellLine_122 (by decide) ?_
            refine r_lf (hx41 _) ?_
            refine r_sub [0, 1] rfl ?_
            exact hn23 ((s22.1 + (1 : Int32)), s39.2)
          · refine r_aload_n (i := 0) (x := a0) (q := 103) 0 hX dX12_tellLine_102 rfl rfl rfl ?_
            refine r_aload_n (i := 0) (x := a0) (q := 104) 0 hX dX12_tellLine_103 rfl rfl rfl ?_
            refine r_iload_n (i := 1) (x := s22.1) (q := 105) 1 hX dX12_tellLine_104 rfl rfl rfl ?_
            refine r_iload_n (i := 2) (x := s39.1) (q := 106) 2 hX dX12_tellLine_105 rfl rfl rfl ?_
            refine r_bind (fun v43 h44 => ?_)
            refine r_cv (a := a0) (As := [vi s22.1, vi s39.1]) (st := [vr a0]) (r := (some (vi v43))) (Z1 := Z) (M1 := s39.2) (k1 := 0) (n1 := 0) (st1 := [vi v43, vr a0]) (q := 109) hX (fun l => kX12_lockOf l Z s39.2 a0 s22.1 s39.1 v43 h44) hc1 ivX12_lockOf ccX12_lockOf (Or.inl lkX12_310) rfl rfl rfl ⟨Nat.le_of_ble_eq_true rfl, Nat.le_of_ble_eq_true rfl, rfl, rfl, Nat.le_of_ble_eq_true rfl, Nat.le_of_ble_eq_true rfl⟩ (Nat.le_of_ble_eq_true rfl) dX12_tellLine_106 rfl ?_
            refine r_i2l (q := 110) hX dX12_tellLine_109 rfl ?_
            refine r_bind (fun v45 h46 => ?_)
            refine r_cv (a := a0) (As := [vj (v43.toInt64)]) (st := []) (r := none) (Z1 := Z) (M1 := v45) (k1 := 0) (n1 := 0) (st1 := []) (q := 113) hX (fun l => kX12_tell l Z s39.2 a0 (v43.toInt64) v45 h46) hc1 ivX12_tell ccX12_tell (Or.inl lkX12_483) rfl rfl rfl ⟨Nat.le_of_ble_eq_true rfl, Nat.le_of_ble_eq_true rfl, rfl, rfl, Nat.le_of_ble_eq_true rfl, Nat.le_of_ble_eq_true rfl⟩ (Nat.le_of_ble_eq_true rfl) dX12_tellLine_110 rfl ?_
            refine r_iinc (x := s39.1) (v := (s39.1 + (1 : Int32))) (q := 116) 2 2 [1, 2, 0] (L1 := [(0, vr a0), (1, vi s22.1), (2, vi (s39.1 + (1 : Int32)))]) hX dX12_tellLine_113 rfl rfl (Nat.le_of_ble_eq_true rfl) rfl rfl ?_
            refine r_goto (q := 97) hX dX12_tellLine_116 (by decide) ?_
            refine r_l0 ?_
            exact hn40 ((s39.1 + (1 : Int32)), v45)
        · refine r_if_eq (tgt := 80) (q := 76) hX dX12_tellLine_73 (by decide) rfl (fun hb30 => ?_) (fun hb30 => ?_)
          · refine r_lconst (v := (0 : Int64)) (q := 81) hX dX12_tellLine_80 rfl rfl ?_
            refine r_l0 ?_
            exact hj31 (0 : Int64)
          · refine r_lconst (v := (1 : Int64)) (q := 77) hX dX12_tellLine_76 rfl rfl ?_
            refine r_goto (q := 81) hX dX12_tellLine_77 (by decide) ?_
            refine r_l0 ?_
            exact hj31 (1 : Int64)
  · refine r_loop (Hd := fun (s7 : Int32 × Mem) (P : Option Res) => Ref mX12_tellLine X 0 0 Z s7.2 11 [(0, vr a0), (1, vi s7.1)] [] P) (fun _ => r_none) (fun s7 K1 hn8 hx9 => ?_) ((0 : Int32), v2)
    refine r_iload_n (i := 1) (x := s7.1) (q := 12) 1 hX dX12_tellLine_11 rfl rfl rfl ?_
    refine r_bipush (v := (8 : Int32)) (q := 14) hX dX12_tellLine_12 rfl rfl ?_
    refine r_icmp_ge (tgt := 47) (q := 17) hX dX12_tellLine_14 (by decide) rfl (fun hb10 => ?_) (fun hb10 => ?_)
    · refine r_lf (hx9 _) ?_
      refine r_sub [0] rfl ?_
      exact hj4 s7.2
    · refine r_iconst (v := (0 : Int32)) (q := 18) hX dX12_tellLine_17 rfl rfl ?_
      refine r_istore_n (x := (0 : Int32)) (q := 19) 2 [1, 2, 0] (L1 := [(0, vr a0), (1, vi s7.1), (2, vi (0 : Int32))]) hX dX12_tellLine_18 rfl (Nat.le_of_ble_eq_true rfl) rfl rfl ?_
      refine r_loop (Hd := fun (s11 : Int32 × Mem) (P : Option Res) => Ref mX12_tellLine X 0 0 Z s11.2 19 [(0, vr a0), (1, vi s7.1), (2, vi s11.1)] [] P) (fun _ => r_none) (fun s11 K1 hn12 hx13 => ?_) ((0 : Int32), s7.2)
      refine r_iload_n (i := 2) (x := s11.1) (q := 20) 2 hX dX12_tellLine_19 rfl rfl rfl ?_
      refine r_iconst (v := (3 : Int32)) (q := 21) hX dX12_tellLine_20 rfl rfl ?_
      refine r_icmp_ge (tgt := 41) (q := 24) hX dX12_tellLine_21 (by decide) rfl (fun hb14 => ?_) (fun hb14 => ?_)
      · refine r_iinc (x := s7.1) (v := (s7.1 + (1 : Int32))) (q := 44) 1 1 [1, 0, 3] (L1 := [(0, vr a0), (1, vi (s7.1 + (1 : Int32))), (2, vi s11.1)]) hX dX12_tellLine_41 rfl rfl (Nat.le_of_ble_eq_true rfl) rfl rfl ?_
        refine r_goto (q := 11) hX dX12_tellLine_44 (by decide) ?_
        refine r_lf (hx13 _) ?_
        refine r_sub [0, 1] rfl ?_
        exact hn8 ((s7.1 + (1 : Int32)), s11.2)
      · refine r_aload_n (i := 0) (x := a0) (q := 25) 0 hX dX12_tellLine_24 rfl rfl rfl ?_
        refine r_aload_n (i := 0) (x := a0) (q := 26) 0 hX dX12_tellLine_25 rfl rfl rfl ?_
        refine r_iload_n (i := 1) (x := s7.1) (q := 27) 1 hX dX12_tellLine_26 rfl rfl rfl ?_
        refine r_iload_n (i := 2) (x := s11.1) (q := 28) 2 hX dX12_tellLine_27 rfl rfl rfl ?_
        refine r_bind (fun v15 h16 => ?_)
        refine r_cv (a := a0) (As := [vi s7.1, vi s11.1]) (st := [vr a0]) (r := (some (vi v15))) (Z1 := Z) (M1 := s11.2) (k1 := 0) (n1 := 0) (st1 := [vi v15, vr a0]) (q := 31) hX (fun l => kX12_nowOf l Z s11.2 a0 s7.1 s11.1 v15 h16) hc1 ivX12_nowOf ccX12_nowOf (Or.inl lkX12_206) rfl rfl rfl ⟨Nat.le_of_ble_eq_true rfl, Nat.le_of_ble_eq_true rfl, rfl, rfl, Nat.le_of_ble_eq_true rfl, Nat.le_of_ble_eq_true rfl⟩ (Nat.le_of_ble_eq_true rfl) dX12_tellLine_28 rfl ?_
        refine r_i2l (q := 32) hX dX12_tellLine_31 rfl ?_
        refine r_bind (fun v17 h18 => ?_)
        refine r_cv (a := a0) (As := [vj (v15.toInt64)]) (st := []) (r := none) (Z1 := Z) (M1 := v17) (k1 := 0) (n1 := 0) (st1 := []) (q := 35) hX (fun l => kX12_tell l Z s11.2 a0 (v15.toInt64) v17 h18) hc1 ivX12_tell ccX12_tell (Or.inl lkX12_483) rfl rfl rfl ⟨Nat.le_of_ble_eq_true rfl, Nat.le_of_ble_eq_true rfl, rfl, rfl, Nat.le_of_ble_eq_true rfl, Nat.le_of_ble_eq_true rfl⟩ (Nat.le_of_ble_eq_true rfl) dX12_tellLine_32 rfl ?_
        refine r_iinc (x := s11.1) (v := (s11.1 + (1 : Int32))) (q := 38) 2 2 [1, 2, 0] (L1 := [(0, vr a0), (1, vi s7.1), (2, vi (s11.1 + (1 : Int32)))]) hX dX12_tellLine_35 rfl rfl (Nat.le_of_ble_eq_true rfl) rfl rfl ?_
        refine r_goto (q := 19) hX dX12_tellLine_38 (by decide) ?_
        refine r_l0 ?_
        exact hn12 ((s11.1 + (1 : Int32)), v17)
theorem flX12_161 : FL RX12 161 12 74 := ⟨Nat.le_of_ble_eq_true rfl, Nat.le_of_ble_eq_true rfl, gd (hcw6_1 _ (List.mem_of_getElem? (i := 9) rfl)) rfl⟩
theorem flX12_173 : FL RX12 173 12 79 := ⟨Nat.le_of_ble_eq_true rfl, Nat.le_of_ble_eq_true rfl, gd (hcw6_1 _ (List.mem_of_getElem? (i := 14) rfl)) rfl⟩
theorem flX12_167 : FL RX12 167 12 77 := ⟨Nat.le_of_ble_eq_true rfl, Nat.le_of_ble_eq_true rfl, gd (hcw6_1 _ (List.mem_of_getElem? (i := 12) rfl)) rfl⟩
theorem flX12_170 : FL RX12 170 12 78 := ⟨Nat.le_of_ble_eq_true rfl, Nat.le_of_ble_eq_true rfl, gd (hcw6_1 _ (List.mem_of_getElem? (i := 13) rfl)) rfl⟩
theorem flX12_164 : FL RX12 164 12 76 := ⟨Nat.le_of_ble_eq_true rfl, Nat.le_of_ble_eq_true rfl, gd (hcw6_1 _ (List.mem_of_getElem? (i := 11) rfl)) rfl⟩
def mX12_hadOf : MD := (yX12_hadOf, cX12_hadOf, 5, (some .int), 0, 0, 0, 0)
theorem ccX12_hadOf : Cc mX12_hadOf 2 := ⟨gd (hcw1_0 _ (List.mem_of_getElem? (i := 10) rfl)) rfl, gd (hcw8_4 _ (List.mem_of_getElem? (i := 1) rfl)) rfl, by decide +kernel, by decide +kernel, by decide +kernel⟩
theorem ivX12_hadOf : Iv mX12_hadOf 12 := ⟨Nat.le_of_ble_eq_true rfl, rfl, gd (hcw8_4 _ (List.mem_of_getElem? (i := 0) rfl)) rfl, gd (hps5 _ (List.mem_of_getElem? (i := 7) rfl)) rfl⟩
noncomputable def fX12_hadOf (Z : Shp) (M : Mem) (a0 : Nat) (x1 : Int32) (x2 : Int32) : Option (Int32) := (if tg Z a0 = (13, 86) then (if aok Z (rR M a0 74) 100 x1 then (pu ((rI M (rR M a0 74) (ix x1))) (fun z3 => (loop (fun s4 : Int32 × Int32 => (if (rI M a0 75) ≤ s4.2 then some (Sum.inr s4.1) else (if aok Z (rR M a0 79) 100 s4.2 then (if x2 < (rI M (rR M a0 79) (ix s4.2)) then some (Sum.inl (s4.1, (s4.2 + (1 : Int32)))) else (if aok Z (rR M a0 77) 100 s4.2 then (if (rI M (rR M a0 77) (ix s4.2)) = x1 then (if aok Z (rR M a0 78) 100 s4.2 then (pu ((s4.1 + (rI M (rR M a0 78) (ix s4.2)))) (fun z13 => some (Sum.inl (z13, (s4.2 + (1 : Int32)))))) else none) else (if aok Z (rR M a0 76) 100 s4.2 then (if (rI M (rR M a0 76) (ix s4.2)) = x1 then (if aok Z (rR M a0 78) 100 s4.2 then (pu ((s4.1 + (-(rI M (rR M a0 78) (ix s4.2))))) (fun z17 => some (Sum.inl (z17, (s4.2 + (1 : Int32)))))) else none) else (pu ((s4.1 + (0 : Int32))) (fun z18 => some (Sum.inl (z18, (s4.2 + (1 : Int32))))))) else none)) else none)) else none))) (z3, (0 : Int32))))) else none) else none)
set_option maxRecDepth 20000 in
theorem kX12_hadOf (l : Launch) (Z : Shp) (M : Mem) (a0 : Nat) (x1 : Int32) (x2 : Int32) (r : Int32) (h : fX12_hadOf Z M a0 x1 x2 = some r) : Ct l mX12_hadOf [vr a0, vi x1, vi x2] Z M ((some (vi r)), Z, M) := by
  refine Ct.of rfl (Nat.le_of_ble_eq_true rfl) (fun X hM => ?_)
  have hX := hM.1
  refine r_top (mk := fun r => ((some (vi r)), Z, M)) h (fun K hK => ?_)
  unfold fX12_hadOf
  refine r_aload_n (i := 0) (x := a0) (q := 1) 0 hX dX12_hadOf_0 rfl rfl rfl ?_
  refine r_ck (fun hc1 => ?_)
  refine r_getR (a := a0) (ci := 12) (kf := 74) (q := 4) hX hc1 flX12_161 rfl dX12_hadOf_1 rfl ?_
  refine r_iload_n (i := 1) (x := x1) (q := 5) 1 hX dX12_hadOf_4 rfl rfl rfl ?_
  refine r_ck (fun hc2 => ?_)
  refine r_iald (a := (rR M a0 74)) (i := x1) (q := 6) hX hc2 dX12_hadOf_5 rfl ?_
  refine r_istore_nP (x := (rI M (rR M a0 74) (ix x1))) (q := 7) 3 [1, 2, 3, 0] (fun z3 => [(0, vr a0), (1, vi x1), (2, vi x2), (3, vi z3)]) hX dX12_hadOf_6 rfl (Nat.le_of_ble_eq_true rfl) (fun _ => rfl) rfl (fun z3 => ?_)
  refine r_iconst (v := (0 : Int32)) (q := 8) hX dX12_hadOf_7 rfl rfl ?_
  refine r_istore (x := (0 : Int32)) (q := 10) 4 [1, 2, 3, 4, 0] (L1 := [(0, vr a0), (1, vi x1), (2, vi x2), (3, vi z3), (4, vi (0 : Int32))]) hX dX12_hadOf_8 (Nat.le_of_ble_eq_true rfl) rfl rfl ?_
  refine r_loop (Hd := fun (s4 : Int32 × Int32) (P : Option Res) => Ref mX12_hadOf X 0 0 Z M 10 [(0, vr a0), (1, vi x1), (2, vi x2), (3, vi s4.1), (4, vi s4.2)] [] P) (fun _ => r_none) (fun s4 K1 hn5 hx6 => ?_) (z3, (0 : Int32))
  refine r_iload (i := 4) (x := s4.2) (q := 12) 4 hX dX12_hadOf_10 rfl rfl ?_
  refine r_aload_n (i := 0) (x := a0) (q := 13) 0 hX dX12_hadOf_12 rfl rfl rfl ?_
  refine r_getI (a := a0) (ci := 12) (kf := 75) (q := 16) hX hc1 flX12_463 rfl rfl dX12_hadOf_13 rfl ?_
  refine r_icmp_ge (tgt := 83) (q := 19) hX dX12_hadOf_16 (by decide) rfl (fun hb7 => ?_) (fun hb7 => ?_)
  · refine r_iload_n (i := 3) (x := s4.1) (q := 84) 3 hX dX12_hadOf_83 rfl rfl rfl ?_
    refine r_lf ((hx6 _).trans (hK _)) ?_
    exact r_iret hM rfl (Nat.le_of_ble_eq_true rfl) (Nat.le_of_ble_eq_true rfl) dX12_hadOf_84
  · refine r_aload_n (i := 0) (x := a0) (q := 20) 0 hX dX12_hadOf_19 rfl rfl rfl ?_
    refine r_getR (a := a0) (ci := 12) (kf := 79) (q := 23) hX hc1 flX12_173 rfl dX12_hadOf_20 rfl ?_
    refine r_iload (i := 4) (x := s4.2) (q := 25) 4 hX dX12_hadOf_23 rfl rfl ?_
    refine r_ck (fun hc8 => ?_)
    refine r_iald (a := (rR M a0 79)) (i := s4.2) (q := 26) hX hc8 dX12_hadOf_25 rfl ?_
    refine r_iload_n (i := 2) (x := x2) (q := 27) 2 hX dX12_hadOf_26 rfl rfl rfl ?_
    refine r_icmp_gt (tgt := 77) (q := 30) hX dX12_hadOf_27 (by decide) rfl (fun hb9 => ?_) (fun hb9 => ?_)
    · refine r_iinc (x := s4.2) (v := (s4.2 + (1 : Int32))) (q := 80) 4 4 [1, 2, 3, 4, 0] (L1 := [(0, vr a0), (1, vi x1), (2, vi x2), (3, vi s4.1), (4, vi (s4.2 + (1 : Int32)))]) hX dX12_hadOf_77 rfl rfl (Nat.le_of_ble_eq_true rfl) rfl rfl ?_
      refine r_goto (q := 10) hX dX12_hadOf_80 (by decide) ?_
      refine r_l0 ?_
      exact hn5 (s4.1, (s4.2 + (1 : Int32)))
    · refine r_iload_n (i := 3) (x := s4.1) (q := 31) 3 hX dX12_hadOf_30 rfl rfl rfl ?_
      refine r_aload_n (i := 0) (x := a0) (q := 32) 0 hX dX12_hadOf_31 rfl rfl rfl ?_
      refine r_getR (a := a0) (ci := 12) (kf := 77) (q := 35) hX hc1 flX12_167 rfl dX12_hadOf_32 rfl ?_
      refine r_iload (i := 4) (x := s4.2) (q := 37) 4 hX dX12_hadOf_35 rfl rfl ?_
      refine r_ck (fun hc10 => ?_)
      refine r_iald (a := (rR M a0 77)) (i := s4.2) (q := 38) hX hc10 dX12_hadOf_37 rfl ?_
      refine r_iload_n (i := 1) (x := x1) (q := 39) 1 hX dX12_hadOf_38 rfl rfl rfl ?_
      refine r_icmp_ne (tgt := 52) (q := 42) hX dX12_hadOf_39 (by decide) rfl (fun hb11 => ?_) (fun hb11 => ?_)
      · refine r_aload_n (i := 0) (x := a0) (q := 43) 0 hX dX12_hadOf_42 rfl rfl rfl ?_
        refine r_getR (a := a0) (ci := 12) (kf := 78) (q := 46) hX hc1 flX12_170 rfl dX12_hadOf_43 rfl ?_
        refine r_iload (i := 4) (x := s4.2) (q := 48) 4 hX dX12_hadOf_46 rfl rfl ?_
        refine r_ck (fun hc12 => ?_)
        refine r_iald (a := (rR M a0 78)) (i := s4.2) (q := 49) hX hc12 dX12_hadOf_48 rfl ?_
        refine r_goto (q := 75) hX dX12_hadOf_49 (by decide) ?_
        refine r_iadd (q := 76) hX dX12_hadOf_75 rfl ?_
        refine r_istore_nP (x := (s4.1 + (rI M (rR M a0 78) (ix s4.2)))) (q := 77) 3 [1, 2, 3, 0, 5] (fun z13 => [(0, vr a0), (1, vi x1), (2, vi x2), (3, vi z13), (4, vi s4.2)]) hX dX12_hadOf_76 rfl (Nat.le_of_ble_eq_true rfl) (fun _ => rfl) rfl (fun z13 => ?_)
        refine r_iinc (x := s4.2) (v := (s4.2 + (1 : Int32))) (q := 80) 4 4 [1, 2, 3, 4, 0] (L1 := [(0, vr a0), (1, vi x1), (2, vi x2), (3, vi z13), (4, vi (s4.2 + (1 : Int32)))]) hX dX12_hadOf_77 rfl rfl (Nat.le_of_ble_eq_true rfl) rfl rfl ?_
        refine r_goto (q := 10) hX dX12_hadOf_80 (by decide) ?_
        refine r_l0 ?_
        exact hn5 (z13, (s4.2 + (1 : Int32)))
      · refine r_aload_n (i := 0) (x := a0) (q := 53) 0 hX dX12_hadOf_52 rfl rfl rfl ?_
        refine r_getR (a := a0) (ci := 12) (kf := 76) (q := 56) hX hc1 flX12_164 rfl dX12_hadOf_53 rfl ?_
        refine r_iload (i := 4) (x := s4.2) (q := 58) 4 hX dX12_hadOf_56 rfl rfl ?_
        refine r_ck (fun hc14 => ?_)
        refine r_iald (a := (rR M a0 76)) (i := s4.2) (q := 59) hX hc14 dX12_hadOf_58 rfl ?_
        refine r_iload_n (i := 1) (x := x1) (q := 60) 1 hX dX12_hadOf_59 rfl rfl rfl ?_
        refine r_icmp_ne (tgt := 74) (q := 63) hX dX12_hadOf_60 (by decide) rfl (fun hb15 => ?_) (fun hb15 => ?_)
        · refine r_aload_n (i := 0) (x := a0) (q := 64) 0 hX dX12_hadOf_63 rfl rfl rfl ?_
          refine r_getR (a := a0) (ci := 12) (kf := 78) (q := 67) hX hc1 flX12_170 rfl dX12_hadOf_64 rfl ?_
          refine r_iload (i := 4) (x := s4.2) (q := 69) 4 hX dX12_hadOf_67 rfl rfl ?_
          refine r_ck (fun hc16 => ?_)
          refine r_iald (a := (rR M a0 78)) (i := s4.2) (q := 70) hX hc16 dX12_hadOf_69 rfl ?_
          refine r_ineg (q := 71) hX dX12_hadOf_70 rfl ?_
          refine r_goto (q := 75) hX dX12_hadOf_71 (by decide) ?_
          refine r_iadd (q := 76) hX dX12_hadOf_75 rfl ?_
          refine r_istore_nP (x := (s4.1 + (-(rI M (rR M a0 78) (ix s4.2))))) (q := 77) 3 [1, 2, 3, 0, 5] (fun z17 => [(0, vr a0), (1, vi x1), (2, vi x2), (3, vi z17), (4, vi s4.2)]) hX dX12_hadOf_76 rfl (Nat.le_of_ble_eq_true rfl) (fun _ => rfl) rfl (fun z17 => ?_)
          refine r_iinc (x := s4.2) (v := (s4.2 + (1 : Int32))) (q := 80) 4 4 [1, 2, 3, 4, 0] (L1 := [(0, vr a0), (1, vi x1), (2, vi x2), (3, vi z17), (4, vi (s4.2 + (1 : Int32)))]) hX dX12_hadOf_77 rfl rfl (Nat.le_of_ble_eq_true rfl) rfl rfl ?_
          refine r_goto (q := 10) hX dX12_hadOf_80 (by decide) ?_
          refine r_l0 ?_
          exact hn5 (z17, (s4.2 + (1 : Int32)))
        · refine r_iconst (v := (0 : Int32)) (q := 75) hX dX12_hadOf_74 rfl rfl ?_
          refine r_iadd (q := 76) hX dX12_hadOf_75 rfl ?_
          refine r_istore_nP (x := (s4.1 + (0 : Int32))) (q := 77) 3 [1, 2, 3, 0, 5] (fun z18 => [(0, vr a0), (1, vi x1), (2, vi x2), (3, vi z18), (4, vi s4.2)]) hX dX12_hadOf_76 rfl (Nat.le_of_ble_eq_true rfl) (fun _ => rfl) rfl (fun z18 => ?_)
          refine r_iinc (x := s4.2) (v := (s4.2 + (1 : Int32))) (q := 80) 4 4 [1, 2, 3, 4, 0] (L1 := [(0, vr a0), (1, vi x1), (2, vi x2), (3, vi z18), (4, vi (s4.2 + (1 : Int32)))]) hX dX12_hadOf_77 rfl rfl (Nat.le_of_ble_eq_true rfl) rfl rfl ?_
          refine r_goto (q := 10) hX dX12_hadOf_80 (by decide) ?_
          refine r_l0 ?_
          exact hn5 (z18, (s4.2 + (1 : Int32)))
theorem flX12_149 : FL RX12 149 12 70 := ⟨Nat.le_of_ble_eq_true rfl, Nat.le_of_ble_eq_true rfl, gd (hcw6_1 _ (List.mem_of_getElem? (i := 5) rfl)) rfl⟩
theorem lkX12_466 : Lk RX12 466 yX12_hadOf := gd (hcw8_3 _ (List.mem_of_getElem? (i := 18) rfl)) rfl
theorem flX12_176 : FL RX12 176 12 82 := ⟨Nat.le_of_ble_eq_true rfl, Nat.le_of_ble_eq_true rfl, gd (hcw6_1 _ (List.mem_of_getElem? (i := 17) rfl)) rfl⟩
theorem flX12_179 : FL RX12 179 12 83 := ⟨Nat.le_of_ble_eq_true rfl, Nat.le_of_ble_eq_true rfl, gd (hcw6_1 _ (List.mem_of_getElem? (i := 18) rfl)) rfl⟩
theorem flX12_182 : FL RX12 182 12 84 := ⟨Nat.le_of_ble_eq_true rfl, Nat.le_of_ble_eq_true rfl, gd (hcw6_1 _ (List.mem_of_getElem? (i := 19) rfl)) rfl⟩
def mX12_tellMoney : MD := (yX12_tellMoney, cX12_tellMoney, 2, none, 1, 24, 0, 0)
theorem ccX12_tellMoney : Cc mX12_tellMoney 0 := ⟨gd (hcw1_0 _ (List.mem_of_getElem? (i := 10) rfl)) rfl, gd (hcw8_6 _ (List.mem_of_getElem? (i := 19) rfl)) rfl, by decide +kernel, by decide +kernel, by decide +kernel⟩
theorem ivX12_tellMoney : Iv mX12_tellMoney 12 := ⟨Nat.le_of_ble_eq_true rfl, rfl, gd (hcw8_6 _ (List.mem_of_getElem? (i := 18) rfl)) rfl, gd (hps5 _ (List.mem_of_getElem? (i := 12) rfl)) rfl⟩
set_option maxRecDepth 20000 in
noncomputable def fX12_tellMoney (Z : Shp) (M : Mem) (a0 : Nat) : Option (Mem) := (Option.bind (loop (fun s4 : Int32 × Mem => (if tg Z a0 = (13, 86) then (if (rI s4.2 a0 35) ≤ s4.1 then some (Sum.inr s4.2) else (if aok Z (rR s4.2 a0 38) 100 s4.1 then (Option.bind (fX12_tell Z s4.2 a0 ((rI s4.2 (rR s4.2 a0 38) (ix s4.1)).toInt64)) (fun v10 => (if aok Z (rR v10 a0 39) 100 s4.1 then (Option.bind (fX12_tell Z v10 a0 ((rI v10 (rR v10 a0 39) (ix s4.1)).toInt64)) (fun v13 => (if aok Z (rR v13 a0 37) 100 s4.1 then (Option.bind (fX12_tell Z v13 a0 ((rI v13 (rR v13 a0 37) (ix s4.1)).toInt64)) (fun v16 => some (Sum.inl ((s4.1 + (1 : Int32)), v16)))) else none))) else none))) else none)) else none)) ((0 : Int32), M)) (fun v3 : Mem => (Option.bind (loop (fun s21 : Int32 × Mem => (if tg Z a0 = (13, 86) then (if (rI s21.2 a0 57) ≤ s21.1 then some (Sum.inr s21.2) else (if aok Z (rR s21.2 a0 58) 101 s21.1 then (Option.bind (if (rI s21.2 (rR s21.2 a0 58) (ix s21.1)) = 0 then some (0 : Int64) else some (1 : Int64)) (fun v30 : Int64 => (Option.bind (fX12_tell Z s21.2 a0 v30) (fun v31 => (if aok Z (rR v31 a0 59) 100 s21.1 then (Option.bind (fX12_tell Z v31 a0 ((rI v31 (rR v31 a0 59) (ix s21.1)).toInt64)) (fun v34 => (if aok Z (rR v34 a0 60) 100 s21.1 then (Option.bind (fX12_tell Z v34 a0 ((rI v34 (rR v34 a0 60) (ix s21.1)).toInt64)) (fun v37 => some (Sum.inl ((s21.1 + (1 : Int32)), v37)))) else none))) else none))))) else none)) else none)) ((0 : Int32), v3)) (fun v20 : Mem => (Option.bind (loop (fun s42 : Int32 × Mem => (if tg Z a0 = (13, 86) then (if (rI s42.2 a0 66) ≤ s42.1 then some (Sum.inr s42.2) else (if aok Z (rR s42.2 a0 67) 100 s42.1 then (Option.bind (fX12_tell Z s42.2 a0 ((rI s42.2 (rR s42.2 a0 67) (ix s42.1)).toInt64)) (fun v48 => (if aok Z (rR v48 a0 68) 100 s42.1 then (Option.bind (fX12_tell Z v48 a0 ((rI v48 (rR v48 a0 68) (ix s42.1)).toInt64)) (fun v51 => some (Sum.inl ((s42.1 + (1 : Int32)), v51)))) else none))) else none)) else none)) ((0 : Int32), v20)) (fun v41 : Mem => (Option.bind (loop (fun s56 : Int32 × Mem => (if (8 : Int32) ≤ s56.1 then some (Sum.inr s56.2) else (if tg Z a0 = (13, 86) then (if aok Z (rR s56.2 a0 69) 100 s56.1 then (if (rI s56.2 (rR s56.2 a0 69) (ix s56.1)) = (-1 : Int32) then some (Sum.inl ((s56.1 + (1 : Int32)), s56.2)) else (Option.bind (fX12_tell Z s56.2 a0 ((rI s56.2 (rR s56.2 a0 69) (ix s56.1)).toInt64)) (fun v63 => (if aok Z (rR v63 a0 70) 100 s56.1 then (Option.bind (fX12_tell Z v63 a0 ((rI v63 (rR v63 a0 70) (ix s56.1)).toInt64)) (fun v66 => some (Sum.inl ((s56.1 + (1 : Int32)), v66)))) else none)))) else none) else none))) ((0 : Int32), v41)) (fun v55 : Mem => (Option.bind (loop (fun s71 : Int32 × Mem => (if (4 : Int32) ≤ s71.1 then some (Sum.inr s71.2) else (if tg Z a0 = (13, 86) then (if aok Z (rR s71.2 a0 71) 100 s71.1 then (Option.bind (fX12_tell Z s71.2 a0 ((rI s71.2 (rR s71.2 a0 71) (ix s71.1)).toInt64)) (fun v77 => some (Sum.inl ((s71.1 + (1 : Int32)), v77)))) else none) else none))) ((0 : Int32), v55)) (fun v70 : Mem => (Option.bind (loop (fun s82 : Int32 × Mem => (if (12 : Int32) ≤ s82.1 then some (Sum.inr s82.2) else (if tg Z a0 = (13, 86) then (if aok Z (rR s82.2 a0 73) 100 s82.1 then (Option.bind (fX12_tell Z s82.2 a0 ((rI s82.2 (rR s82.2 a0 73) (ix s82.1)).toInt64)) (fun v88 => some (Sum.inl ((s82.1 + (1 : Int32)), v88)))) else none) else none))) ((0 : Int32), v70)) (fun v81 : Mem => (Option.bind (loop (fun s93 : Int32 × Mem => (if (6 : Int32) ≤ s93.1 then some (Sum.inr s93.2) else (if tg Z a0 = (13, 86) then (Option.bind (fX12_hadOf Z s93.2 a0 s93.1 (99 : Int32)) (fun v98 => (Option.bind (fX12_tell Z s93.2 a0 (v98.toInt64)) (fun v100 => some (Sum.inl ((s93.1 + (1 : Int32)), v100)))))) else none))) ((0 : Int32), v81)) (fun v92 : Mem => (if tg Z a0 = (13, 86) then (Option.bind (fX12_tell Z v92 a0 ((rI v92 a0 80).toInt64)) (fun v103 => (loop (fun s105 : Int32 × Mem => (if (rI s105.2 a0 81) ≤ s105.1 then some (Sum.inr s105.2) else (if aok Z (rR s105.2 a0 82) 100 s105.1 then (Option.bind (fX12_tell Z s105.2 a0 ((rI s105.2 (rR s105.2 a0 82) (ix s105.1)).toInt64)) (fun v110 => (if aok Z (rR v110 a0 83) 100 s105.1 then (Option.bind (fX12_tell Z v110 a0 ((rI v110 (rR v110 a0 83) (ix s105.1)).toInt64)) (fun v113 => (if aok Z (rR v113 a0 84) 100 s105.1 then (Option.bind (fX12_tell Z v113 a0 ((rI v113 (rR v113 a0 84) (ix s105.1)).toInt64)) (fun v116 => some (Sum.inl ((s105.1 + (1 : Int32)), v116)))) else none))) else none))) else none))) ((0 : Int32), v103)))) else none)))))))))))))))
set_option maxRecDepth 20000 in
theorem kX12_tellMoney (l : Launch) (Z : Shp) (M : Mem) (a0 : Nat) (r : Mem) (h : fX12_tellMoney Z M a0 = some r) : Ct l mX12_tellMoney [vr a0] Z M (none, Z, r) := by
  refine Ct.of rfl (Nat.le_of_ble_eq_true rfl) (fun X hM => ?_)
  have hX := hM.1
  refine r_top (mk := fun r => (none, Z, r)) h (fun K hK => ?_)
  unfold fX12_tellMoney
  refine r_iconst (v := (0 : Int32)) (q := 1) hX dX12_tellMoney_0 rfl rfl ?_
  refine r_istore_n (x := (0 : Int32)) (q := 2) 1 [1, 0] (L1 := [(0, vr a0), (1, vi (0 : Int32))]) hX dX12_tellMoney_1 rfl (Nat.le_of_ble_eq_true rfl) rfl rfl ?_
  refine r_jn (J := fun (v3 : Mem) (P : Option Res) => Ref mX12_tellMoney X 0 0 Z v3 49 [(0, vr a0)] [] P) (fun v3 => ?_) (fun K1 hj1 => ?_)
  · refine r_iconst (v := (0 : Int32)) (q := 50) hX dX12_tellMoney_49 rfl rfl ?_
    refine r_istore_n (x := (0 : Int32)) (q := 51) 1 [1, 0] (L1 := [(0, vr a0), (1, vi (0 : Int32))]) hX dX12_tellMoney_50 rfl (Nat.le_of_ble_eq_true rfl) rfl rfl ?_
    refine r_jn (J := fun (v20 : Mem) (P : Option Res) => Ref mX12_tellMoney X 0 0 Z v20 105 [(0, vr a0)] [] P) (fun v20 => ?_) (fun K1 hj18 => ?_)
    · refine r_iconst (v := (0 : Int32)) (q := 106) hX dX12_tellMoney_105 rfl rfl ?_
      refine r_istore_n (x := (0 : Int32)) (q := 107) 1 [1, 0] (L1 := [(0, vr a0), (1, vi (0 : Int32))]) hX dX12_tellMoney_106 rfl (Nat.le_of_ble_eq_true rfl) rfl rfl ?_
      refine r_jn (J := fun (v41 : Mem) (P : Option Res) => Ref mX12_tellMoney X 0 0 Z v41 143 [(0, vr a0)] [] P) (fun v41 => ?_) (fun K1 hj39 => ?_)
      · refine r_iconst (v := (0 : Int32)) (q := 144) hX dX12_tellMoney_143 rfl rfl ?_
        refine r_istore_n (x := (0 : Int32)) (q := 145) 1 [1, 0] (L1 := [(0, vr a0), (1, vi (0 : Int32))]) hX dX12_tellMoney_144 rfl (Nat.le_of_ble_eq_true rfl) rfl rfl ?_
        refine r_jn (J := fun (v55 : Mem) (P : Option Res) => Ref mX12_tellMoney X 0 0 Z v55 189 [(0, vr a0)] [] P) (fun v55 => ?_) (fun K1 hj53 => ?_)
        · refine r_iconst (v := (0 : Int32)) (q := 190) hX dX12_tellMoney_189 rfl rfl ?_
          refine r_istore_n (x := (0 : Int32)) (q := 191) 1 [1, 0] (L1 := [(0, vr a0), (1, vi (0 : Int32))]) hX dX12_tellMoney_190 rfl (Nat.le_of_ble_eq_true rfl) rfl rfl ?_
          refine r_jn (J := fun (v70 : Mem) (P : Option Res) => Ref mX12_tellMoney X 0 0 Z v70 213 [(0, vr a0)] [] P) (fun v70 => ?_) (fun K1 hj68 => ?_)
          · refine r_iconst (v := (0 : Int32)) (q := 214) hX dX12_tellMoney_213 rfl rfl ?_
            refine r_istore_n (x := (0 : Int32)) (q := 215) 1 [1, 0] (L1 := [(0, vr a0), (1, vi (0 : Int32))]) hX dX12_tellMoney_214 rfl (Nat.le_of_ble_eq_true rfl) rfl rfl ?_
            refine r_jn (J := fun (v81 : Mem) (P : Option Res) => Ref mX12_tellMoney X 0 0 Z v81 238 [(0, vr a0)] [] P) (fun v81 => ?_) (fun K1 hj79 => ?_)
            · refine r_iconst (v := (0 : Int32)) (q := 239) hX dX12_tellMoney_238 rfl rfl ?_
              refine r_istore_n (x := (0 : Int32)) (q := 240) 1 [1, 0] (L1 := [(0, vr a0), (1, vi (0 : Int32))]) hX dX12_tellMoney_239 rfl (Nat.le_of_ble_eq_true rfl) rfl rfl ?_
              refine r_jn (J := fun (v92 : Mem) (P : Option Res) => Ref mX12_tellMoney X 0 0 Z v92 264 [(0, vr a0)] [] P) (fun v92 => ?_) (fun K1 hj90 => ?_)
              · refine r_aload_n (i := 0) (x := a0) (q := 265) 0 hX dX12_tellMoney_264 rfl rfl rfl ?_
                refine r_aload_n (i := 0) (x := a0) (q := 266) 0 hX dX12_tellMoney_265 rfl rfl rfl ?_
                refine r_ck (fun hc102 => ?_)
                refine r_getI (a := a0) (ci := 12) (kf := 80) (q := 269) hX hc102 flX12_189 rfl rfl dX12_tellMoney_266 rfl ?_
                refine r_i2l (q := 270) hX dX12_tellMoney_269 rfl ?_
                refine r_bind (fun v103 h104 => ?_)
                refine r_cv (a := a0) (As := [vj ((rI v92 a0 80).toInt64)]) (st := []) (r := none) (Z1 := Z) (M1 := v103) (k1 := 0) (n1 := 0) (st1 := []) (q := 273) hX (fun l => kX12_tell l Z v92 a0 ((rI v92 a0 80).toInt64) v103 h104) hc102 ivX12_tell ccX12_tell (Or.inl lkX12_483) rfl rfl rfl ⟨Nat.le_of_ble_eq_true rfl, Nat.le_of_ble_eq_true rfl, rfl, rfl, Nat.le_of_ble_eq_true rfl, Nat.le_of_ble_eq_true rfl⟩ (Nat.le_of_ble_eq_true rfl) dX12_tellMoney_270 rfl ?_
                refine r_iconst (v := (0 : Int32)) (q := 274) hX dX12_tellMoney_273 rfl rfl ?_
                refine r_istore_n (x := (0 : Int32)) (q := 275) 1 [1, 0] (L1 := [(0, vr a0), (1, vi (0 : Int32))]) hX dX12_tellMoney_274 rfl (Nat.le_of_ble_eq_true rfl) rfl rfl ?_
                refine r_loop (Hd := fun (s105 : Int32 × Mem) (P : Option Res) => Ref mX12_tellMoney X 0 0 Z s105.2 275 [(0, vr a0), (1, vi s105.1)] [] P) (fun _ => r_none) (fun s105 K1 hn106 hx107 => ?_) ((0 : Int32), v103)
                refine r_iload_n (i := 1) (x := s105.1) (q := 276) 1 hX dX12_tellMoney_275 rfl rfl rfl ?_
                refine r_aload_n (i := 0) (x := a0) (q := 277) 0 hX dX12_tellMoney_276 rfl rfl rfl ?_
                refine r_getI (a := a0) (ci := 12) (kf := 81) (q := 280) hX hc102 flX12_472 rfl rfl dX12_tellMoney_277 rfl ?_
                refine r_icmp_ge (tgt := 322) (q := 283) hX dX12_tellMoney_280 (by decide) rfl (fun hb108 => ?_) (fun hb108 => ?_)
                · refine r_lf ((hx107 _).trans (hK _)) ?_
                  exact r_vret hM rfl (Nat.le_of_ble_eq_true rfl) (Nat.le_of_ble_eq_true rfl) dX12_tellMoney_322
                · refine r_aload_n (i := 0) (x := a0) (q := 284) 0 hX dX12_tellMoney_283 rfl rfl rfl ?_
                  refine r_aload_n (i := 0) (x := a0) (q := 285) 0 hX dX12_tellMoney_284 rfl rfl rfl ?_
                  refine r_getR (a := a0) (ci := 12) (kf := 82) (q := 288) hX hc102 flX12_176 rfl dX12_tellMoney_285 rfl ?_
                  refine r_iload_n (i := 1) (x := s105.1) (q := 289) 1 hX dX12_tellMoney_288 rfl rfl rfl ?_
                  refine r_ck (fun hc109 => ?_)
                  refine r_iald (a := (rR s105.2 a0 82)) (i := s105.1) (q := 290) hX hc109 dX12_tellMoney_289 rfl ?_
                  refine r_i2l (q := 291) hX dX12_tellMoney_290 rfl ?_
                  refine r_bind (fun v110 h111 => ?_)
                  refine r_cv (a := a0) (As := [vj ((rI s105.2 (rR s105.2 a0 82) (ix s105.1)).toInt64)]) (st := []) (r := none) (Z1 := Z) (M1 := v110) (k1 := 0) (n1 := 0) (st1 := []) (q := 294) hX (fun l => kX12_tell l Z s105.2 a0 ((rI s105.2 (rR s105.2 a0 82) (ix s105.1)).toInt64) v110 h111) hc102 ivX12_tell ccX12_tell (Or.inl lkX12_483) rfl rfl rfl ⟨Nat.le_of_ble_eq_true rfl, Nat.le_of_ble_eq_true rfl, rfl, rfl, Nat.le_of_ble_eq_true rfl, Nat.le_of_ble_eq_true rfl⟩ (Nat.le_of_ble_eq_true rfl) dX12_tellMoney_291 rfl ?_
                  refine r_aload_n (i := 0) (x := a0) (q := 295) 0 hX dX12_tellMoney_294 rfl rfl rfl ?_
                  refine r_aload_n (i := 0) (x := a0) (q := 296) 0 hX dX12_tellMoney_295 rfl rfl rfl ?_
                  refine r_getR (a := a0) (ci := 12) (kf := 83) (q := 299) hX hc102 flX12_179 rfl dX12_tellMoney_296 rfl ?_
                  refine r_iload_n (i := 1) (x := s105.1) (q := 300) 1 hX dX12_tellMoney_299 rfl rfl rfl ?_
                  refine r_ck (fun hc112 => ?_)
                  refine r_iald (a := (rR v110 a0 83)) (i := s105.1) (q := 301) hX hc112 dX12_tellMoney_300 rfl ?_
                  refine r_i2l (q := 302) hX dX12_tellMoney_301 rfl ?_
                  refine r_bind (fun v113 h114 => ?_)
                  refine r_cv (a := a0) (As := [vj ((rI v110 (rR v110 a0 83) (ix s105.1)).toInt64)]) (st := []) (r := none) (Z1 := Z) (M1 := v113) (k1 := 0) (n1 := 0) (st1 := []) (q := 305) hX (fun l => kX12_tell l Z v110 a0 ((rI v110 (rR v110 a0 83) (ix s105.1)).toInt64) v113 h114) hc102 ivX12_tell ccX12_tell (Or.inl lkX12_483) rfl rfl rfl ⟨Nat.le_of_ble_eq_true rfl, Nat.le_of_ble_eq_true rfl, rfl, rfl, Nat.le_of_ble_eq_true rfl, Nat.le_of_ble_eq_true rfl⟩ (Nat.le_of_ble_eq_true rfl) dX12_tellMoney_302 rfl ?_
                  refine r_aload_n (i := 0) (x := a0) (q := 306) 0 hX dX12_tellMoney_305 rfl rfl rfl ?_
                  refine r_aload_n (i := 0) (x := a0) (q := 307) 0 hX dX12_tellMoney_306 rfl rfl rfl ?_
                  refine r_getR (a := a0) (ci := 12) (kf := 84) (q := 310) hX hc102 flX12_182 rfl dX12_tellMoney_307 rfl ?_
                  refine r_iload_n (i := 1) (x := s105.1) (q := 311) 1 hX dX12_tellMoney_310 rfl rfl rfl ?_
                  refine r_ck (fun hc115 => ?_)
                  refine r_iald (a := (rR v113 a0 84)) (i := s105.1) (q := 312) hX hc115 dX12_tellMoney_311 rfl ?_
                  refine r_i2l (q := 313) hX dX12_tellMoney_312 rfl ?_
                  refine r_bind (fun v116 h117 => ?_)
                  refine r_cv (a := a0) (As := [vj ((rI v113 (rR v113 a0 84) (ix s105.1)).toInt64)]) (st := []) (r := none) (Z1 := Z) (M1 := v116) (k1 := 0) (n1 := 0) (st1 := []) (q := 316) hX (fun l => kX12_tell l Z v113 a0 ((rI v113 (rR v113 a0 84) (ix s105.1)).toInt64) v116 h117) hc102 ivX12_tell ccX12_tell (Or.inl lkX12_483) rfl rfl rfl ⟨Nat.le_of_ble_eq_true rfl, Nat.le_of_ble_eq_true rfl, rfl, rfl, Nat.le_of_ble_eq_true rfl, Nat.le_of_ble_eq_true rfl⟩ (Nat.le_of_ble_eq_true rfl) dX12_tellMoney_313 rfl ?_
                  refine r_iinc (x := s105.1) (v := (s105.1 + (1 : Int32))) (q := 319) 1 1 [1, 0] (L1 := [(0, vr a0), (1, vi (s105.1 + (1 : Int32)))]) hX dX12_tellMoney_316 rfl rfl (Nat.le_of_ble_eq_true rfl) rfl rfl ?_
                  refine r_goto (q := 275) hX dX12_tellMoney_319 (by decide) ?_
                  refine r_l0 ?_
                  exact hn106 ((s105.1 + (1 : Int32)), v116)
              · refine r_loop (Hd := fun (s93 : Int32 × Mem) (P : Option Res) => Ref mX12_tellMoney X 0 0 Z s93.2 240 [(0, vr a0), (1, vi s93.1)] [] P) (fun _ => r_none) (fun s93 K1 hn94 hx95 => ?_) ((0 : Int32), v81)
                refine r_iload_n (i := 1) (x := s93.1) (q := 241) 1 hX dX12_tellMoney_240 rfl rfl rfl ?_
                refine r_bipush (v := (6 : Int32)) (q := 243) hX dX12_tellMoney_241 rfl rfl ?_
                refine r_icmp_ge (tgt := 264) (q := 246) hX dX12_tellMoney_243 (by decide) rfl (fun hb96 => ?_) (fun hb96 => ?_)
                · refine r_lf (hx95 _) ?_
                  refine r_sub [0] rfl ?_
                  exact hj90 s93.2
                · refine r_aload_n (i := 0) (x := a0) (q := 247) 0 hX dX12_tellMoney_246 rfl rfl rfl ?_
                  refine r_aload_n (i := 0) (x := a0) (q := 248) 0 hX dX12_tellMoney_247 rfl rfl rfl ?_
                  refine r_iload_n (i := 1) (x := s93.1) (q := 249) 1 hX dX12_tellMoney_248 rfl rfl rfl ?_
                  refine r_bipush (v := (99 : Int32)) (q := 251) hX dX12_tellMoney_249 rfl rfl ?_
                  refine r_ck (fun hc97 => ?_)
                  refine r_bind (fun v98 h99 => ?_)
                  refine r_cv (a := a0) (As := [vi s93.1, vi (99 : Int32)]) (st := [vr a0]) (r := (some (vi v98))) (Z1 := Z) (M1 := s93.2) (k1 := 0) (n1 := 0) (st1 := [vi v98, vr a0]) (q := 254) hX (fun l => kX12_hadOf l Z s93.2 a0 s93.1 (99 : Int32) v98 h99) hc97 ivX12_hadOf ccX12_hadOf (Or.inl lkX12_466) rfl rfl rfl ⟨Nat.le_of_ble_eq_true rfl, Nat.le_of_ble_eq_true rfl, rfl, rfl, Nat.le_of_ble_eq_true rfl, Nat.le_of_ble_eq_true rfl⟩ (Nat.le_of_ble_eq_true rfl) dX12_tellMoney_251 rfl ?_
                  refine r_i2l (q := 255) hX dX12_tellMoney_254 rfl ?_
                  refine r_bind (fun v100 h101 => ?_)
                  refine r_cv (a := a0) (As := [vj (v98.toInt64)]) (st := []) (r := none) (Z1 := Z) (M1 := v100) (k1 := 0) (n1 := 0) (st1 := []) (q := 258) hX (fun l => kX12_tell l Z s93.2 a0 (v98.toInt64) v100 h101) hc97 ivX12_tell ccX12_tell (Or.inl lkX12_483) rfl rfl rfl ⟨Nat.le_of_ble_eq_true rfl, Nat.le_of_ble_eq_true rfl, rfl, rfl, Nat.le_of_ble_eq_true rfl, Nat.le_of_ble_eq_true rfl⟩ (Nat.le_of_ble_eq_true rfl) dX12_tellMoney_255 rfl ?_
                  refine r_iinc (x := s93.1) (v := (s93.1 + (1 : Int32))) (q := 261) 1 1 [1, 0] (L1 := [(0, vr a0), (1, vi (s93.1 + (1 : Int32)))]) hX dX12_tellMoney_258 rfl rfl (Nat.le_of_ble_eq_true rfl) rfl rfl ?_
                  refine r_goto (q := 240) hX dX12_tellMoney_261 (by decide) ?_
                  refine r_l0 ?_
                  exact hn94 ((s93.1 + (1 : Int32)), v100)
            · refine r_loop (Hd := fun (s82 : Int32 × Mem) (P : Option Res) => Ref mX12_tellMoney X 0 0 Z s82.2 215 [(0, vr a0), (1, vi s82.1)] [] P) (fun _ => r_none) (fun s82 K1 hn83 hx84 => ?_) ((0 : Int32), v70)
              refine r_iload_n (i := 1) (x := s82.1) (q := 216) 1 hX dX12_tellMoney_215 rfl rfl rfl ?_
              refine r_bipush (v := (12 : Int32)) (q := 218) hX dX12_tellMoney_216 rfl rfl ?_
              refine r_icmp_ge (tgt := 238) (q := 221) hX dX12_tellMoney_218 (by decide) rfl (fun hb85 => ?_) (fun hb85 => ?_)
              · refine r_lf (hx84 _) ?_
                refine r_sub [0] rfl ?_
                exact hj79 s82.2
              · refine r_aload_n (i := 0) (x := a0) (q := 222) 0 hX dX12_tellMoney_221 rfl rfl rfl ?_
                refine r_aload_n (i := 0) (x := a0) (q := 223) 0 hX dX12_tellMoney_222 rfl rfl rfl ?_
                refine r_ck (fun hc86 => ?_)
                refine r_getR (a := a0) (ci := 12) (kf := 73) (q := 226) hX hc86 flX12_158 rfl dX12_tellMoney_223 rfl ?_
                refine r_iload_n (i := 1) (x := s82.1) (q := 227) 1 hX dX12_tellMoney_226 rfl rfl rfl ?_
                refine r_ck (fun hc87 => ?_)
                refine r_iald (a := (rR s82.2 a0 73)) (i := s82.1) (q := 228) hX hc87 dX12_tellMoney_227 rfl ?_
                refine r_i2l (q := 229) hX dX12_tellMoney_228 rfl ?_
                refine r_bind (fun v88 h89 => ?_)
                refine r_cv (a := a0) (As := [vj ((rI s82.2 (rR s82.2 a0 73) (ix s82.1)).toInt64)]) (st := []) (r := none) (Z1 := Z) (M1 := v88) (k1 := 0) (n1 := 0) (st1 := []) (q := 232) hX (fun l => kX12_tell l Z s82.2 a0 ((rI s82.2 (rR s82.2 a0 73) (ix s82.1)).toInt64) v88 h89) hc86 ivX12_tell ccX12_tell (Or.inl lkX12_483) rfl rfl rfl ⟨Nat.le_of_ble_eq_true rfl, Nat.le_of_ble_eq_true rfl, rfl, rfl, Nat.le_of_ble_eq_true rfl, Nat.le_of_ble_eq_true rfl⟩ (Nat.le_of_ble_eq_true rfl) dX12_tellMoney_229 rfl ?_
                refine r_iinc (x := s82.1) (v := (s82.1 + (1 : Int32))) (q := 235) 1 1 [1, 0] (L1 := [(0, vr a0), (1, vi (s82.1 + (1 : Int32)))]) hX dX12_tellMoney_232 rfl rfl (Nat.le_of_ble_eq_true rfl) rfl rfl ?_
                refine r_goto (q := 215) hX dX12_tellMoney_235 (by decide) ?_
                refine r_l0 ?_
                exact hn83 ((s82.1 + (1 : Int32)), v88)
          · refine r_loop (Hd := fun (s71 : Int32 × Mem) (P : Option Res) => Ref mX12_tellMoney X 0 0 Z s71.2 191 [(0, vr a0), (1, vi s71.1)] [] P) (fun _ => r_none) (fun s71 K1 hn72 hx73 => ?_) ((0 : Int32), v55)
            refine r_iload_n (i := 1) (x := s71.1) (q := 192) 1 hX dX12_tellMoney_191 rfl rfl rfl ?_
            refine r_iconst (v := (4 : Int32)) (q := 193) hX dX12_tellMoney_192 rfl rfl ?_
            refine r_icmp_ge (tgt := 213) (q := 196) hX dX12_tellMoney_193 (by decide) rfl (fun hb74 => ?_) (fun hb74 => ?_)
            · refine r_lf (hx73 _) ?_
              refine r_sub [0] rfl ?_
              exact hj68 s71.2
            · refine r_aload_n (i := 0) (x := a0) (q := 197) 0 hX dX12_tellMoney_196 rfl rfl rfl ?_
              refine r_aload_n (i := 0) (x := a0) (q := 198) 0 hX dX12_tellMoney_197 rfl rfl rfl ?_
              refine r_ck (fun hc75 => ?_)
              refine r_getR (a := a0) (ci := 12) (kf := 71) (q := 201) hX hc75 flX12_152 rfl dX12_tellMoney_198 rfl ?_
              refine r_iload_n (i := 1) (x := s71.1) (q := 202) 1 hX dX12_tellMoney_201 rfl rfl rfl ?_
              refine r_ck (fun hc76 => ?_)
              refine r_iald (a := (rR s71.2 a0 71)) (i := s71.1) (q := 203) hX hc76 dX12_tellMoney_202 rfl ?_
              refine r_i2l (q := 204) hX dX12_tellMoney_203 rfl ?_
              refine r_bind (fun v77 h78 => ?_)
              refine r_cv (a := a0) (As := [vj ((rI s71.2 (rR s71.2 a0 71) (ix s71.1)).toInt64)]) (st := []) (r := none) (Z1 := Z) (M1 := v77) (k1 := 0) (n1 := 0) (st1 := []) (q := 207) hX (fun l => kX12_tell l Z s71.2 a0 ((rI s71.2 (rR s71.2 a0 71) (ix s71.1)).toInt64) v77 h78) hc75 ivX12_tell ccX12_tell (Or.inl lkX12_483) rfl rfl rfl ⟨Nat.le_of_ble_eq_true rfl, Nat.le_of_ble_eq_true rfl, rfl, rfl, Nat.le_of_ble_eq_true rfl, Nat.le_of_ble_eq_true rfl⟩ (Nat.le_of_ble_eq_true rfl) dX12_tellMoney_204 rfl ?_
              refine r_iinc (x := s71.1) (v := (s71.1 + (1 : Int32))) (q := 210) 1 1 [1, 0] (L1 := [(0, vr a0), (1, vi (s71.1 + (1 : Int32)))]) hX dX12_tellMoney_207 rfl rfl (Nat.le_of_ble_eq_true rfl) rfl rfl ?_
              refine r_goto (q := 191) hX dX12_tellMoney_210 (by decide) ?_
              refine r_l0 ?_
              exact hn72 ((s71.1 + (1 : Int32)), v77)
        · refine r_loop (Hd := fun (s56 : Int32 × Mem) (P : Option Res) => Ref mX12_tellMoney X 0 0 Z s56.2 145 [(0, vr a0), (1, vi s56.1)] [] P) (fun _ => r_none) (fun s56 K1 hn57 hx58 => ?_) ((0 : Int32), v41)
          refine r_iload_n (i := 1) (x := s56.1) (q := 146) 1 hX dX12_tellMoney_145 rfl rfl rfl ?_
          refine r_bipush (v := (8 : Int32)) (q := 148) hX dX12_tellMoney_146 rfl rfl ?_
          refine r_icmp_ge (tgt := 189) (q := 151) hX dX12_tellMoney_148 (by decide) rfl (fun hb59 => ?_) (fun hb59 => ?_)
          · refine r_lf (hx58 _) ?_
            refine r_sub [0] rfl ?_
            exact hj53 s56.2
          · refine r_aload_n (i := 0) (x := a0) (q := 152) 0 hX dX12_tellMoney_151 rfl rfl rfl ?_
            refine r_ck (fun hc60 => ?_)
            refine r_getR (a := a0) (ci := 12) (kf := 69) (q := 155) hX hc60 flX12_146 rfl dX12_tellMoney_152 rfl ?_
            refine r_iload_n (i := 1) (x := s56.1) (q := 156) 1 hX dX12_tellMoney_155 rfl rfl rfl ?_
            refine r_ck (fun hc61 => ?_)
            refine r_iald (a := (rR s56.2 a0 69)) (i := s56.1) (q := 157) hX hc61 dX12_tellMoney_156 rfl ?_
            refine r_iconst (v := (-1 : Int32)) (q := 158) hX dX12_tellMoney_157 rfl rfl ?_
            refine r_icmp_eq (tgt := 183) (q := 161) hX dX12_tellMoney_158 (by decide) rfl (fun hb62 => ?_) (fun hb62 => ?_)
            · refine r_iinc (x := s56.1) (v := (s56.1 + (1 : Int32))) (q := 186) 1 1 [1, 0] (L1 := [(0, vr a0), (1, vi (s56.1 + (1 : Int32)))]) hX dX12_tellMoney_183 rfl rfl (Nat.le_of_ble_eq_true rfl) rfl rfl ?_
              refine r_goto (q := 145) hX dX12_tellMoney_186 (by decide) ?_
              refine r_l0 ?_
              exact hn57 ((s56.1 + (1 : Int32)), s56.2)
            · refine r_aload_n (i := 0) (x := a0) (q := 162) 0 hX dX12_tellMoney_161 rfl rfl rfl ?_
              refine r_aload_n (i := 0) (x := a0) (q := 163) 0 hX dX12_tellMoney_162 rfl rfl rfl ?_
              refine r_getR (a := a0) (ci := 12) (kf := 69) (q := 166) hX hc60 flX12_146 rfl dX12_tellMoney_163 rfl ?_
              refine r_iload_n (i := 1) (x := s56.1) (q := 167) 1 hX dX12_tellMoney_166 rfl rfl rfl ?_
              refine r_iald (a := (rR s56.2 a0 69)) (i := s56.1) (q := 168) hX hc61 dX12_tellMoney_167 rfl ?_
              refine r_i2l (q := 169) hX dX12_tellMoney_168 rfl ?_
              refine r_bind (fun v63 h64 => ?_)
              refine r_cv (a := a0) (As := [vj ((rI s56.2 (rR s56.2 a0 69) (ix s56.1)).toInt64)]) (st := []) (r := none) (Z1 := Z) (M1 := v63) (k1 := 0) (n1 := 0) (st1 := []) (q := 172) hX (fun l => kX12_tell l Z s56.2 a0 ((rI s56.2 (rR s56.2 a0 69) (ix s56.1)).toInt64) v63 h64) hc60 ivX12_tell ccX12_tell (Or.inl lkX12_483) rfl rfl rfl ⟨Nat.le_of_ble_eq_true rfl, Nat.le_of_ble_eq_true rfl, rfl, rfl, Nat.le_of_ble_eq_true rfl, Nat.le_of_ble_eq_true rfl⟩ (Nat.le_of_ble_eq_true rfl) dX12_tellMoney_169 rfl ?_
              refine r_aload_n (i := 0) (x := a0) (q := 173) 0 hX dX12_tellMoney_172 rfl rfl rfl ?_
              refine r_aload_n (i := 0) (x := a0) (q := 174) 0 hX dX12_tellMoney_173 rfl rfl rfl ?_
              refine r_getR (a := a0) (ci := 12) (kf := 70) (q := 177) hX hc60 flX12_149 rfl dX12_tellMoney_174 rfl ?_
              refine r_iload_n (i := 1) (x := s56.1) (q := 178) 1 hX dX12_tellMoney_177 rfl rfl rfl ?_
              refine r_ck (fun hc65 => ?_)
              refine r_iald (a := (rR v63 a0 70)) (i := s56.1) (q := 179) hX hc65 dX12_tellMoney_178 rfl ?_
              refine r_i2l (q := 180) hX dX12_tellMoney_179 rfl ?_
              refine r_bind (fun v66 h67 => ?_)
              refine r_cv (a := a0) (As := [vj ((rI v63 (rR v63 a0 70) (ix s56.1)).toInt64)]) (st := []) (r := none) (Z1 := Z) (M1 := v66) (k1 := 0) (n1 := 0) (st1 := []) (q := 183) hX (fun l => kX12_tell l Z v63 a0 ((rI v63 (rR v63 a0 70) (ix s56.1)).toInt64) v66 h67) hc60 ivX12_tell ccX12_tell (Or.inl lkX12_483) rfl rfl rfl ⟨Nat.le_of_ble_eq_true rfl, Nat.le_of_ble_eq_true rfl, rfl, rfl, Nat.le_of_ble_eq_true rfl, Nat.le_of_ble_eq_true rfl⟩ (Nat.le_of_ble_eq_true rfl) dX12_tellMoney_180 rfl ?_
              refine r_iinc (x := s56.1) (v := (s56.1 + (1 : Int32))) (q := 186) 1 1 [1, 0] (L1 := [(0, vr a0), (1, vi (s56.1 + (1 : Int32)))]) hX dX12_tellMoney_183 rfl rfl (Nat.le_of_ble_eq_true rfl) rfl rfl ?_
              refine r_goto (q := 145) hX dX12_tellMoney_186 (by decide) ?_
              refine r_l0 ?_
              exact hn57 ((s56.1 + (1 : Int32)), v66)
      · refine r_loop (Hd := fun (s42 : Int32 × Mem) (P : Option Res) => Ref mX12_tellMoney X 0 0 Z s42.2 107 [(0, vr a0), (1, vi s42.1)] [] P) (fun _ => r_none) (fun s42 K1 hn43 hx44 => ?_) ((0 : Int32), v20)
        refine r_iload_n (i := 1) (x := s42.1) (q := 108) 1 hX dX12_tellMoney_107 rfl rfl rfl ?_
        refine r_aload_n (i := 0) (x := a0) (q := 109) 0 hX dX12_tellMoney_108 rfl rfl rfl ?_
        refine r_ck (fun hc45 => ?_)
        refine r_getI (a := a0) (ci := 12) (kf := 66) (q := 112) hX hc45 flX12_440 rfl rfl dX12_tellMoney_109 rfl ?_
        refine r_icmp_ge (tgt := 143) (q := 115) hX dX12_tellMoney_112 (by decide) rfl (fun hb46 => ?_) (fun hb46 => ?_)
        · refine r_lf (hx44 _) ?_
          refine r_sub [0] rfl ?_
          exact hj39 s42.2
        · refine r_aload_n (i := 0) (x := a0) (q := 116) 0 hX dX12_tellMoney_115 rfl rfl rfl ?_
          refine r_aload_n (i := 0) (x := a0) (q := 117) 0 hX dX12_tellMoney_116 rfl rfl rfl ?_
          refine r_getR (a := a0) (ci := 12) (kf := 67) (q := 120) hX hc45 flX12_140 rfl dX12_tellMoney_117 rfl ?_
          refine r_iload_n (i := 1) (x := s42.1) (q := 121) 1 hX dX12_tellMoney_120 rfl rfl rfl ?_
          refine r_ck (fun hc47 => ?_)
          refine r_iald (a := (rR s42.2 a0 67)) (i := s42.1) (q := 122) hX hc47 dX12_tellMoney_121 rfl ?_
          refine r_i2l (q := 123) hX dX12_tellMoney_122 rfl ?_
          refine r_bind (fun v48 h49 => ?_)
          refine r_cv (a := a0) (As := [vj ((rI s42.2 (rR s42.2 a0 67) (ix s42.1)).toInt64)]) (st := []) (r := none) (Z1 := Z) (M1 := v48) (k1 := 0) (n1 := 0) (st1 := []) (q := 126) hX (fun l => kX12_tell l Z s42.2 a0 ((rI s42.2 (rR s42.2 a0 67) (ix s42.1)).toInt64) v48 h49) hc45 ivX12_tell ccX12_tell (Or.inl lkX12_483) rfl rfl rfl ⟨Nat.le_of_ble_eq_true rfl, Nat.le_of_ble_eq_true rfl, rfl, rfl, Nat.le_of_ble_eq_true rfl, Nat.le_of_ble_eq_true rfl⟩ (Nat.le_of_ble_eq_true rfl) dX12_tellMoney_123 rfl ?_
          refine r_aload_n (i := 0) (x := a0) (q := 127) 0 hX dX12_tellMoney_126 rfl rfl rfl ?_
          refine r_aload_n (i := 0) (x := a0) (q := 128) 0 hX dX12_tellMoney_127 rfl rfl rfl ?_
          refine r_getR (a := a0) (ci := 12) (kf := 68) (q := 131) hX hc45 flX12_143 rfl dX12_tellMoney_128 rfl ?_
          refine r_iload_n (i := 1) (x := s42.1) (q := 132) 1 hX dX12_tellMoney_131 rfl rfl rfl ?_
          refine r_ck (fun hc50 => ?_)
          refine r_iald (a := (rR v48 a0 68)) (i := s42.1) (q := 133) hX hc50 dX12_tellMoney_132 rfl ?_
          refine r_i2l (q := 134) hX dX12_tellMoney_133 rfl ?_
          refine r_bind (fun v51 h52 => ?_)
          refine r_cv (a := a0) (As := [vj ((rI v48 (rR v48 a0 68) (ix s42.1)).toInt64)]) (st := []) (r := none) (Z1 := Z) (M1 := v51) (k1 := 0) (n1 := 0) (st1 := []) (q := 137) hX (fun l => kX12_tell l Z v48 a0 ((rI v48 (rR v48 a0 68) (ix s42.1)).toInt64) v51 h52) hc45 ivX12_tell ccX12_tell (Or.inl lkX12_483) rfl rfl rfl ⟨Nat.le_of_ble_eq_true rfl, Nat.le_of_ble_eq_true rfl, rfl, rfl, Nat.le_of_ble_eq_true rfl, Nat.le_of_ble_eq_true rfl⟩ (Nat.le_of_ble_eq_true rfl) dX12_tellMoney_134 rfl ?_
          refine r_iinc (x := s42.1) (v := (s42.1 + (1 : Int32))) (q := 140) 1 1 [1, 0] (L1 := [(0, vr a0), (1, vi (s42.1 + (1 : Int32)))]) hX dX12_tellMoney_137 rfl rfl (Nat.le_of_ble_eq_true rfl) rfl rfl ?_
          refine r_goto (q := 107) hX dX12_tellMoney_140 (by decide) ?_
          refine r_l0 ?_
          exact hn43 ((s42.1 + (1 : Int32)), v51)
    · refine r_loop (Hd := fun (s21 : Int32 × Mem) (P : Option Res) => Ref mX12_tellMoney X 0 0 Z s21.2 51 [(0, vr a0), (1, vi s21.1)] [] P) (fun _ => r_none) (fun s21 K1 hn22 hx23 => ?_) ((0 : Int32), v3)
      refine r_iload_n (i := 1) (x := s21.1) (q := 52) 1 hX dX12_tellMoney_51 rfl rfl rfl ?_
      refine r_aload_n (i := 0) (x := a0) (q := 53) 0 hX dX12_tellMoney_52 rfl rfl rfl ?_
      refine r_ck (fun hc24 => ?_)
      refine r_getI (a := a0) (ci := 12) (kf := 57) (q := 56) hX hc24 flX12_419 rfl rfl dX12_tellMoney_53 rfl ?_
      refine r_icmp_ge (tgt := 105) (q := 59) hX dX12_tellMoney_56 (by decide) rfl (fun hb25 => ?_) (fun hb25 => ?_)
      · refine r_lf (hx23 _) ?_
        refine r_sub [0] rfl ?_
        exact hj18 s21.2
      · refine r_aload_n (i := 0) (x := a0) (q := 60) 0 hX dX12_tellMoney_59 rfl rfl rfl ?_
        refine r_aload_n (i := 0) (x := a0) (q := 61) 0 hX dX12_tellMoney_60 rfl rfl rfl ?_
        refine r_getR (a := a0) (ci := 12) (kf := 58) (q := 64) hX hc24 flX12_125 rfl dX12_tellMoney_61 rfl ?_
        refine r_iload_n (i := 1) (x := s21.1) (q := 65) 1 hX dX12_tellMoney_64 rfl rfl rfl ?_
        refine r_ck (fun hc26 => ?_)
        refine r_zald (a := (rR s21.2 a0 58)) (i := s21.1) (q := 66) hX hc26 dX12_tellMoney_65 rfl ?_
        refine r_jn (J := fun (v30 : Int64) (P : Option Res) => Ref mX12_tellMoney X 0 0 Z s21.2 74 [(0, vr a0), (1, vi s21.1)] [vj v30, vr a0] P) (fun v30 => ?_) (fun K1 hj28 => ?_)
        · refine r_bind (fun v31 h32 => ?_)
          refine r_cv (a := a0) (As := [vj v30]) (st := []) (r := none) (Z1 := Z) (M1 := v31) (k1 := 0) (n1 := 0) (st1 := []) (q := 77) hX (fun l => kX12_tell l Z s21.2 a0 v30 v31 h32) hc24 ivX12_tell ccX12_tell (Or.inl lkX12_483) rfl rfl rfl ⟨Nat.le_of_ble_eq_true rfl, Nat.le_of_ble_eq_true rfl, rfl, rfl, Nat.le_of_ble_eq_true rfl, Nat.le_of_ble_eq_true rfl⟩ (Nat.le_of_ble_eq_true rfl) dX12_tellMoney_74 rfl ?_
          refine r_aload_n (i := 0) (x := a0) (q := 78) 0 hX dX12_tellMoney_77 rfl rfl rfl ?_
          refine r_aload_n (i := 0) (x := a0) (q := 79) 0 hX dX12_tellMoney_78 rfl rfl rfl ?_
          refine r_getR (a := a0) (ci := 12) (kf := 59) (q := 82) hX hc24 flX12_128 rfl dX12_tellMoney_79 rfl ?_
          refine r_iload_n (i := 1) (x := s21.1) (q := 83) 1 hX dX12_tellMoney_82 rfl rfl rfl ?_
          refine r_ck (fun hc33 => ?_)
          refine r_iald (a := (rR v31 a0 59)) (i := s21.1) (q := 84) hX hc33 dX12_tellMoney_83 rfl ?_
          refine r_i2l (q := 85) hX dX12_tellMoney_84 rfl ?_
          refine r_bind (fun v34 h35 => ?_)
          refine r_cv (a := a0) (As := [vj ((rI v31 (rR v31 a0 59) (ix s21.1)).toInt64)]) (st := []) (r := none) (Z1 := Z) (M1 := v34) (k1 := 0) (n1 := 0) (st1 := []) (q := 88) hX (fun l => kX12_tell l Z v31 a0 ((rI v31 (rR v31 a0 59) (ix s21.1)).toInt64) v34 h35) hc24 ivX12_tell ccX12_tell (Or.inl lkX12_483) rfl rfl rfl ⟨Nat.le_of_ble_eq_true rfl, Nat.le_of_ble_eq_true rfl, rfl, rfl, Nat.le_of_ble_eq_true rfl, Nat.le_of_ble_eq_true rfl⟩ (Nat.le_of_ble_eq_true rfl) dX12_tellMoney_85 rfl ?_
          refine r_aload_n (i := 0) (x := a0) (q := 89) 0 hX dX12_tellMoney_88 rfl rfl rfl ?_
          refine r_aload_n (i := 0) (x := a0) (q := 90) 0 hX dX12_tellMoney_89 rfl rfl rfl ?_
          refine r_getR (a := a0) (ci := 12) (kf := 60) (q := 93) hX hc24 flX12_131 rfl dX12_tellMoney_90 rfl ?_
          refine r_iload_n (i := 1) (x := s21.1) (q := 94) 1 hX dX12_tellMoney_93 rfl rfl rfl ?_
          refine r_ck (fun hc36 => ?_)
          refine r_iald (a := (rR v34 a0 60)) (i := s21.1) (q := 95) hX hc36 dX12_tellMoney_94 rfl ?_
          refine r_i2l (q := 96) hX dX12_tellMoney_95 rfl ?_
          refine r_bind (fun v37 h38 => ?_)
          refine r_cv (a := a0) (As := [vj ((rI v34 (rR v34 a0 60) (ix s21.1)).toInt64)]) (st := []) (r := none) (Z1 := Z) (M1 := v37) (k1 := 0) (n1 := 0) (st1 := []) (q := 99) hX (fun l => kX12_tell l Z v34 a0 ((rI v34 (rR v34 a0 60) (ix s21.1)).toInt64) v37 h38) hc24 ivX12_tell ccX12_tell (Or.inl lkX12_483) rfl rfl rfl ⟨Nat.le_of_ble_eq_true rfl, Nat.le_of_ble_eq_true rfl, rfl, rfl, Nat.le_of_ble_eq_true rfl, Nat.le_of_ble_eq_true rfl⟩ (Nat.le_of_ble_eq_true rfl) dX12_tellMoney_96 rfl ?_
          refine r_iinc (x := s21.1) (v := (s21.1 + (1 : Int32))) (q := 102) 1 1 [1, 0] (L1 := [(0, vr a0), (1, vi (s21.1 + (1 : Int32)))]) hX dX12_tellMoney_99 rfl rfl (Nat.le_of_ble_eq_true rfl) rfl rfl ?_
          refine r_goto (q := 51) hX dX12_tellMoney_102 (by decide) ?_
          refine r_l0 ?_
          exact hn22 ((s21.1 + (1 : Int32)), v37)
        · refine r_if_eq (tgt := 73) (q := 69) hX dX12_tellMoney_66 (by decide) rfl (fun hb27 => ?_) (fun hb27 => ?_)
          · refine r_lconst (v := (0 : Int64)) (q := 74) hX dX12_tellMoney_73 rfl rfl ?_
            refine r_l0 ?_
            exact hj28 (0 : Int64)
          · refine r_lconst (v := (1 : Int64)) (q := 70) hX dX12_tellMoney_69 rfl rfl ?_
            refine r_goto (q := 74) hX dX12_tellMoney_70 (by decide) ?_
            refine r_l0 ?_
            exact hj28 (1 : Int64)
  · refine r_loop (Hd := fun (s4 : Int32 × Mem) (P : Option Res) => Ref mX12_tellMoney X 0 0 Z s4.2 2 [(0, vr a0), (1, vi s4.1)] [] P) (fun _ => r_none) (fun s4 K1 hn5 hx6 => ?_) ((0 : Int32), M)
    refine r_iload_n (i := 1) (x := s4.1) (q := 3) 1 hX dX12_tellMoney_2 rfl rfl rfl ?_
    refine r_aload_n (i := 0) (x := a0) (q := 4) 0 hX dX12_tellMoney_3 rfl rfl rfl ?_
    refine r_ck (fun hc7 => ?_)
    refine r_getI (a := a0) (ci := 12) (kf := 35) (q := 7) hX hc7 flX12_388 rfl rfl dX12_tellMoney_4 rfl ?_
    refine r_icmp_ge (tgt := 49) (q := 10) hX dX12_tellMoney_7 (by decide) rfl (fun hb8 => ?_) (fun hb8 => ?_)
    · refine r_lf (hx6 _) ?_
      refine r_sub [0] rfl ?_
      exact hj1 s4.2
    · refine r_aload_n (i := 0) (x := a0) (q := 11) 0 hX dX12_tellMoney_10 rfl rfl rfl ?_
      refine r_aload_n (i := 0) (x := a0) (q := 12) 0 hX dX12_tellMoney_11 rfl rfl rfl ?_
      refine r_getR (a := a0) (ci := 12) (kf := 38) (q := 15) hX hc7 flX12_98 rfl dX12_tellMoney_12 rfl ?_
      refine r_iload_n (i := 1) (x := s4.1) (q := 16) 1 hX dX12_tellMoney_15 rfl rfl rfl ?_
      refine r_ck (fun hc9 => ?_)
      refine r_iald (a := (rR s4.2 a0 38)) (i := s4.1) (q := 17) hX hc9 dX12_tellMoney_16 rfl ?_
      refine r_i2l (q := 18) hX dX12_tellMoney_17 rfl ?_
      refine r_bind (fun v10 h11 => ?_)
      refine r_cv (a := a0) (As := [vj ((rI s4.2 (rR s4.2 a0 38) (ix s4.1)).toInt64)]) (st := []) (r := none) (Z1 := Z) (M1 := v10) (k1 := 0) (n1 := 0) (st1 := []) (q := 21) hX (fun l => kX12_tell l Z s4.2 a0 ((rI s4.2 (rR s4.2 a0 38) (ix s4.1)).toInt64) v10 h11) hc7 ivX12_tell ccX12_tell (Or.inl lkX12_483) rfl rfl rfl ⟨Nat.le_of_ble_eq_true rfl, Nat.le_of_ble_eq_true rfl, rfl, rfl, Nat.le_of_ble_eq_true rfl, Nat.le_of_ble_eq_true rfl⟩ (Nat.le_of_ble_eq_true rfl) dX12_tellMoney_18 rfl ?_
      refine r_aload_n (i := 0) (x := a0) (q := 22) 0 hX dX12_tellMoney_21 rfl rfl rfl ?_
      refine r_aload_n (i := 0) (x := a0) (q := 23) 0 hX dX12_tellMoney_22 rfl rfl rfl ?_
      refine r_getR (a := a0) (ci := 12) (kf := 39) (q := 26) hX hc7 flX12_101 rfl dX12_tellMoney_23 rfl ?_
      refine r_iload_n (i := 1) (x := s4.1) (q := 27) 1 hX dX12_tellMoney_26 rfl rfl rfl ?_
      refine r_ck (fun hc12 => ?_)
      refine r_iald (a := (rR v10 a0 39)) (i := s4.1) (q := 28) hX hc12 dX12_tellMoney_27 rfl ?_
      refine r_i2l (q := 29) hX dX12_tellMoney_28 rfl ?_
      refine r_bind (fun v13 h14 => ?_)
      refine r_cv (a := a0) (As := [vj ((rI v10 (rR v10 a0 39) (ix s4.1)).toInt64)]) (st := []) (r := none) (Z1 := Z) (M1 := v13) (k1 := 0) (n1 := 0) (st1 := []) (q := 32) hX (fun l => kX12_tell l Z v10 a0 ((rI v10 (rR v10 a0 39) (ix s4.1)).toInt64) v13 h14) hc7 ivX12_tell ccX12_tell (Or.inl lkX12_483) rfl rfl rfl ⟨Nat.le_of_ble_eq_true rfl, Nat.le_of_ble_eq_true rfl, rfl, rfl, Nat.le_of_ble_eq_true rfl, Nat.le_of_ble_eq_true rfl⟩ (Nat.le_of_ble_eq_true rfl) dX12_tellMoney_29 rfl ?_
      refine r_aload_n (i := 0) (x := a0) (q := 33) 0 hX dX12_tellMoney_32 rfl rfl rfl ?_
      refine r_aload_n (i := 0) (x := a0) (q := 34) 0 hX dX12_tellMoney_33 rfl rfl rfl ?_
      refine r_getR (a := a0) (ci := 12) (kf := 37) (q := 37) hX hc7 flX12_95 rfl dX12_tellMoney_34 rfl ?_
      refine r_iload_n (i := 1) (x := s4.1) (q := 38) 1 hX dX12_tellMoney_37 rfl rfl rfl ?_
      refine r_ck (fun hc15 => ?_)
      refine r_iald (a := (rR v13 a0 37)) (i := s4.1) (q := 39) hX hc15 dX12_tellMoney_38 rfl ?_
      refine r_i2l (q := 40) hX dX12_tellMoney_39 rfl ?_
      refine r_bind (fun v16 h17 => ?_)
      refine r_cv (a := a0) (As := [vj ((rI v13 (rR v13 a0 37) (ix s4.1)).toInt64)]) (st := []) (r := none) (Z1 := Z) (M1 := v16) (k1 := 0) (n1 := 0) (st1 := []) (q := 43) hX (fun l => kX12_tell l Z v13 a0 ((rI v13 (rR v13 a0 37) (ix s4.1)).toInt64) v16 h17) hc7 ivX12_tell ccX12_tell (Or.inl lkX12_483) rfl rfl rfl ⟨Nat.le_of_ble_eq_true rfl, Nat.le_of_ble_eq_true rfl, rfl, rfl, Nat.le_of_ble_eq_true rfl, Nat.le_of_ble_eq_true rfl⟩ (Nat.le_of_ble_eq_true rfl) dX12_tellMoney_40 rfl ?_
      refine r_iinc (x := s4.1) (v := (s4.1 + (1 : Int32))) (q := 46) 1 1 [1, 0] (L1 := [(0, vr a0), (1, vi (s4.1 + (1 : Int32)))]) hX dX12_tellMoney_43 rfl rfl (Nat.le_of_ble_eq_true rfl) rfl rfl ?_
      refine r_goto (q := 2) hX dX12_tellMoney_46 (by decide) ?_
      refine r_l0 ?_
      exact hn5 ((s4.1 + (1 : Int32)), v16)
theorem lkX12_489 : Lk RX12 489 yX12_tellLine := gd (hcw8_6 _ (List.mem_of_getElem? (i := 7) rfl)) rfl
theorem lkX12_492 : Lk RX12 492 yX12_tellMoney := gd (hcw8_6 _ (List.mem_of_getElem? (i := 16) rfl)) rfl
theorem flX12_89 : FL RX12 89 12 33 := ⟨Nat.le_of_ble_eq_true rfl, Nat.le_of_ble_eq_true rfl, gd (hcw5_11 _ (List.mem_of_getElem? (i := 8) rfl)) rfl⟩
def mX12_digest : MD := (yX12_digest, cX12_digest, 2, (some .long), 3, 66, 0, 0)
theorem ccX12_digest : Cc mX12_digest 0 := ⟨gd (hcw1_0 _ (List.mem_of_getElem? (i := 10) rfl)) rfl, gd (hcw8_6 _ (List.mem_of_getElem? (i := 5) rfl)) rfl, by decide +kernel, by decide +kernel, by decide +kernel⟩
theorem ivX12_digest : Iv mX12_digest 12 := ⟨Nat.le_of_ble_eq_true rfl, rfl, gd (hcw8_6 _ (List.mem_of_getElem? (i := 3) rfl)) rfl, gd (hcw8_6 _ (List.mem_of_getElem? (i := 4) rfl)) rfl⟩
noncomputable def fX12_digest (Z : Shp) (M : Mem) (a0 : Nat) : Option (Int64 × Mem) := (if tg Z a0 = (13, 86) then (pu (wJ M a0 85 (283 : Int64)) (fun M2 => (Option.bind (fX12_tellLine Z M2 a0) (fun v3 => (Option.bind (fX12_tellMoney Z v3 a0) (fun v5 => (Option.bind (loop (fun s10 : Int32 × Mem => (if (rI s10.2 a0 34) ≤ s10.1 then some (Sum.inr s10.2) else (if aok Z (rR s10.2 a0 33) 100 s10.1 then (Option.bind (fX12_tell Z s10.2 a0 ((rI s10.2 (rR s10.2 a0 33) (ix s10.1)).toInt64)) (fun v15 => some (Sum.inl ((s10.1 + (1 : Int32)), v15)))) else none))) ((0 : Int32), v5)) (fun v9 : Mem => (loop (fun s17 : Int32 × Mem => (if (12 : Int32) ≤ s17.1 then some (Sum.inr ((rJ s17.2 a0 85), s17.2)) else (Option.bind (fX12_countOf Z s17.2 a0 s17.1) (fun v21 => (Option.bind (fX12_tell Z s17.2 a0 (v21.toInt64)) (fun v23 => some (Sum.inl ((s17.1 + (1 : Int32)), v23)))))))) ((0 : Int32), v9)))))))))) else none)
set_option maxRecDepth 20000 in
theorem kX12_digest (l : Launch) (Z : Shp) (M : Mem) (a0 : Nat) (r : Int64 × Mem) (h : fX12_digest Z M a0 = some r) : Ct l mX12_digest [vr a0] Z M ((some (vj r.1)), Z, r.2) := by
  refine Ct.of rfl (Nat.le_of_ble_eq_true rfl) (fun X hM => ?_)
  have hX := hM.1
  refine r_top (mk := fun r => ((some (vj r.1)), Z, r.2)) h (fun K hK => ?_)
  unfold fX12_digest
  refine r_aload_n (i := 0) (x := a0) (q := 1) 0 hX dX12_digest_0 rfl rfl rfl ?_
  refine r_ldc2 (v := (283 : Int64)) (q := 4) hX dX12_digest_1 (gd (hcw8_6 _ (List.mem_of_getElem? (i := 6) rfl)) rfl) rfl ?_
  refine r_ck (fun hc1 => ?_)
  refine r_putJ (a := a0) (ci := 12) (kf := 85) (q := 7) hX hc1 flX12_480 rfl rfl (Or.inl rfl) rfl rfl dX12_digest_4 rfl (fun M2 => ?_)
  refine r_aload_n (i := 0) (x := a0) (q := 8) 0 hX dX12_digest_7 rfl rfl rfl ?_
  refine r_bind (fun v3 h4 => ?_)
  refine r_cv (a := a0) (As := []) (st := []) (r := none) (Z1 := Z) (M1 := v3) (k1 := 0) (n1 := 0) (st1 := []) (q := 11) hX (fun l => kX12_tellLine l Z M2 a0 v3 h4) hc1 ivX12_tellLine ccX12_tellLine (Or.inl lkX12_489) rfl rfl rfl ⟨Nat.le_of_ble_eq_true rfl, Nat.le_of_ble_eq_true rfl, rfl, rfl, Nat.le_of_ble_eq_true rfl, Nat.le_of_ble_eq_true rfl⟩ (Nat.le_of_ble_eq_true rfl) dX12_digest_8 rfl ?_
  refine r_aload_n (i := 0) (x := a0) (q := 12) 0 hX dX12_digest_11 rfl rfl rfl ?_
  refine r_bind (fun v5 h6 => ?_)
  refine r_cv (a := a0) (As := []) (st := []) (r := none) (Z1 := Z) (M1 := v5) (k1 := 0) (n1 := 0) (st1 := []) (q := 15) hX (fun l => kX12_tellMoney l Z v3 a0 v5 h6) hc1 ivX12_tellMoney ccX12_tellMoney (Or.inl lkX12_492) rfl rfl rfl ⟨Nat.le_of_ble_eq_true rfl, Nat.le_of_ble_eq_true rfl, rfl, rfl, Nat.le_of_ble_eq_true rfl, Nat.le_of_ble_eq_true rfl⟩ (Nat.le_of_ble_eq_true rfl) dX12_digest_12 rfl ?_
  refine r_iconst (v := (0 : Int32)) (q := 16) hX dX12_digest_15 rfl rfl ?_
  refine r_istore_n (x := (0 : Int32)) (q := 17) 1 [1, 0] (L1 := [(0, vr a0), (1, vi (0 : Int32))]) hX dX12_digest_16 rfl (Nat.le_of_ble_eq_true rfl) rfl rfl ?_
  refine r_jn (J := fun (v9 : Mem) (P : Option Res) => Ref mX12_digest X 0 0 Z v9 42 [(0, vr a0)] [] P) (fun v9 => ?_) (fun K1 hj7 => ?_)
  · refine r_iconst (v := (0 : Int32)) (q := 43) hX dX12_digest_42 rfl rfl ?_
    refine r_istore_n (x := (0 : Int32)) (q := 44) 1 [1, 0] (L1 := [(0, vr a0), (1, vi (0 : Int32))]) hX dX12_digest_43 rfl (Nat.le_of_ble_eq_true rfl) rfl rfl ?_
    refine r_loop (Hd := fun (s17 : Int32 × Mem) (P : Option Res) => Ref mX12_digest X 0 0 Z s17.2 44 [(0, vr a0), (1, vi s17.1)] [] P) (fun _ => r_none) (fun s17 K1 hn18 hx19 => ?_) ((0 : Int32), v9)
    refine r_iload_n (i := 1) (x := s17.1) (q := 45) 1 hX dX12_digest_44 rfl rfl rfl ?_
    refine r_bipush (v := (12 : Int32)) (q := 47) hX dX12_digest_45 rfl rfl ?_
    refine r_icmp_ge (tgt := 66) (q := 50) hX dX12_digest_47 (by decide) rfl (fun hb20 => ?_) (fun hb20 => ?_)
    · refine r_aload_n (i := 0) (x := a0) (q := 67) 0 hX dX12_digest_66 rfl rfl rfl ?_
      refine r_getJ (a := a0) (ci := 12) (kf := 85) (q := 70) hX hc1 flX12_480 rfl rfl dX12_digest_67 rfl ?_
      refine r_lf ((hx19 _).trans (hK _)) ?_
      exact r_lret hM rfl (Nat.le_of_ble_eq_true rfl) (Nat.le_of_ble_eq_true rfl) dX12_digest_70
    · refine r_aload_n (i := 0) (x := a0) (q := 51) 0 hX dX12_digest_50 rfl rfl rfl ?_
      refine r_aload_n (i := 0) (x := a0) (q := 52) 0 hX dX12_digest_51 rfl rfl rfl ?_
      refine r_iload_n (i := 1) (x := s17.1) (q := 53) 1 hX dX12_digest_52 rfl rfl rfl ?_
      refine r_bind (fun v21 h22 => ?_)
      refine r_cv (a := a0) (As := [vi s17.1]) (st := [vr a0]) (r := (some (vi v21))) (Z1 := Z) (M1 := s17.2) (k1 := 0) (n1 := 0) (st1 := [vi v21, vr a0]) (q := 56) hX (fun l => kX12_countOf l Z s17.2 a0 s17.1 v21 h22) hc1 ivX12_countOf ccX12_countOf (Or.inl lkX12_475) rfl rfl rfl ⟨Nat.le_of_ble_eq_true rfl, Nat.le_of_ble_eq_true rfl, rfl, rfl, Nat.le_of_ble_eq_true rfl, Nat.le_of_ble_eq_true rfl⟩ (Nat.le_of_ble_eq_true rfl) dX12_digest_53 rfl ?_
      refine r_i2l (q := 57) hX dX12_digest_56 rfl ?_
      refine r_bind (fun v23 h24 => ?_)
      refine r_cv (a := a0) (As := [vj (v21.toInt64)]) (st := []) (r := none) (Z1 := Z) (M1 := v23) (k1 := 0) (n1 := 0) (st1 := []) (q := 60) hX (fun l => kX12_tell l Z s17.2 a0 (v21.toInt64) v23 h24) hc1 ivX12_tell ccX12_tell (Or.inl lkX12_483) rfl rfl rfl ⟨Nat.le_of_ble_eq_true rfl, Nat.le_of_ble_eq_true rfl, rfl, rfl, Nat.le_of_ble_eq_true rfl, Nat.le_of_ble_eq_true rfl⟩ (Nat.le_of_ble_eq_true rfl) dX12_digest_57 rfl ?_
      refine r_iinc (x := s17.1) (v := (s17.1 + (1 : Int32))) (q := 63) 1 1 [1, 0] (L1 := [(0, vr a0), (1, vi (s17.1 + (1 : Int32)))]) hX dX12_digest_60 rfl rfl (Nat.le_of_ble_eq_true rfl) rfl rfl ?_
      refine r_goto (q := 44) hX dX12_digest_63 (by decide) ?_
      refine r_l0 ?_
      exact hn18 ((s17.1 + (1 : Int32)), v23)
  · refine r_loop (Hd := fun (s10 : Int32 × Mem) (P : Option Res) => Ref mX12_digest X 0 0 Z s10.2 17 [(0, vr a0), (1, vi s10.1)] [] P) (fun _ => r_none) (fun s10 K1 hn11 hx12 => ?_) ((0 : Int32), v5)
    refine r_iload_n (i := 1) (x := s10.1) (q := 18) 1 hX dX12_digest_17 rfl rfl rfl ?_
    refine r_aload_n (i := 0) (x := a0) (q := 19) 0 hX dX12_digest_18 rfl rfl rfl ?_
    refine r_getI (a := a0) (ci := 12) (kf := 34) (q := 22) hX hc1 flX12_323 rfl rfl dX12_digest_19 rfl ?_
    refine r_icmp_ge (tgt := 42) (q := 25) hX dX12_digest_22 (by decide) rfl (fun hb13 => ?_) (fun hb13 => ?_)
    · refine r_lf (hx12 _) ?_
      refine r_sub [0] rfl ?_
      exact hj7 s10.2
    · refine r_aload_n (i := 0) (x := a0) (q := 26) 0 hX dX12_digest_25 rfl rfl rfl ?_
      refine r_aload_n (i := 0) (x := a0) (q := 27) 0 hX dX12_digest_26 rfl rfl rfl ?_
      refine r_getR (a := a0) (ci := 12) (kf := 33) (q := 30) hX hc1 flX12_89 rfl dX12_digest_27 rfl ?_
      refine r_iload_n (i := 1) (x := s10.1) (q := 31) 1 hX dX12_digest_30 rfl rfl rfl ?_
      refine r_ck (fun hc14 => ?_)
      refine r_iald (a := (rR s10.2 a0 33)) (i := s10.1) (q := 32) hX hc14 dX12_digest_31 rfl ?_
      refine r_i2l (q := 33) hX dX12_digest_32 rfl ?_
      refine r_bind (fun v15 h16 => ?_)
      refine r_cv (a := a0) (As := [vj ((rI s10.2 (rR s10.2 a0 33) (ix s10.1)).toInt64)]) (st := []) (r := none) (Z1 := Z) (M1 := v15) (k1 := 0) (n1 := 0) (st1 := []) (q := 36) hX (fun l => kX12_tell l Z s10.2 a0 ((rI s10.2 (rR s10.2 a0 33) (ix s10.1)).toInt64) v15 h16) hc1 ivX12_tell ccX12_tell (Or.inl lkX12_483) rfl rfl rfl ⟨Nat.le_of_ble_eq_true rfl, Nat.le_of_ble_eq_true rfl, rfl, rfl, Nat.le_of_ble_eq_true rfl, Nat.le_of_ble_eq_true rfl⟩ (Nat.le_of_ble_eq_true rfl) dX12_digest_33 rfl ?_
      refine r_iinc (x := s10.1) (v := (s10.1 + (1 : Int32))) (q := 39) 1 1 [1, 0] (L1 := [(0, vr a0), (1, vi (s10.1 + (1 : Int32)))]) hX dX12_digest_36 rfl rfl (Nat.le_of_ble_eq_true rfl) rfl rfl ?_
      refine r_goto (q := 17) hX dX12_digest_39 (by decide) ?_
      refine r_l0 ?_
      exact hn11 ((s10.1 + (1 : Int32)), v15)
def mX12_isHolder : MD := (yX12_isHolder, cX12_isHolder, 1, (some .boolean), 1, 25, 0, 0)
theorem ccX12_isHolder : Cc mX12_isHolder 1 := ⟨gd (hcw1_0 _ (List.mem_of_getElem? (i := 10) rfl)) rfl, gd (hcw8_3 _ (List.mem_of_getElem? (i := 12) rfl)) rfl, by decide +kernel, by decide +kernel, by decide +kernel⟩
theorem stX12_isHolder : Cond.static (yN mX12_isHolder) ∈ lw_gd := gd (hcw8_3 _ (List.mem_of_getElem? (i := 11) rfl)) rfl
def fX12_isHolder (x0 : Int32) : Int32 := (fX12_in (x0.toInt64) (0 : Int64) (5 : Int64))
def gX12_isHolder (x0 : Int32) : Option (Int32) := some (fX12_in (x0.toInt64) (0 : Int64) (5 : Int64))
theorem eX12_isHolder (x0 : Int32) : gX12_isHolder x0 = some (fX12_isHolder x0) := rfl
theorem bX12_isHolder (x0 : Int32) : zb (fX12_isHolder x0) := (bX12_in (x0.toInt64) (0 : Int64) (5 : Int64))
set_option maxRecDepth 20000 in
theorem kX12_isHolder (l : Launch) (Z : Shp) (M : Mem) (x0 : Int32) : Ct l mX12_isHolder [vi x0] Z M ((some (vi (fX12_isHolder x0))), Z, M) := by
  refine Ct.of rfl (Nat.le_of_ble_eq_true rfl) (fun X hM => ?_)
  have hX := hM.1
  refine r_top (mk := fun r => ((some (vi r)), Z, M)) (eX12_isHolder x0) (fun K hK => ?_)
  unfold gX12_isHolder
  refine r_iload_n (i := 0) (x := x0) (q := 1) 0 hX dX12_isHolder_0 rfl rfl rfl ?_
  refine r_i2l (q := 2) hX dX12_isHolder_1 rfl ?_
  refine r_lconst (v := (0 : Int64)) (q := 3) hX dX12_isHolder_2 rfl rfl ?_
  refine r_ldc2 (v := (5 : Int64)) (q := 6) hX dX12_isHolder_3 (gd (hcw8_3 _ (List.mem_of_getElem? (i := 13) rfl)) rfl) rfl ?_
  refine r_cs (As := [vj (x0.toInt64), vj (0 : Int64), vj (5 : Int64)]) (st := []) (r := (some (vi (fX12_in (x0.toInt64) (0 : Int64) (5 : Int64))))) (Z1 := Z) (M1 := M) (k1 := 0) (n1 := 0) (st1 := [vi (fX12_in (x0.toInt64) (0 : Int64) (5 : Int64))]) (q := 9) hX (fun l => kX12_in l Z M (x0.toInt64) (0 : Int64) (5 : Int64)) stX12_in ccX12_in (Or.inl lkX12_194) rfl rfl rfl ⟨Nat.le_of_ble_eq_true rfl, Nat.le_of_ble_eq_true rfl, rfl, rfl, Nat.le_of_ble_eq_true rfl, Nat.le_of_ble_eq_true rfl⟩ (Nat.le_of_ble_eq_true rfl) dX12_isHolder_6 rfl ?_
  refine r_lf (hK _) ?_
  exact r_zret hM rfl (bX12_in (x0.toInt64) (0 : Int64) (5 : Int64)) (Nat.le_of_ble_eq_true rfl) (Nat.le_of_ble_eq_true rfl) dX12_isHolder_9
theorem lkX12_460 : Lk RX12 460 yX12_isHolder := gd (hcw8_3 _ (List.mem_of_getElem? (i := 10) rfl)) rfl
def mX12_dividend : MD := (yX12_dividend, cX12_dividend, 14, (some .int), 2, 45, 0, 0)
theorem ccX12_dividend : Cc mX12_dividend 3 := ⟨gd (hcw1_0 _ (List.mem_of_getElem? (i := 10) rfl)) rfl, gd (hcw8_4 _ (List.mem_of_getElem? (i := 9) rfl)) rfl, by decide +kernel, by decide +kernel, by decide +kernel⟩
theorem ivX12_dividend : Iv mX12_dividend 12 := ⟨Nat.le_of_ble_eq_true rfl, rfl, gd (hcw8_4 _ (List.mem_of_getElem? (i := 7) rfl)) rfl, gd (hcw8_4 _ (List.mem_of_getElem? (i := 8) rfl)) rfl⟩
noncomputable def fX12_dividend (Z : Shp) (M : Mem) (a0 : Nat) (x1 : Int32) (x2 : Int32) (x3 : Int32) : Option (Int32) := (if (fX12_isHolder x1) = 0 then some (-101 : Int32) else (if (fX12_in (x2.toInt64) (0 : Int64) (999999 : Int64)) = 0 then some (-102 : Int32) else (if (fX12_isDay x3) = 0 then some (-102 : Int32) else (Option.bind (loop (fun s7 : Int64 × Int32 => (if (6 : Int32) ≤ s7.2 then some (Sum.inr s7.1) else (if tg Z a0 = (13, 86) then (Option.bind (fX12_hadOf Z M a0 s7.2 x3) (fun v12 => (pu ((s7.1 + (v12.toInt64))) (fun z14 => some (Sum.inl (z14, (s7.2 + (1 : Int32)))))))) else none))) ((0 : Int64), (0 : Int32))) (fun v6 : Int64 => (if (lg_cmp v6 (0 : Int64)) = 0 then some (-103 : Int32) else (pu ((x2.toInt64)) (fun z16 => (if tg Z a0 = (13, 86) then (Option.bind (fX12_hadOf Z M a0 x1 x3) (fun v18 => (pu (((x2.toInt64) * (v18.toInt64))) (fun z20 => (Option.bind (loop (fun s24 : Int64 × Int32 × Int32 => (if (6 : Int32) ≤ s24.2.2 then some (Sum.inr (s24.1, s24.2.1)) else (Option.bind (fX12_hadOf Z M a0 s24.2.2 x3) (fun v28 => (pu (((x2.toInt64) * (v28.toInt64))) (fun z30 => (if ¬ v6 = 0 then (pu ((s24.1 - (z30 / v6))) (fun z32 => (if 0 < (lg_cmp (z30 - z30 / v6 * v6) (z20 - z20 / v6 * v6)) then (pu ((s24.2.1 + (1 : Int32))) (fun z34 => some (Sum.inl (z32, z34, (s24.2.2 + (1 : Int32)))))) else (if (lg_cmp (z30 - z30 / v6 * v6) (z20 - z20 / v6 * v6)) = 0 then (if x1 ≤ s24.2.2 then (pu ((s24.2.1 + (0 : Int32))) (fun z37 => some (Sum.inl (z32, z37, (s24.2.2 + (1 : Int32)))))) else (pu ((s24.2.1 + (1 : Int32))) (fun z38 => some (Sum.inl (z32, z38, (s24.2.2 + (1 : Int32))))))) else (pu ((s24.2.1 + (0 : Int32))) (fun z39 => some (Sum.inl (z32, z39, (s24.2.2 + (1 : Int32)))))))))) else none))))))) (z16, (0 : Int32), (0 : Int32))) (fun v23 : Int64 × Int32 => (if ¬ v6 = 0 then (if 0 ≤ (lg_cmp (v23.2.toInt64) v23.1) then some (((z20 / v6).toInt32) + (0 : Int32)) else some (((z20 / v6).toInt32) + (1 : Int32))) else none))))))) else none)))))))))
set_option maxRecDepth 20000 in
theorem kX12_dividend (l : Launch) (Z : Shp) (M : Mem) (a0 : Nat) (x1 : Int32) (x2 : Int32) (x3 : Int32) (r : Int32) (h : fX12_dividend Z M a0 x1 x2 x3 = some r) : Ct l mX12_dividend [vr a0, vi x1, vi x2, vi x3] Z M ((some (vi r)), Z, M) := by
  refine Ct.of rfl (Nat.le_of_ble_eq_true rfl) (fun X hM => ?_)
  have hX := hM.1
  refine r_top (mk := fun r => ((some (vi r)), Z, M)) h (fun K hK => ?_)
  unfold fX12_dividend
  refine r_iload_n (i := 1) (x := x1) (q := 1) 1 hX dX12_dividend_0 rfl rfl rfl ?_
  refine r_cs (As := [vi x1]) (st := []) (r := (some (vi (fX12_isHolder x1)))) (Z1 := Z) (M1 := M) (k1 := 0) (n1 := 0) (st1 := [vi (fX12_isHolder x1)]) (q := 4) hX (fun l => kX12_isHolder l Z M x1) stX12_isHolder ccX12_isHolder (Or.inl lkX12_460) rfl rfl rfl ⟨Nat.le_of_ble_eq_true rfl, Nat.le_of_ble_eq_true rfl, rfl, rfl, Nat.le_of_ble_eq_true rfl, Nat.le_of_ble_eq_true rfl⟩ (Nat.le_of_ble_eq_true rfl) dX12_dividend_1 rfl ?_
  refine r_if_ne (tgt := 10) (q := 7) hX dX12_dividend_4 (by decide) rfl (fun hb1 => ?_) (fun hb1 => ?_)
  · refine r_bipush (v := (-101 : Int32)) (q := 9) hX dX12_dividend_7 rfl rfl ?_
    refine r_lf (hK _) ?_
    exact r_iret hM rfl (Nat.le_of_ble_eq_true rfl) (Nat.le_of_ble_eq_true rfl) dX12_dividend_9
  · refine r_iload_n (i := 2) (x := x2) (q := 11) 2 hX dX12_dividend_10 rfl rfl rfl ?_
    refine r_i2l (q := 12) hX dX12_dividend_11 rfl ?_
    refine r_lconst (v := (0 : Int64)) (q := 13) hX dX12_dividend_12 rfl rfl ?_
    refine r_ldc2 (v := (999999 : Int64)) (q := 16) hX dX12_dividend_13 (gd (hcw8_2 _ (List.mem_of_getElem? (i := 16) rfl)) rfl) rfl ?_
    refine r_cs (As := [vj (x2.toInt64), vj (0 : Int64), vj (999999 : Int64)]) (st := []) (r := (some (vi (fX12_in (x2.toInt64) (0 : Int64) (999999 : Int64))))) (Z1 := Z) (M1 := M) (k1 := 0) (n1 := 0) (st1 := [vi (fX12_in (x2.toInt64) (0 : Int64) (999999 : Int64))]) (q := 19) hX (fun l => kX12_in l Z M (x2.toInt64) (0 : Int64) (999999 : Int64)) stX12_in ccX12_in (Or.inl lkX12_194) rfl rfl rfl ⟨Nat.le_of_ble_eq_true rfl, Nat.le_of_ble_eq_true rfl, rfl, rfl, Nat.le_of_ble_eq_true rfl, Nat.le_of_ble_eq_true rfl⟩ (Nat.le_of_ble_eq_true rfl) dX12_dividend_16 rfl ?_
    refine r_if_eq (tgt := 29) (q := 22) hX dX12_dividend_19 (by decide) rfl (fun hb2 => ?_) (fun hb2 => ?_)
    · refine r_bipush (v := (-102 : Int32)) (q := 31) hX dX12_dividend_29 rfl rfl ?_
      refine r_lf (hK _) ?_
      exact r_iret hM rfl (Nat.le_of_ble_eq_true rfl) (Nat.le_of_ble_eq_true rfl) dX12_dividend_31
    · refine r_iload_n (i := 3) (x := x3) (q := 23) 3 hX dX12_dividend_22 rfl rfl rfl ?_
      refine r_cs (As := [vi x3]) (st := []) (r := (some (vi (fX12_isDay x3)))) (Z1 := Z) (M1 := M) (k1 := 0) (n1 := 0) (st1 := [vi (fX12_isDay x3)]) (q := 26) hX (fun l => kX12_isDay l Z M x3) stX12_isDay ccX12_isDay (Or.inl lkX12_393) rfl rfl rfl ⟨Nat.le_of_ble_eq_true rfl, Nat.le_of_ble_eq_true rfl, rfl, rfl, Nat.le_of_ble_eq_true rfl, Nat.le_of_ble_eq_true rfl⟩ (Nat.le_of_ble_eq_true rfl) dX12_dividend_23 rfl ?_
      refine r_if_ne (tgt := 32) (q := 29) hX dX12_dividend_26 (by decide) rfl (fun hb3 => ?_) (fun hb3 => ?_)
      · refine r_bipush (v := (-102 : Int32)) (q := 31) hX dX12_dividend_29 rfl rfl ?_
        refine r_lf (hK _) ?_
        exact r_iret hM rfl (Nat.le_of_ble_eq_true rfl) (Nat.le_of_ble_eq_true rfl) dX12_dividend_31
      · refine r_lconst (v := (0 : Int64)) (q := 33) hX dX12_dividend_32 rfl rfl ?_
        refine r_lstore (x := (0 : Int64)) (q := 35) 4 [1, 2, 3, 4, 0] (L1 := [(0, vr a0), (1, vi x1), (2, vi x2), (3, vi x3), (4, vj (0 : Int64))]) hX dX12_dividend_33 (Nat.le_of_ble_eq_true rfl) rfl rfl ?_
        refine r_iconst (v := (0 : Int32)) (q := 36) hX dX12_dividend_35 rfl rfl ?_
        refine r_istore (x := (0 : Int32)) (q := 38) 6 [1, 2, 3, 4, 5, 0] (L1 := [(0, vr a0), (1, vi x1), (2, vi x2), (3, vi x3), (4, vj (0 : Int64)), (6, vi (0 : Int32))]) hX dX12_dividend_36 (Nat.le_of_ble_eq_true rfl) rfl rfl ?_
        refine r_jn (J := fun (v6 : Int64) (P : Option Res) => Ref mX12_dividend X 0 0 Z M 64 [(0, vr a0), (1, vi x1), (2, vi x2), (3, vi x3), (4, vj v6)] [] P) (fun v6 => ?_) (fun K1 hj4 => ?_)
        · refine r_lload (i := 4) (x := v6) (q := 66) 4 hX dX12_dividend_64 rfl rfl ?_
          refine r_lconst (v := (0 : Int64)) (q := 67) hX dX12_dividend_66 rfl rfl ?_
          refine r_lcmp (q := 68) hX dX12_dividend_67 rfl ?_
          refine r_if_ne (tgt := 74) (q := 71) hX dX12_dividend_68 (by decide) rfl (fun hb15 => ?_) (fun hb15 => ?_)
          · refine r_bipush (v := (-103 : Int32)) (q := 73) hX dX12_dividend_71 rfl rfl ?_
            refine r_lf (hK _) ?_
            exact r_iret hM rfl (Nat.le_of_ble_eq_true rfl) (Nat.le_of_ble_eq_true rfl) dX12_dividend_73
          · refine r_iload_n (i := 2) (x := x2) (q := 75) 2 hX dX12_dividend_74 rfl rfl rfl ?_
            refine r_i2l (q := 76) hX dX12_dividend_75 rfl ?_
            refine r_lstoreP (x := (x2.toInt64)) (q := 78) 6 [1, 2, 3, 4, 5, 0] (fun z16 => [(0, vr a0), (1, vi x1), (2, vi x2), (3, vi x3), (4, vj v6), (6, vj z16)]) hX dX12_dividend_76 (Nat.le_of_ble_eq_true rfl) (fun _ => rfl) rfl (fun z16 => ?_)
            refine r_iconst (v := (0 : Int32)) (q := 79) hX dX12_dividend_78 rfl rfl ?_
            refine r_istore (x := (0 : Int32)) (q := 81) 8 [1, 2, 3, 4, 5, 6, 0] (L1 := [(0, vr a0), (1, vi x1), (2, vi x2), (3, vi x3), (4, vj v6), (6, vj z16), (8, vi (0 : Int32))]) hX dX12_dividend_79 (Nat.le_of_ble_eq_true rfl) rfl rfl ?_
            refine r_iload_n (i := 2) (x := x2) (q := 82) 2 hX dX12_dividend_81 rfl rfl rfl ?_
            refine r_i2l (q := 83) hX dX12_dividend_82 rfl ?_
            refine r_aload_n (i := 0) (x := a0) (q := 84) 0 hX dX12_dividend_83 rfl rfl rfl ?_
            refine r_iload_n (i := 1) (x := x1) (q := 85) 1 hX dX12_dividend_84 rfl rfl rfl ?_
            refine r_iload_n (i := 3) (x := x3) (q := 86) 3 hX dX12_dividend_85 rfl rfl rfl ?_
            refine r_ck (fun hc17 => ?_)
            refine r_bind (fun v18 h19 => ?_)
            refine r_cv (a := a0) (As := [vi x1, vi x3]) (st := [vj (x2.toInt64)]) (r := (some (vi v18))) (Z1 := Z) (M1 := M) (k1 := 0) (n1 := 0) (st1 := [vi v18, vj (x2.toInt64)]) (q := 89) hX (fun l => kX12_hadOf l Z M a0 x1 x3 v18 h19) hc17 ivX12_hadOf ccX12_hadOf (Or.inl lkX12_466) rfl rfl rfl ⟨Nat.le_of_ble_eq_true rfl, Nat.le_of_ble_eq_true rfl, rfl, rfl, Nat.le_of_ble_eq_true rfl, Nat.le_of_ble_eq_true rfl⟩ (Nat.le_of_ble_eq_true rfl) dX12_dividend_86 rfl ?_
            refine r_i2l (q := 90) hX dX12_dividend_89 rfl ?_
            refine r_lmul (q := 91) hX dX12_dividend_90 rfl ?_
            refine r_lstoreP (x := ((x2.toInt64) * (v18.toInt64))) (q := 93) 9 [1, 2, 3, 4, 5, 6, 7, 0] (fun z20 => [(0, vr a0), (1, vi x1), (2, vi x2), (3, vi x3), (4, vj v6), (6, vj z16), (8, vi (0 : Int32)), (9, vj z20)]) hX dX12_dividend_91 (Nat.le_of_ble_eq_true rfl) (fun _ => rfl) rfl (fun z20 => ?_)
            refine r_iconst (v := (0 : Int32)) (q := 94) hX dX12_dividend_93 rfl rfl ?_
            refine r_istore (x := (0 : Int32)) (q := 96) 11 [1, 2, 3, 4, 5, 6, 7, 8, 0] (L1 := [(0, vr a0), (1, vi x1), (2, vi x2), (3, vi x3), (4, vj v6), (6, vj z16), (8, vi (0 : Int32)), (9, vj z20), (11, vi (0 : Int32))]) hX dX12_dividend_94 (Nat.le_of_ble_eq_true rfl) rfl rfl ?_
            refine r_jn (J := fun (v23 : Int64 × Int32) (P : Option Res) => Ref mX12_dividend X 0 0 Z M 176 [(4, vj v6), (6, vj v23.1), (8, vi v23.2), (9, vj z20)] [] P) (fun v23 => ?_) (fun K1 hj21 => ?_)
            · refine r_lload (i := 9) (x := z20) (q := 178) 3 hX dX12_dividend_176 rfl rfl ?_
              refine r_lload (i := 4) (x := v6) (q := 180) 0 hX dX12_dividend_178 rfl rfl ?_
              refine r_ck (fun hd40 => ?_)
              refine r_ldiv (q := 181) hX dX12_dividend_180 hd40 rfl ?_
              refine r_l2i (q := 182) hX dX12_dividend_181 rfl ?_
              refine r_iload (i := 8) (x := v23.2) (q := 184) 2 hX dX12_dividend_182 rfl rfl ?_
              refine r_i2l (q := 185) hX dX12_dividend_184 rfl ?_
              refine r_lload (i := 6) (x := v23.1) (q := 187) 1 hX dX12_dividend_185 rfl rfl ?_
              refine r_lcmp (q := 188) hX dX12_dividend_187 rfl ?_
              refine r_if_ge (tgt := 195) (q := 191) hX dX12_dividend_188 (by decide) rfl (fun hb41 => ?_) (fun hb41 => ?_)
              · refine r_iconst (v := (0 : Int32)) (q := 196) hX dX12_dividend_195 rfl rfl ?_
                refine r_iadd (q := 197) hX dX12_dividend_196 rfl ?_
                refine r_lf (hK _) ?_
                exact r_iret hM rfl (Nat.le_of_ble_eq_true rfl) (Nat.le_of_ble_eq_true rfl) dX12_dividend_197
              · refine r_iconst (v := (1 : Int32)) (q := 192) hX dX12_dividend_191 rfl rfl ?_
                refine r_goto (q := 196) hX dX12_dividend_192 (by decide) ?_
                refine r_iadd (q := 197) hX dX12_dividend_196 rfl ?_
                refine r_lf (hK _) ?_
                exact r_iret hM rfl (Nat.le_of_ble_eq_true rfl) (Nat.le_of_ble_eq_true rfl) dX12_dividend_197
            · refine r_loop (Hd := fun (s24 : Int64 × Int32 × Int32) (P : Option Res) => Ref mX12_dividend X 0 0 Z M 96 [(0, vr a0), (1, vi x1), (2, vi x2), (3, vi x3), (4, vj v6), (6, vj s24.1), (8, vi s24.2.1), (9, vj z20), (11, vi s24.2.2)] [] P) (fun _ => r_none) (fun s24 K1 hn25 hx26 => ?_) (z16, (0 : Int32), (0 : Int32))
              refine r_iload (i := 11) (x := s24.2.2) (q := 98) 8 hX dX12_dividend_96 rfl rfl ?_
              refine r_bipush (v := (6 : Int32)) (q := 100) hX dX12_dividend_98 rfl rfl ?_
              refine r_icmp_ge (tgt := 176) (q := 103) hX dX12_dividend_100 (by decide) rfl (fun hb27 => ?_) (fun hb27 => ?_)
              · refine r_lf (hx26 _) ?_
                refine r_sub [4, 5, 6, 7] rfl ?_
                exact hj21 (s24.1, s24.2.1)
              · refine r_iload_n (i := 2) (x := x2) (q := 104) 2 hX dX12_dividend_103 rfl rfl rfl ?_
                refine r_i2l (q := 105) hX dX12_dividend_104 rfl ?_
                refine r_aload_n (i := 0) (x := a0) (q := 106) 0 hX dX12_dividend_105 rfl rfl rfl ?_
                refine r_iload (i := 11) (x := s24.2.2) (q := 108) 8 hX dX12_dividend_106 rfl rfl ?_
                refine r_iload_n (i := 3) (x := x3) (q := 109) 3 hX dX12_dividend_108 rfl rfl rfl ?_
                refine r_bind (fun v28 h29 => ?_)
                refine r_cv (a := a0) (As := [vi s24.2.2, vi x3]) (st := [vj (x2.toInt64)]) (r := (some (vi v28))) (Z1 := Z) (M1 := M) (k1 := 0) (n1 := 0) (st1 := [vi v28, vj (x2.toInt64)]) (q := 112) hX (fun l => kX12_hadOf l Z M a0 s24.2.2 x3 v28 h29) hc17 ivX12_hadOf ccX12_hadOf (Or.inl lkX12_466) rfl rfl rfl ⟨Nat.le_of_ble_eq_true rfl, Nat.le_of_ble_eq_true rfl, rfl, rfl, Nat.le_of_ble_eq_true rfl, Nat.le_of_ble_eq_true rfl⟩ (Nat.le_of_ble_eq_true rfl) dX12_dividend_109 rfl ?_
                refine r_i2l (q := 113) hX dX12_dividend_112 rfl ?_
                refine r_lmul (q := 114) hX dX12_dividend_113 rfl ?_
                refine r_lstoreP (x := ((x2.toInt64) * (v28.toInt64))) (q := 116) 12 [1, 2, 3, 4, 5, 6, 7, 8, 9, 0] (fun z30 => [(0, vr a0), (1, vi x1), (2, vi x2), (3, vi x3), (4, vj v6), (6, vj s24.1), (8, vi s24.2.1), (9, vj z20), (11, vi s24.2.2), (12, vj z30)]) hX dX12_dividend_114 (Nat.le_of_ble_eq_true rfl) (fun _ => rfl) rfl (fun z30 => ?_)
                refine r_lload (i := 6) (x := s24.1) (q := 118) 5 hX dX12_dividend_116 rfl rfl ?_
                refine r_lload (i := 12) (x := z30) (q := 120) 9 hX dX12_dividend_118 rfl rfl ?_
                refine r_lload (i := 4) (x := v6) (q := 122) 4 hX dX12_dividend_120 rfl rfl ?_
                refine r_ck (fun hd31 => ?_)
                refine r_ldiv (q := 123) hX dX12_dividend_122 hd31 rfl ?_
                refine r_lsub (q := 124) hX dX12_dividend_123 rfl ?_
                refine r_lstoreP (x := (s24.1 - (z30 / v6))) (q := 126) 6 [1, 2, 3, 4, 5, 0, 7, 8, 9, 10] (fun z32 => [(0, vr a0), (1, vi x1), (2, vi x2), (3, vi x3), (4, vj v6), (6, vj z32), (8, vi s24.2.1), (9, vj z20), (11, vi s24.2.2), (12, vj z30)]) hX dX12_dividend_124 (Nat.le_of_ble_eq_true rfl) (fun _ => rfl) rfl (fun z32 => ?_)
                refine r_iload (i := 8) (x := s24.2.1) (q := 128) 6 hX dX12_dividend_126 rfl rfl ?_
                refine r_lload (i := 12) (x := z30) (q := 130) 9 hX dX12_dividend_128 rfl rfl ?_
                refine r_lload (i := 4) (x := v6) (q := 132) 4 hX dX12_dividend_130 rfl rfl ?_
                refine r_lrem (q := 133) hX dX12_dividend_132 hd31 rfl ?_
                refine r_lload (i := 9) (x := z20) (q := 135) 7 hX dX12_dividend_133 rfl rfl ?_
                refine r_lload (i := 4) (x := v6) (q := 137) 4 hX dX12_dividend_135 rfl rfl ?_
                refine r_lrem (q := 138) hX dX12_dividend_137 hd31 rfl ?_
                refine r_lcmp (q := 139) hX dX12_dividend_138 rfl ?_
                refine r_if_gt (tgt := 162) (q := 142) hX dX12_dividend_139 (by decide) rfl (fun hb33 => ?_) (fun hb33 => ?_)
                · refine r_iconst (v := (1 : Int32)) (q := 163) hX dX12_dividend_162 rfl rfl ?_
                  refine r_goto (q := 167) hX dX12_dividend_163 (by decide) ?_
                  refine r_iadd (q := 168) hX dX12_dividend_167 rfl ?_
                  refine r_istoreP (x := (s24.2.1 + (1 : Int32))) (q := 170) 8 [1, 2, 3, 4, 5, 6, 0, 8, 9, 10] (fun z34 => [(0, vr a0), (1, vi x1), (2, vi x2), (3, vi x3), (4, vj v6), (6, vj z32), (8, vi z34), (9, vj z20), (11, vi s24.2.2), (12, vj z30)]) hX dX12_dividend_168 (Nat.le_of_ble_eq_true rfl) (fun _ => rfl) rfl (fun z34 => ?_)
                  refine r_iinc (x := s24.2.2) (v := (s24.2.2 + (1 : Int32))) (q := 173) 11 8 [1, 2, 3, 4, 5, 6, 7, 8, 0, 10] (L1 := [(0, vr a0), (1, vi x1), (2, vi x2), (3, vi x3), (4, vj v6), (6, vj z32), (8, vi z34), (9, vj z20), (11, vi (s24.2.2 + (1 : Int32))), (12, vj z30)]) hX dX12_dividend_170 rfl rfl (Nat.le_of_ble_eq_true rfl) rfl rfl ?_
                  refine r_goto (q := 96) hX dX12_dividend_173 (by decide) ?_
                  refine r_l0 ?_
                  refine r_sub [0, 1, 2, 3, 4, 5, 6, 7, 8] rfl ?_
                  exact hn25 (z32, z34, (s24.2.2 + (1 : Int32)))
                · refine r_lload (i := 12) (x := z30) (q := 144) 9 hX dX12_dividend_142 rfl rfl ?_
                  refine r_lload (i := 4) (x := v6) (q := 146) 4 hX dX12_dividend_144 rfl rfl ?_
                  refine r_lrem (q := 147) hX dX12_dividend_146 hd31 rfl ?_
                  refine r_lload (i := 9) (x := z20) (q := 149) 7 hX dX12_dividend_147 rfl rfl ?_
                  refine r_lload (i := 4) (x := v6) (q := 151) 4 hX dX12_dividend_149 rfl rfl ?_
                  refine r_lrem (q := 152) hX dX12_dividend_151 hd31 rfl ?_
                  refine r_lcmp (q := 153) hX dX12_dividend_152 rfl ?_
                  refine r_if_ne (tgt := 166) (q := 156) hX dX12_dividend_153 (by decide) rfl (fun hb35 => ?_) (fun hb35 => ?_)
                  · refine r_iload (i := 11) (x := s24.2.2) (q := 158) 8 hX dX12_dividend_156 rfl rfl ?_
                    refine r_iload_n (i := 1) (x := x1) (q := 159) 1 hX dX12_dividend_158 rfl rfl rfl ?_
                    refine r_icmp_ge (tgt := 166) (q := 162) hX dX12_dividend_159 (by decide) rfl (fun hb36 => ?_) (fun hb36 => ?_)
                    · refine r_iconst (v := (0 : Int32)) (q := 167) hX dX12_dividend_166 rfl rfl ?_
                      refine r_iadd (q := 168) hX dX12_dividend_167 rfl ?_
                      refine r_istoreP (x := (s24.2.1 + (0 : Int32))) (q := 170) 8 [1, 2, 3, 4, 5, 6, 0, 8, 9, 10] (fun z37 => [(0, vr a0), (1, vi x1), (2, vi x2), (3, vi x3), (4, vj v6), (6, vj z32), (8, vi z37), (9, vj z20), (11, vi s24.2.2), (12, vj z30)]) hX dX12_dividend_168 (Nat.le_of_ble_eq_true rfl) (fun _ => rfl) rfl (fun z37 => ?_)
                      refine r_iinc (x := s24.2.2) (v := (s24.2.2 + (1 : Int32))) (q := 173) 11 8 [1, 2, 3, 4, 5, 6, 7, 8, 0, 10] (L1 := [(0, vr a0), (1, vi x1), (2, vi x2), (3, vi x3), (4, vj v6), (6, vj z32), (8, vi z37), (9, vj z20), (11, vi (s24.2.2 + (1 : Int32))), (12, vj z30)]) hX dX12_dividend_170 rfl rfl (Nat.le_of_ble_eq_true rfl) rfl rfl ?_
                      refine r_goto (q := 96) hX dX12_dividend_173 (by decide) ?_
                      refine r_l0 ?_
                      refine r_sub [0, 1, 2, 3, 4, 5, 6, 7, 8] rfl ?_
                      exact hn25 (z32, z37, (s24.2.2 + (1 : Int32)))
                    · refine r_iconst (v := (1 : Int32)) (q := 163) hX dX12_dividend_162 rfl rfl ?_
                      refine r_goto (q := 167) hX dX12_dividend_163 (by decide) ?_
                      refine r_iadd (q := 168) hX dX12_dividend_167 rfl ?_
                      refine r_istoreP (x := (s24.2.1 + (1 : Int32))) (q := 170) 8 [1, 2, 3, 4, 5, 6, 0, 8, 9, 10] (fun z38 => [(0, vr a0), (1, vi x1), (2, vi x2), (3, vi x3), (4, vj v6), (6, vj z32), (8, vi z38), (9, vj z20), (11, vi s24.2.2), (12, vj z30)]) hX dX12_dividend_168 (Nat.le_of_ble_eq_true rfl) (fun _ => rfl) rfl (fun z38 => ?_)
                      refine r_iinc (x := s24.2.2) (v := (s24.2.2 + (1 : Int32))) (q := 173) 11 8 [1, 2, 3, 4, 5, 6, 7, 8, 0, 10] (L1 := [(0, vr a0), (1, vi x1), (2, vi x2), (3, vi x3), (4, vj v6), (6, vj z32), (8, vi z38), (9, vj z20), (11, vi (s24.2.2 + (1 : Int32))), (12, vj z30)]) hX dX12_dividend_170 rfl rfl (Nat.le_of_ble_eq_true rfl) rfl rfl ?_
                      refine r_goto (q := 96) hX dX12_dividend_173 (by decide) ?_
                      refine r_l0 ?_
                      refine r_sub [0, 1, 2, 3, 4, 5, 6, 7, 8] rfl ?_
                      exact hn25 (z32, z38, (s24.2.2 + (1 : Int32)))
                  · refine r_iconst (v := (0 : Int32)) (q := 167) hX dX12_dividend_166 rfl rfl ?_
                    refine r_iadd (q := 168) hX dX12_dividend_167 rfl ?_
                    refine r_istoreP (x := (s24.2.1 + (0 : Int32))) (q := 170) 8 [1, 2, 3, 4, 5, 6, 0, 8, 9, 10] (fun z39 => [(0, vr a0), (1, vi x1), (2, vi x2), (3, vi x3), (4, vj v6), (6, vj z32), (8, vi z39), (9, vj z20), (11, vi s24.2.2), (12, vj z30)]) hX dX12_dividend_168 (Nat.le_of_ble_eq_true rfl) (fun _ => rfl) rfl (fun z39 => ?_)
                    refine r_iinc (x := s24.2.2) (v := (s24.2.2 + (1 : Int32))) (q := 173) 11 8 [1, 2, 3, 4, 5, 6, 7, 8, 0, 10] (L1 := [(0, vr a0), (1, vi x1), (2, vi x2), (3, vi x3), (4, vj v6), (6, vj z32), (8, vi z39), (9, vj z20), (11, vi (s24.2.2 + (1 : Int32))), (12, vj z30)]) hX dX12_dividend_170 rfl rfl (Nat.le_of_ble_eq_true rfl) rfl rfl ?_
                    refine r_goto (q := 96) hX dX12_dividend_173 (by decide) ?_
                    refine r_l0 ?_
                    refine r_sub [0, 1, 2, 3, 4, 5, 6, 7, 8] rfl ?_
                    exact hn25 (z32, z39, (s24.2.2 + (1 : Int32)))
        · refine r_loop (Hd := fun (s7 : Int64 × Int32) (P : Option Res) => Ref mX12_dividend X 0 0 Z M 38 [(0, vr a0), (1, vi x1), (2, vi x2), (3, vi x3), (4, vj s7.1), (6, vi s7.2)] [] P) (fun _ => r_none) (fun s7 K1 hn8 hx9 => ?_) ((0 : Int64), (0 : Int32))
          refine r_iload (i := 6) (x := s7.2) (q := 40) 5 hX dX12_dividend_38 rfl rfl ?_
          refine r_bipush (v := (6 : Int32)) (q := 42) hX dX12_dividend_40 rfl rfl ?_
          refine r_icmp_ge (tgt := 64) (q := 45) hX dX12_dividend_42 (by decide) rfl (fun hb10 => ?_) (fun hb10 => ?_)
          · refine r_lf (hx9 _) ?_
            refine r_sub [0, 1, 2, 3, 4] rfl ?_
            exact hj4 s7.1
          · refine r_lload (i := 4) (x := s7.1) (q := 47) 4 hX dX12_dividend_45 rfl rfl ?_
            refine r_aload_n (i := 0) (x := a0) (q := 48) 0 hX dX12_dividend_47 rfl rfl rfl ?_
            refine r_iload (i := 6) (x := s7.2) (q := 50) 5 hX dX12_dividend_48 rfl rfl ?_
            refine r_iload_n (i := 3) (x := x3) (q := 51) 3 hX dX12_dividend_50 rfl rfl rfl ?_
            refine r_ck (fun hc11 => ?_)
            refine r_bind (fun v12 h13 => ?_)
            refine r_cv (a := a0) (As := [vi s7.2, vi x3]) (st := [vj s7.1]) (r := (some (vi v12))) (Z1 := Z) (M1 := M) (k1 := 0) (n1 := 0) (st1 := [vi v12, vj s7.1]) (q := 54) hX (fun l => kX12_hadOf l Z M a0 s7.2 x3 v12 h13) hc11 ivX12_hadOf ccX12_hadOf (Or.inl lkX12_466) rfl rfl rfl ⟨Nat.le_of_ble_eq_true rfl, Nat.le_of_ble_eq_true rfl, rfl, rfl, Nat.le_of_ble_eq_true rfl, Nat.le_of_ble_eq_true rfl⟩ (Nat.le_of_ble_eq_true rfl) dX12_dividend_51 rfl ?_
            refine r_i2l (q := 55) hX dX12_dividend_54 rfl ?_
            refine r_ladd (q := 56) hX dX12_dividend_55 rfl ?_
            refine r_lstoreP (x := (s7.1 + (v12.toInt64))) (q := 58) 4 [1, 2, 3, 4, 0, 6] (fun z14 => [(0, vr a0), (1, vi x1), (2, vi x2), (3, vi x3), (4, vj z14), (6, vi s7.2)]) hX dX12_dividend_56 (Nat.le_of_ble_eq_true rfl) (fun _ => rfl) rfl (fun z14 => ?_)
            refine r_iinc (x := s7.2) (v := (s7.2 + (1 : Int32))) (q := 61) 6 5 [1, 2, 3, 4, 5, 0] (L1 := [(0, vr a0), (1, vi x1), (2, vi x2), (3, vi x3), (4, vj z14), (6, vi (s7.2 + (1 : Int32)))]) hX dX12_dividend_58 rfl rfl (Nat.le_of_ble_eq_true rfl) rfl rfl ?_
            refine r_goto (q := 38) hX dX12_dividend_61 (by decide) ?_
            refine r_l0 ?_
            exact hn8 (z14, (s7.2 + (1 : Int32)))
def mX12_least : MD := (yX12_least, cX12_least, 2, (some .int), 0, 0, 0, 0)
theorem ccX12_least : Cc mX12_least 2 := ⟨gd (hcw1_0 _ (List.mem_of_getElem? (i := 10) rfl)) rfl, gd (hcw7_3 _ (List.mem_of_getElem? (i := 11) rfl)) rfl, by decide +kernel, by decide +kernel, by decide +kernel⟩
theorem stX12_least : Cond.static (yN mX12_least) ∈ lw_gd := gd (hcw7_3 _ (List.mem_of_getElem? (i := 10) rfl)) rfl
def fX12_least (x0 : Int32) (x1 : Int32) : Int32 := (if x1 ≤ x0 then x1 else x0)
def gX12_least (x0 : Int32) (x1 : Int32) : Option (Int32) := (if x1 ≤ x0 then some x1 else some x0)
theorem eX12_least (x0 : Int32) (x1 : Int32) : gX12_least x0 x1 = some (fX12_least x0 x1) := by
  unfold gX12_least fX12_least
  try simp only [pu]
  (repeat' split) <;> rfl
set_option maxRecDepth 20000 in
theorem kX12_least (l : Launch) (Z : Shp) (M : Mem) (x0 : Int32) (x1 : Int32) : Ct l mX12_least [vi x0, vi x1] Z M ((some (vi (fX12_least x0 x1))), Z, M) := by
  refine Ct.of rfl (Nat.le_of_ble_eq_true rfl) (fun X hM => ?_)
  have hX := hM.1
  refine r_top (mk := fun r => ((some (vi r)), Z, M)) (eX12_least x0 x1) (fun K hK => ?_)
  unfold gX12_least
  refine r_iload_n (i := 0) (x := x0) (q := 1) 0 hX dX12_least_0 rfl rfl rfl ?_
  refine r_iload_n (i := 1) (x := x1) (q := 2) 1 hX dX12_least_1 rfl rfl rfl ?_
  refine r_icmp_ge (tgt := 9) (q := 5) hX dX12_least_2 (by decide) rfl (fun hb1 => ?_) (fun hb1 => ?_)
  · refine r_iload_n (i := 1) (x := x1) (q := 10) 1 hX dX12_least_9 rfl rfl rfl ?_
    refine r_lf (hK _) ?_
    exact r_iret hM rfl (Nat.le_of_ble_eq_true rfl) (Nat.le_of_ble_eq_true rfl) dX12_least_10
  · refine r_iload_n (i := 0) (x := x0) (q := 6) 0 hX dX12_least_5 rfl rfl rfl ?_
    refine r_goto (q := 10) hX dX12_least_6 (by decide) ?_
    refine r_lf (hK _) ?_
    exact r_iret hM rfl (Nat.le_of_ble_eq_true rfl) (Nat.le_of_ble_eq_true rfl) dX12_least_10
theorem lkX12_243 : Lk RX12 243 yX12_least := gd (hcw7_3 _ (List.mem_of_getElem? (i := 9) rfl)) rfl
def mX12_dry : MD := (yX12_dry, cX12_dry, 11, (some .int), 1, 25, 0, 0)
theorem ccX12_dry : Cc mX12_dry 5 := ⟨gd (hcw1_0 _ (List.mem_of_getElem? (i := 10) rfl)) rfl, gd (hcw8_0 _ (List.mem_of_getElem? (i := 16) rfl)) rfl, by decide +kernel, by decide +kernel, by decide +kernel⟩
theorem ivX12_dry : Iv mX12_dry 12 := ⟨Nat.le_of_ble_eq_true rfl, rfl, gd (hcw8_0 _ (List.mem_of_getElem? (i := 14) rfl)) rfl, gd (hcw8_0 _ (List.mem_of_getElem? (i := 15) rfl)) rfl⟩
noncomputable def fX12_dry (Z : Shp) (M : Mem) (a0 : Nat) (x1 : Int32) (x2 : Int32) (x3 : Int32) (x4 : Int32) (x5 : Int32) : Option (Int32) := (Option.bind (if (fX12_in (x1.toInt64) (0 : Int64) (1 : Int64)) = 0 then some (0 : Int32) else (if (fX12_in (x2.toInt64) (0 : Int64) (9999 : Int64)) = 0 then some (0 : Int32) else (if (fX12_in (x3.toInt64) (x2.toInt64) (9999 : Int64)) = 0 then some (0 : Int32) else (if (fX12_in (x4.toInt64) (0 : Int64) (9999 : Int64)) = 0 then some (0 : Int32) else (if (fX12_in (x5.toInt64) (x4.toInt64) (9999 : Int64)) = 0 then some (0 : Int32) else some (1 : Int32)))))) (fun v4 : Int32 => (if v4 = 0 then some (-102 : Int32) else (Option.bind (if x1 = 0 then some x3 else some x2) (fun v13 : Int32 => (Option.bind (if x1 = 0 then some x4 else some x5) (fun v17 : Int32 => (if tg Z a0 = (13, 86) then (if aok Z (rR M a0 0) 100 (rI M a0 3) then (pu ((rI M (rR M a0 0) (ix (rI M a0 3)))) (fun z20 => (loop (fun s21 : Int32 × Int32 => (if (400 : Int32) ≤ s21.2 then some (Sum.inr (-1 : Int32)) else (Option.bind (if s21.1 ≤ v13 then some (0 : Int32) else some (s21.1 - v13)) (fun v28 : Int32 => (if aok Z (rR M a0 1) 100 (rI M a0 3) then (pu ((fX12_least (rI M (rR M a0 1) (ix (rI M a0 3))) (v28 + v17))) (fun z30 => (if aok Z (rR M a0 2) 100 (rI M a0 3) then (if (rI M (rR M a0 2) (ix (rI M a0 3))) ≤ z30 then some (Sum.inl (z30, (s21.2 + (1 : Int32)))) else some (Sum.inr s21.2)) else none))) else none))))) (z20, (0 : Int32))))) else none) else none))))))))
set_option maxRecDepth 20000 in
theorem kX12_dry (l : Launch) (Z : Shp) (M : Mem) (a0 : Nat) (x1 : Int32) (x2 : Int32) (x3 : Int32) (x4 : Int32) (x5 : Int32) (r : Int32) (h : fX12_dry Z M a0 x1 x2 x3 x4 x5 = some r) : Ct l mX12_dry [vr a0, vi x1, vi x2, vi x3, vi x4, vi x5] Z M ((some (vi r)), Z, M) := by
  refine Ct.of rfl (Nat.le_of_ble_eq_true rfl) (fun X hM => ?_)
  have hX := hM.1
  refine r_top (mk := fun r => ((some (vi r)), Z, M)) h (fun K hK => ?_)
  unfold fX12_dry
  refine r_iload_n (i := 1) (x := x1) (q := 1) 1 hX dX12_dry_0 rfl rfl rfl ?_
  refine r_i2l (q := 2) hX dX12_dry_1 rfl ?_
  refine r_lconst (v := (0 : Int64)) (q := 3) hX dX12_dry_2 rfl rfl ?_
  refine r_lconst (v := (1 : Int64)) (q := 4) hX dX12_dry_3 rfl rfl ?_
  refine r_cs (As := [vj (x1.toInt64), vj (0 : Int64), vj (1 : Int64)]) (st := []) (r := (some (vi (fX12_in (x1.toInt64) (0 : Int64) (1 : Int64))))) (Z1 := Z) (M1 := M) (k1 := 0) (n1 := 0) (st1 := [vi (fX12_in (x1.toInt64) (0 : Int64) (1 : Int64))]) (q := 7) hX (fun l => kX12_in l Z M (x1.toInt64) (0 : Int64) (1 : Int64)) stX12_in ccX12_in (Or.inl lkX12_194) rfl rfl rfl ⟨Nat.le_of_ble_eq_true rfl, Nat.le_of_ble_eq_true rfl, rfl, rfl, Nat.le_of_ble_eq_true rfl, Nat.le_of_ble_eq_true rfl⟩ (Nat.le_of_ble_eq_true rfl) dX12_dry_4 rfl ?_
  refine r_jn (J := fun (v4 : Int32) (P : Option Res) => Ref mX12_dry X 0 0 Z M 68 [(0, vr a0), (1, vi x1), (2, vi x2), (3, vi x3), (4, vi x4), (5, vi x5)] [vi v4] P) (fun v4 => ?_) (fun K1 hj2 => ?_)
  · refine r_istore (x := v4) (q := 70) 6 [1, 2, 3, 4, 5, 6, 0] (L1 := [(0, vr a0), (1, vi x1), (2, vi x2), (3, vi x3), (4, vi x4), (5, vi x5), (6, vi v4)]) hX dX12_dry_68 (Nat.le_of_ble_eq_true rfl) rfl rfl ?_
    refine r_iload (i := 6) (x := v4) (q := 72) 6 hX dX12_dry_70 rfl rfl ?_
    refine r_if_ne (tgt := 78) (q := 75) hX dX12_dry_72 (by decide) rfl (fun hb9 => ?_) (fun hb9 => ?_)
    · refine r_bipush (v := (-102 : Int32)) (q := 77) hX dX12_dry_75 rfl rfl ?_
      refine r_lf (hK _) ?_
      exact r_iret hM rfl (Nat.le_of_ble_eq_true rfl) (Nat.le_of_ble_eq_true rfl) dX12_dry_77
    · refine r_iload_n (i := 1) (x := x1) (q := 79) 1 hX dX12_dry_78 rfl rfl rfl ?_
      refine r_jn (J := fun (v13 : Int32) (P : Option Res) => Ref mX12_dry X 0 0 Z M 87 [(0, vr a0), (1, vi x1), (4, vi x4), (5, vi x5)] [vi v13] P) (fun v13 => ?_) (fun K1 hj11 => ?_)
      · refine r_istore (x := v13) (q := 89) 7 [1, 2, 3, 4, 0] (L1 := [(0, vr a0), (1, vi x1), (4, vi x4), (5, vi x5), (7, vi v13)]) hX dX12_dry_87 (Nat.le_of_ble_eq_true rfl) rfl rfl ?_
        refine r_iload_n (i := 1) (x := x1) (q := 90) 1 hX dX12_dry_89 rfl rfl rfl ?_
        refine r_jn (J := fun (v17 : Int32) (P : Option Res) => Ref mX12_dry X 0 0 Z M 100 [(0, vr a0), (7, vi v13)] [vi v17] P) (fun v17 => ?_) (fun K1 hj15 => ?_)
        · refine r_istore (x := v17) (q := 102) 8 [1, 2, 0] (L1 := [(0, vr a0), (7, vi v13), (8, vi v17)]) hX dX12_dry_100 (Nat.le_of_ble_eq_true rfl) rfl rfl ?_
          refine r_aload_n (i := 0) (x := a0) (q := 103) 0 hX dX12_dry_102 rfl rfl rfl ?_
          refine r_ck (fun hc18 => ?_)
          refine r_getR (a := a0) (ci := 12) (kf := 0) (q := 106) hX hc18 flX12_7 rfl dX12_dry_103 rfl ?_
          refine r_aload_n (i := 0) (x := a0) (q := 107) 0 hX dX12_dry_106 rfl rfl rfl ?_
          refine r_getI (a := a0) (ci := 12) (kf := 3) (q := 110) hX hc18 flX12_185 rfl rfl dX12_dry_107 rfl ?_
          refine r_ck (fun hc19 => ?_)
          refine r_iald (a := (rR M a0 0)) (i := (rI M a0 3)) (q := 111) hX hc19 dX12_dry_110 rfl ?_
          refine r_istoreP (x := (rI M (rR M a0 0) (ix (rI M a0 3)))) (q := 113) 9 [1, 2, 3, 0] (fun z20 => [(0, vr a0), (7, vi v13), (8, vi v17), (9, vi z20)]) hX dX12_dry_111 (Nat.le_of_ble_eq_true rfl) (fun _ => rfl) rfl (fun z20 => ?_)
          refine r_iconst (v := (0 : Int32)) (q := 114) hX dX12_dry_113 rfl rfl ?_
          refine r_istore (x := (0 : Int32)) (q := 116) 10 [1, 2, 3, 4, 0] (L1 := [(0, vr a0), (7, vi v13), (8, vi v17), (9, vi z20), (10, vi (0 : Int32))]) hX dX12_dry_114 (Nat.le_of_ble_eq_true rfl) rfl rfl ?_
          refine r_loop (Hd := fun (s21 : Int32 × Int32) (P : Option Res) => Ref mX12_dry X 0 0 Z M 116 [(0, vr a0), (7, vi v13), (8, vi v17), (9, vi s21.1), (10, vi s21.2)] [] P) (fun _ => r_none) (fun s21 K1 hn22 hx23 => ?_) (z20, (0 : Int32))
          refine r_iload (i := 10) (x := s21.2) (q := 118) 4 hX dX12_dry_116 rfl rfl ?_
          refine r_sipush (v := (400 : Int32)) (q := 121) hX dX12_dry_118 rfl rfl ?_
          refine r_icmp_ge (tgt := 184) (q := 124) hX dX12_dry_121 (by decide) rfl (fun hb24 => ?_) (fun hb24 => ?_)
          · refine r_iconst (v := (-1 : Int32)) (q := 185) hX dX12_dry_184 rfl rfl ?_
            refine r_lf ((hx23 _).trans (hK _)) ?_
            exact r_iret hM rfl (Nat.le_of_ble_eq_true rfl) (Nat.le_of_ble_eq_true rfl) dX12_dry_185
          · refine r_iload (i := 9) (x := s21.1) (q := 126) 3 hX dX12_dry_124 rfl rfl ?_
            refine r_iload (i := 7) (x := v13) (q := 128) 1 hX dX12_dry_126 rfl rfl ?_
            refine r_jn (J := fun (v28 : Int32) (P : Option Res) => Ref mX12_dry X 0 0 Z M 140 [(0, vr a0), (7, vi v13), (8, vi v17), (10, vi s21.2)] [vi v28] P) (fun v28 => ?_) (fun K1 hj26 => ?_)
            · refine r_istore (x := v28) (q := 142) 9 [1, 2, 3, 0, 4] (L1 := [(0, vr a0), (7, vi v13), (8, vi v17), (9, vi v28), (10, vi s21.2)]) hX dX12_dry_140 (Nat.le_of_ble_eq_true rfl) rfl rfl ?_
              refine r_aload_n (i := 0) (x := a0) (q := 143) 0 hX dX12_dry_142 rfl rfl rfl ?_
              refine r_getR (a := a0) (ci := 12) (kf := 1) (q := 146) hX hc18 flX12_13 rfl dX12_dry_143 rfl ?_
              refine r_aload_n (i := 0) (x := a0) (q := 147) 0 hX dX12_dry_146 rfl rfl rfl ?_
              refine r_getI (a := a0) (ci := 12) (kf := 3) (q := 150) hX hc18 flX12_185 rfl rfl dX12_dry_147 rfl ?_
              refine r_ck (fun hc29 => ?_)
              refine r_iald (a := (rR M a0 1)) (i := (rI M a0 3)) (q := 151) hX hc29 dX12_dry_150 rfl ?_
              refine r_iload (i := 9) (x := v28) (q := 153) 3 hX dX12_dry_151 rfl rfl ?_
              refine r_iload (i := 8) (x := v17) (q := 155) 2 hX dX12_dry_153 rfl rfl ?_
              refine r_iadd (q := 156) hX dX12_dry_155 rfl ?_
              refine r_cs (As := [vi (rI M (rR M a0 1) (ix (rI M a0 3))), vi (v28 + v17)]) (st := []) (r := (some (vi (fX12_least (rI M (rR M a0 1) (ix (rI M a0 3))) (v28 + v17))))) (Z1 := Z) (M1 := M) (k1 := 0) (n1 := 0) (st1 := [vi (fX12_least (rI M (rR M a0 1) (ix (rI M a0 3))) (v28 + v17))]) (q := 159) hX (fun l => kX12_least l Z M (rI M (rR M a0 1) (ix (rI M a0 3))) (v28 + v17)) stX12_least ccX12_least (Or.inl lkX12_243) rfl rfl rfl ⟨Nat.le_of_ble_eq_true rfl, Nat.le_of_ble_eq_true rfl, rfl, rfl, Nat.le_of_ble_eq_true rfl, Nat.le_of_ble_eq_true rfl⟩ (Nat.le_of_ble_eq_true rfl) dX12_dry_156 rfl ?_
              refine r_istoreP (x := (fX12_least (rI M (rR M a0 1) (ix (rI M a0 3))) (v28 + v17))) (q := 161) 9 [1, 2, 3, 0, 5] (fun z30 => [(0, vr a0), (7, vi v13), (8, vi v17), (9, vi z30), (10, vi s21.2)]) hX dX12_dry_159 (Nat.le_of_ble_eq_true rfl) (fun _ => rfl) rfl (fun z30 => ?_)
              refine r_iload (i := 9) (x := z30) (q := 163) 3 hX dX12_dry_161 rfl rfl ?_
              refine r_aload_n (i := 0) (x := a0) (q := 164) 0 hX dX12_dry_163 rfl rfl rfl ?_
              refine r_getR (a := a0) (ci := 12) (kf := 2) (q := 167) hX hc18 flX12_16 rfl dX12_dry_164 rfl ?_
              refine r_aload_n (i := 0) (x := a0) (q := 168) 0 hX dX12_dry_167 rfl rfl rfl ?_
              refine r_getI (a := a0) (ci := 12) (kf := 3) (q := 171) hX hc18 flX12_185 rfl rfl dX12_dry_168 rfl ?_
              refine r_ck (fun hc31 => ?_)
              refine r_iald (a := (rR M a0 2)) (i := (rI M a0 3)) (q := 172) hX hc31 dX12_dry_171 rfl ?_
              refine r_icmp_ge (tgt := 178) (q := 175) hX dX12_dry_172 (by decide) rfl (fun hb32 => ?_) (fun hb32 => ?_)
              · refine r_iinc (x := s21.2) (v := (s21.2 + (1 : Int32))) (q := 181) 10 4 [1, 2, 3, 4, 0] (L1 := [(0, vr a0), (7, vi v13), (8, vi v17), (9, vi z30), (10, vi (s21.2 + (1 : Int32)))]) hX dX12_dry_178 rfl rfl (Nat.le_of_ble_eq_true rfl) rfl rfl ?_
                refine r_goto (q := 116) hX dX12_dry_181 (by decide) ?_
                refine r_l0 ?_
                exact hn22 (z30, (s21.2 + (1 : Int32)))
              · refine r_iload (i := 10) (x := s21.2) (q := 177) 4 hX dX12_dry_175 rfl rfl ?_
                refine r_lf ((hx23 _).trans (hK _)) ?_
                exact r_iret hM rfl (Nat.le_of_ble_eq_true rfl) (Nat.le_of_ble_eq_true rfl) dX12_dry_177
            · refine r_icmp_le (tgt := 139) (q := 131) hX dX12_dry_128 (by decide) rfl (fun hb25 => ?_) (fun hb25 => ?_)
              · refine r_iconst (v := (0 : Int32)) (q := 140) hX dX12_dry_139 rfl rfl ?_
                refine r_l0 ?_
                refine r_sub [0, 1, 2, 4] rfl ?_
                exact hj26 (0 : Int32)
              · refine r_iload (i := 9) (x := s21.1) (q := 133) 3 hX dX12_dry_131 rfl rfl ?_
                refine r_iload (i := 7) (x := v13) (q := 135) 1 hX dX12_dry_133 rfl rfl ?_
                refine r_isub (q := 136) hX dX12_dry_135 rfl ?_
                refine r_goto (q := 140) hX dX12_dry_136 (by decide) ?_
                refine r_l0 ?_
                refine r_sub [0, 1, 2, 4] rfl ?_
                exact hj26 (s21.1 - v13)
        · refine r_if_ne (tgt := 98) (q := 93) hX dX12_dry_90 (by decide) rfl (fun hb14 => ?_) (fun hb14 => ?_)
          · refine r_iload (i := 4) (x := x4) (q := 95) 2 hX dX12_dry_93 rfl rfl ?_
            refine r_goto (q := 100) hX dX12_dry_95 (by decide) ?_
            refine r_l0 ?_
            refine r_sub [0, 4] rfl ?_
            exact hj15 x4
          · refine r_iload (i := 5) (x := x5) (q := 100) 3 hX dX12_dry_98 rfl rfl ?_
            refine r_l0 ?_
            refine r_sub [0, 4] rfl ?_
            exact hj15 x5
      · refine r_if_ne (tgt := 86) (q := 82) hX dX12_dry_79 (by decide) rfl (fun hb10 => ?_) (fun hb10 => ?_)
        · refine r_iload_n (i := 3) (x := x3) (q := 83) 3 hX dX12_dry_82 rfl rfl rfl ?_
          refine r_goto (q := 87) hX dX12_dry_83 (by decide) ?_
          refine r_l0 ?_
          refine r_sub [0, 1, 4, 5] rfl ?_
          exact hj11 x3
        · refine r_iload_n (i := 2) (x := x2) (q := 87) 2 hX dX12_dry_86 rfl rfl rfl ?_
          refine r_l0 ?_
          refine r_sub [0, 1, 4, 5] rfl ?_
          exact hj11 x2
  · refine r_if_eq (tgt := 67) (q := 10) hX dX12_dry_7 (by decide) rfl (fun hb1 => ?_) (fun hb1 => ?_)
    · refine r_iconst (v := (0 : Int32)) (q := 68) hX dX12_dry_67 rfl rfl ?_
      refine r_l0 ?_
      exact hj2 (0 : Int32)
    · refine r_iload_n (i := 2) (x := x2) (q := 11) 2 hX dX12_dry_10 rfl rfl rfl ?_
      refine r_i2l (q := 12) hX dX12_dry_11 rfl ?_
      refine r_lconst (v := (0 : Int64)) (q := 13) hX dX12_dry_12 rfl rfl ?_
      refine r_ldc2 (v := (9999 : Int64)) (q := 16) hX dX12_dry_13 (gd (hcw6_11 _ (List.mem_of_getElem? (i := 6) rfl)) rfl) rfl ?_
      refine r_cs (As := [vj (x2.toInt64), vj (0 : Int64), vj (9999 : Int64)]) (st := []) (r := (some (vi (fX12_in (x2.toInt64) (0 : Int64) (9999 : Int64))))) (Z1 := Z) (M1 := M) (k1 := 0) (n1 := 0) (st1 := [vi (fX12_in (x2.toInt64) (0 : Int64) (9999 : Int64))]) (q := 19) hX (fun l => kX12_in l Z M (x2.toInt64) (0 : Int64) (9999 : Int64)) stX12_in ccX12_in (Or.inl lkX12_194) rfl rfl rfl ⟨Nat.le_of_ble_eq_true rfl, Nat.le_of_ble_eq_true rfl, rfl, rfl, Nat.le_of_ble_eq_true rfl, Nat.le_of_ble_eq_true rfl⟩ (Nat.le_of_ble_eq_true rfl) dX12_dry_16 rfl ?_
      refine r_if_eq (tgt := 67) (q := 22) hX dX12_dry_19 (by decide) rfl (fun hb5 => ?_) (fun hb5 => ?_)
      · refine r_iconst (v := (0 : Int32)) (q := 68) hX dX12_dry_67 rfl rfl ?_
        refine r_l0 ?_
        exact hj2 (0 : Int32)
      · refine r_iload_n (i := 3) (x := x3) (q := 23) 3 hX dX12_dry_22 rfl rfl rfl ?_
        refine r_i2l (q := 24) hX dX12_dry_23 rfl ?_
        refine r_iload_n (i := 2) (x := x2) (q := 25) 2 hX dX12_dry_24 rfl rfl rfl ?_
        refine r_i2l (q := 26) hX dX12_dry_25 rfl ?_
        refine r_ldc2 (v := (9999 : Int64)) (q := 29) hX dX12_dry_26 (gd (hcw6_11 _ (List.mem_of_getElem? (i := 6) rfl)) rfl) rfl ?_
        refine r_cs (As := [vj (x3.toInt64), vj (x2.toInt64), vj (9999 : Int64)]) (st := []) (r := (some (vi (fX12_in (x3.toInt64) (x2.toInt64) (9999 : Int64))))) (Z1 := Z) (M1 := M) (k1 := 0) (n1 := 0) (st1 := [vi (fX12_in (x3.toInt64) (x2.toInt64) (9999 : Int64))]) (q := 32) hX (fun l => kX12_in l Z M (x3.toInt64) (x2.toInt64) (9999 : Int64)) stX12_in ccX12_in (Or.inl lkX12_194) rfl rfl rfl ⟨Nat.le_of_ble_eq_true rfl, Nat.le_of_ble_eq_true rfl, rfl, rfl, Nat.le_of_ble_eq_true rfl, Nat.le_of_ble_eq_true rfl⟩ (Nat.le_of_ble_eq_true rfl) dX12_dry_29 rfl ?_
        refine r_if_eq (tgt := 67) (q := 35) hX dX12_dry_32 (by decide) rfl (fun hb6 => ?_) (fun hb6 => ?_)
        · refine r_iconst (v := (0 : Int32)) (q := 68) hX dX12_dry_67 rfl rfl ?_
          refine r_l0 ?_
          exact hj2 (0 : Int32)
        · refine r_iload (i := 4) (x := x4) (q := 37) 4 hX dX12_dry_35 rfl rfl ?_
          refine r_i2l (q := 38) hX dX12_dry_37 rfl ?_
          refine r_lconst (v := (0 : Int64)) (q := 39) hX dX12_dry_38 rfl rfl ?_
          refine r_ldc2 (v := (9999 : Int64)) (q := 42) hX dX12_dry_39 (gd (hcw6_11 _ (List.mem_of_getElem? (i := 6) rfl)) rfl) rfl ?_
          refine r_cs (As := [vj (x4.toInt64), vj (0 : Int64), vj (9999 : Int64)]) (st := []) (r := (some (vi (fX12_in (x4.toInt64) (0 : Int64) (9999 : Int64))))) (Z1 := Z) (M1 := M) (k1 := 0) (n1 := 0) (st1 := [vi (fX12_in (x4.toInt64) (0 : Int64) (9999 : Int64))]) (q := 45) hX (fun l => kX12_in l Z M (x4.toInt64) (0 : Int64) (9999 : Int64)) stX12_in ccX12_in (Or.inl lkX12_194) rfl rfl rfl ⟨Nat.le_of_ble_eq_true rfl, Nat.le_of_ble_eq_true rfl, rfl, rfl, Nat.le_of_ble_eq_true rfl, Nat.le_of_ble_eq_true rfl⟩ (Nat.le_of_ble_eq_true rfl) dX12_dry_42 rfl ?_
          refine r_if_eq (tgt := 67) (q := 48) hX dX12_dry_45 (by decide) rfl (fun hb7 => ?_) (fun hb7 => ?_)
          · refine r_iconst (v := (0 : Int32)) (q := 68) hX dX12_dry_67 rfl rfl ?_
            refine r_l0 ?_
            exact hj2 (0 : Int32)
          · refine r_iload (i := 5) (x := x5) (q := 50) 5 hX dX12_dry_48 rfl rfl ?_
            refine r_i2l (q := 51) hX dX12_dry_50 rfl ?_
            refine r_iload (i := 4) (x := x4) (q := 53) 4 hX dX12_dry_51 rfl rfl ?_
            refine r_i2l (q := 54) hX dX12_dry_53 rfl ?_
            refine r_ldc2 (v := (9999 : Int64)) (q := 57) hX dX12_dry_54 (gd (hcw6_11 _ (List.mem_of_getElem? (i := 6) rfl)) rfl) rfl ?_
            refine r_cs (As := [vj (x5.toInt64), vj (x4.toInt64), vj (9999 : Int64)]) (st := []) (r := (some (vi (fX12_in (x5.toInt64) (x4.toInt64) (9999 : Int64))))) (Z1 := Z) (M1 := M) (k1 := 0) (n1 := 0) (st1 := [vi (fX12_in (x5.toInt64) (x4.toInt64) (9999 : Int64))]) (q := 60) hX (fun l => kX12_in l Z M (x5.toInt64) (x4.toInt64) (9999 : Int64)) stX12_in ccX12_in (Or.inl lkX12_194) rfl rfl rfl ⟨Nat.le_of_ble_eq_true rfl, Nat.le_of_ble_eq_true rfl, rfl, rfl, Nat.le_of_ble_eq_true rfl, Nat.le_of_ble_eq_true rfl⟩ (Nat.le_of_ble_eq_true rfl) dX12_dry_57 rfl ?_
            refine r_if_eq (tgt := 67) (q := 63) hX dX12_dry_60 (by decide) rfl (fun hb8 => ?_) (fun hb8 => ?_)
            · refine r_iconst (v := (0 : Int32)) (q := 68) hX dX12_dry_67 rfl rfl ?_
              refine r_l0 ?_
              exact hj2 (0 : Int32)
            · refine r_iconst (v := (1 : Int32)) (q := 64) hX dX12_dry_63 rfl rfl ?_
              refine r_goto (q := 68) hX dX12_dry_64 (by decide) ?_
              refine r_l0 ?_
              exact hj2 (1 : Int32)
def mX12_pour : MD := (yX12_pour, cX12_pour, 4, none, 0, 0, 0, 0)
theorem ccX12_pour : Cc mX12_pour 2 := ⟨gd (hcw1_0 _ (List.mem_of_getElem? (i := 10) rfl)) rfl, gd (hcw7_3 _ (List.mem_of_getElem? (i := 4) rfl)) rfl, by decide +kernel, by decide +kernel, by decide +kernel⟩
theorem ivX12_pour : Iv mX12_pour 12 := ⟨Nat.le_of_ble_eq_true rfl, rfl, gd (hcw7_3 _ (List.mem_of_getElem? (i := 3) rfl)) rfl, gd (hps3 _ (List.mem_of_getElem? (i := 9) rfl)) rfl⟩
def fX12_pour (Z : Shp) (M : Mem) (a0 : Nat) (x1 : Int32) (x2 : Int32) : Option (Mem) := (if tg Z a0 = (13, 86) then (if aok Z (rR M a0 0) 100 x1 then (pu (wI M (rR M a0 0) (ix x1) ((rI M (rR M a0 0) (ix x1)) + x2)) (fun M3 => (if aok Z (rR M3 a0 0) 100 x1 then (if aok Z (rR M3 a0 1) 100 x1 then (Option.bind (if (rI M3 (rR M3 a0 0) (ix x1)) ≤ (rI M3 (rR M3 a0 1) (ix x1)) then some (0 : Int32) else some ((rI M3 (rR M3 a0 0) (ix x1)) - (rI M3 (rR M3 a0 1) (ix x1)))) (fun v9 : Int32 => (pu (wI M3 (rR M3 a0 0) (ix x1) ((rI M3 (rR M3 a0 0) (ix x1)) - v9)) (fun M10 => (pu (wJ M10 a0 14 ((rJ M10 a0 14) + (v9.toInt64))) (fun M11 => some M11)))))) else none) else none))) else none) else none)
set_option maxRecDepth 20000 in
theorem kX12_pour (l : Launch) (Z : Shp) (M : Mem) (a0 : Nat) (x1 : Int32) (x2 : Int32) (r : Mem) (h : fX12_pour Z M a0 x1 x2 = some r) : Ct l mX12_pour [vr a0, vi x1, vi x2] Z M (none, Z, r) := by
  refine Ct.of rfl (Nat.le_of_ble_eq_true rfl) (fun X hM => ?_)
  have hX := hM.1
  refine r_top (mk := fun r => (none, Z, r)) h (fun K hK => ?_)
  unfold fX12_pour
  refine r_aload_n (i := 0) (x := a0) (q := 1) 0 hX dX12_pour_0 rfl rfl rfl ?_
  refine r_ck (fun hc1 => ?_)
  refine r_getR (a := a0) (ci := 12) (kf := 0) (q := 4) hX hc1 flX12_7 rfl dX12_pour_1 rfl ?_
  refine r_iload_n (i := 1) (x := x1) (q := 5) 1 hX dX12_pour_4 rfl rfl rfl ?_
  refine r_dup2 (q := 6) hX dX12_pour_5 rfl rfl rfl ?_
  refine r_ck (fun hc2 => ?_)
  refine r_iald (a := (rR M a0 0)) (i := x1) (q := 7) hX hc2 dX12_pour_6 rfl ?_
  refine r_iload_n (i := 2) (x := x2) (q := 8) 2 hX dX12_pour_7 rfl rfl rfl ?_
  refine r_iadd (q := 9) hX dX12_pour_8 rfl ?_
  refine r_iast (a := (rR M a0 0)) (i := x1) (x := ((rI M (rR M a0 0) (ix x1)) + x2)) (q := 10) hX hc2 dX12_pour_9 rfl (fun M3 => ?_)
  refine r_aload_n (i := 0) (x := a0) (q := 11) 0 hX dX12_pour_10 rfl rfl rfl ?_
  refine r_getR (a := a0) (ci := 12) (kf := 0) (q := 14) hX hc1 flX12_7 rfl dX12_pour_11 rfl ?_
  refine r_iload_n (i := 1) (x := x1) (q := 15) 1 hX dX12_pour_14 rfl rfl rfl ?_
  refine r_ck (fun hc4 => ?_)
  refine r_iald (a := (rR M3 a0 0)) (i := x1) (q := 16) hX hc4 dX12_pour_15 rfl ?_
  refine r_aload_n (i := 0) (x := a0) (q := 17) 0 hX dX12_pour_16 rfl rfl rfl ?_
  refine r_getR (a := a0) (ci := 12) (kf := 1) (q := 20) hX hc1 flX12_13 rfl dX12_pour_17 rfl ?_
  refine r_iload_n (i := 1) (x := x1) (q := 21) 1 hX dX12_pour_20 rfl rfl rfl ?_
  refine r_ck (fun hc5 => ?_)
  refine r_iald (a := (rR M3 a0 1)) (i := x1) (q := 22) hX hc5 dX12_pour_21 rfl ?_
  refine r_jn (J := fun (v9 : Int32) (P : Option Res) => Ref mX12_pour X 0 0 Z M3 42 [(0, vr a0), (1, vi x1)] [vi v9] P) (fun v9 => ?_) (fun K1 hj7 => ?_)
  · refine r_istore_n (x := v9) (q := 43) 3 [1, 2, 0] (L1 := [(0, vr a0), (1, vi x1), (3, vi v9)]) hX dX12_pour_42 rfl (Nat.le_of_ble_eq_true rfl) rfl rfl ?_
    refine r_aload_n (i := 0) (x := a0) (q := 44) 0 hX dX12_pour_43 rfl rfl rfl ?_
    refine r_getR (a := a0) (ci := 12) (kf := 0) (q := 47) hX hc1 flX12_7 rfl dX12_pour_44 rfl ?_
    refine r_iload_n (i := 1) (x := x1) (q := 48) 1 hX dX12_pour_47 rfl rfl rfl ?_
    refine r_dup2 (q := 49) hX dX12_pour_48 rfl rfl rfl ?_
    refine r_iald (a := (rR M3 a0 0)) (i := x1) (q := 50) hX hc4 dX12_pour_49 rfl ?_
    refine r_iload_n (i := 3) (x := v9) (q := 51) 2 hX dX12_pour_50 rfl rfl rfl ?_
    refine r_isub (q := 52) hX dX12_pour_51 rfl ?_
    refine r_iast (a := (rR M3 a0 0)) (i := x1) (x := ((rI M3 (rR M3 a0 0) (ix x1)) - v9)) (q := 53) hX hc4 dX12_pour_52 rfl (fun M10 => ?_)
    refine r_aload_n (i := 0) (x := a0) (q := 54) 0 hX dX12_pour_53 rfl rfl rfl ?_
    refine r_dup (q := 55) hX dX12_pour_54 rfl rfl ?_
    refine r_getJ (a := a0) (ci := 12) (kf := 14) (q := 58) hX hc1 flX12_222 rfl rfl dX12_pour_55 rfl ?_
    refine r_iload_n (i := 3) (x := v9) (q := 59) 2 hX dX12_pour_58 rfl rfl rfl ?_
    refine r_i2l (q := 60) hX dX12_pour_59 rfl ?_
    refine r_ladd (q := 61) hX dX12_pour_60 rfl ?_
    refine r_putJ (a := a0) (ci := 12) (kf := 14) (q := 64) hX hc1 flX12_222 rfl rfl (Or.inl rfl) rfl rfl dX12_pour_61 rfl (fun M11 => ?_)
    refine r_lf (hK _) ?_
    exact r_vret hM rfl (Nat.le_of_ble_eq_true rfl) (Nat.le_of_ble_eq_true rfl) dX12_pour_64
  · refine r_icmp_le (tgt := 41) (q := 25) hX dX12_pour_22 (by decide) rfl (fun hb6 => ?_) (fun hb6 => ?_)
    · refine r_iconst (v := (0 : Int32)) (q := 42) hX dX12_pour_41 rfl rfl ?_
      refine r_l0 ?_
      refine r_sub [0, 1] rfl ?_
      exact hj7 (0 : Int32)
    · refine r_aload_n (i := 0) (x := a0) (q := 26) 0 hX dX12_pour_25 rfl rfl rfl ?_
      refine r_getR (a := a0) (ci := 12) (kf := 0) (q := 29) hX hc1 flX12_7 rfl dX12_pour_26 rfl ?_
      refine r_iload_n (i := 1) (x := x1) (q := 30) 1 hX dX12_pour_29 rfl rfl rfl ?_
      refine r_iald (a := (rR M3 a0 0)) (i := x1) (q := 31) hX hc4 dX12_pour_30 rfl ?_
      refine r_aload_n (i := 0) (x := a0) (q := 32) 0 hX dX12_pour_31 rfl rfl rfl ?_
      refine r_getR (a := a0) (ci := 12) (kf := 1) (q := 35) hX hc1 flX12_13 rfl dX12_pour_32 rfl ?_
      refine r_iload_n (i := 1) (x := x1) (q := 36) 1 hX dX12_pour_35 rfl rfl rfl ?_
      refine r_iald (a := (rR M3 a0 1)) (i := x1) (q := 37) hX hc5 dX12_pour_36 rfl ?_
      refine r_isub (q := 38) hX dX12_pour_37 rfl ?_
      refine r_goto (q := 42) hX dX12_pour_38 (by decide) ?_
      refine r_l0 ?_
      refine r_sub [0, 1] rfl ?_
      exact hj7 ((rI M3 (rR M3 a0 0) (ix x1)) - (rI M3 (rR M3 a0 1) (ix x1)))
theorem lkX12_249 : Lk RX12 249 yX12_pour := gd (hcw7_3 _ (List.mem_of_getElem? (i := 1) rfl)) rfl
def mX12_empty : MD := (yX12_empty, cX12_empty, 3, none, 1, 23, 0, 0)
theorem ccX12_empty : Cc mX12_empty 1 := ⟨gd (hcw1_0 _ (List.mem_of_getElem? (i := 10) rfl)) rfl, gd (hcw7_5 _ (List.mem_of_getElem? (i := 3) rfl)) rfl, by decide +kernel, by decide +kernel, by decide +kernel⟩
theorem ivX12_empty : Iv mX12_empty 12 := ⟨Nat.le_of_ble_eq_true rfl, rfl, gd (hcw7_5 _ (List.mem_of_getElem? (i := 2) rfl)) rfl, gd (hps4 _ (List.mem_of_getElem? (i := 2) rfl)) rfl⟩
noncomputable def fX12_empty (Z : Shp) (M : Mem) (a0 : Nat) (x1 : Int32) : Option (Mem) := (if tg Z a0 = (13, 86) then (if aok Z (rR M a0 5) 101 x1 then (Option.bind (if (rI M (rR M a0 5) (ix x1)) = 0 then some (0 : Int32) else (if aok Z (rR M a0 4) 100 x1 then (if aok Z (rR M a0 8) 100 x1 then some (((rI M (rR M a0 4) (ix x1)) / (2 : Int32)) - (rI M (rR M a0 8) (ix x1))) else none) else none)) (fun v6 : Int32 => (if aok Z (rR M a0 8) 100 x1 then (pu (wI M (rR M a0 8) (ix x1) ((rI M (rR M a0 8) (ix x1)) + v6)) (fun M10 => (if aok Z (rR M10 a0 7) 101 x1 then (pu (wI M10 (rR M10 a0 7) (ix x1) (0 : Int32)) (fun M12 => (Option.bind (fX12_upper Z M12 a0 x1) (fun v13 => (if v13 = x1 then (if aok Z (rR M12 a0 4) 100 x1 then (Option.bind (fX12_pour Z M12 a0 (x1 + (1 : Int32)) ((rI M12 (rR M12 a0 4) (ix x1)) - v6)) (fun v17 => some v17)) else none) else (if aok Z (rR M12 a0 4) 100 x1 then (Option.bind (fX12_pour Z M12 a0 x1 ((rI M12 (rR M12 a0 4) (ix x1)) - v6)) (fun v20 => some v20)) else none)))))) else none))) else none))) else none) else none)
set_option maxRecDepth 20000 in
theorem kX12_empty (l : Launch) (Z : Shp) (M : Mem) (a0 : Nat) (x1 : Int32) (r : Mem) (h : fX12_empty Z M a0 x1 = some r) : Ct l mX12_empty [vr a0, vi x1] Z M (none, Z, r) := by
  refine Ct.of rfl (Nat.le_of_ble_eq_true rfl) (fun X hM => ?_)
  have hX := hM.1
  refine r_top (mk := fun r => (none, Z, r)) h (fun K hK => ?_)
  unfold fX12_empty
  refine r_aload_n (i := 0) (x := a0) (q := 1) 0 hX dX12_empty_0 rfl rfl rfl ?_
  refine r_ck (fun hc1 => ?_)
  refine r_getR (a := a0) (ci := 12) (kf := 5) (q := 4) hX hc1 flX12_22 rfl dX12_empty_1 rfl ?_
  refine r_iload_n (i := 1) (x := x1) (q := 5) 1 hX dX12_empty_4 rfl rfl rfl ?_
  refine r_ck (fun hc2 => ?_)
  refine r_zald (a := (rR M a0 5)) (i := x1) (q := 6) hX hc2 dX12_empty_5 rfl ?_
  refine r_jn (J := fun (v6 : Int32) (P : Option Res) => Ref mX12_empty X 0 0 Z M 28 [(0, vr a0), (1, vi x1)] [vi v6] P) (fun v6 => ?_) (fun K1 hj4 => ?_)
  · refine r_istore_n (x := v6) (q := 29) 2 [1, 2, 0] (L1 := [(0, vr a0), (1, vi x1), (2, vi v6)]) hX dX12_empty_28 rfl (Nat.le_of_ble_eq_true rfl) rfl rfl ?_
    refine r_aload_n (i := 0) (x := a0) (q := 30) 0 hX dX12_empty_29 rfl rfl rfl ?_
    refine r_getR (a := a0) (ci := 12) (kf := 8) (q := 33) hX hc1 flX12_32 rfl dX12_empty_30 rfl ?_
    refine r_iload_n (i := 1) (x := x1) (q := 34) 1 hX dX12_empty_33 rfl rfl rfl ?_
    refine r_dup2 (q := 35) hX dX12_empty_34 rfl rfl rfl ?_
    refine r_ck (fun hc9 => ?_)
    refine r_iald (a := (rR M a0 8)) (i := x1) (q := 36) hX hc9 dX12_empty_35 rfl ?_
    refine r_iload_n (i := 2) (x := v6) (q := 37) 2 hX dX12_empty_36 rfl rfl rfl ?_
    refine r_iadd (q := 38) hX dX12_empty_37 rfl ?_
    refine r_iast (a := (rR M a0 8)) (i := x1) (x := ((rI M (rR M a0 8) (ix x1)) + v6)) (q := 39) hX hc9 dX12_empty_38 rfl (fun M10 => ?_)
    refine r_aload_n (i := 0) (x := a0) (q := 40) 0 hX dX12_empty_39 rfl rfl rfl ?_
    refine r_getR (a := a0) (ci := 12) (kf := 7) (q := 43) hX hc1 flX12_29 rfl dX12_empty_40 rfl ?_
    refine r_iload_n (i := 1) (x := x1) (q := 44) 1 hX dX12_empty_43 rfl rfl rfl ?_
    refine r_iconst (v := (0 : Int32)) (q := 45) hX dX12_empty_44 rfl rfl ?_
    refine r_ck (fun hc11 => ?_)
    refine r_zast (a := (rR M10 a0 7)) (i := x1) (x := (0 : Int32)) (q := 46) hX hc11 (Or.inl rfl) dX12_empty_45 rfl (fun M12 => ?_)
    refine r_aload_n (i := 0) (x := a0) (q := 47) 0 hX dX12_empty_46 rfl rfl rfl ?_
    refine r_aload_n (i := 0) (x := a0) (q := 48) 0 hX dX12_empty_47 rfl rfl rfl ?_
    refine r_iload_n (i := 1) (x := x1) (q := 49) 1 hX dX12_empty_48 rfl rfl rfl ?_
    refine r_bind (fun v13 h14 => ?_)
    refine r_cv (a := a0) (As := [vi x1]) (st := [vr a0]) (r := (some (vi v13))) (Z1 := Z) (M1 := M12) (k1 := 0) (n1 := 0) (st1 := [vi v13, vr a0]) (q := 52) hX (fun l => kX12_upper l Z M12 a0 x1 v13 h14) hc1 ivX12_upper ccX12_upper (Or.inl lkX12_270) rfl rfl rfl ⟨Nat.le_of_ble_eq_true rfl, Nat.le_of_ble_eq_true rfl, rfl, rfl, Nat.le_of_ble_eq_true rfl, Nat.le_of_ble_eq_true rfl⟩ (Nat.le_of_ble_eq_true rfl) dX12_empty_49 rfl ?_
    refine r_iload_n (i := 1) (x := x1) (q := 53) 1 hX dX12_empty_52 rfl rfl rfl ?_
    refine r_icmp_ne (tgt := 62) (q := 56) hX dX12_empty_53 (by decide) rfl (fun hb15 => ?_) (fun hb15 => ?_)
    · refine r_iload_n (i := 1) (x := x1) (q := 57) 1 hX dX12_empty_56 rfl rfl rfl ?_
      refine r_iconst (v := (1 : Int32)) (q := 58) hX dX12_empty_57 rfl rfl ?_
      refine r_iadd (q := 59) hX dX12_empty_58 rfl ?_
      refine r_goto (q := 63) hX dX12_empty_59 (by decide) ?_
      refine r_aload_n (i := 0) (x := a0) (q := 64) 0 hX dX12_empty_63 rfl rfl rfl ?_
      refine r_getR (a := a0) (ci := 12) (kf := 4) (q := 67) hX hc1 flX12_19 rfl dX12_empty_64 rfl ?_
      refine r_iload_n (i := 1) (x := x1) (q := 68) 1 hX dX12_empty_67 rfl rfl rfl ?_
      refine r_ck (fun hc16 => ?_)
      refine r_iald (a := (rR M12 a0 4)) (i := x1) (q := 69) hX hc16 dX12_empty_68 rfl ?_
      refine r_iload_n (i := 2) (x := v6) (q := 70) 2 hX dX12_empty_69 rfl rfl rfl ?_
      refine r_isub (q := 71) hX dX12_empty_70 rfl ?_
      refine r_bind (fun v17 h18 => ?_)
      refine r_cv (a := a0) (As := [vi (x1 + (1 : Int32)), vi ((rI M12 (rR M12 a0 4) (ix x1)) - v6)]) (st := []) (r := none) (Z1 := Z) (M1 := v17) (k1 := 0) (n1 := 0) (st1 := []) (q := 74) hX (fun l => kX12_pour l Z M12 a0 (x1 + (1 : Int32)) ((rI M12 (rR M12 a0 4) (ix x1)) - v6) v17 h18) hc1 ivX12_pour ccX12_pour (Or.inl lkX12_249) rfl rfl rfl ⟨Nat.le_of_ble_eq_true rfl, Nat.le_of_ble_eq_true rfl, rfl, rfl, Nat.le_of_ble_eq_true rfl, Nat.le_of_ble_eq_true rfl⟩ (Nat.le_of_ble_eq_true rfl) dX12_empty_71 rfl ?_
      refine r_lf (hK _) ?_
      exact r_vret hM rfl (Nat.le_of_ble_eq_true rfl) (Nat.le_of_ble_eq_true rfl) dX12_empty_74
    · refine r_iload_n (i := 1) (x := x1) (q := 63) 1 hX dX12_empty_62 rfl rfl rfl ?_
      refine r_aload_n (i := 0) (x := a0) (q := 64) 0 hX dX12_empty_63 rfl rfl rfl ?_
      refine r_getR (a := a0) (ci := 12) (kf := 4) (q := 67) hX hc1 flX12_19 rfl dX12_empty_64 rfl ?_
      refine r_iload_n (i := 1) (x := x1) (q := 68) 1 hX dX12_empty_67 rfl rfl rfl ?_
      refine r_ck (fun hc19 => ?_)
      refine r_iald (a := (rR M12 a0 4)) (i := x1) (q := 69) hX hc19 dX12_empty_68 rfl ?_
      refine r_iload_n (i := 2) (x := v6) (q := 70) 2 hX dX12_empty_69 rfl rfl rfl ?_
      refine r_isub (q := 71) hX dX12_empty_70 rfl ?_
      refine r_bind (fun v20 h21 => ?_)
      refine r_cv (a := a0) (As := [vi x1, vi ((rI M12 (rR M12 a0 4) (ix x1)) - v6)]) (st := []) (r := none) (Z1 := Z) (M1 := v20) (k1 := 0) (n1 := 0) (st1 := []) (q := 74) hX (fun l => kX12_pour l Z M12 a0 x1 ((rI M12 (rR M12 a0 4) (ix x1)) - v6) v20 h21) hc1 ivX12_pour ccX12_pour (Or.inl lkX12_249) rfl rfl rfl ⟨Nat.le_of_ble_eq_true rfl, Nat.le_of_ble_eq_true rfl, rfl, rfl, Nat.le_of_ble_eq_true rfl, Nat.le_of_ble_eq_true rfl⟩ (Nat.le_of_ble_eq_true rfl) dX12_empty_71 rfl ?_
      refine r_lf (hK _) ?_
      exact r_vret hM rfl (Nat.le_of_ble_eq_true rfl) (Nat.le_of_ble_eq_true rfl) dX12_empty_74
  · refine r_if_eq (tgt := 27) (q := 9) hX dX12_empty_6 (by decide) rfl (fun hb3 => ?_) (fun hb3 => ?_)
    · refine r_iconst (v := (0 : Int32)) (q := 28) hX dX12_empty_27 rfl rfl ?_
      refine r_l0 ?_
      exact hj4 (0 : Int32)
    · refine r_aload_n (i := 0) (x := a0) (q := 10) 0 hX dX12_empty_9 rfl rfl rfl ?_
      refine r_getR (a := a0) (ci := 12) (kf := 4) (q := 13) hX hc1 flX12_19 rfl dX12_empty_10 rfl ?_
      refine r_iload_n (i := 1) (x := x1) (q := 14) 1 hX dX12_empty_13 rfl rfl rfl ?_
      refine r_ck (fun hc7 => ?_)
      refine r_iald (a := (rR M a0 4)) (i := x1) (q := 15) hX hc7 dX12_empty_14 rfl ?_
      refine r_iconst (v := (2 : Int32)) (q := 16) hX dX12_empty_15 rfl rfl ?_
      refine r_idiv (q := 17) hX dX12_empty_16 (by decide) rfl ?_
      refine r_aload_n (i := 0) (x := a0) (q := 18) 0 hX dX12_empty_17 rfl rfl rfl ?_
      refine r_getR (a := a0) (ci := 12) (kf := 8) (q := 21) hX hc1 flX12_32 rfl dX12_empty_18 rfl ?_
      refine r_iload_n (i := 1) (x := x1) (q := 22) 1 hX dX12_empty_21 rfl rfl rfl ?_
      refine r_ck (fun hc8 => ?_)
      refine r_iald (a := (rR M a0 8)) (i := x1) (q := 23) hX hc8 dX12_empty_22 rfl ?_
      refine r_isub (q := 24) hX dX12_empty_23 rfl ?_
      refine r_goto (q := 28) hX dX12_empty_24 (by decide) ?_
      refine r_l0 ?_
      exact hj4 (((rI M (rR M a0 4) (ix x1)) / (2 : Int32)) - (rI M (rR M a0 8) (ix x1)))
theorem flX12_113 : FL RX12 113 12 51 := ⟨Nat.le_of_ble_eq_true rfl, Nat.le_of_ble_eq_true rfl, gd (hcw6_0 _ (List.mem_of_getElem? (i := 6) rfl)) rfl⟩
theorem flX12_330 : FL RX12 330 12 53 := ⟨Nat.le_of_ble_eq_true rfl, Nat.le_of_ble_eq_true rfl, gd (hcw6_0 _ (List.mem_of_getElem? (i := 8) rfl)) rfl⟩
theorem flX12_116 : FL RX12 116 12 52 := ⟨Nat.le_of_ble_eq_true rfl, Nat.le_of_ble_eq_true rfl, gd (hcw6_0 _ (List.mem_of_getElem? (i := 7) rfl)) rfl⟩
def mX12_lay : MD := (yX12_lay, cX12_lay, 3, none, 0, 0, 0, 0)
theorem ccX12_lay : Cc mX12_lay 2 := ⟨gd (hcw1_0 _ (List.mem_of_getElem? (i := 10) rfl)) rfl, gd (hcw7_8 _ (List.mem_of_getElem? (i := 15) rfl)) rfl, by decide +kernel, by decide +kernel, by decide +kernel⟩
theorem ivX12_lay : Iv mX12_lay 12 := ⟨Nat.le_of_ble_eq_true rfl, rfl, gd (hcw7_8 _ (List.mem_of_getElem? (i := 14) rfl)) rfl, gd (hps4 _ (List.mem_of_getElem? (i := 11) rfl)) rfl⟩
def fX12_lay (Z : Shp) (M : Mem) (a0 : Nat) (x1 : Int32) (x2 : Int32) : Option (Mem) := (if tg Z a0 = (13, 86) then (if aok Z (rR M a0 51) 100 (rI M a0 53) then (pu (wI M (rR M a0 51) (ix (rI M a0 53)) x1) (fun M3 => (if aok Z (rR M3 a0 52) 100 (rI M3 a0 53) then (pu (wI M3 (rR M3 a0 52) (ix (rI M3 a0 53)) x2) (fun M5 => (pu (wI M5 a0 53 ((rI M5 a0 53) + (1 : Int32))) (fun M6 => some M6)))) else none))) else none) else none)
set_option maxRecDepth 20000 in
theorem kX12_lay (l : Launch) (Z : Shp) (M : Mem) (a0 : Nat) (x1 : Int32) (x2 : Int32) (r : Mem) (h : fX12_lay Z M a0 x1 x2 = some r) : Ct l mX12_lay [vr a0, vi x1, vi x2] Z M (none, Z, r) := by
  refine Ct.of rfl (Nat.le_of_ble_eq_true rfl) (fun X hM => ?_)
  have hX := hM.1
  refine r_top (mk := fun r => (none, Z, r)) h (fun K hK => ?_)
  unfold fX12_lay
  refine r_aload_n (i := 0) (x := a0) (q := 1) 0 hX dX12_lay_0 rfl rfl rfl ?_
  refine r_ck (fun hc1 => ?_)
  refine r_getR (a := a0) (ci := 12) (kf := 51) (q := 4) hX hc1 flX12_113 rfl dX12_lay_1 rfl ?_
  refine r_aload_n (i := 0) (x := a0) (q := 5) 0 hX dX12_lay_4 rfl rfl rfl ?_
  refine r_getI (a := a0) (ci := 12) (kf := 53) (q := 8) hX hc1 flX12_330 rfl rfl dX12_lay_5 rfl ?_
  refine r_iload_n (i := 1) (x := x1) (q := 9) 1 hX dX12_lay_8 rfl rfl rfl ?_
  refine r_ck (fun hc2 => ?_)
  refine r_iast (a := (rR M a0 51)) (i := (rI M a0 53)) (x := x1) (q := 10) hX hc2 dX12_lay_9 rfl (fun M3 => ?_)
  refine r_aload_n (i := 0) (x := a0) (q := 11) 0 hX dX12_lay_10 rfl rfl rfl ?_
  refine r_getR (a := a0) (ci := 12) (kf := 52) (q := 14) hX hc1 flX12_116 rfl dX12_lay_11 rfl ?_
  refine r_aload_n (i := 0) (x := a0) (q := 15) 0 hX dX12_lay_14 rfl rfl rfl ?_
  refine r_getI (a := a0) (ci := 12) (kf := 53) (q := 18) hX hc1 flX12_330 rfl rfl dX12_lay_15 rfl ?_
  refine r_iload_n (i := 2) (x := x2) (q := 19) 2 hX dX12_lay_18 rfl rfl rfl ?_
  refine r_ck (fun hc4 => ?_)
  refine r_iast (a := (rR M3 a0 52)) (i := (rI M3 a0 53)) (x := x2) (q := 20) hX hc4 dX12_lay_19 rfl (fun M5 => ?_)
  refine r_aload_n (i := 0) (x := a0) (q := 21) 0 hX dX12_lay_20 rfl rfl rfl ?_
  refine r_dup (q := 22) hX dX12_lay_21 rfl rfl ?_
  refine r_getI (a := a0) (ci := 12) (kf := 53) (q := 25) hX hc1 flX12_330 rfl rfl dX12_lay_22 rfl ?_
  refine r_iconst (v := (1 : Int32)) (q := 26) hX dX12_lay_25 rfl rfl ?_
  refine r_iadd (q := 27) hX dX12_lay_26 rfl ?_
  refine r_putI (a := a0) (ci := 12) (kf := 53) (q := 30) hX hc1 flX12_330 rfl rfl (Or.inl rfl) rfl rfl dX12_lay_27 rfl (fun M6 => ?_)
  refine r_lf (hK _) ?_
  exact r_vret hM rfl (Nat.le_of_ble_eq_true rfl) (Nat.le_of_ble_eq_true rfl) dX12_lay_30
theorem flX12_339 : FL RX12 339 12 43 := ⟨Nat.le_of_ble_eq_true rfl, Nat.le_of_ble_eq_true rfl, gd (hcw5_11 _ (List.mem_of_getElem? (i := 18) rfl)) rfl⟩
theorem flX12_342 : FL RX12 342 12 49 := ⟨Nat.le_of_ble_eq_true rfl, Nat.le_of_ble_eq_true rfl, gd (hcw6_0 _ (List.mem_of_getElem? (i := 4) rfl)) rfl⟩
theorem flX12_345 : FL RX12 345 12 50 := ⟨Nat.le_of_ble_eq_true rfl, Nat.le_of_ble_eq_true rfl, gd (hcw6_0 _ (List.mem_of_getElem? (i := 5) rfl)) rfl⟩
theorem flX12_348 : FL RX12 348 12 48 := ⟨Nat.le_of_ble_eq_true rfl, Nat.le_of_ble_eq_true rfl, gd (hcw6_0 _ (List.mem_of_getElem? (i := 3) rfl)) rfl⟩
theorem lkX12_336 : Lk RX12 336 yX12_lay := gd (hcw7_8 _ (List.mem_of_getElem? (i := 12) rfl)) rfl
def mX12_endNumber : MD := (yX12_endNumber, cX12_endNumber, 1, none, 1, 22, 0, 0)
theorem ccX12_endNumber : Cc mX12_endNumber 0 := ⟨gd (hcw1_0 _ (List.mem_of_getElem? (i := 10) rfl)) rfl, gd (hcw7_8 _ (List.mem_of_getElem? (i := 11) rfl)) rfl, by decide +kernel, by decide +kernel, by decide +kernel⟩
theorem ivX12_endNumber : Iv mX12_endNumber 12 := ⟨Nat.le_of_ble_eq_true rfl, rfl, gd (hcw7_8 _ (List.mem_of_getElem? (i := 10) rfl)) rfl, gd (hps4 _ (List.mem_of_getElem? (i := 10) rfl)) rfl⟩
noncomputable def fX12_endNumber (Z : Shp) (M : Mem) (a0 : Nat) : Option (Mem) := (if tg Z a0 = (13, 86) then (if (rI M a0 43) = (7 : Int32) then (Option.bind (fX12_lay Z M a0 (((3 : Int32) * (rI M a0 49)) + (rI M a0 50)) (rI M a0 48)) (fun v3 => some v3)) else some M) else none)
set_option maxRecDepth 20000 in
theorem kX12_endNumber (l : Launch) (Z : Shp) (M : Mem) (a0 : Nat) (r : Mem) (h : fX12_endNumber Z M a0 = some r) : Ct l mX12_endNumber [vr a0] Z M (none, Z, r) := by
  refine Ct.of rfl (Nat.le_of_ble_eq_true rfl) (fun X hM => ?_)
  have hX := hM.1
  refine r_top (mk := fun r => (none, Z, r)) h (fun K hK => ?_)
  unfold fX12_endNumber
  refine r_aload_n (i := 0) (x := a0) (q := 1) 0 hX dX12_endNumber_0 rfl rfl rfl ?_
  refine r_ck (fun hc1 => ?_)
  refine r_getI (a := a0) (ci := 12) (kf := 43) (q := 4) hX hc1 flX12_339 rfl rfl dX12_endNumber_1 rfl ?_
  refine r_bipush (v := (7 : Int32)) (q := 6) hX dX12_endNumber_4 rfl rfl ?_
  refine r_icmp_ne (tgt := 28) (q := 9) hX dX12_endNumber_6 (by decide) rfl (fun hb2 => ?_) (fun hb2 => ?_)
  · refine r_aload_n (i := 0) (x := a0) (q := 10) 0 hX dX12_endNumber_9 rfl rfl rfl ?_
    refine r_iconst (v := (3 : Int32)) (q := 11) hX dX12_endNumber_10 rfl rfl ?_
    refine r_aload_n (i := 0) (x := a0) (q := 12) 0 hX dX12_endNumber_11 rfl rfl rfl ?_
    refine r_getI (a := a0) (ci := 12) (kf := 49) (q := 15) hX hc1 flX12_342 rfl rfl dX12_endNumber_12 rfl ?_
    refine r_imul (q := 16) hX dX12_endNumber_15 rfl ?_
    refine r_aload_n (i := 0) (x := a0) (q := 17) 0 hX dX12_endNumber_16 rfl rfl rfl ?_
    refine r_getI (a := a0) (ci := 12) (kf := 50) (q := 20) hX hc1 flX12_345 rfl rfl dX12_endNumber_17 rfl ?_
    refine r_iadd (q := 21) hX dX12_endNumber_20 rfl ?_
    refine r_aload_n (i := 0) (x := a0) (q := 22) 0 hX dX12_endNumber_21 rfl rfl rfl ?_
    refine r_getI (a := a0) (ci := 12) (kf := 48) (q := 25) hX hc1 flX12_348 rfl rfl dX12_endNumber_22 rfl ?_
    refine r_bind (fun v3 h4 => ?_)
    refine r_cv (a := a0) (As := [vi (((3 : Int32) * (rI M a0 49)) + (rI M a0 50)), vi (rI M a0 48)]) (st := []) (r := none) (Z1 := Z) (M1 := v3) (k1 := 0) (n1 := 0) (st1 := []) (q := 28) hX (fun l => kX12_lay l Z M a0 (((3 : Int32) * (rI M a0 49)) + (rI M a0 50)) (rI M a0 48) v3 h4) hc1 ivX12_lay ccX12_lay (Or.inl lkX12_336) rfl rfl rfl ⟨Nat.le_of_ble_eq_true rfl, Nat.le_of_ble_eq_true rfl, rfl, rfl, Nat.le_of_ble_eq_true rfl, Nat.le_of_ble_eq_true rfl⟩ (Nat.le_of_ble_eq_true rfl) dX12_endNumber_25 rfl ?_
    refine r_lf (hK _) ?_
    exact r_vret hM rfl (Nat.le_of_ble_eq_true rfl) (Nat.le_of_ble_eq_true rfl) dX12_endNumber_28
  · refine r_lf (hK _) ?_
    exact r_vret hM rfl (Nat.le_of_ble_eq_true rfl) (Nat.le_of_ble_eq_true rfl) dX12_endNumber_28
def mX12_explains : MD := (yX12_explains, cX12_explains, 6, (some .boolean), 1, 25, 0, 0)
theorem ccX12_explains : Cc mX12_explains 1 := ⟨gd (hcw1_0 _ (List.mem_of_getElem? (i := 10) rfl)) rfl, gd (hcw8_2 _ (List.mem_of_getElem? (i := 1) rfl)) rfl, by decide +kernel, by decide +kernel, by decide +kernel⟩
theorem ivX12_explains : Iv mX12_explains 12 := ⟨Nat.le_of_ble_eq_true rfl, rfl, gd (hcw8_2 _ (List.mem_of_getElem? (i := 0) rfl)) rfl, gd (hps5 _ (List.mem_of_getElem? (i := 6) rfl)) rfl⟩
noncomputable def fX12_explains (Z : Shp) (M : Mem) (a0 : Nat) (x1 : Int32) : Option (Int32) := (loop (fun s1 : Int32 × Int32 => (if (8 : Int32) ≤ s1.2 then (if zb s1.1 then some (Sum.inr s1.1) else none) else (Option.bind (loop (fun s9 : Int32 × Int32 => (if tg Z a0 = (13, 86) then (if (rI M a0 66) ≤ s9.2 then some (Sum.inr s9.1) else (if ((x1 >>> (s9.2 &&& 31)) &&& (1 : Int32)) = (1 : Int32) then (if aok Z (rR M a0 67) 100 s9.2 then (if (rI M (rR M a0 67) (ix s9.2)) = s1.2 then (if aok Z (rR M a0 68) 100 s9.2 then (pu ((s9.1 + (rI M (rR M a0 68) (ix s9.2)))) (fun z18 => some (Sum.inl (z18, (s9.2 + (1 : Int32)))))) else none) else (pu ((s9.1 + (0 : Int32))) (fun z19 => some (Sum.inl (z19, (s9.2 + (1 : Int32))))))) else none) else (pu ((s9.1 + (0 : Int32))) (fun z20 => some (Sum.inl (z20, (s9.2 + (1 : Int32)))))))) else none)) ((0 : Int32), (0 : Int32))) (fun v8 : Int32 => (if s1.1 = 0 then some (Sum.inl ((0 : Int32), (s1.2 + (1 : Int32)))) else (if tg Z a0 = (13, 86) then (if aok Z (rR M a0 69) 100 s1.2 then (if (rI M (rR M a0 69) (ix s1.2)) = (-1 : Int32) then some (Sum.inl ((1 : Int32), (s1.2 + (1 : Int32)))) else (if aok Z (rR M a0 70) 100 s1.2 then (if (fX12_in (v8.toInt64) (((rI M (rR M a0 69) (ix s1.2)) - (rI M (rR M a0 70) (ix s1.2))).toInt64) (((rI M (rR M a0 69) (ix s1.2)) + (rI M (rR M a0 70) (ix s1.2))).toInt64)) = 0 then some (Sum.inl ((0 : Int32), (s1.2 + (1 : Int32)))) else some (Sum.inl ((1 : Int32), (s1.2 + (1 : Int32))))) else none)) else none) else none)))))) ((1 : Int32), (0 : Int32)))
set_option maxRecDepth 20000 in
theorem kX12_explains (l : Launch) (Z : Shp) (M : Mem) (a0 : Nat) (x1 : Int32) (r : Int32) (h : fX12_explains Z M a0 x1 = some r) : Ct l mX12_explains [vr a0, vi x1] Z M ((some (vi r)), Z, M) := by
  refine Ct.of rfl (Nat.le_of_ble_eq_true rfl) (fun X hM => ?_)
  have hX := hM.1
  refine r_top (mk := fun r => ((some (vi r)), Z, M)) h (fun K hK => ?_)
  unfold fX12_explains
  refine r_iconst (v := (1 : Int32)) (q := 1) hX dX12_explains_0 rfl rfl ?_
  refine r_istore_n (x := (1 : Int32)) (q := 2) 2 [1, 2, 0] (L1 := [(0, vr a0), (1, vi x1), (2, vi (1 : Int32))]) hX dX12_explains_1 rfl (Nat.le_of_ble_eq_true rfl) rfl rfl ?_
  refine r_iconst (v := (0 : Int32)) (q := 3) hX dX12_explains_2 rfl rfl ?_
  refine r_istore_n (x := (0 : Int32)) (q := 4) 3 [1, 2, 3, 0] (L1 := [(0, vr a0), (1, vi x1), (2, vi (1 : Int32)), (3, vi (0 : Int32))]) hX dX12_explains_3 rfl (Nat.le_of_ble_eq_true rfl) rfl rfl ?_
  refine r_loop (Hd := fun (s1 : Int32 × Int32) (P : Option Res) => Ref mX12_explains X 0 0 Z M 4 [(0, vr a0), (1, vi x1), (2, vi s1.1), (3, vi s1.2)] [] P) (fun _ => r_none) (fun s1 K1 hn2 hx3 => ?_) ((1 : Int32), (0 : Int32))
  refine r_iload_n (i := 3) (x := s1.2) (q := 5) 3 hX dX12_explains_4 rfl rfl rfl ?_
  refine r_bipush (v := (8 : Int32)) (q := 7) hX dX12_explains_5 rfl rfl ?_
  refine r_icmp_ge (tgt := 131) (q := 10) hX dX12_explains_7 (by decide) rfl (fun hb4 => ?_) (fun hb4 => ?_)
  · refine r_iload_n (i := 2) (x := s1.1) (q := 132) 2 hX dX12_explains_131 rfl rfl rfl ?_
    refine r_ck (fun hz5 => ?_)
    refine r_lf ((hx3 _).trans (hK _)) ?_
    exact r_zret hM rfl hz5 (Nat.le_of_ble_eq_true rfl) (Nat.le_of_ble_eq_true rfl) dX12_explains_132
  · refine r_iconst (v := (0 : Int32)) (q := 11) hX dX12_explains_10 rfl rfl ?_
    refine r_istore (x := (0 : Int32)) (q := 13) 4 [1, 2, 3, 4, 0] (L1 := [(0, vr a0), (1, vi x1), (2, vi s1.1), (3, vi s1.2), (4, vi (0 : Int32))]) hX dX12_explains_11 (Nat.le_of_ble_eq_true rfl) rfl rfl ?_
    refine r_iconst (v := (0 : Int32)) (q := 14) hX dX12_explains_13 rfl rfl ?_
    refine r_istore (x := (0 : Int32)) (q := 16) 5 [1, 2, 3, 4, 5, 0] (L1 := [(0, vr a0), (1, vi x1), (2, vi s1.1), (3, vi s1.2), (4, vi (0 : Int32)), (5, vi (0 : Int32))]) hX dX12_explains_14 (Nat.le_of_ble_eq_true rfl) rfl rfl ?_
    refine r_jn (J := fun (v8 : Int32) (P : Option Res) => Ref mX12_explains X 0 0 Z M 68 [(0, vr a0), (1, vi x1), (2, vi s1.1), (3, vi s1.2), (4, vi v8)] [] P) (fun v8 => ?_) (fun K1 hj6 => ?_)
    · refine r_iload_n (i := 2) (x := s1.1) (q := 69) 2 hX dX12_explains_68 rfl rfl rfl ?_
      refine r_if_eq (tgt := 123) (q := 72) hX dX12_explains_69 (by decide) rfl (fun hb21 => ?_) (fun hb21 => ?_)
      · refine r_iconst (v := (0 : Int32)) (q := 124) hX dX12_explains_123 rfl rfl ?_
        refine r_istore_n (x := (0 : Int32)) (q := 125) 2 [1, 2, 0, 4, 5] (L1 := [(0, vr a0), (1, vi x1), (2, vi (0 : Int32)), (3, vi s1.2), (4, vi v8)]) hX dX12_explains_124 rfl (Nat.le_of_ble_eq_true rfl) rfl rfl ?_
        refine r_iinc (x := s1.2) (v := (s1.2 + (1 : Int32))) (q := 128) 3 3 [1, 2, 3, 0, 5] (L1 := [(0, vr a0), (1, vi x1), (2, vi (0 : Int32)), (3, vi (s1.2 + (1 : Int32))), (4, vi v8)]) hX dX12_explains_125 rfl rfl (Nat.le_of_ble_eq_true rfl) rfl rfl ?_
        refine r_goto (q := 4) hX dX12_explains_128 (by decide) ?_
        refine r_l0 ?_
        refine r_sub [0, 1, 2, 3] rfl ?_
        exact hn2 ((0 : Int32), (s1.2 + (1 : Int32)))
      · refine r_aload_n (i := 0) (x := a0) (q := 73) 0 hX dX12_explains_72 rfl rfl rfl ?_
        refine r_ck (fun hc22 => ?_)
        refine r_getR (a := a0) (ci := 12) (kf := 69) (q := 76) hX hc22 flX12_146 rfl dX12_explains_73 rfl ?_
        refine r_iload_n (i := 3) (x := s1.2) (q := 77) 3 hX dX12_explains_76 rfl rfl rfl ?_
        refine r_ck (fun hc23 => ?_)
        refine r_iald (a := (rR M a0 69)) (i := s1.2) (q := 78) hX hc23 dX12_explains_77 rfl ?_
        refine r_iconst (v := (-1 : Int32)) (q := 79) hX dX12_explains_78 rfl rfl ?_
        refine r_icmp_eq (tgt := 119) (q := 82) hX dX12_explains_79 (by decide) rfl (fun hb24 => ?_) (fun hb24 => ?_)
        · refine r_iconst (v := (1 : Int32)) (q := 120) hX dX12_explains_119 rfl rfl ?_
          refine r_goto (q := 124) hX dX12_explains_120 (by decide) ?_
          refine r_istore_n (x := (1 : Int32)) (q := 125) 2 [1, 2, 0, 4, 5] (L1 := [(0, vr a0), (1, vi x1), (2, vi (1 : Int32)), (3, vi s1.2), (4, vi v8)]) hX dX12_explains_124 rfl (Nat.le_of_ble_eq_true rfl) rfl rfl ?_
          refine r_iinc (x := s1.2) (v := (s1.2 + (1 : Int32))) (q := 128) 3 3 [1, 2, 3, 0, 5] (L1 := [(0, vr a0), (1, vi x1), (2, vi (1 : Int32)), (3, vi (s1.2 + (1 : Int32))), (4, vi v8)]) hX dX12_explains_125 rfl rfl (Nat.le_of_ble_eq_true rfl) rfl rfl ?_
          refine r_goto (q := 4) hX dX12_explains_128 (by decide) ?_
          refine r_l0 ?_
          refine r_sub [0, 1, 2, 3] rfl ?_
          exact hn2 ((1 : Int32), (s1.2 + (1 : Int32)))
        · refine r_iload (i := 4) (x := v8) (q := 84) 4 hX dX12_explains_82 rfl rfl ?_
          refine r_i2l (q := 85) hX dX12_explains_84 rfl ?_
          refine r_aload_n (i := 0) (x := a0) (q := 86) 0 hX dX12_explains_85 rfl rfl rfl ?_
          refine r_getR (a := a0) (ci := 12) (kf := 69) (q := 89) hX hc22 flX12_146 rfl dX12_explains_86 rfl ?_
          refine r_iload_n (i := 3) (x := s1.2) (q := 90) 3 hX dX12_explains_89 rfl rfl rfl ?_
          refine r_iald (a := (rR M a0 69)) (i := s1.2) (q := 91) hX hc23 dX12_explains_90 rfl ?_
          refine r_aload_n (i := 0) (x := a0) (q := 92) 0 hX dX12_explains_91 rfl rfl rfl ?_
          refine r_getR (a := a0) (ci := 12) (kf := 70) (q := 95) hX hc22 flX12_149 rfl dX12_explains_92 rfl ?_
          refine r_iload_n (i := 3) (x := s1.2) (q := 96) 3 hX dX12_explains_95 rfl rfl rfl ?_
          refine r_ck (fun hc25 => ?_)
          refine r_iald (a := (rR M a0 70)) (i := s1.2) (q := 97) hX hc25 dX12_explains_96 rfl ?_
          refine r_isub (q := 98) hX dX12_explains_97 rfl ?_
          refine r_i2l (q := 99) hX dX12_explains_98 rfl ?_
          refine r_aload_n (i := 0) (x := a0) (q := 100) 0 hX dX12_explains_99 rfl rfl rfl ?_
          refine r_getR (a := a0) (ci := 12) (kf := 69) (q := 103) hX hc22 flX12_146 rfl dX12_explains_100 rfl ?_
          refine r_iload_n (i := 3) (x := s1.2) (q := 104) 3 hX dX12_explains_103 rfl rfl rfl ?_
          refine r_iald (a := (rR M a0 69)) (i := s1.2) (q := 105) hX hc23 dX12_explains_104 rfl ?_
          refine r_aload_n (i := 0) (x := a0) (q := 106) 0 hX dX12_explains_105 rfl rfl rfl ?_
          refine r_getR (a := a0) (ci := 12) (kf := 70) (q := 109) hX hc22 flX12_149 rfl dX12_explains_106 rfl ?_
          refine r_iload_n (i := 3) (x := s1.2) (q := 110) 3 hX dX12_explains_109 rfl rfl rfl ?_
          refine r_iald (a := (rR M a0 70)) (i := s1.2) (q := 111) hX hc25 dX12_explains_110 rfl ?_
          refine r_iadd (q := 112) hX dX12_explains_111 rfl ?_
          refine r_i2l (q := 113) hX dX12_explains_112 rfl ?_
          refine r_cs (As := [vj (v8.toInt64), vj (((rI M (rR M a0 69) (ix s1.2)) - (rI M (rR M a0 70) (ix s1.2))).toInt64), vj (((rI M (rR M a0 69) (ix s1.2)) + (rI M (rR M a0 70) (ix s1.2))).toInt64)]) (st := []) (r := (some (vi (fX12_in (v8.toInt64) (((rI M (rR M a0 69) (ix s1.2)) - (rI M (rR M a0 70) (ix s1.2))).toInt64) (((rI M (rR M a0 69) (ix s1.2)) + (rI M (rR M a0 70) (ix s1.2))).toInt64))))) (Z1 := Z) (M1 := M) (k1 := 0) (n1 := 0) (st1 := [vi (fX12_in (v8.toInt64) (((rI M (rR M a0 69) (ix s1.2)) - (rI M (rR M a0 70) (ix s1.2))).toInt64) (((rI M (rR M a0 69) (ix s1.2)) + (rI M (rR M a0 70) (ix s1.2))).toInt64))]) (q := 116) hX (fun l => kX12_in l Z M (v8.toInt64) (((rI M (rR M a0 69) (ix s1.2)) - (rI M (rR M a0 70) (ix s1.2))).toInt64) (((rI M (rR M a0 69) (ix s1.2)) + (rI M (rR M a0 70) (ix s1.2))).toInt64)) stX12_in ccX12_in (Or.inl lkX12_194) rfl rfl rfl ⟨Nat.le_of_ble_eq_true rfl, Nat.le_of_ble_eq_true rfl, rfl, rfl, Nat.le_of_ble_eq_true rfl, Nat.le_of_ble_eq_true rfl⟩ (Nat.le_of_ble_eq_true rfl) dX12_explains_113 rfl ?_
          refine r_if_eq (tgt := 123) (q := 119) hX dX12_explains_116 (by decide) rfl (fun hb26 => ?_) (fun hb26 => ?_)
          · refine r_iconst (v := (0 : Int32)) (q := 124) hX dX12_explains_123 rfl rfl ?_
            refine r_istore_n (x := (0 : Int32)) (q := 125) 2 [1, 2, 0, 4, 5] (L1 := [(0, vr a0), (1, vi x1), (2, vi (0 : Int32)), (3, vi s1.2), (4, vi v8)]) hX dX12_explains_124 rfl (Nat.le_of_ble_eq_true rfl) rfl rfl ?_
            refine r_iinc (x := s1.2) (v := (s1.2 + (1 : Int32))) (q := 128) 3 3 [1, 2, 3, 0, 5] (L1 := [(0, vr a0), (1, vi x1), (2, vi (0 : Int32)), (3, vi (s1.2 + (1 : Int32))), (4, vi v8)]) hX dX12_explains_125 rfl rfl (Nat.le_of_ble_eq_true rfl) rfl rfl ?_
            refine r_goto (q := 4) hX dX12_explains_128 (by decide) ?_
            refine r_l0 ?_
            refine r_sub [0, 1, 2, 3] rfl ?_
            exact hn2 ((0 : Int32), (s1.2 + (1 : Int32)))
          · refine r_iconst (v := (1 : Int32)) (q := 120) hX dX12_explains_119 rfl rfl ?_
            refine r_goto (q := 124) hX dX12_explains_120 (by decide) ?_
            refine r_istore_n (x := (1 : Int32)) (q := 125) 2 [1, 2, 0, 4, 5] (L1 := [(0, vr a0), (1, vi x1), (2, vi (1 : Int32)), (3, vi s1.2), (4, vi v8)]) hX dX12_explains_124 rfl (Nat.le_of_ble_eq_true rfl) rfl rfl ?_
            refine r_iinc (x := s1.2) (v := (s1.2 + (1 : Int32))) (q := 128) 3 3 [1, 2, 3, 0, 5] (L1 := [(0, vr a0), (1, vi x1), (2, vi (1 : Int32)), (3, vi (s1.2 + (1 : Int32))), (4, vi v8)]) hX dX12_explains_125 rfl rfl (Nat.le_of_ble_eq_true rfl) rfl rfl ?_
            refine r_goto (q := 4) hX dX12_explains_128 (by decide) ?_
            refine r_l0 ?_
            refine r_sub [0, 1, 2, 3] rfl ?_
            exact hn2 ((1 : Int32), (s1.2 + (1 : Int32)))
    · refine r_loop (Hd := fun (s9 : Int32 × Int32) (P : Option Res) => Ref mX12_explains X 0 0 Z M 16 [(0, vr a0), (1, vi x1), (2, vi s1.1), (3, vi s1.2), (4, vi s9.1), (5, vi s9.2)] [] P) (fun _ => r_none) (fun s9 K1 hn10 hx11 => ?_) ((0 : Int32), (0 : Int32))
      refine r_iload (i := 5) (x := s9.2) (q := 18) 5 hX dX12_explains_16 rfl rfl ?_
      refine r_aload_n (i := 0) (x := a0) (q := 19) 0 hX dX12_explains_18 rfl rfl rfl ?_
      refine r_ck (fun hc12 => ?_)
      refine r_getI (a := a0) (ci := 12) (kf := 66) (q := 22) hX hc12 flX12_440 rfl rfl dX12_explains_19 rfl ?_
      refine r_icmp_ge (tgt := 68) (q := 25) hX dX12_explains_22 (by decide) rfl (fun hb13 => ?_) (fun hb13 => ?_)
      · refine r_lf (hx11 _) ?_
        refine r_sub [0, 1, 2, 3, 4] rfl ?_
        exact hj6 s9.1
      · refine r_iload (i := 4) (x := s9.1) (q := 27) 4 hX dX12_explains_25 rfl rfl ?_
        refine r_iload_n (i := 1) (x := x1) (q := 28) 1 hX dX12_explains_27 rfl rfl rfl ?_
        refine r_iload (i := 5) (x := s9.2) (q := 30) 5 hX dX12_explains_28 rfl rfl ?_
        refine r_ishr (q := 31) hX dX12_explains_30 rfl ?_
        refine r_iconst (v := (1 : Int32)) (q := 32) hX dX12_explains_31 rfl rfl ?_
        refine r_iand (q := 33) hX dX12_explains_32 rfl ?_
        refine r_iconst (v := (1 : Int32)) (q := 34) hX dX12_explains_33 rfl rfl ?_
        refine r_icmp_ne (tgt := 58) (q := 37) hX dX12_explains_34 (by decide) rfl (fun hb14 => ?_) (fun hb14 => ?_)
        · refine r_aload_n (i := 0) (x := a0) (q := 38) 0 hX dX12_explains_37 rfl rfl rfl ?_
          refine r_getR (a := a0) (ci := 12) (kf := 67) (q := 41) hX hc12 flX12_140 rfl dX12_explains_38 rfl ?_
          refine r_iload (i := 5) (x := s9.2) (q := 43) 5 hX dX12_explains_41 rfl rfl ?_
          refine r_ck (fun hc15 => ?_)
          refine r_iald (a := (rR M a0 67)) (i := s9.2) (q := 44) hX hc15 dX12_explains_43 rfl ?_
          refine r_iload_n (i := 3) (x := s1.2) (q := 45) 3 hX dX12_explains_44 rfl rfl rfl ?_
          refine r_icmp_ne (tgt := 58) (q := 48) hX dX12_explains_45 (by decide) rfl (fun hb16 => ?_) (fun hb16 => ?_)
          · refine r_aload_n (i := 0) (x := a0) (q := 49) 0 hX dX12_explains_48 rfl rfl rfl ?_
            refine r_getR (a := a0) (ci := 12) (kf := 68) (q := 52) hX hc12 flX12_143 rfl dX12_explains_49 rfl ?_
            refine r_iload (i := 5) (x := s9.2) (q := 54) 5 hX dX12_explains_52 rfl rfl ?_
            refine r_ck (fun hc17 => ?_)
            refine r_iald (a := (rR M a0 68)) (i := s9.2) (q := 55) hX hc17 dX12_explains_54 rfl ?_
            refine r_goto (q := 59) hX dX12_explains_55 (by decide) ?_
            refine r_iadd (q := 60) hX dX12_explains_59 rfl ?_
            refine r_istoreP (x := (s9.1 + (rI M (rR M a0 68) (ix s9.2)))) (q := 62) 4 [1, 2, 3, 4, 0, 6] (fun z18 => [(0, vr a0), (1, vi x1), (2, vi s1.1), (3, vi s1.2), (4, vi z18), (5, vi s9.2)]) hX dX12_explains_60 (Nat.le_of_ble_eq_true rfl) (fun _ => rfl) rfl (fun z18 => ?_)
            refine r_iinc (x := s9.2) (v := (s9.2 + (1 : Int32))) (q := 65) 5 5 [1, 2, 3, 4, 5, 0] (L1 := [(0, vr a0), (1, vi x1), (2, vi s1.1), (3, vi s1.2), (4, vi z18), (5, vi (s9.2 + (1 : Int32)))]) hX dX12_explains_62 rfl rfl (Nat.le_of_ble_eq_true rfl) rfl rfl ?_
            refine r_goto (q := 16) hX dX12_explains_65 (by decide) ?_
            refine r_l0 ?_
            exact hn10 (z18, (s9.2 + (1 : Int32)))
          · refine r_iconst (v := (0 : Int32)) (q := 59) hX dX12_explains_58 rfl rfl ?_
            refine r_iadd (q := 60) hX dX12_explains_59 rfl ?_
            refine r_istoreP (x := (s9.1 + (0 : Int32))) (q := 62) 4 [1, 2, 3, 4, 0, 6] (fun z19 => [(0, vr a0), (1, vi x1), (2, vi s1.1), (3, vi s1.2), (4, vi z19), (5, vi s9.2)]) hX dX12_explains_60 (Nat.le_of_ble_eq_true rfl) (fun _ => rfl) rfl (fun z19 => ?_)
            refine r_iinc (x := s9.2) (v := (s9.2 + (1 : Int32))) (q := 65) 5 5 [1, 2, 3, 4, 5, 0] (L1 := [(0, vr a0), (1, vi x1), (2, vi s1.1), (3, vi s1.2), (4, vi z19), (5, vi (s9.2 + (1 : Int32)))]) hX dX12_explains_62 rfl rfl (Nat.le_of_ble_eq_true rfl) rfl rfl ?_
            refine r_goto (q := 16) hX dX12_explains_65 (by decide) ?_
            refine r_l0 ?_
            exact hn10 (z19, (s9.2 + (1 : Int32)))
        · refine r_iconst (v := (0 : Int32)) (q := 59) hX dX12_explains_58 rfl rfl ?_
          refine r_iadd (q := 60) hX dX12_explains_59 rfl ?_
          refine r_istoreP (x := (s9.1 + (0 : Int32))) (q := 62) 4 [1, 2, 3, 4, 0, 6] (fun z20 => [(0, vr a0), (1, vi x1), (2, vi s1.1), (3, vi s1.2), (4, vi z20), (5, vi s9.2)]) hX dX12_explains_60 (Nat.le_of_ble_eq_true rfl) (fun _ => rfl) rfl (fun z20 => ?_)
          refine r_iinc (x := s9.2) (v := (s9.2 + (1 : Int32))) (q := 65) 5 5 [1, 2, 3, 4, 5, 0] (L1 := [(0, vr a0), (1, vi x1), (2, vi s1.1), (3, vi s1.2), (4, vi z20), (5, vi (s9.2 + (1 : Int32)))]) hX dX12_explains_62 rfl rfl (Nat.le_of_ble_eq_true rfl) rfl rfl ?_
          refine r_goto (q := 16) hX dX12_explains_65 (by decide) ?_
          refine r_l0 ?_
          exact hn10 (z20, (s9.2 + (1 : Int32)))
def mX12_failed : MD := (yX12_failed, cX12_failed, 16, (some .int), 2, 45, 0, 0)
theorem ccX12_failed : Cc mX12_failed 2 := ⟨gd (hcw1_0 _ (List.mem_of_getElem? (i := 10) rfl)) rfl, gd (hcw8_3 _ (List.mem_of_getElem? (i := 4) rfl)) rfl, by decide +kernel, by decide +kernel, by decide +kernel⟩
theorem ivX12_failed : Iv mX12_failed 12 := ⟨Nat.le_of_ble_eq_true rfl, rfl, gd (hcw8_3 _ (List.mem_of_getElem? (i := 2) rfl)) rfl, gd (hcw8_3 _ (List.mem_of_getElem? (i := 3) rfl)) rfl⟩
noncomputable def fX12_failed (Z : Shp) (M : Mem) (a0 : Nat) (x1 : Int32) (x2 : Int32) : Option (Int32) := (if (fX12_isCarrier x1) = 0 then some (-101 : Int32) else (if (fX12_in (x2.toInt64) (0 : Int64) (99999 : Int64)) = 0 then some (-102 : Int32) else (pu ((x2.toInt64)) (fun z3 => (loop (fun s4 : Int64 × Int64 × Int32 => (if (3 : Int32) ≤ s4.2.2 then some (Sum.inr (s4.2.1.toInt32)) else (Option.bind (loop (fun s11 : Int64 × Int32 => (if (4 : Int32) ≤ s11.2 then some (Sum.inr s11.1) else (if tg Z a0 = (13, 86) then (if aok Z (rR M a0 73) 100 (((3 : Int32) * s11.2) + s4.2.2) then (pu ((s11.1 + ((rI M (rR M a0 73) (ix (((3 : Int32) * s11.2) + s4.2.2))).toInt64))) (fun z17 => some (Sum.inl (z17, (s11.2 + (1 : Int32)))))) else none) else none))) ((0 : Int64), (0 : Int32))) (fun v10 : Int64 => (Option.bind (if 0 ≤ (lg_cmp s4.1 v10) then some v10 else some s4.1) (fun v21 : Int64 => (Option.bind (loop (fun s25 : Int64 × Int32 × Int32 => (if (4 : Int32) ≤ s25.2.2 then some (Sum.inr (s25.1, s25.2.1)) else (if (lg_cmp v10 (0 : Int64)) ≤ 0 then some (Sum.inr (s25.1, s25.2.1)) else (if tg Z a0 = (13, 86) then (if aok Z (rR M a0 73) 100 (((3 : Int32) * s25.2.2) + s4.2.2) then (if ¬ v10 = 0 then (pu ((s25.1 - ((((rI M (rR M a0 73) (ix (((3 : Int32) * s25.2.2) + s4.2.2))).toInt64) * v21) / v10))) (fun z33 => (if x1 ≤ s25.2.2 then (pu ((s25.2.1 + (0 : Int32))) (fun z35 => some (Sum.inl (z33, z35, (s25.2.2 + (1 : Int32)))))) else (if (rI M (rR M a0 73) (ix (((3 : Int32) * s25.2.2) + s4.2.2))) ≤ 0 then (pu ((s25.2.1 + (0 : Int32))) (fun z37 => some (Sum.inl (z33, z37, (s25.2.2 + (1 : Int32)))))) else (pu ((s25.2.1 + (1 : Int32))) (fun z38 => some (Sum.inl (z33, z38, (s25.2.2 + (1 : Int32)))))))))) else none) else none) else none)))) (v21, (0 : Int32), (0 : Int32))) (fun v24 : Int64 × Int32 => (if (lg_cmp v10 (0 : Int64)) ≤ 0 then (pu ((s4.1 - v21)) (fun z40 => some (Sum.inl (z40, s4.2.1, (s4.2.2 + (1 : Int32)))))) else (if tg Z a0 = (13, 86) then (if aok Z (rR M a0 73) 100 (((3 : Int32) * x1) + s4.2.2) then (if ¬ v10 = 0 then (if (rI M (rR M a0 73) (ix (((3 : Int32) * x1) + s4.2.2))) ≤ 0 then (pu ((s4.2.1 + (((((rI M (rR M a0 73) (ix (((3 : Int32) * x1) + s4.2.2))).toInt64) * v21) / v10) + (0 : Int64)))) (fun z45 => (pu ((s4.1 - v21)) (fun z46 => some (Sum.inl (z46, z45, (s4.2.2 + (1 : Int32)))))))) else (if 0 ≤ (lg_cmp (v24.2.toInt64) v24.1) then (pu ((s4.2.1 + (((((rI M (rR M a0 73) (ix (((3 : Int32) * x1) + s4.2.2))).toInt64) * v21) / v10) + (0 : Int64)))) (fun z48 => (pu ((s4.1 - v21)) (fun z49 => some (Sum.inl (z49, z48, (s4.2.2 + (1 : Int32)))))))) else (pu ((s4.2.1 + (((((rI M (rR M a0 73) (ix (((3 : Int32) * x1) + s4.2.2))).toInt64) * v21) / v10) + (1 : Int64)))) (fun z50 => (pu ((s4.1 - v21)) (fun z51 => some (Sum.inl (z51, z50, (s4.2.2 + (1 : Int32)))))))))) else none) else none) else none)))))))))) (z3, (0 : Int64), (0 : Int32)))))))
set_option maxRecDepth 20000 in
theorem kX12_failed (l : Launch) (Z : Shp) (M : Mem) (a0 : Nat) (x1 : Int32) (x2 : Int32) (r : Int32) (h : fX12_failed Z M a0 x1 x2 = some r) : Ct l mX12_failed [vr a0, vi x1, vi x2] Z M ((some (vi r)), Z, M) := by
  refine Ct.of rfl (Nat.le_of_ble_eq_true rfl) (fun X hM => ?_)
  have hX := hM.1
  refine r_top (mk := fun r => ((some (vi r)), Z, M)) h (fun K hK => ?_)
  unfold fX12_failed
  refine r_iload_n (i := 1) (x := x1) (q := 1) 1 hX dX12_failed_0 rfl rfl rfl ?_
  refine r_cs (As := [vi x1]) (st := []) (r := (some (vi (fX12_isCarrier x1)))) (Z1 := Z) (M1 := M) (k1 := 0) (n1 := 0) (st1 := [vi (fX12_isCarrier x1)]) (q := 4) hX (fun l => kX12_isCarrier l Z M x1) stX12_isCarrier ccX12_isCarrier (Or.inl lkX12_451) rfl rfl rfl ⟨Nat.le_of_ble_eq_true rfl, Nat.le_of_ble_eq_true rfl, rfl, rfl, Nat.le_of_ble_eq_true rfl, Nat.le_of_ble_eq_true rfl⟩ (Nat.le_of_ble_eq_true rfl) dX12_failed_1 rfl ?_
  refine r_if_ne (tgt := 10) (q := 7) hX dX12_failed_4 (by decide) rfl (fun hb1 => ?_) (fun hb1 => ?_)
  · refine r_bipush (v := (-101 : Int32)) (q := 9) hX dX12_failed_7 rfl rfl ?_
    refine r_lf (hK _) ?_
    exact r_iret hM rfl (Nat.le_of_ble_eq_true rfl) (Nat.le_of_ble_eq_true rfl) dX12_failed_9
  · refine r_iload_n (i := 2) (x := x2) (q := 11) 2 hX dX12_failed_10 rfl rfl rfl ?_
    refine r_i2l (q := 12) hX dX12_failed_11 rfl ?_
    refine r_lconst (v := (0 : Int64)) (q := 13) hX dX12_failed_12 rfl rfl ?_
    refine r_ldc2 (v := (99999 : Int64)) (q := 16) hX dX12_failed_13 (gd (hcw8_3 _ (List.mem_of_getElem? (i := 5) rfl)) rfl) rfl ?_
    refine r_cs (As := [vj (x2.toInt64), vj (0 : Int64), vj (99999 : Int64)]) (st := []) (r := (some (vi (fX12_in (x2.toInt64) (0 : Int64) (99999 : Int64))))) (Z1 := Z) (M1 := M) (k1 := 0) (n1 := 0) (st1 := [vi (fX12_in (x2.toInt64) (0 : Int64) (99999 : Int64))]) (q := 19) hX (fun l => kX12_in l Z M (x2.toInt64) (0 : Int64) (99999 : Int64)) stX12_in ccX12_in (Or.inl lkX12_194) rfl rfl rfl ⟨Nat.le_of_ble_eq_true rfl, Nat.le_of_ble_eq_true rfl, rfl, rfl, Nat.le_of_ble_eq_true rfl, Nat.le_of_ble_eq_true rfl⟩ (Nat.le_of_ble_eq_true rfl) dX12_failed_16 rfl ?_
    refine r_if_ne (tgt := 25) (q := 22) hX dX12_failed_19 (by decide) rfl (fun hb2 => ?_) (fun hb2 => ?_)
    · refine r_bipush (v := (-102 : Int32)) (q := 24) hX dX12_failed_22 rfl rfl ?_
      refine r_lf (hK _) ?_
      exact r_iret hM rfl (Nat.le_of_ble_eq_true rfl) (Nat.le_of_ble_eq_true rfl) dX12_failed_24
    · refine r_iload_n (i := 2) (x := x2) (q := 26) 2 hX dX12_failed_25 rfl rfl rfl ?_
      refine r_i2l (q := 27) hX dX12_failed_26 rfl ?_
      refine r_lstore_nP (x := (x2.toInt64)) (q := 28) 3 [1, 2, 3, 0] (fun z3 => [(0, vr a0), (1, vi x1), (2, vi x2), (3, vj z3)]) hX dX12_failed_27 rfl (Nat.le_of_ble_eq_true rfl) (fun _ => rfl) rfl (fun z3 => ?_)
      refine r_lconst (v := (0 : Int64)) (q := 29) hX dX12_failed_28 rfl rfl ?_
      refine r_lstore (x := (0 : Int64)) (q := 31) 5 [1, 2, 3, 4, 0] (L1 := [(0, vr a0), (1, vi x1), (2, vi x2), (3, vj z3), (5, vj (0 : Int64))]) hX dX12_failed_29 (Nat.le_of_ble_eq_true rfl) rfl rfl ?_
      refine r_iconst (v := (0 : Int32)) (q := 32) hX dX12_failed_31 rfl rfl ?_
      refine r_istore (x := (0 : Int32)) (q := 34) 7 [1, 2, 3, 4, 5, 0] (L1 := [(0, vr a0), (1, vi x1), (2, vi x2), (3, vj z3), (5, vj (0 : Int64)), (7, vi (0 : Int32))]) hX dX12_failed_32 (Nat.le_of_ble_eq_true rfl) rfl rfl ?_
      refine r_sub [0, 1, 3, 4, 5] rfl ?_
      refine r_loop (Hd := fun (s4 : Int64 × Int64 × Int32) (P : Option Res) => Ref mX12_failed X 0 0 Z M 34 [(0, vr a0), (1, vi x1), (3, vj s4.1), (5, vj s4.2.1), (7, vi s4.2.2)] [] P) (fun _ => r_none) (fun s4 K1 hn5 hx6 => ?_) (z3, (0 : Int64), (0 : Int32))
      refine r_iload (i := 7) (x := s4.2.2) (q := 36) 4 hX dX12_failed_34 rfl rfl ?_
      refine r_iconst (v := (3 : Int32)) (q := 37) hX dX12_failed_36 rfl rfl ?_
      refine r_icmp_ge (tgt := 245) (q := 40) hX dX12_failed_37 (by decide) rfl (fun hb7 => ?_) (fun hb7 => ?_)
      · refine r_lload (i := 5) (x := s4.2.1) (q := 247) 3 hX dX12_failed_245 rfl rfl ?_
        refine r_l2i (q := 248) hX dX12_failed_247 rfl ?_
        refine r_lf ((hx6 _).trans (hK _)) ?_
        exact r_iret hM rfl (Nat.le_of_ble_eq_true rfl) (Nat.le_of_ble_eq_true rfl) dX12_failed_248
      · refine r_lconst (v := (0 : Int64)) (q := 41) hX dX12_failed_40 rfl rfl ?_
        refine r_lstore (x := (0 : Int64)) (q := 43) 8 [1, 2, 3, 4, 5, 0] (L1 := [(0, vr a0), (1, vi x1), (3, vj s4.1), (5, vj s4.2.1), (7, vi s4.2.2), (8, vj (0 : Int64))]) hX dX12_failed_41 (Nat.le_of_ble_eq_true rfl) rfl rfl ?_
        refine r_iconst (v := (0 : Int32)) (q := 44) hX dX12_failed_43 rfl rfl ?_
        refine r_istore (x := (0 : Int32)) (q := 46) 10 [1, 2, 3, 4, 5, 6, 0] (L1 := [(0, vr a0), (1, vi x1), (3, vj s4.1), (5, vj s4.2.1), (7, vi s4.2.2), (8, vj (0 : Int64)), (10, vi (0 : Int32))]) hX dX12_failed_44 (Nat.le_of_ble_eq_true rfl) rfl rfl ?_
        refine r_jn (J := fun (v10 : Int64) (P : Option Res) => Ref mX12_failed X 0 0 Z M 76 [(0, vr a0), (1, vi x1), (3, vj s4.1), (5, vj s4.2.1), (7, vi s4.2.2), (8, vj v10)] [] P) (fun v10 => ?_) (fun K1 hj8 => ?_)
        · refine r_lload_n (i := 3) (x := s4.1) (q := 77) 2 hX dX12_failed_76 rfl rfl rfl ?_
          refine r_lload (i := 8) (x := v10) (q := 79) 5 hX dX12_failed_77 rfl rfl ?_
          refine r_lcmp (q := 80) hX dX12_failed_79 rfl ?_
          refine r_jn (J := fun (v21 : Int64) (P : Option Res) => Ref mX12_failed X 0 0 Z M 89 [(0, vr a0), (1, vi x1), (3, vj s4.1), (5, vj s4.2.1), (7, vi s4.2.2), (8, vj v10)] [vj v21] P) (fun v21 => ?_) (fun K1 hj19 => ?_)
          · refine r_lstore (x := v21) (q := 91) 10 [1, 2, 3, 4, 5, 6, 0] (L1 := [(0, vr a0), (1, vi x1), (3, vj s4.1), (5, vj s4.2.1), (7, vi s4.2.2), (8, vj v10), (10, vj v21)]) hX dX12_failed_89 (Nat.le_of_ble_eq_true rfl) rfl rfl ?_
            refine r_lload (i := 10) (x := v21) (q := 93) 6 hX dX12_failed_91 rfl rfl ?_
            refine r_lstore (x := v21) (q := 95) 12 [1, 2, 3, 4, 5, 6, 7, 0] (L1 := [(0, vr a0), (1, vi x1), (3, vj s4.1), (5, vj s4.2.1), (7, vi s4.2.2), (8, vj v10), (10, vj v21), (12, vj v21)]) hX dX12_failed_93 (Nat.le_of_ble_eq_true rfl) rfl rfl ?_
            refine r_iconst (v := (0 : Int32)) (q := 96) hX dX12_failed_95 rfl rfl ?_
            refine r_istore (x := (0 : Int32)) (q := 98) 14 [1, 2, 3, 4, 5, 6, 7, 8, 0] (L1 := [(0, vr a0), (1, vi x1), (3, vj s4.1), (5, vj s4.2.1), (7, vi s4.2.2), (8, vj v10), (10, vj v21), (12, vj v21), (14, vi (0 : Int32))]) hX dX12_failed_96 (Nat.le_of_ble_eq_true rfl) rfl rfl ?_
            refine r_iconst (v := (0 : Int32)) (q := 99) hX dX12_failed_98 rfl rfl ?_
            refine r_istore (x := (0 : Int32)) (q := 101) 15 [1, 2, 3, 4, 5, 6, 7, 8, 9, 0] (L1 := [(0, vr a0), (1, vi x1), (3, vj s4.1), (5, vj s4.2.1), (7, vi s4.2.2), (8, vj v10), (10, vj v21), (12, vj v21), (14, vi (0 : Int32)), (15, vi (0 : Int32))]) hX dX12_failed_99 (Nat.le_of_ble_eq_true rfl) rfl rfl ?_
            refine r_jn (J := fun (v24 : Int64 × Int32) (P : Option Res) => Ref mX12_failed X 0 0 Z M 175 [(0, vr a0), (1, vi x1), (3, vj s4.1), (5, vj s4.2.1), (7, vi s4.2.2), (8, vj v10), (10, vj v21), (12, vj v24.1), (14, vi v24.2)] [] P) (fun v24 => ?_) (fun K1 hj22 => ?_)
            · refine r_lload (i := 8) (x := v10) (q := 177) 5 hX dX12_failed_175 rfl rfl ?_
              refine r_lconst (v := (0 : Int64)) (q := 178) hX dX12_failed_177 rfl rfl ?_
              refine r_lcmp (q := 179) hX dX12_failed_178 rfl ?_
              refine r_if_le (tgt := 234) (q := 182) hX dX12_failed_179 (by decide) rfl (fun hb39 => ?_) (fun hb39 => ?_)
              · refine r_lload_n (i := 3) (x := s4.1) (q := 235) 2 hX dX12_failed_234 rfl rfl rfl ?_
                refine r_lload (i := 10) (x := v21) (q := 237) 6 hX dX12_failed_235 rfl rfl ?_
                refine r_lsub (q := 238) hX dX12_failed_237 rfl ?_
                refine r_lstore_nP (x := (s4.1 - v21)) (q := 239) 3 [1, 2, 0, 4, 5, 6, 7, 8, 9] (fun z40 => [(0, vr a0), (1, vi x1), (3, vj z40), (5, vj s4.2.1), (7, vi s4.2.2), (8, vj v10), (10, vj v21), (12, vj v24.1), (14, vi v24.2)]) hX dX12_failed_238 rfl (Nat.le_of_ble_eq_true rfl) (fun _ => rfl) rfl (fun z40 => ?_)
                refine r_iinc (x := s4.2.2) (v := (s4.2.2 + (1 : Int32))) (q := 242) 7 4 [1, 2, 3, 4, 0, 6, 7, 8, 9] (L1 := [(0, vr a0), (1, vi x1), (3, vj z40), (5, vj s4.2.1), (7, vi (s4.2.2 + (1 : Int32))), (8, vj v10), (10, vj v21), (12, vj v24.1), (14, vi v24.2)]) hX dX12_failed_239 rfl rfl (Nat.le_of_ble_eq_true rfl) rfl rfl ?_
                refine r_goto (q := 34) hX dX12_failed_242 (by decide) ?_
                refine r_l0 ?_
                refine r_sub [0, 1, 2, 3, 4] rfl ?_
                exact hn5 (z40, s4.2.1, (s4.2.2 + (1 : Int32)))
              · refine r_lload (i := 5) (x := s4.2.1) (q := 184) 3 hX dX12_failed_182 rfl rfl ?_
                refine r_aload_n (i := 0) (x := a0) (q := 185) 0 hX dX12_failed_184 rfl rfl rfl ?_
                refine r_ck (fun hc41 => ?_)
                refine r_getR (a := a0) (ci := 12) (kf := 73) (q := 188) hX hc41 flX12_158 rfl dX12_failed_185 rfl ?_
                refine r_iconst (v := (3 : Int32)) (q := 189) hX dX12_failed_188 rfl rfl ?_
                refine r_iload_n (i := 1) (x := x1) (q := 190) 1 hX dX12_failed_189 rfl rfl rfl ?_
                refine r_imul (q := 191) hX dX12_failed_190 rfl ?_
                refine r_iload (i := 7) (x := s4.2.2) (q := 193) 4 hX dX12_failed_191 rfl rfl ?_
                refine r_iadd (q := 194) hX dX12_failed_193 rfl ?_
                refine r_ck (fun hc42 => ?_)
                refine r_iald (a := (rR M a0 73)) (i := (((3 : Int32) * x1) + s4.2.2)) (q := 195) hX hc42 dX12_failed_194 rfl ?_
                refine r_i2l (q := 196) hX dX12_failed_195 rfl ?_
                refine r_lload (i := 10) (x := v21) (q := 198) 6 hX dX12_failed_196 rfl rfl ?_
                refine r_lmul (q := 199) hX dX12_failed_198 rfl ?_
                refine r_lload (i := 8) (x := v10) (q := 201) 5 hX dX12_failed_199 rfl rfl ?_
                refine r_ck (fun hd43 => ?_)
                refine r_ldiv (q := 202) hX dX12_failed_201 hd43 rfl ?_
                refine r_aload_n (i := 0) (x := a0) (q := 203) 0 hX dX12_failed_202 rfl rfl rfl ?_
                refine r_getR (a := a0) (ci := 12) (kf := 73) (q := 206) hX hc41 flX12_158 rfl dX12_failed_203 rfl ?_
                refine r_iconst (v := (3 : Int32)) (q := 207) hX dX12_failed_206 rfl rfl ?_
                refine r_iload_n (i := 1) (x := x1) (q := 208) 1 hX dX12_failed_207 rfl rfl rfl ?_
                refine r_imul (q := 209) hX dX12_failed_208 rfl ?_
                refine r_iload (i := 7) (x := s4.2.2) (q := 211) 4 hX dX12_failed_209 rfl rfl ?_
                refine r_iadd (q := 212) hX dX12_failed_211 rfl ?_
                refine r_iald (a := (rR M a0 73)) (i := (((3 : Int32) * x1) + s4.2.2)) (q := 213) hX hc42 dX12_failed_212 rfl ?_
                refine r_if_le (tgt := 229) (q := 216) hX dX12_failed_213 (by decide) rfl (fun hb44 => ?_) (fun hb44 => ?_)
                · refine r_lconst (v := (0 : Int64)) (q := 230) hX dX12_failed_229 rfl rfl ?_
                  refine r_ladd (q := 231) hX dX12_failed_230 rfl ?_
                  refine r_ladd (q := 232) hX dX12_failed_231 rfl ?_
                  refine r_lstoreP (x := (s4.2.1 + (((((rI M (rR M a0 73) (ix (((3 : Int32) * x1) + s4.2.2))).toInt64) * v21) / v10) + (0 : Int64)))) (q := 234) 5 [1, 2, 3, 0, 5, 6, 7, 8, 9] (fun z45 => [(0, vr a0), (1, vi x1), (3, vj s4.1), (5, vj z45), (7, vi s4.2.2), (8, vj v10), (10, vj v21), (12, vj v24.1), (14, vi v24.2)]) hX dX12_failed_232 (Nat.le_of_ble_eq_true rfl) (fun _ => rfl) rfl (fun z45 => ?_)
                  refine r_lload_n (i := 3) (x := s4.1) (q := 235) 2 hX dX12_failed_234 rfl rfl rfl ?_
                  refine r_lload (i := 10) (x := v21) (q := 237) 6 hX dX12_failed_235 rfl rfl ?_
                  refine r_lsub (q := 238) hX dX12_failed_237 rfl ?_
                  refine r_lstore_nP (x := (s4.1 - v21)) (q := 239) 3 [1, 2, 0, 4, 5, 6, 7, 8, 9] (fun z46 => [(0, vr a0), (1, vi x1), (3, vj z46), (5, vj z45), (7, vi s4.2.2), (8, vj v10), (10, vj v21), (12, vj v24.1), (14, vi v24.2)]) hX dX12_failed_238 rfl (Nat.le_of_ble_eq_true rfl) (fun _ => rfl) rfl (fun z46 => ?_)
                  refine r_iinc (x := s4.2.2) (v := (s4.2.2 + (1 : Int32))) (q := 242) 7 4 [1, 2, 3, 4, 0, 6, 7, 8, 9] (L1 := [(0, vr a0), (1, vi x1), (3, vj z46), (5, vj z45), (7, vi (s4.2.2 + (1 : Int32))), (8, vj v10), (10, vj v21), (12, vj v24.1), (14, vi v24.2)]) hX dX12_failed_239 rfl rfl (Nat.le_of_ble_eq_true rfl) rfl rfl ?_
                  refine r_goto (q := 34) hX dX12_failed_242 (by decide) ?_
                  refine r_l0 ?_
                  refine r_sub [0, 1, 2, 3, 4] rfl ?_
                  exact hn5 (z46, z45, (s4.2.2 + (1 : Int32)))
                · refine r_iload (i := 14) (x := v24.2) (q := 218) 8 hX dX12_failed_216 rfl rfl ?_
                  refine r_i2l (q := 219) hX dX12_failed_218 rfl ?_
                  refine r_lload (i := 12) (x := v24.1) (q := 221) 7 hX dX12_failed_219 rfl rfl ?_
                  refine r_lcmp (q := 222) hX dX12_failed_221 rfl ?_
                  refine r_if_ge (tgt := 229) (q := 225) hX dX12_failed_222 (by decide) rfl (fun hb47 => ?_) (fun hb47 => ?_)
                  · refine r_lconst (v := (0 : Int64)) (q := 230) hX dX12_failed_229 rfl rfl ?_
                    refine r_ladd (q := 231) hX dX12_failed_230 rfl ?_
                    refine r_ladd (q := 232) hX dX12_failed_231 rfl ?_
                    refine r_lstoreP (x := (s4.2.1 + (((((rI M (rR M a0 73) (ix (((3 : Int32) * x1) + s4.2.2))).toInt64) * v21) / v10) + (0 : Int64)))) (q := 234) 5 [1, 2, 3, 0, 5, 6, 7, 8, 9] (fun z48 => [(0, vr a0), (1, vi x1), (3, vj s4.1), (5, vj z48), (7, vi s4.2.2), (8, vj v10), (10, vj v21), (12, vj v24.1), (14, vi v24.2)]) hX dX12_failed_232 (Nat.le_of_ble_eq_true rfl) (fun _ => rfl) rfl (fun z48 => ?_)
                    refine r_lload_n (i := 3) (x := s4.1) (q := 235) 2 hX dX12_failed_234 rfl rfl rfl ?_
                    refine r_lload (i := 10) (x := v21) (q := 237) 6 hX dX12_failed_235 rfl rfl ?_
                    refine r_lsub (q := 238) hX dX12_failed_237 rfl ?_
                    refine r_lstore_nP (x := (s4.1 - v21)) (q := 239) 3 [1, 2, 0, 4, 5, 6, 7, 8, 9] (fun z49 => [(0, vr a0), (1, vi x1), (3, vj z49), (5, vj z48), (7, vi s4.2.2), (8, vj v10), (10, vj v21), (12, vj v24.1), (14, vi v24.2)]) hX dX12_failed_238 rfl (Nat.le_of_ble_eq_true rfl) (fun _ => rfl) rfl (fun z49 => ?_)
                    refine r_iinc (x := s4.2.2) (v := (s4.2.2 + (1 : Int32))) (q := 242) 7 4 [1, 2, 3, 4, 0, 6, 7, 8, 9] (L1 := [(0, vr a0), (1, vi x1), (3, vj z49), (5, vj z48), (7, vi (s4.2.2 + (1 : Int32))), (8, vj v10), (10, vj v21), (12, vj v24.1), (14, vi v24.2)]) hX dX12_failed_239 rfl rfl (Nat.le_of_ble_eq_true rfl) rfl rfl ?_
                    refine r_goto (q := 34) hX dX12_failed_242 (by decide) ?_
                    refine r_l0 ?_
                    refine r_sub [0, 1, 2, 3, 4] rfl ?_
                    exact hn5 (z49, z48, (s4.2.2 + (1 : Int32)))
                  · refine r_lconst (v := (1 : Int64)) (q := 226) hX dX12_failed_225 rfl rfl ?_
                    refine r_goto (q := 230) hX dX12_failed_226 (by decide) ?_
                    refine r_ladd (q := 231) hX dX12_failed_230 rfl ?_
                    refine r_ladd (q := 232) hX dX12_failed_231 rfl ?_
                    refine r_lstoreP (x := (s4.2.1 + (((((rI M (rR M a0 73) (ix (((3 : Int32) * x1) + s4.2.2))).toInt64) * v21) / v10) + (1 : Int64)))) (q := 234) 5 [1, 2, 3, 0, 5, 6, 7, 8, 9] (fun z50 => [(0, vr a0), (1, vi x1), (3, vj s4.1), (5, vj z50), (7, vi s4.2.2), (8, vj v10), (10, vj v21), (12, vj v24.1), (14, vi v24.2)]) hX dX12_failed_232 (Nat.le_of_ble_eq_true rfl) (fun _ => rfl) rfl (fun z50 => ?_)
                    refine r_lload_n (i := 3) (x := s4.1) (q := 235) 2 hX dX12_failed_234 rfl rfl rfl ?_
                    refine r_lload (i := 10) (x := v21) (q := 237) 6 hX dX12_failed_235 rfl rfl ?_
                    refine r_lsub (q := 238) hX dX12_failed_237 rfl ?_
                    refine r_lstore_nP (x := (s4.1 - v21)) (q := 239) 3 [1, 2, 0, 4, 5, 6, 7, 8, 9] (fun z51 => [(0, vr a0), (1, vi x1), (3, vj z51), (5, vj z50), (7, vi s4.2.2), (8, vj v10), (10, vj v21), (12, vj v24.1), (14, vi v24.2)]) hX dX12_failed_238 rfl (Nat.le_of_ble_eq_true rfl) (fun _ => rfl) rfl (fun z51 => ?_)
                    refine r_iinc (x := s4.2.2) (v := (s4.2.2 + (1 : Int32))) (q := 242) 7 4 [1, 2, 3, 4, 0, 6, 7, 8, 9] (L1 := [(0, vr a0), (1, vi x1), (3, vj z51), (5, vj z50), (7, vi (s4.2.2 + (1 : Int32))), (8, vj v10), (10, vj v21), (12, vj v24.1), (14, vi v24.2)]) hX dX12_failed_239 rfl rfl (Nat.le_of_ble_eq_true rfl) rfl rfl ?_
                    refine r_goto (q := 34) hX dX12_failed_242 (by decide) ?_
                    refine r_l0 ?_
                    refine r_sub [0, 1, 2, 3, 4] rfl ?_
                    exact hn5 (z51, z50, (s4.2.2 + (1 : Int32)))
            · refine r_loop (Hd := fun (s25 : Int64 × Int32 × Int32) (P : Option Res) => Ref mX12_failed X 0 0 Z M 101 [(0, vr a0), (1, vi x1), (3, vj s4.1), (5, vj s4.2.1), (7, vi s4.2.2), (8, vj v10), (10, vj v21), (12, vj s25.1), (14, vi s25.2.1), (15, vi s25.2.2)] [] P) (fun _ => r_none) (fun s25 K1 hn26 hx27 => ?_) (v21, (0 : Int32), (0 : Int32))
              refine r_iload (i := 15) (x := s25.2.2) (q := 103) 9 hX dX12_failed_101 rfl rfl ?_
              refine r_iconst (v := (4 : Int32)) (q := 104) hX dX12_failed_103 rfl rfl ?_
              refine r_icmp_ge (tgt := 175) (q := 107) hX dX12_failed_104 (by decide) rfl (fun hb28 => ?_) (fun hb28 => ?_)
              · refine r_lf (hx27 _) ?_
                refine r_sub [0, 1, 2, 3, 4, 5, 6, 7, 8] rfl ?_
                exact hj22 (s25.1, s25.2.1)
              · refine r_lload (i := 8) (x := v10) (q := 109) 5 hX dX12_failed_107 rfl rfl ?_
                refine r_lconst (v := (0 : Int64)) (q := 110) hX dX12_failed_109 rfl rfl ?_
                refine r_lcmp (q := 111) hX dX12_failed_110 rfl ?_
                refine r_if_le (tgt := 175) (q := 114) hX dX12_failed_111 (by decide) rfl (fun hb29 => ?_) (fun hb29 => ?_)
                · refine r_lf (hx27 _) ?_
                  refine r_sub [0, 1, 2, 3, 4, 5, 6, 7, 8] rfl ?_
                  exact hj22 (s25.1, s25.2.1)
                · refine r_lload (i := 12) (x := s25.1) (q := 116) 7 hX dX12_failed_114 rfl rfl ?_
                  refine r_aload_n (i := 0) (x := a0) (q := 117) 0 hX dX12_failed_116 rfl rfl rfl ?_
                  refine r_ck (fun hc30 => ?_)
                  refine r_getR (a := a0) (ci := 12) (kf := 73) (q := 120) hX hc30 flX12_158 rfl dX12_failed_117 rfl ?_
                  refine r_iconst (v := (3 : Int32)) (q := 121) hX dX12_failed_120 rfl rfl ?_
                  refine r_iload (i := 15) (x := s25.2.2) (q := 123) 9 hX dX12_failed_121 rfl rfl ?_
                  refine r_imul (q := 124) hX dX12_failed_123 rfl ?_
                  refine r_iload (i := 7) (x := s4.2.2) (q := 126) 4 hX dX12_failed_124 rfl rfl ?_
                  refine r_iadd (q := 127) hX dX12_failed_126 rfl ?_
                  refine r_ck (fun hc31 => ?_)
                  refine r_iald (a := (rR M a0 73)) (i := (((3 : Int32) * s25.2.2) + s4.2.2)) (q := 128) hX hc31 dX12_failed_127 rfl ?_
                  refine r_i2l (q := 129) hX dX12_failed_128 rfl ?_
                  refine r_lload (i := 10) (x := v21) (q := 131) 6 hX dX12_failed_129 rfl rfl ?_
                  refine r_lmul (q := 132) hX dX12_failed_131 rfl ?_
                  refine r_lload (i := 8) (x := v10) (q := 134) 5 hX dX12_failed_132 rfl rfl ?_
                  refine r_ck (fun hd32 => ?_)
                  refine r_ldiv (q := 135) hX dX12_failed_134 hd32 rfl ?_
                  refine r_lsub (q := 136) hX dX12_failed_135 rfl ?_
                  refine r_lstoreP (x := (s25.1 - ((((rI M (rR M a0 73) (ix (((3 : Int32) * s25.2.2) + s4.2.2))).toInt64) * v21) / v10))) (q := 138) 12 [1, 2, 3, 4, 5, 6, 7, 0, 9, 10] (fun z33 => [(0, vr a0), (1, vi x1), (3, vj s4.1), (5, vj s4.2.1), (7, vi s4.2.2), (8, vj v10), (10, vj v21), (12, vj z33), (14, vi s25.2.1), (15, vi s25.2.2)]) hX dX12_failed_136 (Nat.le_of_ble_eq_true rfl) (fun _ => rfl) rfl (fun z33 => ?_)
                  refine r_iload (i := 14) (x := s25.2.1) (q := 140) 8 hX dX12_failed_138 rfl rfl ?_
                  refine r_iload (i := 15) (x := s25.2.2) (q := 142) 9 hX dX12_failed_140 rfl rfl ?_
                  refine r_iload_n (i := 1) (x := x1) (q := 143) 1 hX dX12_failed_142 rfl rfl rfl ?_
                  refine r_icmp_ge (tgt := 165) (q := 146) hX dX12_failed_143 (by decide) rfl (fun hb34 => ?_) (fun hb34 => ?_)
                  · refine r_iconst (v := (0 : Int32)) (q := 166) hX dX12_failed_165 rfl rfl ?_
                    refine r_iadd (q := 167) hX dX12_failed_166 rfl ?_
                    refine r_istoreP (x := (s25.2.1 + (0 : Int32))) (q := 169) 14 [1, 2, 3, 4, 5, 6, 7, 8, 0, 10] (fun z35 => [(0, vr a0), (1, vi x1), (3, vj s4.1), (5, vj s4.2.1), (7, vi s4.2.2), (8, vj v10), (10, vj v21), (12, vj z33), (14, vi z35), (15, vi s25.2.2)]) hX dX12_failed_167 (Nat.le_of_ble_eq_true rfl) (fun _ => rfl) rfl (fun z35 => ?_)
                    refine r_iinc (x := s25.2.2) (v := (s25.2.2 + (1 : Int32))) (q := 172) 15 9 [1, 2, 3, 4, 5, 6, 7, 8, 9, 0] (L1 := [(0, vr a0), (1, vi x1), (3, vj s4.1), (5, vj s4.2.1), (7, vi s4.2.2), (8, vj v10), (10, vj v21), (12, vj z33), (14, vi z35), (15, vi (s25.2.2 + (1 : Int32)))]) hX dX12_failed_169 rfl rfl (Nat.le_of_ble_eq_true rfl) rfl rfl ?_
                    refine r_goto (q := 101) hX dX12_failed_172 (by decide) ?_
                    refine r_l0 ?_
                    exact hn26 (z33, z35, (s25.2.2 + (1 : Int32)))
                  · refine r_aload_n (i := 0) (x := a0) (q := 147) 0 hX dX12_failed_146 rfl rfl rfl ?_
                    refine r_getR (a := a0) (ci := 12) (kf := 73) (q := 150) hX hc30 flX12_158 rfl dX12_failed_147 rfl ?_
                    refine r_iconst (v := (3 : Int32)) (q := 151) hX dX12_failed_150 rfl rfl ?_
                    refine r_iload (i := 15) (x := s25.2.2) (q := 153) 9 hX dX12_failed_151 rfl rfl ?_
                    refine r_imul (q := 154) hX dX12_failed_153 rfl ?_
                    refine r_iload (i := 7) (x := s4.2.2) (q := 156) 4 hX dX12_failed_154 rfl rfl ?_
                    refine r_iadd (q := 157) hX dX12_failed_156 rfl ?_
                    refine r_iald (a := (rR M a0 73)) (i := (((3 : Int32) * s25.2.2) + s4.2.2)) (q := 158) hX hc31 dX12_failed_157 rfl ?_
                    refine r_if_le (tgt := 165) (q := 161) hX dX12_failed_158 (by decide) rfl (fun hb36 => ?_) (fun hb36 => ?_)
                    · refine r_iconst (v := (0 : Int32)) (q := 166) hX dX12_failed_165 rfl rfl ?_
                      refine r_iadd (q := 167) hX dX12_failed_166 rfl ?_
                      refine r_istoreP (x := (s25.2.1 + (0 : Int32))) (q := 169) 14 [1, 2, 3, 4, 5, 6, 7, 8, 0, 10] (fun z37 => [(0, vr a0), (1, vi x1), (3, vj s4.1), (5, vj s4.2.1), (7, vi s4.2.2), (8, vj v10), (10, vj v21), (12, vj z33), (14, vi z37), (15, vi s25.2.2)]) hX dX12_failed_167 (Nat.le_of_ble_eq_true rfl) (fun _ => rfl) rfl (fun z37 => ?_)
                      refine r_iinc (x := s25.2.2) (v := (s25.2.2 + (1 : Int32))) (q := 172) 15 9 [1, 2, 3, 4, 5, 6, 7, 8, 9, 0] (L1 := [(0, vr a0), (1, vi x1), (3, vj s4.1), (5, vj s4.2.1), (7, vi s4.2.2), (8, vj v10), (10, vj v21), (12, vj z33), (14, vi z37), (15, vi (s25.2.2 + (1 : Int32)))]) hX dX12_failed_169 rfl rfl (Nat.le_of_ble_eq_true rfl) rfl rfl ?_
                      refine r_goto (q := 101) hX dX12_failed_172 (by decide) ?_
                      refine r_l0 ?_
                      exact hn26 (z33, z37, (s25.2.2 + (1 : Int32)))
                    · refine r_iconst (v := (1 : Int32)) (q := 162) hX dX12_failed_161 rfl rfl ?_
                      refine r_goto (q := 166) hX dX12_failed_162 (by decide) ?_
                      refine r_iadd (q := 167) hX dX12_failed_166 rfl ?_
                      refine r_istoreP (x := (s25.2.1 + (1 : Int32))) (q := 169) 14 [1, 2, 3, 4, 5, 6, 7, 8, 0, 10] (fun z38 => [(0, vr a0), (1, vi x1), (3, vj s4.1), (5, vj s4.2.1), (7, vi s4.2.2), (8, vj v10), (10, vj v21), (12, vj z33), (14, vi z38), (15, vi s25.2.2)]) hX dX12_failed_167 (Nat.le_of_ble_eq_true rfl) (fun _ => rfl) rfl (fun z38 => ?_)
                      refine r_iinc (x := s25.2.2) (v := (s25.2.2 + (1 : Int32))) (q := 172) 15 9 [1, 2, 3, 4, 5, 6, 7, 8, 9, 0] (L1 := [(0, vr a0), (1, vi x1), (3, vj s4.1), (5, vj s4.2.1), (7, vi s4.2.2), (8, vj v10), (10, vj v21), (12, vj z33), (14, vi z38), (15, vi (s25.2.2 + (1 : Int32)))]) hX dX12_failed_169 rfl rfl (Nat.le_of_ble_eq_true rfl) rfl rfl ?_
                      refine r_goto (q := 101) hX dX12_failed_172 (by decide) ?_
                      refine r_l0 ?_
                      exact hn26 (z33, z38, (s25.2.2 + (1 : Int32)))
          · refine r_if_ge (tgt := 87) (q := 83) hX dX12_failed_80 (by decide) rfl (fun hb18 => ?_) (fun hb18 => ?_)
            · refine r_lload (i := 8) (x := v10) (q := 89) 5 hX dX12_failed_87 rfl rfl ?_
              refine r_l0 ?_
              exact hj19 v10
            · refine r_lload_n (i := 3) (x := s4.1) (q := 84) 2 hX dX12_failed_83 rfl rfl rfl ?_
              refine r_goto (q := 89) hX dX12_failed_84 (by decide) ?_
              refine r_l0 ?_
              exact hj19 s4.1
        · refine r_loop (Hd := fun (s11 : Int64 × Int32) (P : Option Res) => Ref mX12_failed X 0 0 Z M 46 [(0, vr a0), (1, vi x1), (3, vj s4.1), (5, vj s4.2.1), (7, vi s4.2.2), (8, vj s11.1), (10, vi s11.2)] [] P) (fun _ => r_none) (fun s11 K1 hn12 hx13 => ?_) ((0 : Int64), (0 : Int32))
          refine r_iload (i := 10) (x := s11.2) (q := 48) 6 hX dX12_failed_46 rfl rfl ?_
          refine r_iconst (v := (4 : Int32)) (q := 49) hX dX12_failed_48 rfl rfl ?_
          refine r_icmp_ge (tgt := 76) (q := 52) hX dX12_failed_49 (by decide) rfl (fun hb14 => ?_) (fun hb14 => ?_)
          · refine r_lf (hx13 _) ?_
            refine r_sub [0, 1, 2, 3, 4, 5] rfl ?_
            exact hj8 s11.1
          · refine r_lload (i := 8) (x := s11.1) (q := 54) 5 hX dX12_failed_52 rfl rfl ?_
            refine r_aload_n (i := 0) (x := a0) (q := 55) 0 hX dX12_failed_54 rfl rfl rfl ?_
            refine r_ck (fun hc15 => ?_)
            refine r_getR (a := a0) (ci := 12) (kf := 73) (q := 58) hX hc15 flX12_158 rfl dX12_failed_55 rfl ?_
            refine r_iconst (v := (3 : Int32)) (q := 59) hX dX12_failed_58 rfl rfl ?_
            refine r_iload (i := 10) (x := s11.2) (q := 61) 6 hX dX12_failed_59 rfl rfl ?_
            refine r_imul (q := 62) hX dX12_failed_61 rfl ?_
            refine r_iload (i := 7) (x := s4.2.2) (q := 64) 4 hX dX12_failed_62 rfl rfl ?_
            refine r_iadd (q := 65) hX dX12_failed_64 rfl ?_
            refine r_ck (fun hc16 => ?_)
            refine r_iald (a := (rR M a0 73)) (i := (((3 : Int32) * s11.2) + s4.2.2)) (q := 66) hX hc16 dX12_failed_65 rfl ?_
            refine r_i2l (q := 67) hX dX12_failed_66 rfl ?_
            refine r_ladd (q := 68) hX dX12_failed_67 rfl ?_
            refine r_lstoreP (x := (s11.1 + ((rI M (rR M a0 73) (ix (((3 : Int32) * s11.2) + s4.2.2))).toInt64))) (q := 70) 8 [1, 2, 3, 4, 5, 0, 7] (fun z17 => [(0, vr a0), (1, vi x1), (3, vj s4.1), (5, vj s4.2.1), (7, vi s4.2.2), (8, vj z17), (10, vi s11.2)]) hX dX12_failed_68 (Nat.le_of_ble_eq_true rfl) (fun _ => rfl) rfl (fun z17 => ?_)
            refine r_iinc (x := s11.2) (v := (s11.2 + (1 : Int32))) (q := 73) 10 6 [1, 2, 3, 4, 5, 6, 0] (L1 := [(0, vr a0), (1, vi x1), (3, vj s4.1), (5, vj s4.2.1), (7, vi s4.2.2), (8, vj z17), (10, vi (s11.2 + (1 : Int32)))]) hX dX12_failed_70 rfl rfl (Nat.le_of_ble_eq_true rfl) rfl rfl ?_
            refine r_goto (q := 46) hX dX12_failed_73 (by decide) ?_
            refine r_l0 ?_
            exact hn12 (z17, (s11.2 + (1 : Int32)))
def mX12_isDigit : MD := (yX12_isDigit, cX12_isDigit, 1, (some .boolean), 1, 25, 0, 0)
theorem ccX12_isDigit : Cc mX12_isDigit 1 := ⟨gd (hcw1_0 _ (List.mem_of_getElem? (i := 10) rfl)) rfl, gd (hcw7_7 _ (List.mem_of_getElem? (i := 14) rfl)) rfl, by decide +kernel, by decide +kernel, by decide +kernel⟩
theorem stX12_isDigit : Cond.static (yN mX12_isDigit) ∈ lw_gd := gd (hcw7_7 _ (List.mem_of_getElem? (i := 13) rfl)) rfl
def fX12_isDigit (x0 : Int32) : Int32 := (fX12_in (x0.toInt64) (48 : Int64) (57 : Int64))
def gX12_isDigit (x0 : Int32) : Option (Int32) := some (fX12_in (x0.toInt64) (48 : Int64) (57 : Int64))
theorem eX12_isDigit (x0 : Int32) : gX12_isDigit x0 = some (fX12_isDigit x0) := rfl
theorem bX12_isDigit (x0 : Int32) : zb (fX12_isDigit x0) := (bX12_in (x0.toInt64) (48 : Int64) (57 : Int64))
set_option maxRecDepth 20000 in
theorem kX12_isDigit (l : Launch) (Z : Shp) (M : Mem) (x0 : Int32) : Ct l mX12_isDigit [vi x0] Z M ((some (vi (fX12_isDigit x0))), Z, M) := by
  refine Ct.of rfl (Nat.le_of_ble_eq_true rfl) (fun X hM => ?_)
  have hX := hM.1
  refine r_top (mk := fun r => ((some (vi r)), Z, M)) (eX12_isDigit x0) (fun K hK => ?_)
  unfold gX12_isDigit
  refine r_iload_n (i := 0) (x := x0) (q := 1) 0 hX dX12_isDigit_0 rfl rfl rfl ?_
  refine r_i2l (q := 2) hX dX12_isDigit_1 rfl ?_
  refine r_ldc2 (v := (48 : Int64)) (q := 5) hX dX12_isDigit_2 (gd (hcw7_7 _ (List.mem_of_getElem? (i := 15) rfl)) rfl) rfl ?_
  refine r_ldc2 (v := (57 : Int64)) (q := 8) hX dX12_isDigit_5 (gd (hcw7_7 _ (List.mem_of_getElem? (i := 16) rfl)) rfl) rfl ?_
  refine r_cs (As := [vj (x0.toInt64), vj (48 : Int64), vj (57 : Int64)]) (st := []) (r := (some (vi (fX12_in (x0.toInt64) (48 : Int64) (57 : Int64))))) (Z1 := Z) (M1 := M) (k1 := 0) (n1 := 0) (st1 := [vi (fX12_in (x0.toInt64) (48 : Int64) (57 : Int64))]) (q := 11) hX (fun l => kX12_in l Z M (x0.toInt64) (48 : Int64) (57 : Int64)) stX12_in ccX12_in (Or.inl lkX12_194) rfl rfl rfl ⟨Nat.le_of_ble_eq_true rfl, Nat.le_of_ble_eq_true rfl, rfl, rfl, Nat.le_of_ble_eq_true rfl, Nat.le_of_ble_eq_true rfl⟩ (Nat.le_of_ble_eq_true rfl) dX12_isDigit_8 rfl ?_
  refine r_lf (hK _) ?_
  exact r_zret hM rfl (bX12_in (x0.toInt64) (48 : Int64) (57 : Int64)) (Nat.le_of_ble_eq_true rfl) (Nat.le_of_ble_eq_true rfl) dX12_isDigit_11
def mX12_letterOf : MD := (yX12_letterOf, cX12_letterOf, 1, (some .int), 0, 0, 0, 0)
theorem ccX12_letterOf : Cc mX12_letterOf 1 := ⟨gd (hcw1_0 _ (List.mem_of_getElem? (i := 10) rfl)) rfl, gd (hcw7_8 _ (List.mem_of_getElem? (i := 3) rfl)) rfl, by decide +kernel, by decide +kernel, by decide +kernel⟩
theorem stX12_letterOf : Cond.static (yN mX12_letterOf) ∈ lw_gd := gd (hcw7_8 _ (List.mem_of_getElem? (i := 2) rfl)) rfl
def fX12_letterOf (x0 : Int32) : Int32 := (if x0 = (108 : Int32) then (0 : Int32) else (if x0 = (109 : Int32) then (1 : Int32) else (if x0 = (103 : Int32) then (2 : Int32) else (if x0 = (99 : Int32) then (3 : Int32) else (if x0 = (100 : Int32) then (4 : Int32) else (-1 : Int32))))))
def gX12_letterOf (x0 : Int32) : Option (Int32) := (if x0 = (108 : Int32) then some (0 : Int32) else (if x0 = (109 : Int32) then some (1 : Int32) else (if x0 = (103 : Int32) then some (2 : Int32) else (if x0 = (99 : Int32) then some (3 : Int32) else (if x0 = (100 : Int32) then some (4 : Int32) else some (-1 : Int32))))))
theorem eX12_letterOf (x0 : Int32) : gX12_letterOf x0 = some (fX12_letterOf x0) := by
  unfold gX12_letterOf fX12_letterOf
  try simp only [pu]
  (repeat' split) <;> rfl
set_option maxRecDepth 20000 in
theorem kX12_letterOf (l : Launch) (Z : Shp) (M : Mem) (x0 : Int32) : Ct l mX12_letterOf [vi x0] Z M ((some (vi (fX12_letterOf x0))), Z, M) := by
  refine Ct.of rfl (Nat.le_of_ble_eq_true rfl) (fun X hM => ?_)
  have hX := hM.1
  refine r_top (mk := fun r => ((some (vi r)), Z, M)) (eX12_letterOf x0) (fun K hK => ?_)
  unfold gX12_letterOf
  refine r_iload_n (i := 0) (x := x0) (q := 1) 0 hX dX12_letterOf_0 rfl rfl rfl ?_
  refine r_bipush (v := (108 : Int32)) (q := 3) hX dX12_letterOf_1 rfl rfl ?_
  refine r_icmp_ne (tgt := 10) (q := 6) hX dX12_letterOf_3 (by decide) rfl (fun hb1 => ?_) (fun hb1 => ?_)
  · refine r_iconst (v := (0 : Int32)) (q := 7) hX dX12_letterOf_6 rfl rfl ?_
    refine r_goto (q := 51) hX dX12_letterOf_7 (by decide) ?_
    refine r_lf (hK _) ?_
    exact r_iret hM rfl (Nat.le_of_ble_eq_true rfl) (Nat.le_of_ble_eq_true rfl) dX12_letterOf_51
  · refine r_iload_n (i := 0) (x := x0) (q := 11) 0 hX dX12_letterOf_10 rfl rfl rfl ?_
    refine r_bipush (v := (109 : Int32)) (q := 13) hX dX12_letterOf_11 rfl rfl ?_
    refine r_icmp_ne (tgt := 20) (q := 16) hX dX12_letterOf_13 (by decide) rfl (fun hb2 => ?_) (fun hb2 => ?_)
    · refine r_iconst (v := (1 : Int32)) (q := 17) hX dX12_letterOf_16 rfl rfl ?_
      refine r_goto (q := 51) hX dX12_letterOf_17 (by decide) ?_
      refine r_lf (hK _) ?_
      exact r_iret hM rfl (Nat.le_of_ble_eq_true rfl) (Nat.le_of_ble_eq_true rfl) dX12_letterOf_51
    · refine r_iload_n (i := 0) (x := x0) (q := 21) 0 hX dX12_letterOf_20 rfl rfl rfl ?_
      refine r_bipush (v := (103 : Int32)) (q := 23) hX dX12_letterOf_21 rfl rfl ?_
      refine r_icmp_ne (tgt := 30) (q := 26) hX dX12_letterOf_23 (by decide) rfl (fun hb3 => ?_) (fun hb3 => ?_)
      · refine r_iconst (v := (2 : Int32)) (q := 27) hX dX12_letterOf_26 rfl rfl ?_
        refine r_goto (q := 51) hX dX12_letterOf_27 (by decide) ?_
        refine r_lf (hK _) ?_
        exact r_iret hM rfl (Nat.le_of_ble_eq_true rfl) (Nat.le_of_ble_eq_true rfl) dX12_letterOf_51
      · refine r_iload_n (i := 0) (x := x0) (q := 31) 0 hX dX12_letterOf_30 rfl rfl rfl ?_
        refine r_bipush (v := (99 : Int32)) (q := 33) hX dX12_letterOf_31 rfl rfl ?_
        refine r_icmp_ne (tgt := 40) (q := 36) hX dX12_letterOf_33 (by decide) rfl (fun hb4 => ?_) (fun hb4 => ?_)
        · refine r_iconst (v := (3 : Int32)) (q := 37) hX dX12_letterOf_36 rfl rfl ?_
          refine r_goto (q := 51) hX dX12_letterOf_37 (by decide) ?_
          refine r_lf (hK _) ?_
          exact r_iret hM rfl (Nat.le_of_ble_eq_true rfl) (Nat.le_of_ble_eq_true rfl) dX12_letterOf_51
        · refine r_iload_n (i := 0) (x := x0) (q := 41) 0 hX dX12_letterOf_40 rfl rfl rfl ?_
          refine r_bipush (v := (100 : Int32)) (q := 43) hX dX12_letterOf_41 rfl rfl ?_
          refine r_icmp_ne (tgt := 50) (q := 46) hX dX12_letterOf_43 (by decide) rfl (fun hb5 => ?_) (fun hb5 => ?_)
          · refine r_iconst (v := (4 : Int32)) (q := 47) hX dX12_letterOf_46 rfl rfl ?_
            refine r_goto (q := 51) hX dX12_letterOf_47 (by decide) ?_
            refine r_lf (hK _) ?_
            exact r_iret hM rfl (Nat.le_of_ble_eq_true rfl) (Nat.le_of_ble_eq_true rfl) dX12_letterOf_51
          · refine r_iconst (v := (-1 : Int32)) (q := 51) hX dX12_letterOf_50 rfl rfl ?_
            refine r_lf (hK _) ?_
            exact r_iret hM rfl (Nat.le_of_ble_eq_true rfl) (Nat.le_of_ble_eq_true rfl) dX12_letterOf_51
theorem lkX12_360 : Lk RX12 360 yX12_letterOf := gd (hcw7_8 _ (List.mem_of_getElem? (i := 1) rfl)) rfl
theorem flX12_119 : FL RX12 119 12 54 := ⟨Nat.le_of_ble_eq_true rfl, Nat.le_of_ble_eq_true rfl, gd (hcw6_0 _ (List.mem_of_getElem? (i := 9) rfl)) rfl⟩
theorem flX12_333 : FL RX12 333 12 55 := ⟨Nat.le_of_ble_eq_true rfl, Nat.le_of_ble_eq_true rfl, gd (hcw6_0 _ (List.mem_of_getElem? (i := 10) rfl)) rfl⟩
theorem flX12_357 : FL RX12 357 12 44 := ⟨Nat.le_of_ble_eq_true rfl, Nat.le_of_ble_eq_true rfl, gd (hcw5_11 _ (List.mem_of_getElem? (i := 19) rfl)) rfl⟩
def mX12_goFactor : MD := (yX12_goFactor, cX12_goFactor, 2, (some .boolean), 1, 20, 0, 0)
theorem ccX12_goFactor : Cc mX12_goFactor 1 := ⟨gd (hcw1_0 _ (List.mem_of_getElem? (i := 10) rfl)) rfl, gd (hcw7_8 _ (List.mem_of_getElem? (i := 0) rfl)) rfl, by decide +kernel, by decide +kernel, by decide +kernel⟩
theorem ivX12_goFactor : Iv mX12_goFactor 12 := ⟨Nat.le_of_ble_eq_true rfl, rfl, gd (hcw7_7 _ (List.mem_of_getElem? (i := 19) rfl)) rfl, gd (hps4 _ (List.mem_of_getElem? (i := 8) rfl)) rfl⟩
def fX12_goFactor (Z : Shp) (M : Mem) (a0 : Nat) (x1 : Int32) : Option (Int32 × Mem) := (js (if x1 = (33 : Int32) then some (Sum.inl ()) else (if x1 = (40 : Int32) then some (Sum.inl ()) else (if tg Z a0 = (13, 86) then (pu (wI M a0 49 (fX12_letterOf x1)) (fun M7 => (pu (wI M7 a0 43 (5 : Int32)) (fun M8 => (if (rI M8 a0 49) = (-1 : Int32) then some (Sum.inr ((0 : Int32), M8)) else some (Sum.inr ((1 : Int32), M8))))))) else none))) (fun v4 : Unit => (if tg Z a0 = (13, 86) then (Option.bind (if x1 = (33 : Int32) then some (15 : Int32) else some (18 : Int32)) (fun v14 : Int32 => (if aok Z (rR M a0 54) 100 (rI M a0 55) then (pu (wI M (rR M a0 54) (ix (rI M a0 55)) v14) (fun M16 => (pu (wI M16 a0 55 ((rI M16 a0 55) + (1 : Int32))) (fun M17 => (if x1 = (40 : Int32) then (pu (wI M17 a0 44 ((rI M17 a0 44) + (1 : Int32))) (fun M19 => some ((1 : Int32), M19))) else (pu (wI M17 a0 44 ((rI M17 a0 44) + (0 : Int32))) (fun M20 => some ((1 : Int32), M20)))))))) else none))) else none)))
set_option maxRecDepth 20000 in
theorem kX12_goFactor (l : Launch) (Z : Shp) (M : Mem) (a0 : Nat) (x1 : Int32) (r : Int32 × Mem) (h : fX12_goFactor Z M a0 x1 = some r) : Ct l mX12_goFactor [vr a0, vi x1] Z M ((some (vi r.1)), Z, r.2) := by
  refine Ct.of rfl (Nat.le_of_ble_eq_true rfl) (fun X hM => ?_)
  have hX := hM.1
  refine r_top (mk := fun r => ((some (vi r.1)), Z, r.2)) h (fun K hK => ?_)
  unfold fX12_goFactor
  refine r_iload_n (i := 1) (x := x1) (q := 1) 1 hX dX12_goFactor_0 rfl rfl rfl ?_
  refine r_bipush (v := (33 : Int32)) (q := 3) hX dX12_goFactor_1 rfl rfl ?_
  refine r_js (J := fun (v4 : Unit) (P : Option Res) => Ref mX12_goFactor X 0 0 Z M 12 [(0, vr a0), (1, vi x1)] [] P) (fun v4 => ?_) (fun K1 hj2 ho3 => ?_)
  · refine r_aload_n (i := 0) (x := a0) (q := 13) 0 hX dX12_goFactor_12 rfl rfl rfl ?_
    refine r_ck (fun hc10 => ?_)
    refine r_getR (a := a0) (ci := 12) (kf := 54) (q := 16) hX hc10 flX12_119 rfl dX12_goFactor_13 rfl ?_
    refine r_aload_n (i := 0) (x := a0) (q := 17) 0 hX dX12_goFactor_16 rfl rfl rfl ?_
    refine r_getI (a := a0) (ci := 12) (kf := 55) (q := 20) hX hc10 flX12_333 rfl rfl dX12_goFactor_17 rfl ?_
    refine r_iload_n (i := 1) (x := x1) (q := 21) 1 hX dX12_goFactor_20 rfl rfl rfl ?_
    refine r_bipush (v := (33 : Int32)) (q := 23) hX dX12_goFactor_21 rfl rfl ?_
    refine r_jn (J := fun (v14 : Int32) (P : Option Res) => Ref mX12_goFactor X 0 0 Z M 33 [(0, vr a0), (1, vi x1)] [vi v14, vi (rI M a0 55), vr (rR M a0 54)] P) (fun v14 => ?_) (fun K1 hj12 => ?_)
    · refine r_ck (fun hc15 => ?_)
      refine r_iast (a := (rR M a0 54)) (i := (rI M a0 55)) (x := v14) (q := 34) hX hc15 dX12_goFactor_33 rfl (fun M16 => ?_)
      refine r_aload_n (i := 0) (x := a0) (q := 35) 0 hX dX12_goFactor_34 rfl rfl rfl ?_
      refine r_dup (q := 36) hX dX12_goFactor_35 rfl rfl ?_
      refine r_getI (a := a0) (ci := 12) (kf := 55) (q := 39) hX hc10 flX12_333 rfl rfl dX12_goFactor_36 rfl ?_
      refine r_iconst (v := (1 : Int32)) (q := 40) hX dX12_goFactor_39 rfl rfl ?_
      refine r_iadd (q := 41) hX dX12_goFactor_40 rfl ?_
      refine r_putI (a := a0) (ci := 12) (kf := 55) (q := 44) hX hc10 flX12_333 rfl rfl (Or.inl rfl) rfl rfl dX12_goFactor_41 rfl (fun M17 => ?_)
      refine r_aload_n (i := 0) (x := a0) (q := 45) 0 hX dX12_goFactor_44 rfl rfl rfl ?_
      refine r_dup (q := 46) hX dX12_goFactor_45 rfl rfl ?_
      refine r_getI (a := a0) (ci := 12) (kf := 44) (q := 49) hX hc10 flX12_357 rfl rfl dX12_goFactor_46 rfl ?_
      refine r_iload_n (i := 1) (x := x1) (q := 50) 1 hX dX12_goFactor_49 rfl rfl rfl ?_
      refine r_bipush (v := (40 : Int32)) (q := 52) hX dX12_goFactor_50 rfl rfl ?_
      refine r_icmp_ne (tgt := 59) (q := 55) hX dX12_goFactor_52 (by decide) rfl (fun hb18 => ?_) (fun hb18 => ?_)
      · refine r_iconst (v := (1 : Int32)) (q := 56) hX dX12_goFactor_55 rfl rfl ?_
        refine r_goto (q := 60) hX dX12_goFactor_56 (by decide) ?_
        refine r_iadd (q := 61) hX dX12_goFactor_60 rfl ?_
        refine r_putI (a := a0) (ci := 12) (kf := 44) (q := 64) hX hc10 flX12_357 rfl rfl (Or.inl rfl) rfl rfl dX12_goFactor_61 rfl (fun M19 => ?_)
        refine r_iconst (v := (1 : Int32)) (q := 65) hX dX12_goFactor_64 rfl rfl ?_
        refine r_lf (hK _) ?_
        exact r_zret hM rfl (Or.inr rfl) (Nat.le_of_ble_eq_true rfl) (Nat.le_of_ble_eq_true rfl) dX12_goFactor_65
      · refine r_iconst (v := (0 : Int32)) (q := 60) hX dX12_goFactor_59 rfl rfl ?_
        refine r_iadd (q := 61) hX dX12_goFactor_60 rfl ?_
        refine r_putI (a := a0) (ci := 12) (kf := 44) (q := 64) hX hc10 flX12_357 rfl rfl (Or.inl rfl) rfl rfl dX12_goFactor_61 rfl (fun M20 => ?_)
        refine r_iconst (v := (1 : Int32)) (q := 65) hX dX12_goFactor_64 rfl rfl ?_
        refine r_lf (hK _) ?_
        exact r_zret hM rfl (Or.inr rfl) (Nat.le_of_ble_eq_true rfl) (Nat.le_of_ble_eq_true rfl) dX12_goFactor_65
    · refine r_icmp_ne (tgt := 31) (q := 26) hX dX12_goFactor_23 (by decide) rfl (fun hb11 => ?_) (fun hb11 => ?_)
      · refine r_bipush (v := (15 : Int32)) (q := 28) hX dX12_goFactor_26 rfl rfl ?_
        refine r_goto (q := 33) hX dX12_goFactor_28 (by decide) ?_
        refine r_l0 ?_
        exact hj12 (15 : Int32)
      · refine r_bipush (v := (18 : Int32)) (q := 33) hX dX12_goFactor_31 rfl rfl ?_
        refine r_l0 ?_
        exact hj12 (18 : Int32)
  · refine r_icmp_eq (tgt := 12) (q := 6) hX dX12_goFactor_3 (by decide) rfl (fun hb1 => ?_) (fun hb1 => ?_)
    · refine r_l0 ?_
      exact hj2 ()
    · refine r_iload_n (i := 1) (x := x1) (q := 7) 1 hX dX12_goFactor_6 rfl rfl rfl ?_
      refine r_bipush (v := (40 : Int32)) (q := 9) hX dX12_goFactor_7 rfl rfl ?_
      refine r_icmp_ne (tgt := 66) (q := 12) hX dX12_goFactor_9 (by decide) rfl (fun hb5 => ?_) (fun hb5 => ?_)
      · refine r_l0 ?_
        exact hj2 ()
      · refine r_aload_n (i := 0) (x := a0) (q := 67) 0 hX dX12_goFactor_66 rfl rfl rfl ?_
        refine r_iload_n (i := 1) (x := x1) (q := 68) 1 hX dX12_goFactor_67 rfl rfl rfl ?_
        refine r_cs (As := [vi x1]) (st := [vr a0]) (r := (some (vi (fX12_letterOf x1)))) (Z1 := Z) (M1 := M) (k1 := 0) (n1 := 0) (st1 := [vi (fX12_letterOf x1), vr a0]) (q := 71) hX (fun l => kX12_letterOf l Z M x1) stX12_letterOf ccX12_letterOf (Or.inl lkX12_360) rfl rfl rfl ⟨Nat.le_of_ble_eq_true rfl, Nat.le_of_ble_eq_true rfl, rfl, rfl, Nat.le_of_ble_eq_true rfl, Nat.le_of_ble_eq_true rfl⟩ (Nat.le_of_ble_eq_true rfl) dX12_goFactor_68 rfl ?_
        refine r_ck (fun hc6 => ?_)
        refine r_putI (a := a0) (ci := 12) (kf := 49) (q := 74) hX hc6 flX12_342 rfl rfl (Or.inl rfl) rfl rfl dX12_goFactor_71 rfl (fun M7 => ?_)
        refine r_aload_n (i := 0) (x := a0) (q := 75) 0 hX dX12_goFactor_74 rfl rfl rfl ?_
        refine r_iconst (v := (5 : Int32)) (q := 76) hX dX12_goFactor_75 rfl rfl ?_
        refine r_putI (a := a0) (ci := 12) (kf := 43) (q := 79) hX hc6 flX12_339 rfl rfl (Or.inl rfl) rfl rfl dX12_goFactor_76 rfl (fun M8 => ?_)
        refine r_aload_n (i := 0) (x := a0) (q := 80) 0 hX dX12_goFactor_79 rfl rfl rfl ?_
        refine r_getI (a := a0) (ci := 12) (kf := 49) (q := 83) hX hc6 flX12_342 rfl rfl dX12_goFactor_80 rfl ?_
        refine r_iconst (v := (-1 : Int32)) (q := 84) hX dX12_goFactor_83 rfl rfl ?_
        refine r_icmp_eq (tgt := 91) (q := 87) hX dX12_goFactor_84 (by decide) rfl (fun hb9 => ?_) (fun hb9 => ?_)
        · refine r_iconst (v := (0 : Int32)) (q := 92) hX dX12_goFactor_91 rfl rfl ?_
          refine r_lf ((ho3 _).trans (hK _)) ?_
          exact r_zret hM rfl (Or.inl rfl) (Nat.le_of_ble_eq_true rfl) (Nat.le_of_ble_eq_true rfl) dX12_goFactor_92
        · refine r_iconst (v := (1 : Int32)) (q := 88) hX dX12_goFactor_87 rfl rfl ?_
          refine r_goto (q := 92) hX dX12_goFactor_88 (by decide) ?_
          refine r_lf ((ho3 _).trans (hK _)) ?_
          exact r_zret hM rfl (Or.inr rfl) (Nat.le_of_ble_eq_true rfl) (Nat.le_of_ble_eq_true rfl) dX12_goFactor_92
def mX12_layDown : MD := (yX12_layDown, cX12_layDown, 2, none, 1, 22, 0, 0)
theorem ccX12_layDown : Cc mX12_layDown 1 := ⟨gd (hcw1_0 _ (List.mem_of_getElem? (i := 10) rfl)) rfl, gd (hcw7_8 _ (List.mem_of_getElem? (i := 19) rfl)) rfl, by decide +kernel, by decide +kernel, by decide +kernel⟩
theorem ivX12_layDown : Iv mX12_layDown 12 := ⟨Nat.le_of_ble_eq_true rfl, rfl, gd (hcw7_8 _ (List.mem_of_getElem? (i := 18) rfl)) rfl, gd (hps4 _ (List.mem_of_getElem? (i := 12) rfl)) rfl⟩
noncomputable def fX12_layDown (Z : Shp) (M : Mem) (a0 : Nat) (x1 : Int32) : Option (Mem) := (loop (fun s1 : Mem => (if tg Z a0 = (13, 86) then (if (rI s1 a0 55) ≤ 0 then some (Sum.inr s1) else (if aok Z (rR s1 a0 54) 100 ((rI s1 a0 55) - (1 : Int32)) then (if x1 < (rI s1 (rR s1 a0 54) (ix ((rI s1 a0 55) - (1 : Int32)))) then some (Sum.inr s1) else (pu (wI s1 a0 55 ((rI s1 a0 55) - (1 : Int32))) (fun M8 => (if aok Z (rR M8 a0 54) 100 (rI M8 a0 55) then (Option.bind (fX12_lay Z M8 a0 (rI M8 (rR M8 a0 54) (ix (rI M8 a0 55))) (0 : Int32)) (fun v10 => some (Sum.inl v10))) else none)))) else none)) else none)) M)
set_option maxRecDepth 20000 in
theorem kX12_layDown (l : Launch) (Z : Shp) (M : Mem) (a0 : Nat) (x1 : Int32) (r : Mem) (h : fX12_layDown Z M a0 x1 = some r) : Ct l mX12_layDown [vr a0, vi x1] Z M (none, Z, r) := by
  refine Ct.of rfl (Nat.le_of_ble_eq_true rfl) (fun X hM => ?_)
  have hX := hM.1
  refine r_top (mk := fun r => (none, Z, r)) h (fun K hK => ?_)
  unfold fX12_layDown
  refine r_loop (Hd := fun (s1 : Mem) (P : Option Res) => Ref mX12_layDown X 0 0 Z s1 0 [(0, vr a0), (1, vi x1)] [] P) (fun _ => r_none) (fun s1 K1 hn2 hx3 => ?_) M
  refine r_aload_n (i := 0) (x := a0) (q := 1) 0 hX dX12_layDown_0 rfl rfl rfl ?_
  refine r_ck (fun hc4 => ?_)
  refine r_getI (a := a0) (ci := 12) (kf := 55) (q := 4) hX hc4 flX12_333 rfl rfl dX12_layDown_1 rfl ?_
  refine r_if_le (tgt := 49) (q := 7) hX dX12_layDown_4 (by decide) rfl (fun hb5 => ?_) (fun hb5 => ?_)
  · refine r_lf ((hx3 _).trans (hK _)) ?_
    exact r_vret hM rfl (Nat.le_of_ble_eq_true rfl) (Nat.le_of_ble_eq_true rfl) dX12_layDown_49
  · refine r_aload_n (i := 0) (x := a0) (q := 8) 0 hX dX12_layDown_7 rfl rfl rfl ?_
    refine r_getR (a := a0) (ci := 12) (kf := 54) (q := 11) hX hc4 flX12_119 rfl dX12_layDown_8 rfl ?_
    refine r_aload_n (i := 0) (x := a0) (q := 12) 0 hX dX12_layDown_11 rfl rfl rfl ?_
    refine r_getI (a := a0) (ci := 12) (kf := 55) (q := 15) hX hc4 flX12_333 rfl rfl dX12_layDown_12 rfl ?_
    refine r_iconst (v := (1 : Int32)) (q := 16) hX dX12_layDown_15 rfl rfl ?_
    refine r_isub (q := 17) hX dX12_layDown_16 rfl ?_
    refine r_ck (fun hc6 => ?_)
    refine r_iald (a := (rR s1 a0 54)) (i := ((rI s1 a0 55) - (1 : Int32))) (q := 18) hX hc6 dX12_layDown_17 rfl ?_
    refine r_iload_n (i := 1) (x := x1) (q := 19) 1 hX dX12_layDown_18 rfl rfl rfl ?_
    refine r_icmp_gt (tgt := 49) (q := 22) hX dX12_layDown_19 (by decide) rfl (fun hb7 => ?_) (fun hb7 => ?_)
    · refine r_lf ((hx3 _).trans (hK _)) ?_
      exact r_vret hM rfl (Nat.le_of_ble_eq_true rfl) (Nat.le_of_ble_eq_true rfl) dX12_layDown_49
    · refine r_aload_n (i := 0) (x := a0) (q := 23) 0 hX dX12_layDown_22 rfl rfl rfl ?_
      refine r_dup (q := 24) hX dX12_layDown_23 rfl rfl ?_
      refine r_getI (a := a0) (ci := 12) (kf := 55) (q := 27) hX hc4 flX12_333 rfl rfl dX12_layDown_24 rfl ?_
      refine r_iconst (v := (1 : Int32)) (q := 28) hX dX12_layDown_27 rfl rfl ?_
      refine r_isub (q := 29) hX dX12_layDown_28 rfl ?_
      refine r_putI (a := a0) (ci := 12) (kf := 55) (q := 32) hX hc4 flX12_333 rfl rfl (Or.inl rfl) rfl rfl dX12_layDown_29 rfl (fun M8 => ?_)
      refine r_aload_n (i := 0) (x := a0) (q := 33) 0 hX dX12_layDown_32 rfl rfl rfl ?_
      refine r_aload_n (i := 0) (x := a0) (q := 34) 0 hX dX12_layDown_33 rfl rfl rfl ?_
      refine r_getR (a := a0) (ci := 12) (kf := 54) (q := 37) hX hc4 flX12_119 rfl dX12_layDown_34 rfl ?_
      refine r_aload_n (i := 0) (x := a0) (q := 38) 0 hX dX12_layDown_37 rfl rfl rfl ?_
      refine r_getI (a := a0) (ci := 12) (kf := 55) (q := 41) hX hc4 flX12_333 rfl rfl dX12_layDown_38 rfl ?_
      refine r_ck (fun hc9 => ?_)
      refine r_iald (a := (rR M8 a0 54)) (i := (rI M8 a0 55)) (q := 42) hX hc9 dX12_layDown_41 rfl ?_
      refine r_iconst (v := (0 : Int32)) (q := 43) hX dX12_layDown_42 rfl rfl ?_
      refine r_bind (fun v10 h11 => ?_)
      refine r_cv (a := a0) (As := [vi (rI M8 (rR M8 a0 54) (ix (rI M8 a0 55))), vi (0 : Int32)]) (st := []) (r := none) (Z1 := Z) (M1 := v10) (k1 := 0) (n1 := 0) (st1 := []) (q := 46) hX (fun l => kX12_lay l Z M8 a0 (rI M8 (rR M8 a0 54) (ix (rI M8 a0 55))) (0 : Int32) v10 h11) hc4 ivX12_lay ccX12_lay (Or.inl lkX12_336) rfl rfl rfl ⟨Nat.le_of_ble_eq_true rfl, Nat.le_of_ble_eq_true rfl, rfl, rfl, Nat.le_of_ble_eq_true rfl, Nat.le_of_ble_eq_true rfl⟩ (Nat.le_of_ble_eq_true rfl) dX12_layDown_43 rfl ?_
      refine r_goto (q := 0) hX dX12_layDown_46 (by decide) ?_
      refine r_l0 ?_
      exact hn2 v10
theorem lkX12_351 : Lk RX12 351 yX12_endNumber := gd (hcw7_8 _ (List.mem_of_getElem? (i := 8) rfl)) rfl
theorem lkX12_354 : Lk RX12 354 yX12_layDown := gd (hcw7_8 _ (List.mem_of_getElem? (i := 16) rfl)) rfl
def mX12_goBehind : MD := (yX12_goBehind, cX12_goBehind, 2, (some .boolean), 2, 43, 0, 0)
theorem ccX12_goBehind : Cc mX12_goBehind 1 := ⟨gd (hcw1_0 _ (List.mem_of_getElem? (i := 10) rfl)) rfl, gd (hcw7_8 _ (List.mem_of_getElem? (i := 7) rfl)) rfl, by decide +kernel, by decide +kernel, by decide +kernel⟩
theorem ivX12_goBehind : Iv mX12_goBehind 12 := ⟨Nat.le_of_ble_eq_true rfl, rfl, gd (hcw7_8 _ (List.mem_of_getElem? (i := 6) rfl)) rfl, gd (hps4 _ (List.mem_of_getElem? (i := 9) rfl)) rfl⟩
noncomputable def fX12_goBehind (Z : Shp) (M : Mem) (a0 : Nat) (x1 : Int32) : Option (Int32 × Mem) := (js (if x1 = (38 : Int32) then some (Sum.inl ()) else (if x1 = (124 : Int32) then some (Sum.inl ()) else (if x1 = (41 : Int32) then (if tg Z a0 = (13, 86) then (if (rI M a0 44) ≤ 0 then some (Sum.inr ((0 : Int32), M)) else (Option.bind (fX12_endNumber Z M a0) (fun v9 => (Option.bind (fX12_layDown Z v9 a0 (17 : Int32)) (fun v11 => (pu (wI v11 a0 55 ((rI v11 a0 55) - (1 : Int32))) (fun M13 => (pu (wI M13 a0 44 ((rI M13 a0 44) - (1 : Int32))) (fun M14 => (pu (wI M14 a0 43 (8 : Int32)) (fun M15 => some (Sum.inr ((1 : Int32), M15))))))))))))) else none) else some (Sum.inr ((0 : Int32), M))))) (fun v4 : Unit => (if tg Z a0 = (13, 86) then (Option.bind (fX12_endNumber Z M a0) (fun v17 => (Option.bind (if x1 = (38 : Int32) then some (16 : Int32) else some (17 : Int32)) (fun v22 : Int32 => (Option.bind (fX12_layDown Z v17 a0 v22) (fun v23 => (Option.bind (if x1 = (38 : Int32) then some (16 : Int32) else some (17 : Int32)) (fun v28 : Int32 => (if aok Z (rR v23 a0 54) 100 (rI v23 a0 55) then (pu (wI v23 (rR v23 a0 54) (ix (rI v23 a0 55)) v28) (fun M30 => (pu (wI M30 a0 55 ((rI M30 a0 55) + (1 : Int32))) (fun M31 => (pu (wI M31 a0 43 (4 : Int32)) (fun M32 => some ((1 : Int32), M32))))))) else none))))))))) else none)))
set_option maxRecDepth 20000 in
theorem kX12_goBehind (l : Launch) (Z : Shp) (M : Mem) (a0 : Nat) (x1 : Int32) (r : Int32 × Mem) (h : fX12_goBehind Z M a0 x1 = some r) : Ct l mX12_goBehind [vr a0, vi x1] Z M ((some (vi r.1)), Z, r.2) := by
  refine Ct.of rfl (Nat.le_of_ble_eq_true rfl) (fun X hM => ?_)
  have hX := hM.1
  refine r_top (mk := fun r => ((some (vi r.1)), Z, r.2)) h (fun K hK => ?_)
  unfold fX12_goBehind
  refine r_iload_n (i := 1) (x := x1) (q := 1) 1 hX dX12_goBehind_0 rfl rfl rfl ?_
  refine r_bipush (v := (38 : Int32)) (q := 3) hX dX12_goBehind_1 rfl rfl ?_
  refine r_js (J := fun (v4 : Unit) (P : Option Res) => Ref mX12_goBehind X 0 0 Z M 12 [(0, vr a0), (1, vi x1)] [] P) (fun v4 => ?_) (fun K1 hj2 ho3 => ?_)
  · refine r_aload_n (i := 0) (x := a0) (q := 13) 0 hX dX12_goBehind_12 rfl rfl rfl ?_
    refine r_ck (fun hc16 => ?_)
    refine r_bind (fun v17 h18 => ?_)
    refine r_cv (a := a0) (As := []) (st := []) (r := none) (Z1 := Z) (M1 := v17) (k1 := 0) (n1 := 0) (st1 := []) (q := 16) hX (fun l => kX12_endNumber l Z M a0 v17 h18) hc16 ivX12_endNumber ccX12_endNumber (Or.inl lkX12_351) rfl rfl rfl ⟨Nat.le_of_ble_eq_true rfl, Nat.le_of_ble_eq_true rfl, rfl, rfl, Nat.le_of_ble_eq_true rfl, Nat.le_of_ble_eq_true rfl⟩ (Nat.le_of_ble_eq_true rfl) dX12_goBehind_13 rfl ?_
    refine r_aload_n (i := 0) (x := a0) (q := 17) 0 hX dX12_goBehind_16 rfl rfl rfl ?_
    refine r_iload_n (i := 1) (x := x1) (q := 18) 1 hX dX12_goBehind_17 rfl rfl rfl ?_
    refine r_bipush (v := (38 : Int32)) (q := 20) hX dX12_goBehind_18 rfl rfl ?_
    refine r_jn (J := fun (v22 : Int32) (P : Option Res) => Ref mX12_goBehind X 0 0 Z v17 30 [(0, vr a0), (1, vi x1)] [vi v22, vr a0] P) (fun v22 => ?_) (fun K1 hj20 => ?_)
    · refine r_bind (fun v23 h24 => ?_)
      refine r_cv (a := a0) (As := [vi v22]) (st := []) (r := none) (Z1 := Z) (M1 := v23) (k1 := 0) (n1 := 0) (st1 := []) (q := 33) hX (fun l => kX12_layDown l Z v17 a0 v22 v23 h24) hc16 ivX12_layDown ccX12_layDown (Or.inl lkX12_354) rfl rfl rfl ⟨Nat.le_of_ble_eq_true rfl, Nat.le_of_ble_eq_true rfl, rfl, rfl, Nat.le_of_ble_eq_true rfl, Nat.le_of_ble_eq_true rfl⟩ (Nat.le_of_ble_eq_true rfl) dX12_goBehind_30 rfl ?_
      refine r_aload_n (i := 0) (x := a0) (q := 34) 0 hX dX12_goBehind_33 rfl rfl rfl ?_
      refine r_getR (a := a0) (ci := 12) (kf := 54) (q := 37) hX hc16 flX12_119 rfl dX12_goBehind_34 rfl ?_
      refine r_aload_n (i := 0) (x := a0) (q := 38) 0 hX dX12_goBehind_37 rfl rfl rfl ?_
      refine r_getI (a := a0) (ci := 12) (kf := 55) (q := 41) hX hc16 flX12_333 rfl rfl dX12_goBehind_38 rfl ?_
      refine r_iload_n (i := 1) (x := x1) (q := 42) 1 hX dX12_goBehind_41 rfl rfl rfl ?_
      refine r_bipush (v := (38 : Int32)) (q := 44) hX dX12_goBehind_42 rfl rfl ?_
      refine r_jn (J := fun (v28 : Int32) (P : Option Res) => Ref mX12_goBehind X 0 0 Z v23 54 [(0, vr a0)] [vi v28, vi (rI v23 a0 55), vr (rR v23 a0 54)] P) (fun v28 => ?_) (fun K1 hj26 => ?_)
      · refine r_ck (fun hc29 => ?_)
        refine r_iast (a := (rR v23 a0 54)) (i := (rI v23 a0 55)) (x := v28) (q := 55) hX hc29 dX12_goBehind_54 rfl (fun M30 => ?_)
        refine r_aload_n (i := 0) (x := a0) (q := 56) 0 hX dX12_goBehind_55 rfl rfl rfl ?_
        refine r_dup (q := 57) hX dX12_goBehind_56 rfl rfl ?_
        refine r_getI (a := a0) (ci := 12) (kf := 55) (q := 60) hX hc16 flX12_333 rfl rfl dX12_goBehind_57 rfl ?_
        refine r_iconst (v := (1 : Int32)) (q := 61) hX dX12_goBehind_60 rfl rfl ?_
        refine r_iadd (q := 62) hX dX12_goBehind_61 rfl ?_
        refine r_putI (a := a0) (ci := 12) (kf := 55) (q := 65) hX hc16 flX12_333 rfl rfl (Or.inl rfl) rfl rfl dX12_goBehind_62 rfl (fun M31 => ?_)
        refine r_aload_n (i := 0) (x := a0) (q := 66) 0 hX dX12_goBehind_65 rfl rfl rfl ?_
        refine r_iconst (v := (4 : Int32)) (q := 67) hX dX12_goBehind_66 rfl rfl ?_
        refine r_putI (a := a0) (ci := 12) (kf := 43) (q := 70) hX hc16 flX12_339 rfl rfl (Or.inl rfl) rfl rfl dX12_goBehind_67 rfl (fun M32 => ?_)
        refine r_iconst (v := (1 : Int32)) (q := 71) hX dX12_goBehind_70 rfl rfl ?_
        refine r_lf (hK _) ?_
        exact r_zret hM rfl (Or.inr rfl) (Nat.le_of_ble_eq_true rfl) (Nat.le_of_ble_eq_true rfl) dX12_goBehind_71
      · refine r_icmp_ne (tgt := 52) (q := 47) hX dX12_goBehind_44 (by decide) rfl (fun hb25 => ?_) (fun hb25 => ?_)
        · refine r_bipush (v := (16 : Int32)) (q := 49) hX dX12_goBehind_47 rfl rfl ?_
          refine r_goto (q := 54) hX dX12_goBehind_49 (by decide) ?_
          refine r_l0 ?_
          refine r_sub [0] rfl ?_
          exact hj26 (16 : Int32)
        · refine r_bipush (v := (17 : Int32)) (q := 54) hX dX12_goBehind_52 rfl rfl ?_
          refine r_l0 ?_
          refine r_sub [0] rfl ?_
          exact hj26 (17 : Int32)
    · refine r_icmp_ne (tgt := 28) (q := 23) hX dX12_goBehind_20 (by decide) rfl (fun hb19 => ?_) (fun hb19 => ?_)
      · refine r_bipush (v := (16 : Int32)) (q := 25) hX dX12_goBehind_23 rfl rfl ?_
        refine r_goto (q := 30) hX dX12_goBehind_25 (by decide) ?_
        refine r_l0 ?_
        exact hj20 (16 : Int32)
      · refine r_bipush (v := (17 : Int32)) (q := 30) hX dX12_goBehind_28 rfl rfl ?_
        refine r_l0 ?_
        exact hj20 (17 : Int32)
  · refine r_icmp_eq (tgt := 12) (q := 6) hX dX12_goBehind_3 (by decide) rfl (fun hb1 => ?_) (fun hb1 => ?_)
    · refine r_l0 ?_
      exact hj2 ()
    · refine r_iload_n (i := 1) (x := x1) (q := 7) 1 hX dX12_goBehind_6 rfl rfl rfl ?_
      refine r_bipush (v := (124 : Int32)) (q := 9) hX dX12_goBehind_7 rfl rfl ?_
      refine r_icmp_ne (tgt := 72) (q := 12) hX dX12_goBehind_9 (by decide) rfl (fun hb5 => ?_) (fun hb5 => ?_)
      · refine r_l0 ?_
        exact hj2 ()
      · refine r_iload_n (i := 1) (x := x1) (q := 73) 1 hX dX12_goBehind_72 rfl rfl rfl ?_
        refine r_bipush (v := (41 : Int32)) (q := 75) hX dX12_goBehind_73 rfl rfl ?_
        refine r_icmp_ne (tgt := 123) (q := 78) hX dX12_goBehind_75 (by decide) rfl (fun hb6 => ?_) (fun hb6 => ?_)
        · refine r_aload_n (i := 0) (x := a0) (q := 79) 0 hX dX12_goBehind_78 rfl rfl rfl ?_
          refine r_ck (fun hc7 => ?_)
          refine r_getI (a := a0) (ci := 12) (kf := 44) (q := 82) hX hc7 flX12_357 rfl rfl dX12_goBehind_79 rfl ?_
          refine r_if_le (tgt := 123) (q := 85) hX dX12_goBehind_82 (by decide) rfl (fun hb8 => ?_) (fun hb8 => ?_)
          · refine r_iconst (v := (0 : Int32)) (q := 124) hX dX12_goBehind_123 rfl rfl ?_
            refine r_lf ((ho3 _).trans (hK _)) ?_
            exact r_zret hM rfl (Or.inl rfl) (Nat.le_of_ble_eq_true rfl) (Nat.le_of_ble_eq_true rfl) dX12_goBehind_124
          · refine r_aload_n (i := 0) (x := a0) (q := 86) 0 hX dX12_goBehind_85 rfl rfl rfl ?_
            refine r_bind (fun v9 h10 => ?_)
            refine r_cv (a := a0) (As := []) (st := []) (r := none) (Z1 := Z) (M1 := v9) (k1 := 0) (n1 := 0) (st1 := []) (q := 89) hX (fun l => kX12_endNumber l Z M a0 v9 h10) hc7 ivX12_endNumber ccX12_endNumber (Or.inl lkX12_351) rfl rfl rfl ⟨Nat.le_of_ble_eq_true rfl, Nat.le_of_ble_eq_true rfl, rfl, rfl, Nat.le_of_ble_eq_true rfl, Nat.le_of_ble_eq_true rfl⟩ (Nat.le_of_ble_eq_true rfl) dX12_goBehind_86 rfl ?_
            refine r_aload_n (i := 0) (x := a0) (q := 90) 0 hX dX12_goBehind_89 rfl rfl rfl ?_
            refine r_bipush (v := (17 : Int32)) (q := 92) hX dX12_goBehind_90 rfl rfl ?_
            refine r_bind (fun v11 h12 => ?_)
            refine r_cv (a := a0) (As := [vi (17 : Int32)]) (st := []) (r := none) (Z1 := Z) (M1 := v11) (k1 := 0) (n1 := 0) (st1 := []) (q := 95) hX (fun l => kX12_layDown l Z v9 a0 (17 : Int32) v11 h12) hc7 ivX12_layDown ccX12_layDown (Or.inl lkX12_354) rfl rfl rfl ⟨Nat.le_of_ble_eq_true rfl, Nat.le_of_ble_eq_true rfl, rfl, rfl, Nat.le_of_ble_eq_true rfl, Nat.le_of_ble_eq_true rfl⟩ (Nat.le_of_ble_eq_true rfl) dX12_goBehind_92 rfl ?_
            refine r_aload_n (i := 0) (x := a0) (q := 96) 0 hX dX12_goBehind_95 rfl rfl rfl ?_
            refine r_dup (q := 97) hX dX12_goBehind_96 rfl rfl ?_
            refine r_getI (a := a0) (ci := 12) (kf := 55) (q := 100) hX hc7 flX12_333 rfl rfl dX12_goBehind_97 rfl ?_
            refine r_iconst (v := (1 : Int32)) (q := 101) hX dX12_goBehind_100 rfl rfl ?_
            refine r_isub (q := 102) hX dX12_goBehind_101 rfl ?_
            refine r_putI (a := a0) (ci := 12) (kf := 55) (q := 105) hX hc7 flX12_333 rfl rfl (Or.inl rfl) rfl rfl dX12_goBehind_102 rfl (fun M13 => ?_)
            refine r_aload_n (i := 0) (x := a0) (q := 106) 0 hX dX12_goBehind_105 rfl rfl rfl ?_
            refine r_dup (q := 107) hX dX12_goBehind_106 rfl rfl ?_
            refine r_getI (a := a0) (ci := 12) (kf := 44) (q := 110) hX hc7 flX12_357 rfl rfl dX12_goBehind_107 rfl ?_
            refine r_iconst (v := (1 : Int32)) (q := 111) hX dX12_goBehind_110 rfl rfl ?_
            refine r_isub (q := 112) hX dX12_goBehind_111 rfl ?_
            refine r_putI (a := a0) (ci := 12) (kf := 44) (q := 115) hX hc7 flX12_357 rfl rfl (Or.inl rfl) rfl rfl dX12_goBehind_112 rfl (fun M14 => ?_)
            refine r_aload_n (i := 0) (x := a0) (q := 116) 0 hX dX12_goBehind_115 rfl rfl rfl ?_
            refine r_bipush (v := (8 : Int32)) (q := 118) hX dX12_goBehind_116 rfl rfl ?_
            refine r_putI (a := a0) (ci := 12) (kf := 43) (q := 121) hX hc7 flX12_339 rfl rfl (Or.inl rfl) rfl rfl dX12_goBehind_118 rfl (fun M15 => ?_)
            refine r_iconst (v := (1 : Int32)) (q := 122) hX dX12_goBehind_121 rfl rfl ?_
            refine r_lf ((ho3 _).trans (hK _)) ?_
            exact r_zret hM rfl (Or.inr rfl) (Nat.le_of_ble_eq_true rfl) (Nat.le_of_ble_eq_true rfl) dX12_goBehind_122
        · refine r_iconst (v := (0 : Int32)) (q := 124) hX dX12_goBehind_123 rfl rfl ?_
          refine r_lf ((ho3 _).trans (hK _)) ?_
          exact r_zret hM rfl (Or.inl rfl) (Nat.le_of_ble_eq_true rfl) (Nat.le_of_ble_eq_true rfl) dX12_goBehind_124
theorem flX12_363 : FL RX12 363 12 46 := ⟨Nat.le_of_ble_eq_true rfl, Nat.le_of_ble_eq_true rfl, gd (hcw6_0 _ (List.mem_of_getElem? (i := 1) rfl)) rfl⟩
theorem flX12_366 : FL RX12 366 12 47 := ⟨Nat.le_of_ble_eq_true rfl, Nat.le_of_ble_eq_true rfl, gd (hcw6_0 _ (List.mem_of_getElem? (i := 2) rfl)) rfl⟩
theorem flX12_369 : FL RX12 369 12 45 := ⟨Nat.le_of_ble_eq_true rfl, Nat.le_of_ble_eq_true rfl, gd (hcw6_0 _ (List.mem_of_getElem? (i := 0) rfl)) rfl⟩
theorem lkX12_372 : Lk RX12 372 yX12_isDigit := gd (hcw7_7 _ (List.mem_of_getElem? (i := 12) rfl)) rfl
theorem lkX12_375 : Lk RX12 375 yX12_goFactor := gd (hcw7_7 _ (List.mem_of_getElem? (i := 17) rfl)) rfl
theorem lkX12_378 : Lk RX12 378 yX12_goBehind := gd (hcw7_8 _ (List.mem_of_getElem? (i := 4) rfl)) rfl
def mX12_go : MD := (yX12_go, cX12_go, 2, (some .boolean), 3, 64, 0, 0)
theorem ccX12_go : Cc mX12_go 1 := ⟨gd (hcw1_0 _ (List.mem_of_getElem? (i := 10) rfl)) rfl, gd (hcw7_7 _ (List.mem_of_getElem? (i := 11) rfl)) rfl, by decide +kernel, by decide +kernel, by decide +kernel⟩
theorem ivX12_go : Iv mX12_go 12 := ⟨Nat.le_of_ble_eq_true rfl, rfl, gd (hcw7_7 _ (List.mem_of_getElem? (i := 10) rfl)) rfl, gd (hps4 _ (List.mem_of_getElem? (i := 7) rfl)) rfl⟩
noncomputable def fX12_go (Z : Shp) (M : Mem) (a0 : Nat) (x1 : Int32) : Option (Int32 × Mem) := (if tg Z a0 = (13, 86) then (if (rI M a0 43) = (0 : Int32) then (Option.bind (if x1 = (84 : Int32) then some (0 : Int32) else (if x1 = (67 : Int32) then some (1 : Int32) else some (-1 : Int32))) (fun v6 : Int32 => (pu (wI M a0 46 v6) (fun M8 => (pu (wI M8 a0 43 (1 : Int32)) (fun M9 => (if (rI M9 a0 46) = (-1 : Int32) then some ((0 : Int32), M9) else some ((1 : Int32), M9)))))))) else (if (rI M a0 43) = (1 : Int32) then (pu (wI M a0 43 (2 : Int32)) (fun M12 => (if x1 = (58 : Int32) then some ((1 : Int32), M12) else some ((0 : Int32), M12)))) else (if (rI M a0 43) = (2 : Int32) then (pu (wI M a0 47 (x1 - (48 : Int32))) (fun M15 => (pu (wI M15 a0 45 (1 : Int32)) (fun M16 => (pu (wI M16 a0 43 (3 : Int32)) (fun M17 => some ((fX12_isDigit x1), M17))))))) else (if (rI M a0 43) = (3 : Int32) then (js (if (fX12_isDigit x1) = 0 then some (Sum.inl ()) else (if (4 : Int32) ≤ (rI M a0 45) then some (Sum.inl ()) else (pu (wI M a0 47 ((((10 : Int32) * (rI M a0 47)) + x1) - (48 : Int32))) (fun M24 => (pu (wI M24 a0 45 ((rI M24 a0 45) + (1 : Int32))) (fun M25 => some (Sum.inr ((1 : Int32), M25)))))))) (fun v22 : Unit => (pu (wI M a0 43 (4 : Int32)) (fun M26 => (if x1 = (63 : Int32) then some ((1 : Int32), M26) else some ((0 : Int32), M26)))))) else (if (rI M a0 43) = (4 : Int32) then (Option.bind (fX12_goFactor Z M a0 x1) (fun v29 => (if zb v29.1 then some (v29.1, v29.2) else none))) else (if (rI M a0 43) = (5 : Int32) then (Option.bind (if x1 = (60 : Int32) then some (0 : Int32) else (if x1 = (61 : Int32) then some (1 : Int32) else some (2 : Int32))) (fun v36 : Int32 => (pu (wI M a0 50 v36) (fun M38 => (pu (wI M38 a0 43 (6 : Int32)) (fun M39 => (if x1 = (60 : Int32) then some ((1 : Int32), M39) else (if x1 = (61 : Int32) then some ((1 : Int32), M39) else (if x1 = (62 : Int32) then some ((1 : Int32), M39) else some ((0 : Int32), M39)))))))))) else (if (rI M a0 43) = (6 : Int32) then (pu (wI M a0 48 (x1 - (48 : Int32))) (fun M44 => (pu (wI M44 a0 45 (1 : Int32)) (fun M45 => (pu (wI M45 a0 43 (7 : Int32)) (fun M46 => some ((fX12_isDigit x1), M46))))))) else (if (rI M a0 43) = (7 : Int32) then (if (fX12_isDigit x1) = 0 then (Option.bind (fX12_goBehind Z M a0 x1) (fun v49 => (if zb v49.1 then some (v49.1, v49.2) else none))) else (if (3 : Int32) ≤ (rI M a0 45) then (Option.bind (fX12_goBehind Z M a0 x1) (fun v53 => (if zb v53.1 then some (v53.1, v53.2) else none))) else (pu (wI M a0 48 ((((10 : Int32) * (rI M a0 48)) + x1) - (48 : Int32))) (fun M56 => (pu (wI M56 a0 45 ((rI M56 a0 45) + (1 : Int32))) (fun M57 => some ((1 : Int32), M57))))))) else (Option.bind (fX12_goBehind Z M a0 x1) (fun v58 => (if zb v58.1 then some (v58.1, v58.2) else none))))))))))) else none)
set_option maxRecDepth 20000 in
theorem kX12_go (l : Launch) (Z : Shp) (M : Mem) (a0 : Nat) (x1 : Int32) (r : Int32 × Mem) (h : fX12_go Z M a0 x1 = some r) : Ct l mX12_go [vr a0, vi x1] Z M ((some (vi r.1)), Z, r.2) := by
  refine Ct.of rfl (Nat.le_of_ble_eq_true rfl) (fun X hM => ?_)
  have hX := hM.1
  refine r_top (mk := fun r => ((some (vi r.1)), Z, r.2)) h (fun K hK => ?_)
  unfold fX12_go
  refine r_aload_n (i := 0) (x := a0) (q := 1) 0 hX dX12_go_0 rfl rfl rfl ?_
  refine r_ck (fun hc1 => ?_)
  refine r_getI (a := a0) (ci := 12) (kf := 43) (q := 4) hX hc1 flX12_339 rfl rfl dX12_go_1 rfl ?_
  refine r_ite (fun hb2 => ?_) (fun hb2 => ?_)
  · refine r_tswI (off := 48) (q := 52) hX hb2 dX12_go_4 (by decide) (by decide) ?_
    refine r_aload_n (i := 0) (x := a0) (q := 53) 0 hX dX12_go_52 rfl rfl rfl ?_
    refine r_iload_n (i := 1) (x := x1) (q := 54) 1 hX dX12_go_53 rfl rfl rfl ?_
    refine r_bipush (v := (84 : Int32)) (q := 56) hX dX12_go_54 rfl rfl ?_
    refine r_jn (J := fun (v6 : Int32) (P : Option Res) => Ref mX12_go X 0 0 Z M 74 [(0, vr a0)] [vi v6, vr a0] P) (fun v6 => ?_) (fun K1 hj4 => ?_)
    · refine r_putI (a := a0) (ci := 12) (kf := 46) (q := 77) hX hc1 flX12_363 rfl rfl (Or.inl rfl) rfl rfl dX12_go_74 rfl (fun M8 => ?_)
      refine r_aload_n (i := 0) (x := a0) (q := 78) 0 hX dX12_go_77 rfl rfl rfl ?_
      refine r_iconst (v := (1 : Int32)) (q := 79) hX dX12_go_78 rfl rfl ?_
      refine r_putI (a := a0) (ci := 12) (kf := 43) (q := 82) hX hc1 flX12_339 rfl rfl (Or.inl rfl) rfl rfl dX12_go_79 rfl (fun M9 => ?_)
      refine r_aload_n (i := 0) (x := a0) (q := 83) 0 hX dX12_go_82 rfl rfl rfl ?_
      refine r_getI (a := a0) (ci := 12) (kf := 46) (q := 86) hX hc1 flX12_363 rfl rfl dX12_go_83 rfl ?_
      refine r_iconst (v := (-1 : Int32)) (q := 87) hX dX12_go_86 rfl rfl ?_
      refine r_icmp_eq (tgt := 94) (q := 90) hX dX12_go_87 (by decide) rfl (fun hb10 => ?_) (fun hb10 => ?_)
      · refine r_iconst (v := (0 : Int32)) (q := 95) hX dX12_go_94 rfl rfl ?_
        refine r_lf (hK _) ?_
        exact r_zret hM rfl (Or.inl rfl) (Nat.le_of_ble_eq_true rfl) (Nat.le_of_ble_eq_true rfl) dX12_go_95
      · refine r_iconst (v := (1 : Int32)) (q := 91) hX dX12_go_90 rfl rfl ?_
        refine r_goto (q := 95) hX dX12_go_91 (by decide) ?_
        refine r_lf (hK _) ?_
        exact r_zret hM rfl (Or.inr rfl) (Nat.le_of_ble_eq_true rfl) (Nat.le_of_ble_eq_true rfl) dX12_go_95
    · refine r_icmp_ne (tgt := 63) (q := 59) hX dX12_go_56 (by decide) rfl (fun hb3 => ?_) (fun hb3 => ?_)
      · refine r_iconst (v := (0 : Int32)) (q := 60) hX dX12_go_59 rfl rfl ?_
        refine r_goto (q := 74) hX dX12_go_60 (by decide) ?_
        refine r_l0 ?_
        refine r_sub [0] rfl ?_
        exact hj4 (0 : Int32)
      · refine r_iload_n (i := 1) (x := x1) (q := 64) 1 hX dX12_go_63 rfl rfl rfl ?_
        refine r_bipush (v := (67 : Int32)) (q := 66) hX dX12_go_64 rfl rfl ?_
        refine r_icmp_ne (tgt := 73) (q := 69) hX dX12_go_66 (by decide) rfl (fun hb7 => ?_) (fun hb7 => ?_)
        · refine r_iconst (v := (1 : Int32)) (q := 70) hX dX12_go_69 rfl rfl ?_
          refine r_goto (q := 74) hX dX12_go_70 (by decide) ?_
          refine r_l0 ?_
          refine r_sub [0] rfl ?_
          exact hj4 (1 : Int32)
        · refine r_iconst (v := (-1 : Int32)) (q := 74) hX dX12_go_73 rfl rfl ?_
          refine r_l0 ?_
          refine r_sub [0] rfl ?_
          exact hj4 (-1 : Int32)
  · refine r_ite (fun hb11 => ?_) (fun hb11 => ?_)
    · refine r_tswI (off := 92) (q := 96) hX hb11 dX12_go_4 (by decide) (by decide) ?_
      refine r_aload_n (i := 0) (x := a0) (q := 97) 0 hX dX12_go_96 rfl rfl rfl ?_
      refine r_iconst (v := (2 : Int32)) (q := 98) hX dX12_go_97 rfl rfl ?_
      refine r_putI (a := a0) (ci := 12) (kf := 43) (q := 101) hX hc1 flX12_339 rfl rfl (Or.inl rfl) rfl rfl dX12_go_98 rfl (fun M12 => ?_)
      refine r_iload_n (i := 1) (x := x1) (q := 102) 1 hX dX12_go_101 rfl rfl rfl ?_
      refine r_bipush (v := (58 : Int32)) (q := 104) hX dX12_go_102 rfl rfl ?_
      refine r_icmp_ne (tgt := 111) (q := 107) hX dX12_go_104 (by decide) rfl (fun hb13 => ?_) (fun hb13 => ?_)
      · refine r_iconst (v := (1 : Int32)) (q := 108) hX dX12_go_107 rfl rfl ?_
        refine r_goto (q := 112) hX dX12_go_108 (by decide) ?_
        refine r_lf (hK _) ?_
        exact r_zret hM rfl (Or.inr rfl) (Nat.le_of_ble_eq_true rfl) (Nat.le_of_ble_eq_true rfl) dX12_go_112
      · refine r_iconst (v := (0 : Int32)) (q := 112) hX dX12_go_111 rfl rfl ?_
        refine r_lf (hK _) ?_
        exact r_zret hM rfl (Or.inl rfl) (Nat.le_of_ble_eq_true rfl) (Nat.le_of_ble_eq_true rfl) dX12_go_112
    · refine r_ite (fun hb14 => ?_) (fun hb14 => ?_)
      · refine r_tswI (off := 109) (q := 113) hX hb14 dX12_go_4 (by decide) (by decide) ?_
        refine r_aload_n (i := 0) (x := a0) (q := 114) 0 hX dX12_go_113 rfl rfl rfl ?_
        refine r_iload_n (i := 1) (x := x1) (q := 115) 1 hX dX12_go_114 rfl rfl rfl ?_
        refine r_bipush (v := (48 : Int32)) (q := 117) hX dX12_go_115 rfl rfl ?_
        refine r_isub (q := 118) hX dX12_go_117 rfl ?_
        refine r_putI (a := a0) (ci := 12) (kf := 47) (q := 121) hX hc1 flX12_366 rfl rfl (Or.inl rfl) rfl rfl dX12_go_118 rfl (fun M15 => ?_)
        refine r_aload_n (i := 0) (x := a0) (q := 122) 0 hX dX12_go_121 rfl rfl rfl ?_
        refine r_iconst (v := (1 : Int32)) (q := 123) hX dX12_go_122 rfl rfl ?_
        refine r_putI (a := a0) (ci := 12) (kf := 45) (q := 126) hX hc1 flX12_369 rfl rfl (Or.inl rfl) rfl rfl dX12_go_123 rfl (fun M16 => ?_)
        refine r_aload_n (i := 0) (x := a0) (q := 127) 0 hX dX12_go_126 rfl rfl rfl ?_
        refine r_iconst (v := (3 : Int32)) (q := 128) hX dX12_go_127 rfl rfl ?_
        refine r_putI (a := a0) (ci := 12) (kf := 43) (q := 131) hX hc1 flX12_339 rfl rfl (Or.inl rfl) rfl rfl dX12_go_128 rfl (fun M17 => ?_)
        refine r_iload_n (i := 1) (x := x1) (q := 132) 1 hX dX12_go_131 rfl rfl rfl ?_
        refine r_cs (As := [vi x1]) (st := []) (r := (some (vi (fX12_isDigit x1)))) (Z1 := Z) (M1 := M17) (k1 := 0) (n1 := 0) (st1 := [vi (fX12_isDigit x1)]) (q := 135) hX (fun l => kX12_isDigit l Z M17 x1) stX12_isDigit ccX12_isDigit (Or.inl lkX12_372) rfl rfl rfl ⟨Nat.le_of_ble_eq_true rfl, Nat.le_of_ble_eq_true rfl, rfl, rfl, Nat.le_of_ble_eq_true rfl, Nat.le_of_ble_eq_true rfl⟩ (Nat.le_of_ble_eq_true rfl) dX12_go_132 rfl ?_
        refine r_lf (hK _) ?_
        exact r_zret hM rfl (bX12_isDigit x1) (Nat.le_of_ble_eq_true rfl) (Nat.le_of_ble_eq_true rfl) dX12_go_135
      · refine r_ite (fun hb18 => ?_) (fun hb18 => ?_)
        · refine r_tswI (off := 132) (q := 136) hX hb18 dX12_go_4 (by decide) (by decide) ?_
          refine r_iload_n (i := 1) (x := x1) (q := 137) 1 hX dX12_go_136 rfl rfl rfl ?_
          refine r_cs (As := [vi x1]) (st := []) (r := (some (vi (fX12_isDigit x1)))) (Z1 := Z) (M1 := M) (k1 := 0) (n1 := 0) (st1 := [vi (fX12_isDigit x1)]) (q := 140) hX (fun l => kX12_isDigit l Z M x1) stX12_isDigit ccX12_isDigit (Or.inl lkX12_372) rfl rfl rfl ⟨Nat.le_of_ble_eq_true rfl, Nat.le_of_ble_eq_true rfl, rfl, rfl, Nat.le_of_ble_eq_true rfl, Nat.le_of_ble_eq_true rfl⟩ (Nat.le_of_ble_eq_true rfl) dX12_go_137 rfl ?_
          refine r_js (J := fun (v22 : Unit) (P : Option Res) => Ref mX12_go X 0 0 Z M 179 [(0, vr a0), (1, vi x1)] [] P) (fun v22 => ?_) (fun K1 hj20 ho21 => ?_)
          · refine r_aload_n (i := 0) (x := a0) (q := 180) 0 hX dX12_go_179 rfl rfl rfl ?_
            refine r_iconst (v := (4 : Int32)) (q := 181) hX dX12_go_180 rfl rfl ?_
            refine r_putI (a := a0) (ci := 12) (kf := 43) (q := 184) hX hc1 flX12_339 rfl rfl (Or.inl rfl) rfl rfl dX12_go_181 rfl (fun M26 => ?_)
            refine r_iload_n (i := 1) (x := x1) (q := 185) 1 hX dX12_go_184 rfl rfl rfl ?_
            refine r_bipush (v := (63 : Int32)) (q := 187) hX dX12_go_185 rfl rfl ?_
            refine r_icmp_ne (tgt := 194) (q := 190) hX dX12_go_187 (by decide) rfl (fun hb27 => ?_) (fun hb27 => ?_)
            · refine r_iconst (v := (1 : Int32)) (q := 191) hX dX12_go_190 rfl rfl ?_
              refine r_goto (q := 195) hX dX12_go_191 (by decide) ?_
              refine r_lf (hK _) ?_
              exact r_zret hM rfl (Or.inr rfl) (Nat.le_of_ble_eq_true rfl) (Nat.le_of_ble_eq_true rfl) dX12_go_195
            · refine r_iconst (v := (0 : Int32)) (q := 195) hX dX12_go_194 rfl rfl ?_
              refine r_lf (hK _) ?_
              exact r_zret hM rfl (Or.inl rfl) (Nat.le_of_ble_eq_true rfl) (Nat.le_of_ble_eq_true rfl) dX12_go_195
          · refine r_if_eq (tgt := 179) (q := 143) hX dX12_go_140 (by decide) rfl (fun hb19 => ?_) (fun hb19 => ?_)
            · refine r_l0 ?_
              exact hj20 ()
            · refine r_aload_n (i := 0) (x := a0) (q := 144) 0 hX dX12_go_143 rfl rfl rfl ?_
              refine r_getI (a := a0) (ci := 12) (kf := 45) (q := 147) hX hc1 flX12_369 rfl rfl dX12_go_144 rfl ?_
              refine r_iconst (v := (4 : Int32)) (q := 148) hX dX12_go_147 rfl rfl ?_
              refine r_icmp_ge (tgt := 179) (q := 151) hX dX12_go_148 (by decide) rfl (fun hb23 => ?_) (fun hb23 => ?_)
              · refine r_l0 ?_
                exact hj20 ()
              · refine r_aload_n (i := 0) (x := a0) (q := 152) 0 hX dX12_go_151 rfl rfl rfl ?_
                refine r_bipush (v := (10 : Int32)) (q := 154) hX dX12_go_152 rfl rfl ?_
                refine r_aload_n (i := 0) (x := a0) (q := 155) 0 hX dX12_go_154 rfl rfl rfl ?_
                refine r_getI (a := a0) (ci := 12) (kf := 47) (q := 158) hX hc1 flX12_366 rfl rfl dX12_go_155 rfl ?_
                refine r_imul (q := 159) hX dX12_go_158 rfl ?_
                refine r_iload_n (i := 1) (x := x1) (q := 160) 1 hX dX12_go_159 rfl rfl rfl ?_
                refine r_iadd (q := 161) hX dX12_go_160 rfl ?_
                refine r_bipush (v := (48 : Int32)) (q := 163) hX dX12_go_161 rfl rfl ?_
                refine r_isub (q := 164) hX dX12_go_163 rfl ?_
                refine r_putI (a := a0) (ci := 12) (kf := 47) (q := 167) hX hc1 flX12_366 rfl rfl (Or.inl rfl) rfl rfl dX12_go_164 rfl (fun M24 => ?_)
                refine r_aload_n (i := 0) (x := a0) (q := 168) 0 hX dX12_go_167 rfl rfl rfl ?_
                refine r_dup (q := 169) hX dX12_go_168 rfl rfl ?_
                refine r_getI (a := a0) (ci := 12) (kf := 45) (q := 172) hX hc1 flX12_369 rfl rfl dX12_go_169 rfl ?_
                refine r_iconst (v := (1 : Int32)) (q := 173) hX dX12_go_172 rfl rfl ?_
                refine r_iadd (q := 174) hX dX12_go_173 rfl ?_
                refine r_putI (a := a0) (ci := 12) (kf := 45) (q := 177) hX hc1 flX12_369 rfl rfl (Or.inl rfl) rfl rfl dX12_go_174 rfl (fun M25 => ?_)
                refine r_iconst (v := (1 : Int32)) (q := 178) hX dX12_go_177 rfl rfl ?_
                refine r_lf ((ho21 _).trans (hK _)) ?_
                exact r_zret hM rfl (Or.inr rfl) (Nat.le_of_ble_eq_true rfl) (Nat.le_of_ble_eq_true rfl) dX12_go_178
        · refine r_ite (fun hb28 => ?_) (fun hb28 => ?_)
          · refine r_tswI (off := 192) (q := 196) hX hb28 dX12_go_4 (by decide) (by decide) ?_
            refine r_aload_n (i := 0) (x := a0) (q := 197) 0 hX dX12_go_196 rfl rfl rfl ?_
            refine r_iload_n (i := 1) (x := x1) (q := 198) 1 hX dX12_go_197 rfl rfl rfl ?_
            refine r_bind (fun v29 h30 => ?_)
            refine r_cv (a := a0) (As := [vi x1]) (st := []) (r := (some (vi v29.1))) (Z1 := Z) (M1 := v29.2) (k1 := 0) (n1 := 0) (st1 := [vi v29.1]) (q := 201) hX (fun l => kX12_goFactor l Z M a0 x1 v29 h30) hc1 ivX12_goFactor ccX12_goFactor (Or.inl lkX12_375) rfl rfl rfl ⟨Nat.le_of_ble_eq_true rfl, Nat.le_of_ble_eq_true rfl, rfl, rfl, Nat.le_of_ble_eq_true rfl, Nat.le_of_ble_eq_true rfl⟩ (Nat.le_of_ble_eq_true rfl) dX12_go_198 rfl ?_
            refine r_ck (fun hz31 => ?_)
            refine r_lf (hK _) ?_
            exact r_zret hM rfl hz31 (Nat.le_of_ble_eq_true rfl) (Nat.le_of_ble_eq_true rfl) dX12_go_201
          · refine r_ite (fun hb32 => ?_) (fun hb32 => ?_)
            · refine r_tswI (off := 198) (q := 202) hX hb32 dX12_go_4 (by decide) (by decide) ?_
              refine r_aload_n (i := 0) (x := a0) (q := 203) 0 hX dX12_go_202 rfl rfl rfl ?_
              refine r_iload_n (i := 1) (x := x1) (q := 204) 1 hX dX12_go_203 rfl rfl rfl ?_
              refine r_bipush (v := (60 : Int32)) (q := 206) hX dX12_go_204 rfl rfl ?_
              refine r_jn (J := fun (v36 : Int32) (P : Option Res) => Ref mX12_go X 0 0 Z M 224 [(0, vr a0), (1, vi x1)] [vi v36, vr a0] P) (fun v36 => ?_) (fun K1 hj34 => ?_)
              · refine r_putI (a := a0) (ci := 12) (kf := 50) (q := 227) hX hc1 flX12_345 rfl rfl (Or.inl rfl) rfl rfl dX12_go_224 rfl (fun M38 => ?_)
                refine r_aload_n (i := 0) (x := a0) (q := 228) 0 hX dX12_go_227 rfl rfl rfl ?_
                refine r_bipush (v := (6 : Int32)) (q := 230) hX dX12_go_228 rfl rfl ?_
                refine r_putI (a := a0) (ci := 12) (kf := 43) (q := 233) hX hc1 flX12_339 rfl rfl (Or.inl rfl) rfl rfl dX12_go_230 rfl (fun M39 => ?_)
                refine r_iload_n (i := 1) (x := x1) (q := 234) 1 hX dX12_go_233 rfl rfl rfl ?_
                refine r_bipush (v := (60 : Int32)) (q := 236) hX dX12_go_234 rfl rfl ?_
                refine r_icmp_eq (tgt := 251) (q := 239) hX dX12_go_236 (by decide) rfl (fun hb40 => ?_) (fun hb40 => ?_)
                · refine r_iconst (v := (1 : Int32)) (q := 252) hX dX12_go_251 rfl rfl ?_
                  refine r_goto (q := 256) hX dX12_go_252 (by decide) ?_
                  refine r_lf (hK _) ?_
                  exact r_zret hM rfl (Or.inr rfl) (Nat.le_of_ble_eq_true rfl) (Nat.le_of_ble_eq_true rfl) dX12_go_256
                · refine r_iload_n (i := 1) (x := x1) (q := 240) 1 hX dX12_go_239 rfl rfl rfl ?_
                  refine r_bipush (v := (61 : Int32)) (q := 242) hX dX12_go_240 rfl rfl ?_
                  refine r_icmp_eq (tgt := 251) (q := 245) hX dX12_go_242 (by decide) rfl (fun hb41 => ?_) (fun hb41 => ?_)
                  · refine r_iconst (v := (1 : Int32)) (q := 252) hX dX12_go_251 rfl rfl ?_
                    refine r_goto (q := 256) hX dX12_go_252 (by decide) ?_
                    refine r_lf (hK _) ?_
                    exact r_zret hM rfl (Or.inr rfl) (Nat.le_of_ble_eq_true rfl) (Nat.le_of_ble_eq_true rfl) dX12_go_256
                  · refine r_iload_n (i := 1) (x := x1) (q := 246) 1 hX dX12_go_245 rfl rfl rfl ?_
                    refine r_bipush (v := (62 : Int32)) (q := 248) hX dX12_go_246 rfl rfl ?_
                    refine r_icmp_ne (tgt := 255) (q := 251) hX dX12_go_248 (by decide) rfl (fun hb42 => ?_) (fun hb42 => ?_)
                    · refine r_iconst (v := (1 : Int32)) (q := 252) hX dX12_go_251 rfl rfl ?_
                      refine r_goto (q := 256) hX dX12_go_252 (by decide) ?_
                      refine r_lf (hK _) ?_
                      exact r_zret hM rfl (Or.inr rfl) (Nat.le_of_ble_eq_true rfl) (Nat.le_of_ble_eq_true rfl) dX12_go_256
                    · refine r_iconst (v := (0 : Int32)) (q := 256) hX dX12_go_255 rfl rfl ?_
                      refine r_lf (hK _) ?_
                      exact r_zret hM rfl (Or.inl rfl) (Nat.le_of_ble_eq_true rfl) (Nat.le_of_ble_eq_true rfl) dX12_go_256
              · refine r_icmp_ne (tgt := 213) (q := 209) hX dX12_go_206 (by decide) rfl (fun hb33 => ?_) (fun hb33 => ?_)
                · refine r_iconst (v := (0 : Int32)) (q := 210) hX dX12_go_209 rfl rfl ?_
                  refine r_goto (q := 224) hX dX12_go_210 (by decide) ?_
                  refine r_l0 ?_
                  exact hj34 (0 : Int32)
                · refine r_iload_n (i := 1) (x := x1) (q := 214) 1 hX dX12_go_213 rfl rfl rfl ?_
                  refine r_bipush (v := (61 : Int32)) (q := 216) hX dX12_go_214 rfl rfl ?_
                  refine r_icmp_ne (tgt := 223) (q := 219) hX dX12_go_216 (by decide) rfl (fun hb37 => ?_) (fun hb37 => ?_)
                  · refine r_iconst (v := (1 : Int32)) (q := 220) hX dX12_go_219 rfl rfl ?_
                    refine r_goto (q := 224) hX dX12_go_220 (by decide) ?_
                    refine r_l0 ?_
                    exact hj34 (1 : Int32)
                  · refine r_iconst (v := (2 : Int32)) (q := 224) hX dX12_go_223 rfl rfl ?_
                    refine r_l0 ?_
                    exact hj34 (2 : Int32)
            · refine r_ite (fun hb43 => ?_) (fun hb43 => ?_)
              · refine r_tswI (off := 253) (q := 257) hX hb43 dX12_go_4 (by decide) (by decide) ?_
                refine r_aload_n (i := 0) (x := a0) (q := 258) 0 hX dX12_go_257 rfl rfl rfl ?_
                refine r_iload_n (i := 1) (x := x1) (q := 259) 1 hX dX12_go_258 rfl rfl rfl ?_
                refine r_bipush (v := (48 : Int32)) (q := 261) hX dX12_go_259 rfl rfl ?_
                refine r_isub (q := 262) hX dX12_go_261 rfl ?_
                refine r_putI (a := a0) (ci := 12) (kf := 48) (q := 265) hX hc1 flX12_348 rfl rfl (Or.inl rfl) rfl rfl dX12_go_262 rfl (fun M44 => ?_)
                refine r_aload_n (i := 0) (x := a0) (q := 266) 0 hX dX12_go_265 rfl rfl rfl ?_
                refine r_iconst (v := (1 : Int32)) (q := 267) hX dX12_go_266 rfl rfl ?_
                refine r_putI (a := a0) (ci := 12) (kf := 45) (q := 270) hX hc1 flX12_369 rfl rfl (Or.inl rfl) rfl rfl dX12_go_267 rfl (fun M45 => ?_)
                refine r_aload_n (i := 0) (x := a0) (q := 271) 0 hX dX12_go_270 rfl rfl rfl ?_
                refine r_bipush (v := (7 : Int32)) (q := 273) hX dX12_go_271 rfl rfl ?_
                refine r_putI (a := a0) (ci := 12) (kf := 43) (q := 276) hX hc1 flX12_339 rfl rfl (Or.inl rfl) rfl rfl dX12_go_273 rfl (fun M46 => ?_)
                refine r_iload_n (i := 1) (x := x1) (q := 277) 1 hX dX12_go_276 rfl rfl rfl ?_
                refine r_cs (As := [vi x1]) (st := []) (r := (some (vi (fX12_isDigit x1)))) (Z1 := Z) (M1 := M46) (k1 := 0) (n1 := 0) (st1 := [vi (fX12_isDigit x1)]) (q := 280) hX (fun l => kX12_isDigit l Z M46 x1) stX12_isDigit ccX12_isDigit (Or.inl lkX12_372) rfl rfl rfl ⟨Nat.le_of_ble_eq_true rfl, Nat.le_of_ble_eq_true rfl, rfl, rfl, Nat.le_of_ble_eq_true rfl, Nat.le_of_ble_eq_true rfl⟩ (Nat.le_of_ble_eq_true rfl) dX12_go_277 rfl ?_
                refine r_lf (hK _) ?_
                exact r_zret hM rfl (bX12_isDigit x1) (Nat.le_of_ble_eq_true rfl) (Nat.le_of_ble_eq_true rfl) dX12_go_280
              · refine r_ite (fun hb47 => ?_) (fun hb47 => ?_)
                · refine r_tswI (off := 277) (q := 281) hX hb47 dX12_go_4 (by decide) (by decide) ?_
                  refine r_iload_n (i := 1) (x := x1) (q := 282) 1 hX dX12_go_281 rfl rfl rfl ?_
                  refine r_cs (As := [vi x1]) (st := []) (r := (some (vi (fX12_isDigit x1)))) (Z1 := Z) (M1 := M) (k1 := 0) (n1 := 0) (st1 := [vi (fX12_isDigit x1)]) (q := 285) hX (fun l => kX12_isDigit l Z M x1) stX12_isDigit ccX12_isDigit (Or.inl lkX12_372) rfl rfl rfl ⟨Nat.le_of_ble_eq_true rfl, Nat.le_of_ble_eq_true rfl, rfl, rfl, Nat.le_of_ble_eq_true rfl, Nat.le_of_ble_eq_true rfl⟩ (Nat.le_of_ble_eq_true rfl) dX12_go_282 rfl ?_
                  refine r_if_eq (tgt := 324) (q := 288) hX dX12_go_285 (by decide) rfl (fun hb48 => ?_) (fun hb48 => ?_)
                  · refine r_aload_n (i := 0) (x := a0) (q := 325) 0 hX dX12_go_324 rfl rfl rfl ?_
                    refine r_iload_n (i := 1) (x := x1) (q := 326) 1 hX dX12_go_325 rfl rfl rfl ?_
                    refine r_bind (fun v49 h50 => ?_)
                    refine r_cv (a := a0) (As := [vi x1]) (st := []) (r := (some (vi v49.1))) (Z1 := Z) (M1 := v49.2) (k1 := 0) (n1 := 0) (st1 := [vi v49.1]) (q := 329) hX (fun l => kX12_goBehind l Z M a0 x1 v49 h50) hc1 ivX12_goBehind ccX12_goBehind (Or.inl lkX12_378) rfl rfl rfl ⟨Nat.le_of_ble_eq_true rfl, Nat.le_of_ble_eq_true rfl, rfl, rfl, Nat.le_of_ble_eq_true rfl, Nat.le_of_ble_eq_true rfl⟩ (Nat.le_of_ble_eq_true rfl) dX12_go_326 rfl ?_
                    refine r_ck (fun hz51 => ?_)
                    refine r_lf (hK _) ?_
                    exact r_zret hM rfl hz51 (Nat.le_of_ble_eq_true rfl) (Nat.le_of_ble_eq_true rfl) dX12_go_329
                  · refine r_aload_n (i := 0) (x := a0) (q := 289) 0 hX dX12_go_288 rfl rfl rfl ?_
                    refine r_getI (a := a0) (ci := 12) (kf := 45) (q := 292) hX hc1 flX12_369 rfl rfl dX12_go_289 rfl ?_
                    refine r_iconst (v := (3 : Int32)) (q := 293) hX dX12_go_292 rfl rfl ?_
                    refine r_icmp_ge (tgt := 324) (q := 296) hX dX12_go_293 (by decide) rfl (fun hb52 => ?_) (fun hb52 => ?_)
                    · refine r_aload_n (i := 0) (x := a0) (q := 325) 0 hX dX12_go_324 rfl rfl rfl ?_
                      refine r_iload_n (i := 1) (x := x1) (q := 326) 1 hX dX12_go_325 rfl rfl rfl ?_
                      refine r_bind (fun v53 h54 => ?_)
                      refine r_cv (a := a0) (As := [vi x1]) (st := []) (r := (some (vi v53.1))) (Z1 := Z) (M1 := v53.2) (k1 := 0) (n1 := 0) (st1 := [vi v53.1]) (q := 329) hX (fun l => kX12_goBehind l Z M a0 x1 v53 h54) hc1 ivX12_goBehind ccX12_goBehind (Or.inl lkX12_378) rfl rfl rfl ⟨Nat.le_of_ble_eq_true rfl, Nat.le_of_ble_eq_true rfl, rfl, rfl, Nat.le_of_ble_eq_true rfl, Nat.le_of_ble_eq_true rfl⟩ (Nat.le_of_ble_eq_true rfl) dX12_go_326 rfl ?_
                      refine r_ck (fun hz55 => ?_)
                      refine r_lf (hK _) ?_
                      exact r_zret hM rfl hz55 (Nat.le_of_ble_eq_true rfl) (Nat.le_of_ble_eq_true rfl) dX12_go_329
                    · refine r_aload_n (i := 0) (x := a0) (q := 297) 0 hX dX12_go_296 rfl rfl rfl ?_
                      refine r_bipush (v := (10 : Int32)) (q := 299) hX dX12_go_297 rfl rfl ?_
                      refine r_aload_n (i := 0) (x := a0) (q := 300) 0 hX dX12_go_299 rfl rfl rfl ?_
                      refine r_getI (a := a0) (ci := 12) (kf := 48) (q := 303) hX hc1 flX12_348 rfl rfl dX12_go_300 rfl ?_
                      refine r_imul (q := 304) hX dX12_go_303 rfl ?_
                      refine r_iload_n (i := 1) (x := x1) (q := 305) 1 hX dX12_go_304 rfl rfl rfl ?_
                      refine r_iadd (q := 306) hX dX12_go_305 rfl ?_
                      refine r_bipush (v := (48 : Int32)) (q := 308) hX dX12_go_306 rfl rfl ?_
                      refine r_isub (q := 309) hX dX12_go_308 rfl ?_
                      refine r_putI (a := a0) (ci := 12) (kf := 48) (q := 312) hX hc1 flX12_348 rfl rfl (Or.inl rfl) rfl rfl dX12_go_309 rfl (fun M56 => ?_)
                      refine r_aload_n (i := 0) (x := a0) (q := 313) 0 hX dX12_go_312 rfl rfl rfl ?_
                      refine r_dup (q := 314) hX dX12_go_313 rfl rfl ?_
                      refine r_getI (a := a0) (ci := 12) (kf := 45) (q := 317) hX hc1 flX12_369 rfl rfl dX12_go_314 rfl ?_
                      refine r_iconst (v := (1 : Int32)) (q := 318) hX dX12_go_317 rfl rfl ?_
                      refine r_iadd (q := 319) hX dX12_go_318 rfl ?_
                      refine r_putI (a := a0) (ci := 12) (kf := 45) (q := 322) hX hc1 flX12_369 rfl rfl (Or.inl rfl) rfl rfl dX12_go_319 rfl (fun M57 => ?_)
                      refine r_iconst (v := (1 : Int32)) (q := 323) hX dX12_go_322 rfl rfl ?_
                      refine r_lf (hK _) ?_
                      exact r_zret hM rfl (Or.inr rfl) (Nat.le_of_ble_eq_true rfl) (Nat.le_of_ble_eq_true rfl) dX12_go_323
                · refine r_tswO (cs := [(0 : Int32), (1 : Int32), (2 : Int32), (3 : Int32), (4 : Int32), (5 : Int32), (6 : Int32), (7 : Int32)]) (q := 330) hX ⟨hb2, ⟨hb11, ⟨hb14, ⟨hb18, ⟨hb28, ⟨hb32, ⟨hb43, ⟨hb47, trivial⟩⟩⟩⟩⟩⟩⟩⟩ dX12_go_4 (by decide) (by decide) ?_
                  refine r_aload_n (i := 0) (x := a0) (q := 331) 0 hX dX12_go_330 rfl rfl rfl ?_
                  refine r_iload_n (i := 1) (x := x1) (q := 332) 1 hX dX12_go_331 rfl rfl rfl ?_
                  refine r_bind (fun v58 h59 => ?_)
                  refine r_cv (a := a0) (As := [vi x1]) (st := []) (r := (some (vi v58.1))) (Z1 := Z) (M1 := v58.2) (k1 := 0) (n1 := 0) (st1 := [vi v58.1]) (q := 335) hX (fun l => kX12_goBehind l Z M a0 x1 v58 h59) hc1 ivX12_goBehind ccX12_goBehind (Or.inl lkX12_378) rfl rfl rfl ⟨Nat.le_of_ble_eq_true rfl, Nat.le_of_ble_eq_true rfl, rfl, rfl, Nat.le_of_ble_eq_true rfl, Nat.le_of_ble_eq_true rfl⟩ (Nat.le_of_ble_eq_true rfl) dX12_go_332 rfl ?_
                  refine r_ck (fun hz60 => ?_)
                  refine r_lf (hK _) ?_
                  exact r_zret hM rfl hz60 (Nat.le_of_ble_eq_true rfl) (Nat.le_of_ble_eq_true rfl) dX12_go_335
theorem lkX12_381 : Lk RX12 381 yX12_go := gd (hcw7_7 _ (List.mem_of_getElem? (i := 8) rfl)) rfl
def mX12_faultOf : MD := (yX12_faultOf, cX12_faultOf, 2, (some .int), 4, 85, 0, 0)
theorem ccX12_faultOf : Cc mX12_faultOf 0 := ⟨gd (hcw1_0 _ (List.mem_of_getElem? (i := 10) rfl)) rfl, gd (hcw7_7 _ (List.mem_of_getElem? (i := 7) rfl)) rfl, by decide +kernel, by decide +kernel, by decide +kernel⟩
theorem ivX12_faultOf : Iv mX12_faultOf 12 := ⟨Nat.le_of_ble_eq_true rfl, rfl, gd (hcw7_7 _ (List.mem_of_getElem? (i := 6) rfl)) rfl, gd (hps4 _ (List.mem_of_getElem? (i := 6) rfl)) rfl⟩
noncomputable def fX12_faultOf (Z : Shp) (M : Mem) (a0 : Nat) : Option (Int32 × Mem) := (if tg Z a0 = (13, 86) then (pu (wI M a0 43 (0 : Int32)) (fun M2 => (pu (wI M2 a0 44 (0 : Int32)) (fun M3 => (pu (wI M3 a0 53 (0 : Int32)) (fun M4 => (pu (wI M4 a0 55 (0 : Int32)) (fun M5 => (loop (fun s6 : Int32 × Mem => (if (rI s6.2 a0 34) ≤ s6.1 then some (Sum.inr (s6.1, s6.2)) else (if aok Z (rR s6.2 a0 33) 100 s6.1 then (Option.bind (fX12_go Z s6.2 a0 (rI s6.2 (rR s6.2 a0 33) (ix s6.1))) (fun v11 => (if v11.1 = 0 then some (Sum.inr (s6.1, v11.2)) else some (Sum.inl ((s6.1 + (1 : Int32)), v11.2))))) else none))) ((0 : Int32), M5)))))))))) else none)
set_option maxRecDepth 20000 in
theorem kX12_faultOf (l : Launch) (Z : Shp) (M : Mem) (a0 : Nat) (r : Int32 × Mem) (h : fX12_faultOf Z M a0 = some r) : Ct l mX12_faultOf [vr a0] Z M ((some (vi r.1)), Z, r.2) := by
  refine Ct.of rfl (Nat.le_of_ble_eq_true rfl) (fun X hM => ?_)
  have hX := hM.1
  refine r_top (mk := fun r => ((some (vi r.1)), Z, r.2)) h (fun K hK => ?_)
  unfold fX12_faultOf
  refine r_aload_n (i := 0) (x := a0) (q := 1) 0 hX dX12_faultOf_0 rfl rfl rfl ?_
  refine r_iconst (v := (0 : Int32)) (q := 2) hX dX12_faultOf_1 rfl rfl ?_
  refine r_ck (fun hc1 => ?_)
  refine r_putI (a := a0) (ci := 12) (kf := 43) (q := 5) hX hc1 flX12_339 rfl rfl (Or.inl rfl) rfl rfl dX12_faultOf_2 rfl (fun M2 => ?_)
  refine r_aload_n (i := 0) (x := a0) (q := 6) 0 hX dX12_faultOf_5 rfl rfl rfl ?_
  refine r_iconst (v := (0 : Int32)) (q := 7) hX dX12_faultOf_6 rfl rfl ?_
  refine r_putI (a := a0) (ci := 12) (kf := 44) (q := 10) hX hc1 flX12_357 rfl rfl (Or.inl rfl) rfl rfl dX12_faultOf_7 rfl (fun M3 => ?_)
  refine r_aload_n (i := 0) (x := a0) (q := 11) 0 hX dX12_faultOf_10 rfl rfl rfl ?_
  refine r_iconst (v := (0 : Int32)) (q := 12) hX dX12_faultOf_11 rfl rfl ?_
  refine r_putI (a := a0) (ci := 12) (kf := 53) (q := 15) hX hc1 flX12_330 rfl rfl (Or.inl rfl) rfl rfl dX12_faultOf_12 rfl (fun M4 => ?_)
  refine r_aload_n (i := 0) (x := a0) (q := 16) 0 hX dX12_faultOf_15 rfl rfl rfl ?_
  refine r_iconst (v := (0 : Int32)) (q := 17) hX dX12_faultOf_16 rfl rfl ?_
  refine r_putI (a := a0) (ci := 12) (kf := 55) (q := 20) hX hc1 flX12_333 rfl rfl (Or.inl rfl) rfl rfl dX12_faultOf_17 rfl (fun M5 => ?_)
  refine r_iconst (v := (0 : Int32)) (q := 21) hX dX12_faultOf_20 rfl rfl ?_
  refine r_istore_n (x := (0 : Int32)) (q := 22) 1 [1, 0] (L1 := [(0, vr a0), (1, vi (0 : Int32))]) hX dX12_faultOf_21 rfl (Nat.le_of_ble_eq_true rfl) rfl rfl ?_
  refine r_loop (Hd := fun (s6 : Int32 × Mem) (P : Option Res) => Ref mX12_faultOf X 0 0 Z s6.2 22 [(0, vr a0), (1, vi s6.1)] [] P) (fun _ => r_none) (fun s6 K1 hn7 hx8 => ?_) ((0 : Int32), M5)
  refine r_iload_n (i := 1) (x := s6.1) (q := 23) 1 hX dX12_faultOf_22 rfl rfl rfl ?_
  refine r_aload_n (i := 0) (x := a0) (q := 24) 0 hX dX12_faultOf_23 rfl rfl rfl ?_
  refine r_getI (a := a0) (ci := 12) (kf := 34) (q := 27) hX hc1 flX12_323 rfl rfl dX12_faultOf_24 rfl ?_
  refine r_icmp_ge (tgt := 49) (q := 30) hX dX12_faultOf_27 (by decide) rfl (fun hb9 => ?_) (fun hb9 => ?_)
  · refine r_iload_n (i := 1) (x := s6.1) (q := 50) 1 hX dX12_faultOf_49 rfl rfl rfl ?_
    refine r_lf ((hx8 _).trans (hK _)) ?_
    exact r_iret hM rfl (Nat.le_of_ble_eq_true rfl) (Nat.le_of_ble_eq_true rfl) dX12_faultOf_50
  · refine r_aload_n (i := 0) (x := a0) (q := 31) 0 hX dX12_faultOf_30 rfl rfl rfl ?_
    refine r_aload_n (i := 0) (x := a0) (q := 32) 0 hX dX12_faultOf_31 rfl rfl rfl ?_
    refine r_getR (a := a0) (ci := 12) (kf := 33) (q := 35) hX hc1 flX12_89 rfl dX12_faultOf_32 rfl ?_
    refine r_iload_n (i := 1) (x := s6.1) (q := 36) 1 hX dX12_faultOf_35 rfl rfl rfl ?_
    refine r_ck (fun hc10 => ?_)
    refine r_iald (a := (rR s6.2 a0 33)) (i := s6.1) (q := 37) hX hc10 dX12_faultOf_36 rfl ?_
    refine r_bind (fun v11 h12 => ?_)
    refine r_cv (a := a0) (As := [vi (rI s6.2 (rR s6.2 a0 33) (ix s6.1))]) (st := []) (r := (some (vi v11.1))) (Z1 := Z) (M1 := v11.2) (k1 := 0) (n1 := 0) (st1 := [vi v11.1]) (q := 40) hX (fun l => kX12_go l Z s6.2 a0 (rI s6.2 (rR s6.2 a0 33) (ix s6.1)) v11 h12) hc1 ivX12_go ccX12_go (Or.inl lkX12_381) rfl rfl rfl ⟨Nat.le_of_ble_eq_true rfl, Nat.le_of_ble_eq_true rfl, rfl, rfl, Nat.le_of_ble_eq_true rfl, Nat.le_of_ble_eq_true rfl⟩ (Nat.le_of_ble_eq_true rfl) dX12_faultOf_37 rfl ?_
    refine r_if_eq (tgt := 49) (q := 43) hX dX12_faultOf_40 (by decide) rfl (fun hb13 => ?_) (fun hb13 => ?_)
    · refine r_iload_n (i := 1) (x := s6.1) (q := 50) 1 hX dX12_faultOf_49 rfl rfl rfl ?_
      refine r_lf ((hx8 _).trans (hK _)) ?_
      exact r_iret hM rfl (Nat.le_of_ble_eq_true rfl) (Nat.le_of_ble_eq_true rfl) dX12_faultOf_50
    · refine r_iinc (x := s6.1) (v := (s6.1 + (1 : Int32))) (q := 46) 1 1 [1, 0] (L1 := [(0, vr a0), (1, vi (s6.1 + (1 : Int32)))]) hX dX12_faultOf_43 rfl rfl (Nat.le_of_ble_eq_true rfl) rfl rfl ?_
      refine r_goto (q := 22) hX dX12_faultOf_46 (by decide) ?_
      refine r_l0 ?_
      exact hn7 ((s6.1 + (1 : Int32)), v11.2)
theorem lkX12_384 : Lk RX12 384 yX12_faultOf := gd (hcw7_7 _ (List.mem_of_getElem? (i := 4) rfl)) rfl
def mX12_fault : MD := (yX12_fault, cX12_fault, 1, (some .int), 5, 106, 0, 0)
theorem ccX12_fault : Cc mX12_fault 0 := ⟨gd (hcw1_0 _ (List.mem_of_getElem? (i := 10) rfl)) rfl, gd (hcw7_7 _ (List.mem_of_getElem? (i := 3) rfl)) rfl, by decide +kernel, by decide +kernel, by decide +kernel⟩
theorem ivX12_fault : Iv mX12_fault 12 := ⟨Nat.le_of_ble_eq_true rfl, rfl, gd (hcw7_7 _ (List.mem_of_getElem? (i := 1) rfl)) rfl, gd (hcw7_7 _ (List.mem_of_getElem? (i := 2) rfl)) rfl⟩
noncomputable def fX12_fault (Z : Shp) (M : Mem) (a0 : Nat) : Option (Int32 × Mem) := (if tg Z a0 = (13, 86) then (Option.bind (fX12_faultOf Z M a0) (fun v2 => some (v2.1, v2.2))) else none)
set_option maxRecDepth 20000 in
theorem kX12_fault (l : Launch) (Z : Shp) (M : Mem) (a0 : Nat) (r : Int32 × Mem) (h : fX12_fault Z M a0 = some r) : Ct l mX12_fault [vr a0] Z M ((some (vi r.1)), Z, r.2) := by
  refine Ct.of rfl (Nat.le_of_ble_eq_true rfl) (fun X hM => ?_)
  have hX := hM.1
  refine r_top (mk := fun r => ((some (vi r.1)), Z, r.2)) h (fun K hK => ?_)
  unfold fX12_fault
  refine r_aload_n (i := 0) (x := a0) (q := 1) 0 hX dX12_fault_0 rfl rfl rfl ?_
  refine r_ck (fun hc1 => ?_)
  refine r_bind (fun v2 h3 => ?_)
  refine r_cv (a := a0) (As := []) (st := []) (r := (some (vi v2.1))) (Z1 := Z) (M1 := v2.2) (k1 := 0) (n1 := 0) (st1 := [vi v2.1]) (q := 4) hX (fun l => kX12_faultOf l Z M a0 v2 h3) hc1 ivX12_faultOf ccX12_faultOf (Or.inl lkX12_384) rfl rfl rfl ⟨Nat.le_of_ble_eq_true rfl, Nat.le_of_ble_eq_true rfl, rfl, rfl, Nat.le_of_ble_eq_true rfl, Nat.le_of_ble_eq_true rfl⟩ (Nat.le_of_ble_eq_true rfl) dX12_fault_1 rfl ?_
  refine r_lf (hK _) ?_
  exact r_iret hM rfl (Nat.le_of_ble_eq_true rfl) (Nat.le_of_ble_eq_true rfl) dX12_fault_4
def mX12_fill : MD := (yX12_fill, cX12_fill, 3, none, 1, 21, 0, 0)
theorem ccX12_fill : Cc mX12_fill 1 := ⟨gd (hcw1_0 _ (List.mem_of_getElem? (i := 10) rfl)) rfl, gd (hcw7_5 _ (List.mem_of_getElem? (i := 7) rfl)) rfl, by decide +kernel, by decide +kernel, by decide +kernel⟩
theorem ivX12_fill : Iv mX12_fill 12 := ⟨Nat.le_of_ble_eq_true rfl, rfl, gd (hcw7_5 _ (List.mem_of_getElem? (i := 6) rfl)) rfl, gd (hps4 _ (List.mem_of_getElem? (i := 3) rfl)) rfl⟩
noncomputable def fX12_fill (Z : Shp) (M : Mem) (a0 : Nat) (x1 : Int32) : Option (Mem) := (if tg Z a0 = (13, 86) then (if aok Z (rR M a0 8) 100 x1 then (if aok Z (rR M a0 4) 100 x1 then (pu ((fX12_least (rI M (rR M a0 8) (ix x1)) (rI M (rR M a0 4) (ix x1)))) (fun z4 => (pu (wI M (rR M a0 8) (ix x1) ((rI M (rR M a0 8) (ix x1)) - z4)) (fun M5 => (Option.bind (fX12_upper Z M5 a0 x1) (fun v6 => (if aok Z (rR M5 a0 0) 100 v6 then (if aok Z (rR M5 a0 4) 100 x1 then (pu (wI M5 (rR M5 a0 0) (ix v6) ((rI M5 (rR M5 a0 0) (ix v6)) - ((rI M5 (rR M5 a0 4) (ix x1)) - z4))) (fun M10 => (if aok Z (rR M10 a0 7) 101 x1 then (pu (wI M10 (rR M10 a0 7) (ix x1) (1 : Int32)) (fun M12 => (if aok Z (rR M12 a0 10) 100 x1 then (pu (wI M12 (rR M12 a0 10) (ix x1) ((rI M12 (rR M12 a0 10) (ix x1)) + (1 : Int32))) (fun M14 => some M14)) else none))) else none))) else none) else none))))))) else none) else none) else none)
set_option maxRecDepth 20000 in
theorem kX12_fill (l : Launch) (Z : Shp) (M : Mem) (a0 : Nat) (x1 : Int32) (r : Mem) (h : fX12_fill Z M a0 x1 = some r) : Ct l mX12_fill [vr a0, vi x1] Z M (none, Z, r) := by
  refine Ct.of rfl (Nat.le_of_ble_eq_true rfl) (fun X hM => ?_)
  have hX := hM.1
  refine r_top (mk := fun r => (none, Z, r)) h (fun K hK => ?_)
  unfold fX12_fill
  refine r_aload_n (i := 0) (x := a0) (q := 1) 0 hX dX12_fill_0 rfl rfl rfl ?_
  refine r_ck (fun hc1 => ?_)
  refine r_getR (a := a0) (ci := 12) (kf := 8) (q := 4) hX hc1 flX12_32 rfl dX12_fill_1 rfl ?_
  refine r_iload_n (i := 1) (x := x1) (q := 5) 1 hX dX12_fill_4 rfl rfl rfl ?_
  refine r_ck (fun hc2 => ?_)
  refine r_iald (a := (rR M a0 8)) (i := x1) (q := 6) hX hc2 dX12_fill_5 rfl ?_
  refine r_aload_n (i := 0) (x := a0) (q := 7) 0 hX dX12_fill_6 rfl rfl rfl ?_
  refine r_getR (a := a0) (ci := 12) (kf := 4) (q := 10) hX hc1 flX12_19 rfl dX12_fill_7 rfl ?_
  refine r_iload_n (i := 1) (x := x1) (q := 11) 1 hX dX12_fill_10 rfl rfl rfl ?_
  refine r_ck (fun hc3 => ?_)
  refine r_iald (a := (rR M a0 4)) (i := x1) (q := 12) hX hc3 dX12_fill_11 rfl ?_
  refine r_cs (As := [vi (rI M (rR M a0 8) (ix x1)), vi (rI M (rR M a0 4) (ix x1))]) (st := []) (r := (some (vi (fX12_least (rI M (rR M a0 8) (ix x1)) (rI M (rR M a0 4) (ix x1)))))) (Z1 := Z) (M1 := M) (k1 := 0) (n1 := 0) (st1 := [vi (fX12_least (rI M (rR M a0 8) (ix x1)) (rI M (rR M a0 4) (ix x1)))]) (q := 15) hX (fun l => kX12_least l Z M (rI M (rR M a0 8) (ix x1)) (rI M (rR M a0 4) (ix x1))) stX12_least ccX12_least (Or.inl lkX12_243) rfl rfl rfl ⟨Nat.le_of_ble_eq_true rfl, Nat.le_of_ble_eq_true rfl, rfl, rfl, Nat.le_of_ble_eq_true rfl, Nat.le_of_ble_eq_true rfl⟩ (Nat.le_of_ble_eq_true rfl) dX12_fill_12 rfl ?_
  refine r_istore_nP (x := (fX12_least (rI M (rR M a0 8) (ix x1)) (rI M (rR M a0 4) (ix x1)))) (q := 16) 2 [1, 2, 0] (fun z4 => [(0, vr a0), (1, vi x1), (2, vi z4)]) hX dX12_fill_15 rfl (Nat.le_of_ble_eq_true rfl) (fun _ => rfl) rfl (fun z4 => ?_)
  refine r_aload_n (i := 0) (x := a0) (q := 17) 0 hX dX12_fill_16 rfl rfl rfl ?_
  refine r_getR (a := a0) (ci := 12) (kf := 8) (q := 20) hX hc1 flX12_32 rfl dX12_fill_17 rfl ?_
  refine r_iload_n (i := 1) (x := x1) (q := 21) 1 hX dX12_fill_20 rfl rfl rfl ?_
  refine r_dup2 (q := 22) hX dX12_fill_21 rfl rfl rfl ?_
  refine r_iald (a := (rR M a0 8)) (i := x1) (q := 23) hX hc2 dX12_fill_22 rfl ?_
  refine r_iload_n (i := 2) (x := z4) (q := 24) 2 hX dX12_fill_23 rfl rfl rfl ?_
  refine r_isub (q := 25) hX dX12_fill_24 rfl ?_
  refine r_iast (a := (rR M a0 8)) (i := x1) (x := ((rI M (rR M a0 8) (ix x1)) - z4)) (q := 26) hX hc2 dX12_fill_25 rfl (fun M5 => ?_)
  refine r_aload_n (i := 0) (x := a0) (q := 27) 0 hX dX12_fill_26 rfl rfl rfl ?_
  refine r_getR (a := a0) (ci := 12) (kf := 0) (q := 30) hX hc1 flX12_7 rfl dX12_fill_27 rfl ?_
  refine r_aload_n (i := 0) (x := a0) (q := 31) 0 hX dX12_fill_30 rfl rfl rfl ?_
  refine r_iload_n (i := 1) (x := x1) (q := 32) 1 hX dX12_fill_31 rfl rfl rfl ?_
  refine r_bind (fun v6 h7 => ?_)
  refine r_cv (a := a0) (As := [vi x1]) (st := [vr (rR M5 a0 0)]) (r := (some (vi v6))) (Z1 := Z) (M1 := M5) (k1 := 0) (n1 := 0) (st1 := [vi v6, vr (rR M5 a0 0)]) (q := 35) hX (fun l => kX12_upper l Z M5 a0 x1 v6 h7) hc1 ivX12_upper ccX12_upper (Or.inl lkX12_270) rfl rfl rfl ⟨Nat.le_of_ble_eq_true rfl, Nat.le_of_ble_eq_true rfl, rfl, rfl, Nat.le_of_ble_eq_true rfl, Nat.le_of_ble_eq_true rfl⟩ (Nat.le_of_ble_eq_true rfl) dX12_fill_32 rfl ?_
  refine r_dup2 (q := 36) hX dX12_fill_35 rfl rfl rfl ?_
  refine r_ck (fun hc8 => ?_)
  refine r_iald (a := (rR M5 a0 0)) (i := v6) (q := 37) hX hc8 dX12_fill_36 rfl ?_
  refine r_aload_n (i := 0) (x := a0) (q := 38) 0 hX dX12_fill_37 rfl rfl rfl ?_
  refine r_getR (a := a0) (ci := 12) (kf := 4) (q := 41) hX hc1 flX12_19 rfl dX12_fill_38 rfl ?_
  refine r_iload_n (i := 1) (x := x1) (q := 42) 1 hX dX12_fill_41 rfl rfl rfl ?_
  refine r_ck (fun hc9 => ?_)
  refine r_iald (a := (rR M5 a0 4)) (i := x1) (q := 43) hX hc9 dX12_fill_42 rfl ?_
  refine r_iload_n (i := 2) (x := z4) (q := 44) 2 hX dX12_fill_43 rfl rfl rfl ?_
  refine r_isub (q := 45) hX dX12_fill_44 rfl ?_
  refine r_isub (q := 46) hX dX12_fill_45 rfl ?_
  refine r_iast (a := (rR M5 a0 0)) (i := v6) (x := ((rI M5 (rR M5 a0 0) (ix v6)) - ((rI M5 (rR M5 a0 4) (ix x1)) - z4))) (q := 47) hX hc8 dX12_fill_46 rfl (fun M10 => ?_)
  refine r_aload_n (i := 0) (x := a0) (q := 48) 0 hX dX12_fill_47 rfl rfl rfl ?_
  refine r_getR (a := a0) (ci := 12) (kf := 7) (q := 51) hX hc1 flX12_29 rfl dX12_fill_48 rfl ?_
  refine r_iload_n (i := 1) (x := x1) (q := 52) 1 hX dX12_fill_51 rfl rfl rfl ?_
  refine r_iconst (v := (1 : Int32)) (q := 53) hX dX12_fill_52 rfl rfl ?_
  refine r_ck (fun hc11 => ?_)
  refine r_zast (a := (rR M10 a0 7)) (i := x1) (x := (1 : Int32)) (q := 54) hX hc11 (Or.inr rfl) dX12_fill_53 rfl (fun M12 => ?_)
  refine r_aload_n (i := 0) (x := a0) (q := 55) 0 hX dX12_fill_54 rfl rfl rfl ?_
  refine r_getR (a := a0) (ci := 12) (kf := 10) (q := 58) hX hc1 flX12_38 rfl dX12_fill_55 rfl ?_
  refine r_iload_n (i := 1) (x := x1) (q := 59) 1 hX dX12_fill_58 rfl rfl rfl ?_
  refine r_dup2 (q := 60) hX dX12_fill_59 rfl rfl rfl ?_
  refine r_ck (fun hc13 => ?_)
  refine r_iald (a := (rR M12 a0 10)) (i := x1) (q := 61) hX hc13 dX12_fill_60 rfl ?_
  refine r_iconst (v := (1 : Int32)) (q := 62) hX dX12_fill_61 rfl rfl ?_
  refine r_iadd (q := 63) hX dX12_fill_62 rfl ?_
  refine r_iast (a := (rR M12 a0 10)) (i := x1) (x := ((rI M12 (rR M12 a0 10) (ix x1)) + (1 : Int32))) (q := 64) hX hc13 dX12_fill_63 rfl (fun M14 => ?_)
  refine r_lf (hK _) ?_
  exact r_vret hM rfl (Nat.le_of_ble_eq_true rfl) (Nat.le_of_ble_eq_true rfl) dX12_fill_64
theorem lkX12_445 : Lk RX12 445 yX12_explains := gd (hcw8_1 _ (List.mem_of_getElem? (i := 18) rfl)) rfl
theorem lkX12_448 : Lk RX12 448 yX12_bitsOf := gd (hcw8_2 _ (List.mem_of_getElem? (i := 2) rfl)) rfl
def mX12_find : MD := (yX12_find, cX12_find, 6, (some .int), 2, 50, 0, 0)
theorem ccX12_find : Cc mX12_find 1 := ⟨gd (hcw1_0 _ (List.mem_of_getElem? (i := 10) rfl)) rfl, gd (hcw8_1 _ (List.mem_of_getElem? (i := 17) rfl)) rfl, by decide +kernel, by decide +kernel, by decide +kernel⟩
theorem ivX12_find : Iv mX12_find 12 := ⟨Nat.le_of_ble_eq_true rfl, rfl, gd (hcw8_1 _ (List.mem_of_getElem? (i := 15) rfl)) rfl, gd (hcw8_1 _ (List.mem_of_getElem? (i := 16) rfl)) rfl⟩
noncomputable def fX12_find (Z : Shp) (M : Mem) (a0 : Nat) (x1 : Int32) : Option (Int32) := (if (fX12_in (x1.toInt64) (0 : Int64) (1 : Int64)) = 0 then some (-102 : Int32) else (Option.bind (loop (fun s5 : Int32 × Int32 × Int32 => (if tg Z a0 = (13, 86) then (if ((1 : Int32) <<< ((rI M a0 66) &&& 31)) ≤ s5.2.2 then some (Sum.inr (s5.1, s5.2.1)) else (Option.bind (fX12_explains Z M a0 s5.2.2) (fun v10 => (if v10 = 0 then some (Sum.inl (s5.1, s5.2.1, (s5.2.2 + (1 : Int32)))) else (Option.bind (if s5.1 = (-1 : Int32) then some (1 : Int32) else (Option.bind (fX12_bitsOf s5.2.2) (fun v17 => (Option.bind (fX12_bitsOf s5.1) (fun v19 => (if v19 ≤ v17 then some (0 : Int32) else some (1 : Int32))))))) (fun v16 : Int32 => (if v16 = 0 then (Option.bind (fX12_bitsOf s5.2.2) (fun v23 => (Option.bind (fX12_bitsOf s5.1) (fun v25 => (if v23 = v25 then (pu ((s5.2.1 + (1 : Int32))) (fun z28 => (if v16 = 0 then some (Sum.inl (s5.1, z28, (s5.2.2 + (1 : Int32)))) else some (Sum.inl (s5.2.2, z28, (s5.2.2 + (1 : Int32))))))) else (pu ((s5.2.1 + (0 : Int32))) (fun z30 => (if v16 = 0 then some (Sum.inl (s5.1, z30, (s5.2.2 + (1 : Int32)))) else some (Sum.inl (s5.2.2, z30, (s5.2.2 + (1 : Int32)))))))))))) else (if v16 = 0 then some (Sum.inl (s5.1, (0 : Int32), (s5.2.2 + (1 : Int32)))) else some (Sum.inl (s5.2.2, (0 : Int32), (s5.2.2 + (1 : Int32)))))))))))) else none)) ((-1 : Int32), (0 : Int32), (0 : Int32))) (fun v4 : Int32 × Int32 => (if x1 = 0 then some v4.1 else (if v4.1 = (-1 : Int32) then some v4.1 else some v4.2)))))
set_option maxRecDepth 20000 in
theorem kX12_find (l : Launch) (Z : Shp) (M : Mem) (a0 : Nat) (x1 : Int32) (r : Int32) (h : fX12_find Z M a0 x1 = some r) : Ct l mX12_find [vr a0, vi x1] Z M ((some (vi r)), Z, M) := by
  refine Ct.of rfl (Nat.le_of_ble_eq_true rfl) (fun X hM => ?_)
  have hX := hM.1
  refine r_top (mk := fun r => ((some (vi r)), Z, M)) h (fun K hK => ?_)
  unfold fX12_find
  refine r_iload_n (i := 1) (x := x1) (q := 1) 1 hX dX12_find_0 rfl rfl rfl ?_
  refine r_i2l (q := 2) hX dX12_find_1 rfl ?_
  refine r_lconst (v := (0 : Int64)) (q := 3) hX dX12_find_2 rfl rfl ?_
  refine r_lconst (v := (1 : Int64)) (q := 4) hX dX12_find_3 rfl rfl ?_
  refine r_cs (As := [vj (x1.toInt64), vj (0 : Int64), vj (1 : Int64)]) (st := []) (r := (some (vi (fX12_in (x1.toInt64) (0 : Int64) (1 : Int64))))) (Z1 := Z) (M1 := M) (k1 := 0) (n1 := 0) (st1 := [vi (fX12_in (x1.toInt64) (0 : Int64) (1 : Int64))]) (q := 7) hX (fun l => kX12_in l Z M (x1.toInt64) (0 : Int64) (1 : Int64)) stX12_in ccX12_in (Or.inl lkX12_194) rfl rfl rfl ⟨Nat.le_of_ble_eq_true rfl, Nat.le_of_ble_eq_true rfl, rfl, rfl, Nat.le_of_ble_eq_true rfl, Nat.le_of_ble_eq_true rfl⟩ (Nat.le_of_ble_eq_true rfl) dX12_find_4 rfl ?_
  refine r_if_ne (tgt := 13) (q := 10) hX dX12_find_7 (by decide) rfl (fun hb1 => ?_) (fun hb1 => ?_)
  · refine r_bipush (v := (-102 : Int32)) (q := 12) hX dX12_find_10 rfl rfl ?_
    refine r_lf (hK _) ?_
    exact r_iret hM rfl (Nat.le_of_ble_eq_true rfl) (Nat.le_of_ble_eq_true rfl) dX12_find_12
  · refine r_iconst (v := (-1 : Int32)) (q := 14) hX dX12_find_13 rfl rfl ?_
    refine r_istore_n (x := (-1 : Int32)) (q := 15) 2 [1, 2, 0] (L1 := [(0, vr a0), (1, vi x1), (2, vi (-1 : Int32))]) hX dX12_find_14 rfl (Nat.le_of_ble_eq_true rfl) rfl rfl ?_
    refine r_iconst (v := (0 : Int32)) (q := 16) hX dX12_find_15 rfl rfl ?_
    refine r_istore_n (x := (0 : Int32)) (q := 17) 3 [1, 2, 3, 0] (L1 := [(0, vr a0), (1, vi x1), (2, vi (-1 : Int32)), (3, vi (0 : Int32))]) hX dX12_find_16 rfl (Nat.le_of_ble_eq_true rfl) rfl rfl ?_
    refine r_iconst (v := (0 : Int32)) (q := 18) hX dX12_find_17 rfl rfl ?_
    refine r_istore (x := (0 : Int32)) (q := 20) 4 [1, 2, 3, 4, 0] (L1 := [(0, vr a0), (1, vi x1), (2, vi (-1 : Int32)), (3, vi (0 : Int32)), (4, vi (0 : Int32))]) hX dX12_find_18 (Nat.le_of_ble_eq_true rfl) rfl rfl ?_
    refine r_jn (J := fun (v4 : Int32 × Int32) (P : Option Res) => Ref mX12_find X 0 0 Z M 111 [(1, vi x1), (2, vi v4.1), (3, vi v4.2)] [] P) (fun v4 => ?_) (fun K1 hj2 => ?_)
    · refine r_iload_n (i := 1) (x := x1) (q := 112) 0 hX dX12_find_111 rfl rfl rfl ?_
      refine r_if_eq (tgt := 120) (q := 115) hX dX12_find_112 (by decide) rfl (fun hb33 => ?_) (fun hb33 => ?_)
      · refine r_iload_n (i := 2) (x := v4.1) (q := 121) 1 hX dX12_find_120 rfl rfl rfl ?_
        refine r_goto (q := 125) hX dX12_find_121 (by decide) ?_
        refine r_lf (hK _) ?_
        exact r_iret hM rfl (Nat.le_of_ble_eq_true rfl) (Nat.le_of_ble_eq_true rfl) dX12_find_125
      · refine r_iload_n (i := 2) (x := v4.1) (q := 116) 1 hX dX12_find_115 rfl rfl rfl ?_
        refine r_iconst (v := (-1 : Int32)) (q := 117) hX dX12_find_116 rfl rfl ?_
        refine r_icmp_ne (tgt := 124) (q := 120) hX dX12_find_117 (by decide) rfl (fun hb34 => ?_) (fun hb34 => ?_)
        · refine r_iload_n (i := 2) (x := v4.1) (q := 121) 1 hX dX12_find_120 rfl rfl rfl ?_
          refine r_goto (q := 125) hX dX12_find_121 (by decide) ?_
          refine r_lf (hK _) ?_
          exact r_iret hM rfl (Nat.le_of_ble_eq_true rfl) (Nat.le_of_ble_eq_true rfl) dX12_find_125
        · refine r_iload_n (i := 3) (x := v4.2) (q := 125) 2 hX dX12_find_124 rfl rfl rfl ?_
          refine r_lf (hK _) ?_
          exact r_iret hM rfl (Nat.le_of_ble_eq_true rfl) (Nat.le_of_ble_eq_true rfl) dX12_find_125
    · refine r_loop (Hd := fun (s5 : Int32 × Int32 × Int32) (P : Option Res) => Ref mX12_find X 0 0 Z M 20 [(0, vr a0), (1, vi x1), (2, vi s5.1), (3, vi s5.2.1), (4, vi s5.2.2)] [] P) (fun _ => r_none) (fun s5 K1 hn6 hx7 => ?_) ((-1 : Int32), (0 : Int32), (0 : Int32))
      refine r_iload (i := 4) (x := s5.2.2) (q := 22) 4 hX dX12_find_20 rfl rfl ?_
      refine r_iconst (v := (1 : Int32)) (q := 23) hX dX12_find_22 rfl rfl ?_
      refine r_aload_n (i := 0) (x := a0) (q := 24) 0 hX dX12_find_23 rfl rfl rfl ?_
      refine r_ck (fun hc8 => ?_)
      refine r_getI (a := a0) (ci := 12) (kf := 66) (q := 27) hX hc8 flX12_440 rfl rfl dX12_find_24 rfl ?_
      refine r_ishl (q := 28) hX dX12_find_27 rfl ?_
      refine r_icmp_ge (tgt := 111) (q := 31) hX dX12_find_28 (by decide) rfl (fun hb9 => ?_) (fun hb9 => ?_)
      · refine r_lf (hx7 _) ?_
        refine r_sub [1, 2, 3] rfl ?_
        exact hj2 (s5.1, s5.2.1)
      · refine r_aload_n (i := 0) (x := a0) (q := 32) 0 hX dX12_find_31 rfl rfl rfl ?_
        refine r_iload (i := 4) (x := s5.2.2) (q := 34) 4 hX dX12_find_32 rfl rfl ?_
        refine r_bind (fun v10 h11 => ?_)
        refine r_cv (a := a0) (As := [vi s5.2.2]) (st := []) (r := (some (vi v10))) (Z1 := Z) (M1 := M) (k1 := 0) (n1 := 0) (st1 := [vi v10]) (q := 37) hX (fun l => kX12_explains l Z M a0 s5.2.2 v10 h11) hc8 ivX12_explains ccX12_explains (Or.inl lkX12_445) rfl rfl rfl ⟨Nat.le_of_ble_eq_true rfl, Nat.le_of_ble_eq_true rfl, rfl, rfl, Nat.le_of_ble_eq_true rfl, Nat.le_of_ble_eq_true rfl⟩ (Nat.le_of_ble_eq_true rfl) dX12_find_34 rfl ?_
        refine r_if_eq (tgt := 105) (q := 40) hX dX12_find_37 (by decide) rfl (fun hb12 => ?_) (fun hb12 => ?_)
        · refine r_iinc (x := s5.2.2) (v := (s5.2.2 + (1 : Int32))) (q := 108) 4 4 [1, 2, 3, 4, 0] (L1 := [(0, vr a0), (1, vi x1), (2, vi s5.1), (3, vi s5.2.1), (4, vi (s5.2.2 + (1 : Int32)))]) hX dX12_find_105 rfl rfl (Nat.le_of_ble_eq_true rfl) rfl rfl ?_
          refine r_goto (q := 20) hX dX12_find_108 (by decide) ?_
          refine r_l0 ?_
          exact hn6 (s5.1, s5.2.1, (s5.2.2 + (1 : Int32)))
        · refine r_iload_n (i := 2) (x := s5.1) (q := 41) 2 hX dX12_find_40 rfl rfl rfl ?_
          refine r_iconst (v := (-1 : Int32)) (q := 42) hX dX12_find_41 rfl rfl ?_
          refine r_jn (J := fun (v16 : Int32) (P : Option Res) => Ref mX12_find X 0 0 Z M 62 [(0, vr a0), (1, vi x1), (2, vi s5.1), (3, vi s5.2.1), (4, vi s5.2.2)] [vi v16] P) (fun v16 => ?_) (fun K1 hj14 => ?_)
          · refine r_istore (x := v16) (q := 64) 5 [1, 2, 3, 4, 5, 0] (L1 := [(0, vr a0), (1, vi x1), (2, vi s5.1), (3, vi s5.2.1), (4, vi s5.2.2), (5, vi v16)]) hX dX12_find_62 (Nat.le_of_ble_eq_true rfl) rfl rfl ?_
            refine r_iload (i := 5) (x := v16) (q := 66) 5 hX dX12_find_64 rfl rfl ?_
            refine r_if_eq (tgt := 73) (q := 69) hX dX12_find_66 (by decide) rfl (fun hb22 => ?_) (fun hb22 => ?_)
            · refine r_iload_n (i := 3) (x := s5.2.1) (q := 74) 3 hX dX12_find_73 rfl rfl rfl ?_
              refine r_iload (i := 4) (x := s5.2.2) (q := 76) 4 hX dX12_find_74 rfl rfl ?_
              refine r_bind (fun v23 h24 => ?_)
              refine r_cs (As := [vi s5.2.2]) (st := [vi s5.2.1]) (r := (some (vi v23))) (Z1 := Z) (M1 := M) (k1 := 0) (n1 := 0) (st1 := [vi v23, vi s5.2.1]) (q := 79) hX (fun l => kX12_bitsOf l Z M s5.2.2 v23 h24) stX12_bitsOf ccX12_bitsOf (Or.inl lkX12_448) rfl rfl rfl ⟨Nat.le_of_ble_eq_true rfl, Nat.le_of_ble_eq_true rfl, rfl, rfl, Nat.le_of_ble_eq_true rfl, Nat.le_of_ble_eq_true rfl⟩ (Nat.le_of_ble_eq_true rfl) dX12_find_76 rfl ?_
              refine r_iload_n (i := 2) (x := s5.1) (q := 80) 2 hX dX12_find_79 rfl rfl rfl ?_
              refine r_bind (fun v25 h26 => ?_)
              refine r_cs (As := [vi s5.1]) (st := [vi v23, vi s5.2.1]) (r := (some (vi v25))) (Z1 := Z) (M1 := M) (k1 := 0) (n1 := 0) (st1 := [vi v25, vi v23, vi s5.2.1]) (q := 83) hX (fun l => kX12_bitsOf l Z M s5.1 v25 h26) stX12_bitsOf ccX12_bitsOf (Or.inl lkX12_448) rfl rfl rfl ⟨Nat.le_of_ble_eq_true rfl, Nat.le_of_ble_eq_true rfl, rfl, rfl, Nat.le_of_ble_eq_true rfl, Nat.le_of_ble_eq_true rfl⟩ (Nat.le_of_ble_eq_true rfl) dX12_find_80 rfl ?_
              refine r_icmp_ne (tgt := 90) (q := 86) hX dX12_find_83 (by decide) rfl (fun hb27 => ?_) (fun hb27 => ?_)
              · refine r_iconst (v := (1 : Int32)) (q := 87) hX dX12_find_86 rfl rfl ?_
                refine r_goto (q := 91) hX dX12_find_87 (by decide) ?_
                refine r_iadd (q := 92) hX dX12_find_91 rfl ?_
                refine r_istore_nP (x := (s5.2.1 + (1 : Int32))) (q := 93) 3 [1, 2, 3, 0, 5, 6] (fun z28 => [(0, vr a0), (1, vi x1), (2, vi s5.1), (3, vi z28), (4, vi s5.2.2), (5, vi v16)]) hX dX12_find_92 rfl (Nat.le_of_ble_eq_true rfl) (fun _ => rfl) rfl (fun z28 => ?_)
                refine r_iload (i := 5) (x := v16) (q := 95) 5 hX dX12_find_93 rfl rfl ?_
                refine r_if_eq (tgt := 103) (q := 98) hX dX12_find_95 (by decide) rfl (fun hb29 => ?_) (fun hb29 => ?_)
                · refine r_iload_n (i := 2) (x := s5.1) (q := 104) 2 hX dX12_find_103 rfl rfl rfl ?_
                  refine r_istore_n (x := s5.1) (q := 105) 2 [1, 2, 0, 4, 5, 6] (L1 := [(0, vr a0), (1, vi x1), (2, vi s5.1), (3, vi z28), (4, vi s5.2.2), (5, vi v16)]) hX dX12_find_104 rfl (Nat.le_of_ble_eq_true rfl) rfl rfl ?_
                  refine r_iinc (x := s5.2.2) (v := (s5.2.2 + (1 : Int32))) (q := 108) 4 4 [1, 2, 3, 4, 0, 6] (L1 := [(0, vr a0), (1, vi x1), (2, vi s5.1), (3, vi z28), (4, vi (s5.2.2 + (1 : Int32))), (5, vi v16)]) hX dX12_find_105 rfl rfl (Nat.le_of_ble_eq_true rfl) rfl rfl ?_
                  refine r_goto (q := 20) hX dX12_find_108 (by decide) ?_
                  refine r_l0 ?_
                  refine r_sub [0, 1, 2, 3, 4] rfl ?_
                  exact hn6 (s5.1, z28, (s5.2.2 + (1 : Int32)))
                · refine r_iload (i := 4) (x := s5.2.2) (q := 100) 4 hX dX12_find_98 rfl rfl ?_
                  refine r_goto (q := 104) hX dX12_find_100 (by decide) ?_
                  refine r_istore_n (x := s5.2.2) (q := 105) 2 [1, 2, 0, 4, 5, 6] (L1 := [(0, vr a0), (1, vi x1), (2, vi s5.2.2), (3, vi z28), (4, vi s5.2.2), (5, vi v16)]) hX dX12_find_104 rfl (Nat.le_of_ble_eq_true rfl) rfl rfl ?_
                  refine r_iinc (x := s5.2.2) (v := (s5.2.2 + (1 : Int32))) (q := 108) 4 4 [1, 2, 3, 4, 0, 6] (L1 := [(0, vr a0), (1, vi x1), (2, vi s5.2.2), (3, vi z28), (4, vi (s5.2.2 + (1 : Int32))), (5, vi v16)]) hX dX12_find_105 rfl rfl (Nat.le_of_ble_eq_true rfl) rfl rfl ?_
                  refine r_goto (q := 20) hX dX12_find_108 (by decide) ?_
                  refine r_l0 ?_
                  refine r_sub [0, 1, 2, 3, 4] rfl ?_
                  exact hn6 (s5.2.2, z28, (s5.2.2 + (1 : Int32)))
              · refine r_iconst (v := (0 : Int32)) (q := 91) hX dX12_find_90 rfl rfl ?_
                refine r_iadd (q := 92) hX dX12_find_91 rfl ?_
                refine r_istore_nP (x := (s5.2.1 + (0 : Int32))) (q := 93) 3 [1, 2, 3, 0, 5, 6] (fun z30 => [(0, vr a0), (1, vi x1), (2, vi s5.1), (3, vi z30), (4, vi s5.2.2), (5, vi v16)]) hX dX12_find_92 rfl (Nat.le_of_ble_eq_true rfl) (fun _ => rfl) rfl (fun z30 => ?_)
                refine r_iload (i := 5) (x := v16) (q := 95) 5 hX dX12_find_93 rfl rfl ?_
                refine r_if_eq (tgt := 103) (q := 98) hX dX12_find_95 (by decide) rfl (fun hb31 => ?_) (fun hb31 => ?_)
                · refine r_iload_n (i := 2) (x := s5.1) (q := 104) 2 hX dX12_find_103 rfl rfl rfl ?_
                  refine r_istore_n (x := s5.1) (q := 105) 2 [1, 2, 0, 4, 5, 6] (L1 := [(0, vr a0), (1, vi x1), (2, vi s5.1), (3, vi z30), (4, vi s5.2.2), (5, vi v16)]) hX dX12_find_104 rfl (Nat.le_of_ble_eq_true rfl) rfl rfl ?_
                  refine r_iinc (x := s5.2.2) (v := (s5.2.2 + (1 : Int32))) (q := 108) 4 4 [1, 2, 3, 4, 0, 6] (L1 := [(0, vr a0), (1, vi x1), (2, vi s5.1), (3, vi z30), (4, vi (s5.2.2 + (1 : Int32))), (5, vi v16)]) hX dX12_find_105 rfl rfl (Nat.le_of_ble_eq_true rfl) rfl rfl ?_
                  refine r_goto (q := 20) hX dX12_find_108 (by decide) ?_
                  refine r_l0 ?_
                  refine r_sub [0, 1, 2, 3, 4] rfl ?_
                  exact hn6 (s5.1, z30, (s5.2.2 + (1 : Int32)))
                · refine r_iload (i := 4) (x := s5.2.2) (q := 100) 4 hX dX12_find_98 rfl rfl ?_
                  refine r_goto (q := 104) hX dX12_find_100 (by decide) ?_
                  refine r_istore_n (x := s5.2.2) (q := 105) 2 [1, 2, 0, 4, 5, 6] (L1 := [(0, vr a0), (1, vi x1), (2, vi s5.2.2), (3, vi z30), (4, vi s5.2.2), (5, vi v16)]) hX dX12_find_104 rfl (Nat.le_of_ble_eq_true rfl) rfl rfl ?_
                  refine r_iinc (x := s5.2.2) (v := (s5.2.2 + (1 : Int32))) (q := 108) 4 4 [1, 2, 3, 4, 0, 6] (L1 := [(0, vr a0), (1, vi x1), (2, vi s5.2.2), (3, vi z30), (4, vi (s5.2.2 + (1 : Int32))), (5, vi v16)]) hX dX12_find_105 rfl rfl (Nat.le_of_ble_eq_true rfl) rfl rfl ?_
                  refine r_goto (q := 20) hX dX12_find_108 (by decide) ?_
                  refine r_l0 ?_
                  refine r_sub [0, 1, 2, 3, 4] rfl ?_
                  exact hn6 (s5.2.2, z30, (s5.2.2 + (1 : Int32)))
            · refine r_iconst (v := (0 : Int32)) (q := 70) hX dX12_find_69 rfl rfl ?_
              refine r_goto (q := 92) hX dX12_find_70 (by decide) ?_
              refine r_istore_n (x := (0 : Int32)) (q := 93) 3 [1, 2, 3, 0, 5, 6] (L1 := [(0, vr a0), (1, vi x1), (2, vi s5.1), (3, vi (0 : Int32)), (4, vi s5.2.2), (5, vi v16)]) hX dX12_find_92 rfl (Nat.le_of_ble_eq_true rfl) rfl rfl ?_
              refine r_iload (i := 5) (x := v16) (q := 95) 5 hX dX12_find_93 rfl rfl ?_
              refine r_if_eq (tgt := 103) (q := 98) hX dX12_find_95 (by decide) rfl (fun hb32 => ?_) (fun hb32 => ?_)
              · refine r_iload_n (i := 2) (x := s5.1) (q := 104) 2 hX dX12_find_103 rfl rfl rfl ?_
                refine r_istore_n (x := s5.1) (q := 105) 2 [1, 2, 0, 4, 5, 6] (L1 := [(0, vr a0), (1, vi x1), (2, vi s5.1), (3, vi (0 : Int32)), (4, vi s5.2.2), (5, vi v16)]) hX dX12_find_104 rfl (Nat.le_of_ble_eq_true rfl) rfl rfl ?_
                refine r_iinc (x := s5.2.2) (v := (s5.2.2 + (1 : Int32))) (q := 108) 4 4 [1, 2, 3, 4, 0, 6] (L1 := [(0, vr a0), (1, vi x1), (2, vi s5.1), (3, vi (0 : Int32)), (4, vi (s5.2.2 + (1 : Int32))), (5, vi v16)]) hX dX12_find_105 rfl rfl (Nat.le_of_ble_eq_true rfl) rfl rfl ?_
                refine r_goto (q := 20) hX dX12_find_108 (by decide) ?_
                refine r_l0 ?_
                refine r_sub [0, 1, 2, 3, 4] rfl ?_
                exact hn6 (s5.1, (0 : Int32), (s5.2.2 + (1 : Int32)))
              · refine r_iload (i := 4) (x := s5.2.2) (q := 100) 4 hX dX12_find_98 rfl rfl ?_
                refine r_goto (q := 104) hX dX12_find_100 (by decide) ?_
                refine r_istore_n (x := s5.2.2) (q := 105) 2 [1, 2, 0, 4, 5, 6] (L1 := [(0, vr a0), (1, vi x1), (2, vi s5.2.2), (3, vi (0 : Int32)), (4, vi s5.2.2), (5, vi v16)]) hX dX12_find_104 rfl (Nat.le_of_ble_eq_true rfl) rfl rfl ?_
                refine r_iinc (x := s5.2.2) (v := (s5.2.2 + (1 : Int32))) (q := 108) 4 4 [1, 2, 3, 4, 0, 6] (L1 := [(0, vr a0), (1, vi x1), (2, vi s5.2.2), (3, vi (0 : Int32)), (4, vi (s5.2.2 + (1 : Int32))), (5, vi v16)]) hX dX12_find_105 rfl rfl (Nat.le_of_ble_eq_true rfl) rfl rfl ?_
                refine r_goto (q := 20) hX dX12_find_108 (by decide) ?_
                refine r_l0 ?_
                refine r_sub [0, 1, 2, 3, 4] rfl ?_
                exact hn6 (s5.2.2, (0 : Int32), (s5.2.2 + (1 : Int32)))
          · refine r_icmp_eq (tgt := 57) (q := 45) hX dX12_find_42 (by decide) rfl (fun hb13 => ?_) (fun hb13 => ?_)
            · refine r_iconst (v := (1 : Int32)) (q := 58) hX dX12_find_57 rfl rfl ?_
              refine r_goto (q := 62) hX dX12_find_58 (by decide) ?_
              refine r_l0 ?_
              exact hj14 (1 : Int32)
            · refine r_iload (i := 4) (x := s5.2.2) (q := 47) 4 hX dX12_find_45 rfl rfl ?_
              refine r_bind (fun v17 h18 => ?_)
              refine r_cs (As := [vi s5.2.2]) (st := []) (r := (some (vi v17))) (Z1 := Z) (M1 := M) (k1 := 0) (n1 := 0) (st1 := [vi v17]) (q := 50) hX (fun l => kX12_bitsOf l Z M s5.2.2 v17 h18) stX12_bitsOf ccX12_bitsOf (Or.inl lkX12_448) rfl rfl rfl ⟨Nat.le_of_ble_eq_true rfl, Nat.le_of_ble_eq_true rfl, rfl, rfl, Nat.le_of_ble_eq_true rfl, Nat.le_of_ble_eq_true rfl⟩ (Nat.le_of_ble_eq_true rfl) dX12_find_47 rfl ?_
              refine r_iload_n (i := 2) (x := s5.1) (q := 51) 2 hX dX12_find_50 rfl rfl rfl ?_
              refine r_bind (fun v19 h20 => ?_)
              refine r_cs (As := [vi s5.1]) (st := [vi v17]) (r := (some (vi v19))) (Z1 := Z) (M1 := M) (k1 := 0) (n1 := 0) (st1 := [vi v19, vi v17]) (q := 54) hX (fun l => kX12_bitsOf l Z M s5.1 v19 h20) stX12_bitsOf ccX12_bitsOf (Or.inl lkX12_448) rfl rfl rfl ⟨Nat.le_of_ble_eq_true rfl, Nat.le_of_ble_eq_true rfl, rfl, rfl, Nat.le_of_ble_eq_true rfl, Nat.le_of_ble_eq_true rfl⟩ (Nat.le_of_ble_eq_true rfl) dX12_find_51 rfl ?_
              refine r_icmp_ge (tgt := 61) (q := 57) hX dX12_find_54 (by decide) rfl (fun hb21 => ?_) (fun hb21 => ?_)
              · refine r_iconst (v := (0 : Int32)) (q := 62) hX dX12_find_61 rfl rfl ?_
                refine r_l0 ?_
                exact hj14 (0 : Int32)
              · refine r_iconst (v := (1 : Int32)) (q := 58) hX dX12_find_57 rfl rfl ?_
                refine r_goto (q := 62) hX dX12_find_58 (by decide) ?_
                refine r_l0 ?_
                exact hj14 (1 : Int32)
