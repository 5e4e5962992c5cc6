theorem lkL_9 : Lk "CanalCompanyLaw" 9 yX11_init := gd (hcw1_1 _ (List.mem_of_getElem? (i := 0) rfl)) rfl
theorem lkL_12 : Lk "CanalCompanyLaw" 12 yX12_init := gd (hcw5_9 _ (List.mem_of_getElem? (i := 11) rfl)) rfl
theorem lkL_13 : Lk "CanalCompanyLaw" 13 yX11_pound := gd (hcw2_3 _ (List.mem_of_getElem? (i := 11) rfl)) rfl
theorem lkL_17 : Lk "CanalCompanyLaw" 17 yX12_pound := gd (hcw6_10 _ (List.mem_of_getElem? (i := 14) rfl)) rfl
theorem lkL_18 : Lk "CanalCompanyLaw" 18 yX11_summit := gd (hcw2_4 _ (List.mem_of_getElem? (i := 19) rfl)) rfl
theorem lkL_22 : Lk "CanalCompanyLaw" 22 yX12_summit := gd (hcw6_11 _ (List.mem_of_getElem? (i := 11) rfl)) rfl
theorem lkL_23 : Lk "CanalCompanyLaw" 23 yX11_lock := gd (hcw2_5 _ (List.mem_of_getElem? (i := 3) rfl)) rfl
theorem lkL_26 : Lk "CanalCompanyLaw" 26 yX12_lock := gd (hcw6_11 _ (List.mem_of_getElem? (i := 16) rfl)) rfl
theorem lkL_27 : Lk "CanalCompanyLaw" 27 yX11_taker := gd (hcw2_6 _ (List.mem_of_getElem? (i := 4) rfl)) rfl
theorem lkL_31 : Lk "CanalCompanyLaw" 31 yX12_taker := gd (hcw7_0 _ (List.mem_of_getElem? (i := 6) rfl)) rfl
theorem lkL_32 : Lk "CanalCompanyLaw" 32 yX11_as := gd (hcw2_7 _ (List.mem_of_getElem? (i := 19) rfl)) rfl
theorem lkL_36 : Lk "CanalCompanyLaw" 36 yX12_as := gd (hcw7_0 _ (List.mem_of_getElem? (i := 12) rfl)) rfl
theorem lkL_37 : Lk "CanalCompanyLaw" 37 yX11_acts := gd (hcw2_8 _ (List.mem_of_getElem? (i := 11) rfl)) rfl
theorem lkL_40 : Lk "CanalCompanyLaw" 40 yX12_acts := gd (hcw7_1 _ (List.mem_of_getElem? (i := 0) rfl)) rfl
theorem lkL_41 : Lk "CanalCompanyLaw" 41 yX11_boat := gd (hcw2_9 _ (List.mem_of_getElem? (i := 8) rfl)) rfl
theorem lkL_45 : Lk "CanalCompanyLaw" 45 yX12_boat := gd (hcw7_1 _ (List.mem_of_getElem? (i := 10) rfl)) rfl
theorem lkL_46 : Lk "CanalCompanyLaw" 46 yX11_hour := gd (hcw3_0 _ (List.mem_of_getElem? (i := 10) rfl)) rfl
theorem lkL_49 : Lk "CanalCompanyLaw" 49 yX12_hour := gd (hcw7_2 _ (List.mem_of_getElem? (i := 12) rfl)) rfl
theorem lkL_50 : Lk "CanalCompanyLaw" 50 yX11_hours := gd (hcw3_4 _ (List.mem_of_getElem? (i := 16) rfl)) rfl
theorem lkL_53 : Lk "CanalCompanyLaw" 53 yX12_hours := gd (hcw7_5 _ (List.mem_of_getElem? (i := 8) rfl)) rfl
theorem lkL_54 : Lk "CanalCompanyLaw" 54 yX11_at := gd (hcw3_4 _ (List.mem_of_getElem? (i := 17) rfl)) rfl
theorem lkL_57 : Lk "CanalCompanyLaw" 57 yX12_at := gd (hcw7_1 _ (List.mem_of_getElem? (i := 16) rfl)) rfl
theorem lkL_58 : Lk "CanalCompanyLaw" 58 yX11_lockIs := gd (hcw3_5 _ (List.mem_of_getElem? (i := 9) rfl)) rfl
theorem lkL_61 : Lk "CanalCompanyLaw" 61 yX12_lockIs := gd (hcw7_5 _ (List.mem_of_getElem? (i := 13) rfl)) rfl
theorem lkL_62 : Lk "CanalCompanyLaw" 62 yX11_now := gd (hcw3_5 _ (List.mem_of_getElem? (i := 17) rfl)) rfl
theorem lkL_65 : Lk "CanalCompanyLaw" 65 yX12_now := gd (hcw7_0 _ (List.mem_of_getElem? (i := 2) rfl)) rfl
theorem lkL_66 : Lk "CanalCompanyLaw" 66 yX11_sum := gd (hcw3_6 _ (List.mem_of_getElem? (i := 2) rfl)) rfl
theorem lkL_70 : Lk "CanalCompanyLaw" 70 yX12_sum := gd (hcw7_6 _ (List.mem_of_getElem? (i := 1) rfl)) rfl
theorem lkL_73 : Lk "CanalCompanyLaw" 73 yX11_letters := gd (hcw3_7 _ (List.mem_of_getElem? (i := 4) rfl)) rfl
theorem lkL_77 : Lk "CanalCompanyLaw" 77 yX12_letters := gd (hcw7_6 _ (List.mem_of_getElem? (i := 11) rfl)) rfl
theorem lkL_78 : Lk "CanalCompanyLaw" 78 yX11_blank := gd (hcw3_7 _ (List.mem_of_getElem? (i := 18) rfl)) rfl
theorem lkL_82 : Lk "CanalCompanyLaw" 82 yX12_blank := gd (hcw7_6 _ (List.mem_of_getElem? (i := 16) rfl)) rfl
theorem lkL_83 : Lk "CanalCompanyLaw" 83 yX11_fault := gd (hcw3_8 _ (List.mem_of_getElem? (i := 2) rfl)) rfl
theorem lkL_86 : Lk "CanalCompanyLaw" 86 yX12_fault := gd (hcw7_7 _ (List.mem_of_getElem? (i := 0) rfl)) rfl
theorem lkL_87 : Lk "CanalCompanyLaw" 87 yX11_text := gd (hcw3_9 _ (List.mem_of_getElem? (i := 11) rfl)) rfl
theorem lkL_90 : Lk "CanalCompanyLaw" 90 yX12_text := gd (hcw7_9 _ (List.mem_of_getElem? (i := 0) rfl)) rfl
theorem lkL_91 : Lk "CanalCompanyLaw" 91 yX11_force := gd (hcw4_0 _ (List.mem_of_getElem? (i := 8) rfl)) rfl
theorem lkL_94 : Lk "CanalCompanyLaw" 94 yX12_force := gd (hcw7_9 _ (List.mem_of_getElem? (i := 4) rfl)) rfl
theorem lkL_95 : Lk "CanalCompanyLaw" 95 yX11_speaks := gd (hcw4_0 _ (List.mem_of_getElem? (i := 16) rfl)) rfl
theorem lkL_98 : Lk "CanalCompanyLaw" 98 yX12_speaks := gd (hcw7_9 _ (List.mem_of_getElem? (i := 12) rfl)) rfl
theorem lkL_99 : Lk "CanalCompanyLaw" 99 yX11_quarrel := gd (hcw4_2 _ (List.mem_of_getElem? (i := 2) rfl)) rfl
theorem lkL_102 : Lk "CanalCompanyLaw" 102 yX12_quarrel := gd (hcw7_10 _ (List.mem_of_getElem? (i := 12) rfl)) rfl
theorem lkL_103 : Lk "CanalCompanyLaw" 103 yX11_toll := gd (hcw4_2 _ (List.mem_of_getElem? (i := 11) rfl)) rfl
theorem lkL_106 : Lk "CanalCompanyLaw" 106 yX12_toll := gd (hcw7_10 _ (List.mem_of_getElem? (i := 16) rfl)) rfl
theorem lkL_107 : Lk "CanalCompanyLaw" 107 yX11_comer := gd (hcw4_3 _ (List.mem_of_getElem? (i := 4) rfl)) rfl
theorem lkL_111 : Lk "CanalCompanyLaw" 111 yX12_comer := gd (hcw7_11 _ (List.mem_of_getElem? (i := 8) rfl)) rfl
theorem lkL_112 : Lk "CanalCompanyLaw" 112 yX11_clear := gd (hcw4_3 _ (List.mem_of_getElem? (i := 12) rfl)) rfl
theorem lkL_115 : Lk "CanalCompanyLaw" 115 yX12_clear := gd (hcw7_11 _ (List.mem_of_getElem? (i := 13) rfl)) rfl
theorem lkL_116 : Lk "CanalCompanyLaw" 116 yX11_turn := gd (hcw4_4 _ (List.mem_of_getElem? (i := 0) rfl)) rfl
theorem lkL_119 : Lk "CanalCompanyLaw" 119 yX12_turn := gd (hcw7_11 _ (List.mem_of_getElem? (i := 17) rfl)) rfl
theorem lkL_120 : Lk "CanalCompanyLaw" 120 yX11_judge := gd (hcw4_7 _ (List.mem_of_getElem? (i := 8) rfl)) rfl
theorem lkL_123 : Lk "CanalCompanyLaw" 123 yX12_judge := gd (hcw8_0 _ (List.mem_of_getElem? (i := 9) rfl)) rfl
theorem lkL_124 : Lk "CanalCompanyLaw" 124 yX11_dry := gd (hcw4_8 _ (List.mem_of_getElem? (i := 4) rfl)) rfl
theorem lkL_128 : Lk "CanalCompanyLaw" 128 yX12_dry := gd (hcw8_0 _ (List.mem_of_getElem? (i := 13) rfl)) rfl
theorem lkL_129 : Lk "CanalCompanyLaw" 129 yX11_bank := gd (hcw4_8 _ (List.mem_of_getElem? (i := 13) rfl)) rfl
theorem lkL_132 : Lk "CanalCompanyLaw" 132 yX12_bank := gd (hcw8_0 _ (List.mem_of_getElem? (i := 17) rfl)) rfl
theorem lkL_133 : Lk "CanalCompanyLaw" 133 yX11_read := gd (hcw4_9 _ (List.mem_of_getElem? (i := 1) rfl)) rfl
theorem lkL_136 : Lk "CanalCompanyLaw" 136 yX12_read := gd (hcw8_1 _ (List.mem_of_getElem? (i := 2) rfl)) rfl
theorem lkL_137 : Lk "CanalCompanyLaw" 137 yX11_unread := gd (hcw4_9 _ (List.mem_of_getElem? (i := 9) rfl)) rfl
theorem lkL_140 : Lk "CanalCompanyLaw" 140 yX12_unread := gd (hcw8_1 _ (List.mem_of_getElem? (i := 6) rfl)) rfl
theorem lkL_141 : Lk "CanalCompanyLaw" 141 yX11_find := gd (hcw4_10 _ (List.mem_of_getElem? (i := 1) rfl)) rfl
theorem lkL_144 : Lk "CanalCompanyLaw" 144 yX12_find := gd (hcw8_1 _ (List.mem_of_getElem? (i := 14) rfl)) rfl
theorem lkL_145 : Lk "CanalCompanyLaw" 145 yX11_bill := gd (hcw4_11 _ (List.mem_of_getElem? (i := 6) rfl)) rfl
theorem lkL_148 : Lk "CanalCompanyLaw" 148 yX12_bill := gd (hcw8_2 _ (List.mem_of_getElem? (i := 5) rfl)) rfl
theorem lkL_149 : Lk "CanalCompanyLaw" 149 yX11_pay := gd (hcw4_11 _ (List.mem_of_getElem? (i := 10) rfl)) rfl
theorem lkL_152 : Lk "CanalCompanyLaw" 152 yX12_pay := gd (hcw8_2 _ (List.mem_of_getElem? (i := 9) rfl)) rfl
theorem lkL_153 : Lk "CanalCompanyLaw" 153 yX11_debt := gd (hcw4_11 _ (List.mem_of_getElem? (i := 16) rfl)) rfl
theorem lkL_156 : Lk "CanalCompanyLaw" 156 yX12_debt := gd (hcw8_2 _ (List.mem_of_getElem? (i := 17) rfl)) rfl
theorem lkL_157 : Lk "CanalCompanyLaw" 157 yX11_failed := gd (hcw5_0 _ (List.mem_of_getElem? (i := 8) rfl)) rfl
theorem lkL_160 : Lk "CanalCompanyLaw" 160 yX12_failed := gd (hcw8_3 _ (List.mem_of_getElem? (i := 1) rfl)) rfl
theorem lkL_161 : Lk "CanalCompanyLaw" 161 yX11_shares := gd (hcw5_1 _ (List.mem_of_getElem? (i := 6) rfl)) rfl
theorem lkL_164 : Lk "CanalCompanyLaw" 164 yX12_shares := gd (hcw8_3 _ (List.mem_of_getElem? (i := 6) rfl)) rfl
theorem lkL_165 : Lk "CanalCompanyLaw" 165 yX11_pass := gd (hcw5_1 _ (List.mem_of_getElem? (i := 10) rfl)) rfl
theorem lkL_168 : Lk "CanalCompanyLaw" 168 yX12_pass := gd (hcw8_3 _ (List.mem_of_getElem? (i := 14) rfl)) rfl
theorem lkL_169 : Lk "CanalCompanyLaw" 169 yX11_had := gd (hcw5_2 _ (List.mem_of_getElem? (i := 6) rfl)) rfl
theorem lkL_172 : Lk "CanalCompanyLaw" 172 yX12_had := gd (hcw8_4 _ (List.mem_of_getElem? (i := 2) rfl)) rfl
theorem lkL_173 : Lk "CanalCompanyLaw" 173 yX11_dividend := gd (hcw5_2 _ (List.mem_of_getElem? (i := 10) rfl)) rfl
theorem lkL_176 : Lk "CanalCompanyLaw" 176 yX12_dividend := gd (hcw8_4 _ (List.mem_of_getElem? (i := 6) rfl)) rfl
theorem lkL_177 : Lk "CanalCompanyLaw" 177 yX11_rate := gd (hcw5_3 _ (List.mem_of_getElem? (i := 3) rfl)) rfl
theorem lkL_180 : Lk "CanalCompanyLaw" 180 yX12_rate := gd (hcw8_4 _ (List.mem_of_getElem? (i := 10) rfl)) rfl
theorem lkL_181 : Lk "CanalCompanyLaw" 181 yX11_over := gd (hcw5_3 _ (List.mem_of_getElem? (i := 7) rfl)) rfl
theorem lkL_184 : Lk "CanalCompanyLaw" 184 yX12_over := gd (hcw8_4 _ (List.mem_of_getElem? (i := 14) rfl)) rfl
theorem lkL_185 : Lk "CanalCompanyLaw" 185 yX11_bestPence := gd (hcw5_3 _ (List.mem_of_getElem? (i := 16) rfl)) rfl
theorem lkL_188 : Lk "CanalCompanyLaw" 188 yX12_bestPence := gd (hcw8_5 _ (List.mem_of_getElem? (i := 2) rfl)) rfl
theorem lkL_189 : Lk "CanalCompanyLaw" 189 yX11_work := gd (hcw5_4 _ (List.mem_of_getElem? (i := 4) rfl)) rfl
theorem lkL_192 : Lk "CanalCompanyLaw" 192 yX12_work := gd (hcw8_5 _ (List.mem_of_getElem? (i := 6) rfl)) rfl
theorem lkL_193 : Lk "CanalCompanyLaw" 193 yX11_plan := gd (hcw5_4 _ (List.mem_of_getElem? (i := 12) rfl)) rfl
theorem lkL_196 : Lk "CanalCompanyLaw" 196 yX12_plan := gd (hcw8_5 _ (List.mem_of_getElem? (i := 10) rfl)) rfl
theorem lkL_197 : Lk "CanalCompanyLaw" 197 yX11_count := gd (hcw5_6 _ (List.mem_of_getElem? (i := 3) rfl)) rfl
theorem lkL_200 : Lk "CanalCompanyLaw" 200 yX12_count := gd (hcw8_5 _ (List.mem_of_getElem? (i := 14) rfl)) rfl
theorem lkL_201 : Lk "CanalCompanyLaw" 201 yX11_digest := gd (hcw5_6 _ (List.mem_of_getElem? (i := 12) rfl)) rfl
theorem lkL_205 : Lk "CanalCompanyLaw" 205 yX12_digest := gd (hcw8_6 _ (List.mem_of_getElem? (i := 2) rfl)) rfl
set_option maxRecDepth 20000 in
noncomputable def fL_law (Z : Shp) (M : Mem) (xs : Nat → Int32) (Lg : Nat) : Option Unit := (pu2 (Z ++ [(12, 6)]) (nw M (Z.length + 2)) (fun Z1 M2 => (Option.bind (fX11_init Z1 M2 (Z.length + 2)) (fun v5 => (pu ((Z.length + 2)) (fun z7 => (pu2 (v5.1 ++ [(13, 86)]) (nw v5.2 (v5.1.length + 2)) (fun Z8 M9 => (Option.bind (fX12_init Z8 M9 (v5.1.length + 2)) (fun v12 => (pu ((v5.1.length + 2)) (fun z14 => (loop (fun s15 : Int32 × Shp × Mem => (if ((nI Lg) - (7 : Int32)) < s15.1 then some (Sum.inr ()) else (if 0 ≤ (s15.1).toInt ∧ (s15.1).toInt < (Lg : Int) then (if ((xs (ix s15.1)) &&& (63 : Int32)) = (0 : Int32) then (if 0 ≤ ((s15.1 + (1 : Int32))).toInt ∧ ((s15.1 + (1 : Int32))).toInt < (Lg : Int) then (if 0 ≤ ((s15.1 + (2 : Int32))).toInt ∧ ((s15.1 + (2 : Int32))).toInt < (Lg : Int) then (if 0 ≤ ((s15.1 + (3 : Int32))).toInt ∧ ((s15.1 + (3 : Int32))).toInt < (Lg : Int) then (if tg s15.2.1 z7 = (12, 6) then (Option.bind (fX11_pound s15.2.1 s15.2.2 z7 (xs (ix (s15.1 + (1 : Int32)))) (xs (ix (s15.1 + (2 : Int32)))) (xs (ix (s15.1 + (3 : Int32))))) (fun v25 => (if tg s15.2.1 z14 = (13, 86) then (Option.bind (fX12_pound s15.2.1 v25.2 z14 (xs (ix (s15.1 + (1 : Int32)))) (xs (ix (s15.1 + (2 : Int32)))) (xs (ix (s15.1 + (3 : Int32))))) (fun v28 => (if v25.1 = v28.1 then some (Sum.inl ((s15.1 + (7 : Int32)), s15.2.1, v28.2)) else none))) else none))) else none) else none) else none) else none) else (if ((xs (ix s15.1)) &&& (63 : Int32)) = (1 : Int32) then (if 0 ≤ ((s15.1 + (1 : Int32))).toInt ∧ ((s15.1 + (1 : Int32))).toInt < (Lg : Int) then (if tg s15.2.1 z7 = (12, 6) then (Option.bind (fX11_summit s15.2.1 s15.2.2 z7 (xs (ix (s15.1 + (1 : Int32))))) (fun v34 => (if tg s15.2.1 z14 = (13, 86) then (Option.bind (fX12_summit s15.2.1 v34.2 z14 (xs (ix (s15.1 + (1 : Int32))))) (fun v37 => (if v34.1 = v37.1 then some (Sum.inl ((s15.1 + (7 : Int32)), s15.2.1, v37.2)) else none))) else none))) else none) else none) else (if ((xs (ix s15.1)) &&& (63 : Int32)) = (2 : Int32) then (if 0 ≤ ((s15.1 + (1 : Int32))).toInt ∧ ((s15.1 + (1 : Int32))).toInt < (Lg : Int) then (if 0 ≤ ((s15.1 + (2 : Int32))).toInt ∧ ((s15.1 + (2 : Int32))).toInt < (Lg : Int) then (if 0 ≤ ((s15.1 + (3 : Int32))).toInt ∧ ((s15.1 + (3 : Int32))).toInt < (Lg : Int) then (if tg s15.2.1 z7 = (12, 6) then (Option.bind (fX11_lock s15.2.1 s15.2.2 z7 (xs (ix (s15.1 + (1 : Int32)))) (xs (ix (s15.1 + (2 : Int32)))) (xs (ix (s15.1 + (3 : Int32))))) (fun v45 => (if tg s15.2.1 z14 = (13, 86) then (Option.bind (fX12_lock s15.2.1 v45.2 z14 (xs (ix (s15.1 + (1 : Int32)))) (xs (ix (s15.1 + (2 : Int32)))) (xs (ix (s15.1 + (3 : Int32))))) (fun v48 => (if v45.1 = v48.1 then some (Sum.inl ((s15.1 + (7 : Int32)), s15.2.1, v48.2)) else none))) else none))) else none) else none) else none) else none) else (if ((xs (ix s15.1)) &&& (63 : Int32)) = (3 : Int32) then (if 0 ≤ ((s15.1 + (1 : Int32))).toInt ∧ ((s15.1 + (1 : Int32))).toInt < (Lg : Int) then (if 0 ≤ ((s15.1 + (2 : Int32))).toInt ∧ ((s15.1 + (2 : Int32))).toInt < (Lg : Int) then (if 0 ≤ ((s15.1 + (3 : Int32))).toInt ∧ ((s15.1 + (3 : Int32))).toInt < (Lg : Int) then (if 0 ≤ ((s15.1 + (4 : Int32))).toInt ∧ ((s15.1 + (4 : Int32))).toInt < (Lg : Int) then (if tg s15.2.1 z7 = (12, 6) then (Option.bind (fX11_taker s15.2.1 s15.2.2 z7 (xs (ix (s15.1 + (1 : Int32)))) (xs (ix (s15.1 + (2 : Int32)))) (xs (ix (s15.1 + (3 : Int32)))) (xs (ix (s15.1 + (4 : Int32))))) (fun v57 => (if tg v57.2.1 z14 = (13, 86) then (Option.bind (fX12_taker v57.2.1 v57.2.2 z14 (xs (ix (s15.1 + (1 : Int32)))) (xs (ix (s15.1 + (2 : Int32)))) (xs (ix (s15.1 + (3 : Int32)))) (xs (ix (s15.1 + (4 : Int32))))) (fun v60 => (if v57.1 = v60.1 then some (Sum.inl ((s15.1 + (7 : Int32)), v57.2.1, v60.2)) else none))) else none))) else none) else none) else none) else none) else none) else (if ((xs (ix s15.1)) &&& (63 : Int32)) = (4 : Int32) then (if 0 ≤ ((s15.1 + (1 : Int32))).toInt ∧ ((s15.1 + (1 : Int32))).toInt < (Lg : Int) then (if 0 ≤ ((s15.1 + (2 : Int32))).toInt ∧ ((s15.1 + (2 : Int32))).toInt < (Lg : Int) then (if tg s15.2.1 z7 = (12, 6) then (Option.bind (fX11_as s15.2.1 s15.2.2 z7 (xs (ix (s15.1 + (1 : Int32)))) (xs (ix (s15.1 + (2 : Int32))))) (fun v67 => (if tg s15.2.1 z14 = (13, 86) then (Option.bind (fX12_as s15.2.1 s15.2.2 z14 (xs (ix (s15.1 + (1 : Int32)))) (xs (ix (s15.1 + (2 : Int32))))) (fun v70 => (if v67 = v70 then some (Sum.inl ((s15.1 + (7 : Int32)), s15.2.1, s15.2.2)) else none))) else none))) else none) else none) else none) else (if ((xs (ix s15.1)) &&& (63 : Int32)) = (5 : Int32) then (if 0 ≤ ((s15.1 + (1 : Int32))).toInt ∧ ((s15.1 + (1 : Int32))).toInt < (Lg : Int) then (if 0 ≤ ((s15.1 + (2 : Int32))).toInt ∧ ((s15.1 + (2 : Int32))).toInt < (Lg : Int) then (if 0 ≤ ((s15.1 + (3 : Int32))).toInt ∧ ((s15.1 + (3 : Int32))).toInt < (Lg : Int) then (if tg s15.2.1 z7 = (12, 6) then (Option.bind (fX11_acts s15.2.1 s15.2.2 z7 (xs (ix (s15.1 + (1 : Int32)))) (xs (ix (s15.1 + (2 : Int32)))) (xs (ix (s15.1 + (3 : Int32))))) (fun v78 => (if tg s15.2.1 z14 = (13, 86) then (Option.bind (fX12_acts s15.2.1 s15.2.2 z14 (xs (ix (s15.1 + (1 : Int32)))) (xs (ix (s15.1 + (2 : Int32)))) (xs (ix (s15.1 + (3 : Int32))))) (fun v81 => (if v78 = v81 then some (Sum.inl ((s15.1 + (7 : Int32)), s15.2.1, s15.2.2)) else none))) else none))) else none) else none) else none) else none) else (if ((xs (ix s15.1)) &&& (63 : Int32)) = (6 : Int32) then (if 0 ≤ ((s15.1 + (1 : Int32))).toInt ∧ ((s15.1 + (1 : Int32))).toInt < (Lg : Int) then (if 0 ≤ ((s15.1 + (2 : Int32))).toInt ∧ ((s15.1 + (2 : Int32))).toInt < (Lg : Int) then (if 0 ≤ ((s15.1 + (3 : Int32))).toInt ∧ ((s15.1 + (3 : Int32))).toInt < (Lg : Int) then (if 0 ≤ ((s15.1 + (4 : Int32))).toInt ∧ ((s15.1 + (4 : Int32))).toInt < (Lg : Int) then (if 0 ≤ ((s15.1 + (5 : Int32))).toInt ∧ ((s15.1 + (5 : Int32))).toInt < (Lg : Int) then (if 0 ≤ ((s15.1 + (6 : Int32))).toInt ∧ ((s15.1 + (6 : Int32))).toInt < (Lg : Int) then (if tg s15.2.1 z7 = (12, 6) then (Option.bind (fX11_boat s15.2.1 s15.2.2 z7 (xs (ix (s15.1 + (1 : Int32)))) (xs (ix (s15.1 + (2 : Int32)))) (xs (ix (s15.1 + (3 : Int32)))) (xs (ix (s15.1 + (4 : Int32)))) (xs (ix (s15.1 + (5 : Int32)))) (xs (ix (s15.1 + (6 : Int32))))) (fun v92 => (if tg v92.2.1 z14 = (13, 86) then (Option.bind (fX12_boat v92.2.1 v92.2.2 z14 (xs (ix (s15.1 + (1 : Int32)))) (xs (ix (s15.1 + (2 : Int32)))) (xs (ix (s15.1 + (3 : Int32)))) (xs (ix (s15.1 + (4 : Int32)))) (xs (ix (s15.1 + (5 : Int32)))) (xs (ix (s15.1 + (6 : Int32))))) (fun v95 => (if v92.1 = v95.1 then some (Sum.inl ((s15.1 + (7 : Int32)), v92.2.1, v95.2)) else none))) else none))) else none) else none) else none) else none) else none) else none) else none) else (if ((xs (ix s15.1)) &&& (63 : Int32)) = (7 : Int32) then (if 0 ≤ ((s15.1 + (1 : Int32))).toInt ∧ ((s15.1 + (1 : Int32))).toInt < (Lg : Int) then (if tg s15.2.1 z7 = (12, 6) then (Option.bind (fX11_hour s15.2.1 s15.2.2 z7 (xs (ix (s15.1 + (1 : Int32))))) (fun v101 => (if tg s15.2.1 z14 = (13, 86) then (Option.bind (fX12_hour s15.2.1 v101.2 z14 (xs (ix (s15.1 + (1 : Int32))))) (fun v104 => (if v101.1 = v104.1 then some (Sum.inl ((s15.1 + (7 : Int32)), s15.2.1, v104.2)) else none))) else none))) else none) else none) else (if ((xs (ix s15.1)) &&& (63 : Int32)) = (8 : Int32) then (if 0 ≤ ((s15.1 + (1 : Int32))).toInt ∧ ((s15.1 + (1 : Int32))).toInt < (Lg : Int) then (if 0 ≤ ((s15.1 + (2 : Int32))).toInt ∧ ((s15.1 + (2 : Int32))).toInt < (Lg : Int) then (if tg s15.2.1 z7 = (12, 6) then (Option.bind (fX11_hours s15.2.1 s15.2.2 z7 (xs (ix (s15.1 + (1 : Int32)))) (xs (ix (s15.1 + (2 : Int32))))) (fun v111 => (if tg s15.2.1 z14 = (13, 86) then (Option.bind (fX12_hours s15.2.1 v111.2 z14 (xs (ix (s15.1 + (1 : Int32)))) (xs (ix (s15.1 + (2 : Int32))))) (fun v114 => (if v111.1 = v114.1 then some (Sum.inl ((s15.1 + (7 : Int32)), s15.2.1, v114.2)) else none))) else none))) else none) else none) else none) else (if ((xs (ix s15.1)) &&& (63 : Int32)) = (9 : Int32) then (if 0 ≤ ((s15.1 + (1 : Int32))).toInt ∧ ((s15.1 + (1 : Int32))).toInt < (Lg : Int) then (if 0 ≤ ((s15.1 + (2 : Int32))).toInt ∧ ((s15.1 + (2 : Int32))).toInt < (Lg : Int) then (if tg s15.2.1 z7 = (12, 6) then (Option.bind (fX11_at s15.2.1 s15.2.2 z7 (xs (ix (s15.1 + (1 : Int32)))) (xs (ix (s15.1 + (2 : Int32))))) (fun v121 => (if tg s15.2.1 z14 = (13, 86) then (Option.bind (fX12_at s15.2.1 s15.2.2 z14 (xs (ix (s15.1 + (1 : Int32)))) (xs (ix (s15.1 + (2 : Int32))))) (fun v124 => (if v121 = v124 then some (Sum.inl ((s15.1 + (7 : Int32)), s15.2.1, s15.2.2)) else none))) else none))) else none) else none) else none) else (if ((xs (ix s15.1)) &&& (63 : Int32)) = (10 : Int32) then (if 0 ≤ ((s15.1 + (1 : Int32))).toInt ∧ ((s15.1 + (1 : Int32))).toInt < (Lg : Int) then (if 0 ≤ ((s15.1 + (2 : Int32))).toInt ∧ ((s15.1 + (2 : Int32))).toInt < (Lg : Int) then (if tg s15.2.1 z7 = (12, 6) then (Option.bind (fX11_lockIs s15.2.1 s15.2.2 z7 (xs (ix (s15.1 + (1 : Int32)))) (xs (ix (s15.1 + (2 : Int32))))) (fun v131 => (if tg s15.2.1 z14 = (13, 86) then (Option.bind (fX12_lockIs s15.2.1 s15.2.2 z14 (xs (ix (s15.1 + (1 : Int32)))) (xs (ix (s15.1 + (2 : Int32))))) (fun v134 => (if v131 = v134 then some (Sum.inl ((s15.1 + (7 : Int32)), s15.2.1, s15.2.2)) else none))) else none))) else none) else none) else none) else (if ((xs (ix s15.1)) &&& (63 : Int32)) = (11 : Int32) then (if 0 ≤ ((s15.1 + (1 : Int32))).toInt ∧ ((s15.1 + (1 : Int32))).toInt < (Lg : Int) then (if 0 ≤ ((s15.1 + (2 : Int32))).toInt ∧ ((s15.1 + (2 : Int32))).toInt < (Lg : Int) then (if tg s15.2.1 z7 = (12, 6) then (Option.bind (fX11_now s15.2.1 s15.2.2 z7 (xs (ix (s15.1 + (1 : Int32)))) (xs (ix (s15.1 + (2 : Int32))))) (fun v141 => (if tg s15.2.1 z14 = (13, 86) then (Option.bind (fX12_now s15.2.1 s15.2.2 z14 (xs (ix (s15.1 + (1 : Int32)))) (xs (ix (s15.1 + (2 : Int32))))) (fun v144 => (if v141 = v144 then some (Sum.inl ((s15.1 + (7 : Int32)), s15.2.1, s15.2.2)) else none))) else none))) else none) else none) else none) else (if ((xs (ix s15.1)) &&& (63 : Int32)) = (12 : Int32) then (if 0 ≤ ((s15.1 + (1 : Int32))).toInt ∧ ((s15.1 + (1 : Int32))).toInt < (Lg : Int) then (if tg s15.2.1 z7 = (12, 6) then (Option.bind (fX11_sum s15.2.1 s15.2.2 z7 (xs (ix (s15.1 + (1 : Int32))))) (fun v150 => (if tg s15.2.1 z14 = (13, 86) then (Option.bind (fX12_sum s15.2.1 s15.2.2 z14 (xs (ix (s15.1 + (1 : Int32))))) (fun v153 => (if (lg_cmp v150 v153) = 0 then some (Sum.inl ((s15.1 + (7 : Int32)), s15.2.1, s15.2.2)) else none))) else none))) else none) else none) else (if ((xs (ix s15.1)) &&& (63 : Int32)) = (13 : Int32) then (if 0 ≤ ((s15.1 + (1 : Int32))).toInt ∧ ((s15.1 + (1 : Int32))).toInt < (Lg : Int) then (if 0 ≤ ((s15.1 + (2 : Int32))).toInt ∧ ((s15.1 + (2 : Int32))).toInt < (Lg : Int) then (if tg s15.2.1 z7 = (12, 6) then (Option.bind (fX11_letters s15.2.1 s15.2.2 z7 ((((xs (ix (s15.1 + (1 : Int32)))).toInt64) <<< ((32 : Int32).toInt64 &&& 63)) ||| (((xs (ix (s15.1 + (2 : Int32)))).toInt64) &&& (4294967295 : Int64)))) (fun v160 => (if tg s15.2.1 z14 = (13, 86) then (Option.bind (fX12_letters s15.2.1 v160.2 z14 ((((xs (ix (s15.1 + (1 : Int32)))).toInt64) <<< ((32 : Int32).toInt64 &&& 63)) ||| (((xs (ix (s15.1 + (2 : Int32)))).toInt64) &&& (4294967295 : Int64)))) (fun v163 => (if v160.1 = v163.1 then some (Sum.inl ((s15.1 + (7 : Int32)), s15.2.1, v163.2)) else none))) else none))) else none) else none) else none) else (if ((xs (ix s15.1)) &&& (63 : Int32)) = (14 : Int32) then (if tg s15.2.1 z7 = (12, 6) then (Option.bind (fX11_blank s15.2.1 s15.2.2 z7) (fun v168 => (if tg s15.2.1 z14 = (13, 86) then (Option.bind (fX12_blank s15.2.1 v168.2 z14) (fun v171 => (if v168.1 = v171.1 then some (Sum.inl ((s15.1 + (7 : Int32)), s15.2.1, v171.2)) else none))) else none))) else none) else (if ((xs (ix s15.1)) &&& (63 : Int32)) = (15 : Int32) then (if tg s15.2.1 z7 = (12, 6) then (Option.bind (fX11_fault s15.2.1 s15.2.2 z7) (fun v176 => (if tg s15.2.1 z14 = (13, 86) then (Option.bind (fX12_fault s15.2.1 s15.2.2 z14) (fun v179 => (if v176 = v179.1 then some (Sum.inl ((s15.1 + (7 : Int32)), s15.2.1, v179.2)) else none))) else none))) else none) else (if ((xs (ix s15.1)) &&& (63 : Int32)) = (16 : Int32) then (if tg s15.2.1 z7 = (12, 6) then (Option.bind (fX11_text s15.2.1 s15.2.2 z7) (fun v184 => (if tg v184.2.1 z14 = (13, 86) then (Option.bind (fX12_text v184.2.1 v184.2.2 z14) (fun v187 => (if v184.1 = v187.1 then some (Sum.inl ((s15.1 + (7 : Int32)), v184.2.1, v187.2)) else none))) else none))) else none) else (if ((xs (ix s15.1)) &&& (63 : Int32)) = (17 : Int32) then (if 0 ≤ ((s15.1 + (1 : Int32))).toInt ∧ ((s15.1 + (1 : Int32))).toInt < (Lg : Int) then (if 0 ≤ ((s15.1 + (2 : Int32))).toInt ∧ ((s15.1 + (2 : Int32))).toInt < (Lg : Int) then (if 0 ≤ ((s15.1 + (3 : Int32))).toInt ∧ ((s15.1 + (3 : Int32))).toInt < (Lg : Int) then (if tg s15.2.1 z7 = (12, 6) then (Option.bind (fX11_force s15.2.1 s15.2.2 z7 (xs (ix (s15.1 + (1 : Int32)))) (xs (ix (s15.1 + (2 : Int32)))) (xs (ix (s15.1 + (3 : Int32))))) (fun v195 => (if tg s15.2.1 z14 = (13, 86) then (Option.bind (fX12_force s15.2.1 v195.2 z14 (xs (ix (s15.1 + (1 : Int32)))) (xs (ix (s15.1 + (2 : Int32)))) (xs (ix (s15.1 + (3 : Int32))))) (fun v198 => (if v195.1 = v198.1 then some (Sum.inl ((s15.1 + (7 : Int32)), s15.2.1, v198.2)) else none))) else none))) else none) else none) else none) else none) else (if ((xs (ix s15.1)) &&& (63 : Int32)) = (18 : Int32) then (if 0 ≤ ((s15.1 + (1 : Int32))).toInt ∧ ((s15.1 + (1 : Int32))).toInt < (Lg : Int) then (if 0 ≤ ((s15.1 + (2 : Int32))).toInt ∧ ((s15.1 + (2 : Int32))).toInt < (Lg : Int) then (if 0 ≤ ((s15.1 + (3 : Int32))).toInt ∧ ((s15.1 + (3 : Int32))).toInt < (Lg : Int) then (if tg s15.2.1 z7 = (12, 6) then (Option.bind (fX11_speaks s15.2.1 s15.2.2 z7 (xs (ix (s15.1 + (1 : Int32)))) (xs (ix (s15.1 + (2 : Int32)))) (xs (ix (s15.1 + (3 : Int32))))) (fun v206 => (if tg s15.2.1 z14 = (13, 86) then (Option.bind (fX12_speaks s15.2.1 s15.2.2 z14 (xs (ix (s15.1 + (1 : Int32)))) (xs (ix (s15.1 + (2 : Int32)))) (xs (ix (s15.1 + (3 : Int32))))) (fun v209 => (if v206 = v209.1 then some (Sum.inl ((s15.1 + (7 : Int32)), s15.2.1, v209.2)) else none))) else none))) else none) else none) else none) else none) else (if ((xs (ix s15.1)) &&& (63 : Int32)) = (19 : Int32) then (if 0 ≤ ((s15.1 + (1 : Int32))).toInt ∧ ((s15.1 + (1 : Int32))).toInt < (Lg : Int) then (if 0 ≤ ((s15.1 + (2 : Int32))).toInt ∧ ((s15.1 + (2 : Int32))).toInt < (Lg : Int) then (if 0 ≤ ((s15.1 + (3 : Int32))).toInt ∧ ((s15.1 + (3 : Int32))).toInt < (Lg : Int) then (if tg s15.2.1 z7 = (12, 6) then (Option.bind (fX11_quarrel s15.2.1 s15.2.2 z7 (xs (ix (s15.1 + (1 : Int32)))) (xs (ix (s15.1 + (2 : Int32)))) (xs (ix (s15.1 + (3 : Int32))))) (fun v217 => (if tg s15.2.1 z14 = (13, 86) then (Option.bind (fX12_quarrel s15.2.1 s15.2.2 z14 (xs (ix (s15.1 + (1 : Int32)))) (xs (ix (s15.1 + (2 : Int32)))) (xs (ix (s15.1 + (3 : Int32))))) (fun v220 => (if v217 = v220.1 then some (Sum.inl ((s15.1 + (7 : Int32)), s15.2.1, v220.2)) else none))) else none))) else none) else none) else none) else none) else (if ((xs (ix s15.1)) &&& (63 : Int32)) = (20 : Int32) then (if 0 ≤ ((s15.1 + (1 : Int32))).toInt ∧ ((s15.1 + (1 : Int32))).toInt < (Lg : Int) then (if 0 ≤ ((s15.1 + (2 : Int32))).toInt ∧ ((s15.1 + (2 : Int32))).toInt < (Lg : Int) then (if tg s15.2.1 z7 = (12, 6) then (Option.bind (fX11_toll s15.2.1 s15.2.2 z7 (xs (ix (s15.1 + (1 : Int32)))) (xs (ix (s15.1 + (2 : Int32))))) (fun v227 => (if tg s15.2.1 z14 = (13, 86) then (Option.bind (fX12_toll s15.2.1 s15.2.2 z14 (xs (ix (s15.1 + (1 : Int32)))) (xs (ix (s15.1 + (2 : Int32))))) (fun v230 => (if v227 = v230.1 then some (Sum.inl ((s15.1 + (7 : Int32)), s15.2.1, v230.2)) else none))) else none))) else none) else none) else none) else (if ((xs (ix s15.1)) &&& (63 : Int32)) = (21 : Int32) then (if 0 ≤ ((s15.1 + (1 : Int32))).toInt ∧ ((s15.1 + (1 : Int32))).toInt < (Lg : Int) then (Option.bind (if (xs (ix (s15.1 + (1 : Int32)))) = 0 then some (0 : Int32) else some (1 : Int32)) (fun v238 : Int32 => (if 0 ≤ ((s15.1 + (2 : Int32))).toInt ∧ ((s15.1 + (2 : Int32))).toInt < (Lg : Int) then (if 0 ≤ ((s15.1 + (3 : Int32))).toInt ∧ ((s15.1 + (3 : Int32))).toInt < (Lg : Int) then (if tg s15.2.1 z7 = (12, 6) then (Option.bind (fX11_comer s15.2.1 s15.2.2 z7 v238 (xs (ix (s15.1 + (2 : Int32)))) (xs (ix (s15.1 + (3 : Int32))))) (fun v242 => (Option.bind (if (xs (ix (s15.1 + (1 : Int32)))) = 0 then some (0 : Int32) else some (1 : Int32)) (fun v247 : Int32 => (if tg s15.2.1 z14 = (13, 86) then (Option.bind (fX12_comer s15.2.1 v242.2 z14 v247 (xs (ix (s15.1 + (2 : Int32)))) (xs (ix (s15.1 + (3 : Int32))))) (fun v249 => (if v242.1 = v249.1 then some (Sum.inl ((s15.1 + (7 : Int32)), s15.2.1, v249.2)) else none))) else none))))) else none) else none) else none))) else none) else (if ((xs (ix s15.1)) &&& (63 : Int32)) = (22 : Int32) then (if tg s15.2.1 z7 = (12, 6) then (Option.bind (fX11_clear s15.2.1 s15.2.2 z7) (fun v254 => (if tg s15.2.1 z14 = (13, 86) then (Option.bind (fX12_clear s15.2.1 v254.2 z14) (fun v257 => (if v254.1 = v257.1 then some (Sum.inl ((s15.1 + (7 : Int32)), s15.2.1, v257.2)) else none))) else none))) else none) else (if ((xs (ix s15.1)) &&& (63 : Int32)) = (23 : Int32) then (if 0 ≤ ((s15.1 + (1 : Int32))).toInt ∧ ((s15.1 + (1 : Int32))).toInt < (Lg : Int) then (if tg s15.2.1 z7 = (12, 6) then (Option.bind (fX11_turn s15.2.1 s15.2.2 z7 (xs (ix (s15.1 + (1 : Int32))))) (fun v263 => (if tg v263.2.1 z14 = (13, 86) then (Option.bind (fX12_turn v263.2.1 v263.2.2 z14 (xs (ix (s15.1 + (1 : Int32))))) (fun v266 => (if v263.1 = v266.1 then some (Sum.inl ((s15.1 + (7 : Int32)), v263.2.1, v266.2)) else none))) else none))) else none) else none) else (if ((xs (ix s15.1)) &&& (63 : Int32)) = (24 : Int32) then (if 0 ≤ ((s15.1 + (1 : Int32))).toInt ∧ ((s15.1 + (1 : Int32))).toInt < (Lg : Int) then (if tg s15.2.1 z7 = (12, 6) then (Option.bind (fX11_judge s15.2.1 s15.2.2 z7 (xs (ix (s15.1 + (1 : Int32))))) (fun v272 => (if tg s15.2.1 z14 = (13, 86) then (Option.bind (fX12_judge s15.2.1 s15.2.2 z14 (xs (ix (s15.1 + (1 : Int32))))) (fun v275 => (if v272 = v275.1 then some (Sum.inl ((s15.1 + (7 : Int32)), s15.2.1, v275.2)) else none))) else none))) else none) else none) else (if ((xs (ix s15.1)) &&& (63 : Int32)) = (25 : Int32) then (if 0 ≤ ((s15.1 + (1 : Int32))).toInt ∧ ((s15.1 + (1 : Int32))).toInt < (Lg : Int) then (if 0 ≤ ((s15.1 + (2 : Int32))).toInt ∧ ((s15.1 + (2 : Int32))).toInt < (Lg : Int) then (if 0 ≤ ((s15.1 + (3 : Int32))).toInt ∧ ((s15.1 + (3 : Int32))).toInt < (Lg : Int) then (if 0 ≤ ((s15.1 + (4 : Int32))).toInt ∧ ((s15.1 + (4 : Int32))).toInt < (Lg : Int) then (if 0 ≤ ((s15.1 + (5 : Int32))).toInt ∧ ((s15.1 + (5 : Int32))).toInt < (Lg : Int) then (if tg s15.2.1 z7 = (12, 6) then (Option.bind (fX11_dry s15.2.1 s15.2.2 z7 (xs (ix (s15.1 + (1 : Int32)))) (xs (ix (s15.1 + (2 : Int32)))) (xs (ix (s15.1 + (3 : Int32)))) (xs (ix (s15.1 + (4 : Int32)))) (xs (ix (s15.1 + (5 : Int32))))) (fun v285 => (if tg s15.2.1 z14 = (13, 86) then (Option.bind (fX12_dry s15.2.1 s15.2.2 z14 (xs (ix (s15.1 + (1 : Int32)))) (xs (ix (s15.1 + (2 : Int32)))) (xs (ix (s15.1 + (3 : Int32)))) (xs (ix (s15.1 + (4 : Int32)))) (xs (ix (s15.1 + (5 : Int32))))) (fun v288 => (if v285 = v288 then some (Sum.inl ((s15.1 + (7 : Int32)), s15.2.1, s15.2.2)) else none))) else none))) else none) else none) else none) else none) else none) else none) else (if ((xs (ix s15.1)) &&& (63 : Int32)) = (26 : Int32) then (if 0 ≤ ((s15.1 + (1 : Int32))).toInt ∧ ((s15.1 + (1 : Int32))).toInt < (Lg : Int) then (if 0 ≤ ((s15.1 + (2 : Int32))).toInt ∧ ((s15.1 + (2 : Int32))).toInt < (Lg : Int) then (if tg s15.2.1 z7 = (12, 6) then (Option.bind (fX11_bank s15.2.1 s15.2.2 z7 (xs (ix (s15.1 + (1 : Int32)))) (xs (ix (s15.1 + (2 : Int32))))) (fun v295 => (if tg s15.2.1 z14 = (13, 86) then (Option.bind (fX12_bank s15.2.1 v295.2 z14 (xs (ix (s15.1 + (1 : Int32)))) (xs (ix (s15.1 + (2 : Int32))))) (fun v298 => (if v295.1 = v298.1 then some (Sum.inl ((s15.1 + (7 : Int32)), s15.2.1, v298.2)) else none))) else none))) else none) else none) else none) else (if ((xs (ix s15.1)) &&& (63 : Int32)) = (27 : Int32) then (if 0 ≤ ((s15.1 + (1 : Int32))).toInt ∧ ((s15.1 + (1 : Int32))).toInt < (Lg : Int) then (if 0 ≤ ((s15.1 + (2 : Int32))).toInt ∧ ((s15.1 + (2 : Int32))).toInt < (Lg : Int) then (if 0 ≤ ((s15.1 + (3 : Int32))).toInt ∧ ((s15.1 + (3 : Int32))).toInt < (Lg : Int) then (if tg s15.2.1 z7 = (12, 6) then (Option.bind (fX11_read s15.2.1 s15.2.2 z7 (xs (ix (s15.1 + (1 : Int32)))) (xs (ix (s15.1 + (2 : Int32)))) (xs (ix (s15.1 + (3 : Int32))))) (fun v306 => (if tg s15.2.1 z14 = (13, 86) then (Option.bind (fX12_read s15.2.1 v306.2 z14 (xs (ix (s15.1 + (1 : Int32)))) (xs (ix (s15.1 + (2 : Int32)))) (xs (ix (s15.1 + (3 : Int32))))) (fun v309 => (if v306.1 = v309.1 then some (Sum.inl ((s15.1 + (7 : Int32)), s15.2.1, v309.2)) else none))) else none))) else none) else none) else none) else none) else (if ((xs (ix s15.1)) &&& (63 : Int32)) = (28 : Int32) then (if tg s15.2.1 z7 = (12, 6) then (Option.bind (fX11_unread s15.2.1 s15.2.2 z7) (fun v314 => (if tg s15.2.1 z14 = (13, 86) then (Option.bind (fX12_unread s15.2.1 v314.2 z14) (fun v317 => (if v314.1 = v317.1 then some (Sum.inl ((s15.1 + (7 : Int32)), s15.2.1, v317.2)) else none))) else none))) else none) else (if ((xs (ix s15.1)) &&& (63 : Int32)) = (29 : Int32) then (if 0 ≤ ((s15.1 + (1 : Int32))).toInt ∧ ((s15.1 + (1 : Int32))).toInt < (Lg : Int) then (if tg s15.2.1 z7 = (12, 6) then (Option.bind (fX11_find s15.2.1 s15.2.2 z7 (xs (ix (s15.1 + (1 : Int32))))) (fun v323 => (if tg s15.2.1 z14 = (13, 86) then (Option.bind (fX12_find s15.2.1 v323.2 z14 (xs (ix (s15.1 + (1 : Int32))))) (fun v326 => (if v323.1 = v326 then some (Sum.inl ((s15.1 + (7 : Int32)), s15.2.1, v323.2)) else none))) else none))) else none) else none) else (if ((xs (ix s15.1)) &&& (63 : Int32)) = (30 : Int32) then (if 0 ≤ ((s15.1 + (1 : Int32))).toInt ∧ ((s15.1 + (1 : Int32))).toInt < (Lg : Int) then (if 0 ≤ ((s15.1 + (2 : Int32))).toInt ∧ ((s15.1 + (2 : Int32))).toInt < (Lg : Int) then (if tg s15.2.1 z7 = (12, 6) then (Option.bind (fX11_bill s15.2.1 s15.2.2 z7 (xs (ix (s15.1 + (1 : Int32)))) (xs (ix (s15.1 + (2 : Int32))))) (fun v333 => (if tg s15.2.1 z14 = (13, 86) then (Option.bind (fX12_bill s15.2.1 v333.2 z14 (xs (ix (s15.1 + (1 : Int32)))) (xs (ix (s15.1 + (2 : Int32))))) (fun v336 => (if v333.1 = v336.1 then some (Sum.inl ((s15.1 + (7 : Int32)), s15.2.1, v336.2)) else none))) else none))) else none) else none) else none) else (if ((xs (ix s15.1)) &&& (63 : Int32)) = (31 : Int32) then (if 0 ≤ ((s15.1 + (1 : Int32))).toInt ∧ ((s15.1 + (1 : Int32))).toInt < (Lg : Int) then (if 0 ≤ ((s15.1 + (2 : Int32))).toInt ∧ ((s15.1 + (2 : Int32))).toInt < (Lg : Int) then (if tg s15.2.1 z7 = (12, 6) then (Option.bind (fX11_pay s15.2.1 s15.2.2 z7 (xs (ix (s15.1 + (1 : Int32)))) (xs (ix (s15.1 + (2 : Int32))))) (fun v343 => (if tg s15.2.1 z14 = (13, 86) then (Option.bind (fX12_pay s15.2.1 v343.2 z14 (xs (ix (s15.1 + (1 : Int32)))) (xs (ix (s15.1 + (2 : Int32))))) (fun v346 => (if v343.1 = v346.1 then some (Sum.inl ((s15.1 + (7 : Int32)), s15.2.1, v346.2)) else none))) else none))) else none) else none) else none) else (if ((xs (ix s15.1)) &&& (63 : Int32)) = (32 : Int32) then (if 0 ≤ ((s15.1 + (1 : Int32))).toInt ∧ ((s15.1 + (1 : Int32))).toInt < (Lg : Int) then (if 0 ≤ ((s15.1 + (2 : Int32))).toInt ∧ ((s15.1 + (2 : Int32))).toInt < (Lg : Int) then (if 0 ≤ ((s15.1 + (3 : Int32))).toInt ∧ ((s15.1 + (3 : Int32))).toInt < (Lg : Int) then (if tg s15.2.1 z7 = (12, 6) then (Option.bind (fX11_debt s15.2.1 s15.2.2 z7 (xs (ix (s15.1 + (1 : Int32)))) (xs (ix (s15.1 + (2 : Int32)))) (xs (ix (s15.1 + (3 : Int32))))) (fun v354 => (if tg s15.2.1 z14 = (13, 86) then (Option.bind (fX12_debt s15.2.1 v354.2 z14 (xs (ix (s15.1 + (1 : Int32)))) (xs (ix (s15.1 + (2 : Int32)))) (xs (ix (s15.1 + (3 : Int32))))) (fun v357 => (if v354.1 = v357.1 then some (Sum.inl ((s15.1 + (7 : Int32)), s15.2.1, v357.2)) else none))) else none))) else none) else none) else none) else none) else (if ((xs (ix s15.1)) &&& (63 : Int32)) = (33 : Int32) then (if 0 ≤ ((s15.1 + (1 : Int32))).toInt ∧ ((s15.1 + (1 : Int32))).toInt < (Lg : Int) then (if 0 ≤ ((s15.1 + (2 : Int32))).toInt ∧ ((s15.1 + (2 : Int32))).toInt < (Lg : Int) then (if tg s15.2.1 z7 = (12, 6) then (Option.bind (fX11_failed s15.2.1 s15.2.2 z7 (xs (ix (s15.1 + (1 : Int32)))) (xs (ix (s15.1 + (2 : Int32))))) (fun v364 => (if tg s15.2.1 z14 = (13, 86) then (Option.bind (fX12_failed s15.2.1 s15.2.2 z14 (xs (ix (s15.1 + (1 : Int32)))) (xs (ix (s15.1 + (2 : Int32))))) (fun v367 => (if v364 = v367 then some (Sum.inl ((s15.1 + (7 : Int32)), s15.2.1, s15.2.2)) else none))) else none))) else none) else none) else none) else (if ((xs (ix s15.1)) &&& (63 : Int32)) = (34 : Int32) then (if 0 ≤ ((s15.1 + (1 : Int32))).toInt ∧ ((s15.1 + (1 : Int32))).toInt < (Lg : Int) then (if 0 ≤ ((s15.1 + (2 : Int32))).toInt ∧ ((s15.1 + (2 : Int32))).toInt < (Lg : Int) then (if tg s15.2.1 z7 = (12, 6) then (Option.bind (fX11_shares s15.2.1 s15.2.2 z7 (xs (ix (s15.1 + (1 : Int32)))) (xs (ix (s15.1 + (2 : Int32))))) (fun v374 => (if tg s15.2.1 z14 = (13, 86) then (Option.bind (fX12_shares s15.2.1 v374.2 z14 (xs (ix (s15.1 + (1 : Int32)))) (xs (ix (s15.1 + (2 : Int32))))) (fun v377 => (if v374.1 = v377.1 then some (Sum.inl ((s15.1 + (7 : Int32)), s15.2.1, v377.2)) else none))) else none))) else none) else none) else none) else (if ((xs (ix s15.1)) &&& (63 : Int32)) = (35 : Int32) then (if 0 ≤ ((s15.1 + (1 : Int32))).toInt ∧ ((s15.1 + (1 : Int32))).toInt < (Lg : Int) then (if 0 ≤ ((s15.1 + (2 : Int32))).toInt ∧ ((s15.1 + (2 : Int32))).toInt < (Lg : Int) then (if 0 ≤ ((s15.1 + (3 : Int32))).toInt ∧ ((s15.1 + (3 : Int32))).toInt < (Lg : Int) then (if 0 ≤ ((s15.1 + (4 : Int32))).toInt ∧ ((s15.1 + (4 : Int32))).toInt < (Lg : Int) then (if tg s15.2.1 z7 = (12, 6) then (Option.bind (fX11_pass s15.2.1 s15.2.2 z7 (xs (ix (s15.1 + (1 : Int32)))) (xs (ix (s15.1 + (2 : Int32)))) (xs (ix (s15.1 + (3 : Int32)))) (xs (ix (s15.1 + (4 : Int32))))) (fun v386 => (if tg s15.2.1 z14 = (13, 86) then (Option.bind (fX12_pass s15.2.1 v386.2 z14 (xs (ix (s15.1 + (1 : Int32)))) (xs (ix (s15.1 + (2 : Int32)))) (xs (ix (s15.1 + (3 : Int32)))) (xs (ix (s15.1 + (4 : Int32))))) (fun v389 => (if v386.1 = v389.1 then some (Sum.inl ((s15.1 + (7 : Int32)), s15.2.1, v389.2)) else none))) else none))) else none) else none) else none) else none) else none) else (if ((xs (ix s15.1)) &&& (63 : Int32)) = (36 : Int32) then (if 0 ≤ ((s15.1 + (1 : Int32))).toInt ∧ ((s15.1 + (1 : Int32))).toInt < (Lg : Int) then (if 0 ≤ ((s15.1 + (2 : Int32))).toInt ∧ ((s15.1 + (2 : Int32))).toInt < (Lg : Int) then (if tg s15.2.1 z7 = (12, 6) then (Option.bind (fX11_had s15.2.1 s15.2.2 z7 (xs (ix (s15.1 + (1 : Int32)))) (xs (ix (s15.1 + (2 : Int32))))) (fun v396 => (if tg s15.2.1 z14 = (13, 86) then (Option.bind (fX12_had s15.2.1 s15.2.2 z14 (xs (ix (s15.1 + (1 : Int32)))) (xs (ix (s15.1 + (2 : Int32))))) (fun v399 => (if v396 = v399 then some (Sum.inl ((s15.1 + (7 : Int32)), s15.2.1, s15.2.2)) else none))) else none))) else none) else none) else none) else (if ((xs (ix s15.1)) &&& (63 : Int32)) = (37 : Int32) then (if 0 ≤ ((s15.1 + (1 : Int32))).toInt ∧ ((s15.1 + (1 : Int32))).toInt < (Lg : Int) then (if 0 ≤ ((s15.1 + (2 : Int32))).toInt ∧ ((s15.1 + (2 : Int32))).toInt < (Lg : Int) then (if 0 ≤ ((s15.1 + (3 : Int32))).toInt ∧ ((s15.1 + (3 : Int32))).toInt < (Lg : Int) then (if tg s15.2.1 z7 = (12, 6) then (Option.bind (fX11_dividend s15.2.1 s15.2.2 z7 (xs (ix (s15.1 + (1 : Int32)))) (xs (ix (s15.1 + (2 : Int32)))) (xs (ix (s15.1 + (3 : Int32))))) (fun v407 => (if tg s15.2.1 z14 = (13, 86) then (Option.bind (fX12_dividend s15.2.1 s15.2.2 z14 (xs (ix (s15.1 + (1 : Int32)))) (xs (ix (s15.1 + (2 : Int32)))) (xs (ix (s15.1 + (3 : Int32))))) (fun v410 => (if v407 = v410 then some (Sum.inl ((s15.1 + (7 : Int32)), s15.2.1, s15.2.2)) else none))) else none))) else none) else none) else none) else none) else (if ((xs (ix s15.1)) &&& (63 : Int32)) = (38 : Int32) then (if 0 ≤ ((s15.1 + (1 : Int32))).toInt ∧ ((s15.1 + (1 : Int32))).toInt < (Lg : Int) then (if tg s15.2.1 z7 = (12, 6) then (Option.bind (fX11_rate s15.2.1 s15.2.2 z7 (xs (ix (s15.1 + (1 : Int32))))) (fun v416 => (if tg s15.2.1 z14 = (13, 86) then (Option.bind (fX12_rate s15.2.1 v416.2 z14 (xs (ix (s15.1 + (1 : Int32))))) (fun v419 => (if v416.1 = v419.1 then some (Sum.inl ((s15.1 + (7 : Int32)), s15.2.1, v419.2)) else none))) else none))) else none) else none) else (if ((xs (ix s15.1)) &&& (63 : Int32)) = (39 : Int32) then (if 0 ≤ ((s15.1 + (1 : Int32))).toInt ∧ ((s15.1 + (1 : Int32))).toInt < (Lg : Int) then (if tg s15.2.1 z7 = (12, 6) then (Option.bind (fX11_over s15.2.1 s15.2.2 z7 (xs (ix (s15.1 + (1 : Int32))))) (fun v425 => (if tg s15.2.1 z14 = (13, 86) then (Option.bind (fX12_over s15.2.1 s15.2.2 z14 (xs (ix (s15.1 + (1 : Int32))))) (fun v428 => (if v425 = v428 then some (Sum.inl ((s15.1 + (7 : Int32)), s15.2.1, s15.2.2)) else none))) else none))) else none) else none) else (if ((xs (ix s15.1)) &&& (63 : Int32)) = (40 : Int32) then (if 0 ≤ ((s15.1 + (1 : Int32))).toInt ∧ ((s15.1 + (1 : Int32))).toInt < (Lg : Int) then (if tg s15.2.1 z7 = (12, 6) then (Option.bind (fX11_bestPence s15.2.1 s15.2.2 z7 (xs (ix (s15.1 + (1 : Int32))))) (fun v434 => (if tg s15.2.1 z14 = (13, 86) then (Option.bind (fX12_bestPence s15.2.1 s15.2.2 z14 (xs (ix (s15.1 + (1 : Int32))))) (fun v437 => (if v434 = v437 then some (Sum.inl ((s15.1 + (7 : Int32)), s15.2.1, s15.2.2)) else none))) else none))) else none) else none) else (if ((xs (ix s15.1)) &&& (63 : Int32)) = (41 : Int32) then (if 0 ≤ ((s15.1 + (1 : Int32))).toInt ∧ ((s15.1 + (1 : Int32))).toInt < (Lg : Int) then (if 0 ≤ ((s15.1 + (2 : Int32))).toInt ∧ ((s15.1 + (2 : Int32))).toInt < (Lg : Int) then (if 0 ≤ ((s15.1 + (3 : Int32))).toInt ∧ ((s15.1 + (3 : Int32))).toInt < (Lg : Int) then (if tg s15.2.1 z7 = (12, 6) then (Option.bind (fX11_work s15.2.1 s15.2.2 z7 (xs (ix (s15.1 + (1 : Int32)))) (xs (ix (s15.1 + (2 : Int32)))) (xs (ix (s15.1 + (3 : Int32))))) (fun v445 => (if tg s15.2.1 z14 = (13, 86) then (Option.bind (fX12_work s15.2.1 v445.2 z14 (xs (ix (s15.1 + (1 : Int32)))) (xs (ix (s15.1 + (2 : Int32)))) (xs (ix (s15.1 + (3 : Int32))))) (fun v448 => (if v445.1 = v448.1 then some (Sum.inl ((s15.1 + (7 : Int32)), s15.2.1, v448.2)) else none))) else none))) else none) else none) else none) else none) else (if ((xs (ix s15.1)) &&& (63 : Int32)) = (42 : Int32) then (if 0 ≤ ((s15.1 + (1 : Int32))).toInt ∧ ((s15.1 + (1 : Int32))).toInt < (Lg : Int) then (if 0 ≤ ((s15.1 + (2 : Int32))).toInt ∧ ((s15.1 + (2 : Int32))).toInt < (Lg : Int) then (if tg s15.2.1 z7 = (12, 6) then (Option.bind (fX11_plan s15.2.1 s15.2.2 z7 (xs (ix (s15.1 + (1 : Int32)))) (xs (ix (s15.1 + (2 : Int32))))) (fun v455 => (if tg s15.2.1 z14 = (13, 86) then (Option.bind (fX12_plan s15.2.1 s15.2.2 z14 (xs (ix (s15.1 + (1 : Int32)))) (xs (ix (s15.1 + (2 : Int32))))) (fun v458 => (if v455 = v458 then some (Sum.inl ((s15.1 + (7 : Int32)), s15.2.1, s15.2.2)) else none))) else none))) else none) else none) else none) else (if ((xs (ix s15.1)) &&& (63 : Int32)) = (43 : Int32) then (if 0 ≤ ((s15.1 + (1 : Int32))).toInt ∧ ((s15.1 + (1 : Int32))).toInt < (Lg : Int) then (if tg s15.2.1 z7 = (12, 6) then (Option.bind (fX11_count s15.2.1 s15.2.2 z7 (xs (ix (s15.1 + (1 : Int32))))) (fun v464 => (if tg s15.2.1 z14 = (13, 86) then (Option.bind (fX12_count s15.2.1 s15.2.2 z14 (xs (ix (s15.1 + (1 : Int32))))) (fun v467 => (if v464 = v467 then some (Sum.inl ((s15.1 + (7 : Int32)), s15.2.1, s15.2.2)) else none))) else none))) else none) else none) else (if ((xs (ix s15.1)) &&& (63 : Int32)) = (44 : Int32) then (if tg s15.2.1 z7 = (12, 6) then (Option.bind (fX11_digest s15.2.1 s15.2.2 z7) (fun v472 => (if tg s15.2.1 z14 = (13, 86) then (Option.bind (fX12_digest s15.2.1 s15.2.2 z14) (fun v475 => (if (lg_cmp v472 v475.1) = 0 then some (Sum.inl ((s15.1 + (7 : Int32)), s15.2.1, v475.2)) else none))) else none))) else none) else some (Sum.inl ((s15.1 + (7 : Int32)), s15.2.1, s15.2.2))))))))))))))))))))))))))))))))))))))))))))))) else none))) ((0 : Int32), v12.1, v12.2))))))))))))))
set_option maxRecDepth 20000 in
set_option maxHeartbeats 4000000 in
theorem law_ref (Z : Shp) (M : Mem) (xs : Nat → Int32) (Lg : Nat) (hL : Lg ≤ 3584) (y : Res) (h : fL_law Z M xs Lg = some ()) (X : DX) (hX : Cx mL_law X) (hSc : Scr X Lg xs) (hQ : LawQ X) : Ref mL_law X 0 0 Z M 0 [(0, vr 1)] [] (some y) := by
  refine r_top (mk := fun _ => y) h (fun K hK => ?_)
  unfold fL_law
  refine r_new (ci := 11) (k1 := 1) (n1 := 6) (q := 3) hX (Nat.le_of_ble_eq_true rfl) (gd (hcw1_0 _ (List.mem_of_getElem? (i := 18) rfl)) rfl) (gd (hcw1_0 _ (List.mem_of_getElem? (i := 19) rfl)) rfl) (gd (hcw1_0 _ (List.mem_of_getElem? (i := 1) rfl)) rfl) rfl (Nat.le_of_ble_eq_true rfl) rfl (Nat.le_of_ble_eq_true rfl) dL_law_0 rfl (fun Z1 M2 hc3 he4 => ?_)
  refine r_dup (q := 4) hX dL_law_3 rfl rfl ?_
  refine r_bind (fun v5 h6 => ?_)
  refine r_ci (a := (Z.length + 2)) (As := []) (st := [vr (Z.length + 2)]) (r := none) (Z1 := v5.1) (M1 := v5.2) (k1 := 49) (n1 := 479) (st1 := [vr (Z.length + 2)]) (q := 7) hX (fun l => kX11_init l Z1 M2 (Z.length + 2) v5 h6) hc3 imX11_init rfl rfl ccX11_init (Or.inl lkL_9) rfl rfl rfl ⟨Nat.le_of_ble_eq_true rfl, Nat.le_of_ble_eq_true rfl, rfl, rfl, Nat.le_of_ble_eq_true rfl, Nat.le_of_ble_eq_true rfl⟩ (Nat.le_of_ble_eq_true rfl) dL_law_4 rfl ?_
  refine r_astore_nP (x := (Z.length + 2)) (q := 8) 1 [1, 0] (fun z7 => [(0, vr 1), (1, vr z7)]) hX dL_law_7 rfl (Nat.le_of_ble_eq_true rfl) (fun _ => rfl) rfl (fun z7 => ?_)
  refine r_new (ci := 12) (k1 := 50) (n1 := 565) (q := 11) hX (Nat.le_of_ble_eq_true rfl) (gd (hcw5_9 _ (List.mem_of_getElem? (i := 9) rfl)) rfl) (gd (hcw5_9 _ (List.mem_of_getElem? (i := 10) rfl)) rfl) (gd (hcw1_0 _ (List.mem_of_getElem? (i := 10) rfl)) rfl) rfl (Nat.le_of_ble_eq_true rfl) rfl (Nat.le_of_ble_eq_true rfl) dL_law_8 rfl (fun Z8 M9 hc10 he11 => ?_)
  refine r_dup (q := 12) hX dL_law_11 rfl rfl ?_
  refine r_bind (fun v12 h13 => ?_)
  refine r_ci (a := (v5.1.length + 2)) (As := []) (st := [vr (v5.1.length + 2)]) (r := none) (Z1 := v12.1) (M1 := v12.2) (k1 := 108) (n1 := 3361) (st1 := [vr (v5.1.length + 2)]) (q := 15) hX (fun l => kX12_init l Z8 M9 (v5.1.length + 2) v12 h13) hc10 imX12_init rfl rfl ccX12_init (Or.inl lkL_12) rfl rfl rfl ⟨Nat.le_of_ble_eq_true rfl, Nat.le_of_ble_eq_true rfl, rfl, rfl, Nat.le_of_ble_eq_true rfl, Nat.le_of_ble_eq_true rfl⟩ (Nat.le_of_ble_eq_true rfl) dL_law_12 rfl ?_
  refine r_astore_nP (x := (v5.1.length + 2)) (q := 16) 2 [1, 2, 0] (fun z14 => [(0, vr 1), (1, vr z7), (2, vr z14)]) hX dL_law_15 rfl (Nat.le_of_ble_eq_true rfl) (fun _ => rfl) rfl (fun z14 => ?_)
  refine r_iconst (v := (0 : Int32)) (q := 17) hX dL_law_16 rfl rfl ?_
  refine r_istore_n (x := (0 : Int32)) (q := 18) 3 [1, 2, 3, 0] (L1 := [(0, vr 1), (1, vr z7), (2, vr z14), (3, vi (0 : Int32))]) hX dL_law_17 rfl (Nat.le_of_ble_eq_true rfl) rfl rfl ?_
  refine r_loop (Hd := fun (s15 : Int32 × Shp × Mem) (P : Option Res) => ix s15.1 ≤ 3591 → Ref mL_law X (108 + 2 * ix s15.1) (3361 + 700 * ix s15.1) s15.2.1 s15.2.2 18 [(0, vr 1), (1, vr z7), (2, vr z14), (3, vi s15.1)] [] P) (fun _ _ => r_none) (fun s15 K1 hn16 hx17 hI => ?_) ((0 : Int32), v12.1, v12.2) (show ix 0 ≤ 3591 by decide)
  refine r_iload_n (i := 3) (x := s15.1) (q := 19) 3 hX dL_law_18 rfl rfl rfl ?_
  refine r_aload_n (i := 0) (x := 1) (q := 20) 0 hX dL_law_19 rfl rfl rfl ?_
  refine r_slen (q := 21) hX hSc dL_law_20 rfl ?_
  refine r_bipush (v := (7 : Int32)) (q := 23) hX dL_law_21 rfl rfl ?_
  refine r_isub (q := 24) hX dL_law_23 rfl ?_
  refine r_icmp_gt (tgt := 1759) (q := 27) hX dL_law_24 (by decide) rfl (fun hb18 => ?_) (fun hb18 => ?_)
  · refine r_iconst (v := (1 : Int32)) (q := 1760) hX dL_law_1759 rfl rfl ?_
    refine r_lf ((hx17 _).trans (hK _)) ?_
    exact r_lawend hX hQ (law_k hI 108 0 (Nat.le_of_ble_eq_true rfl)) (law_n hI 3361 0 (Nat.le_of_ble_eq_true rfl)) dL_law_1760
  · refine r_aload_n (i := 0) (x := 1) (q := 28) 0 hX dL_law_27 rfl rfl rfl ?_
    refine r_iload_n (i := 3) (x := s15.1) (q := 29) 3 hX dL_law_28 rfl rfl rfl ?_
    refine r_ck (fun hc19 => ?_)
    refine r_sld (i := s15.1) (q := 30) hX hSc hc19 dL_law_29 rfl ?_
    refine r_bipush (v := (63 : Int32)) (q := 32) hX dL_law_30 rfl rfl ?_
    refine r_iand (q := 33) hX dL_law_32 rfl ?_
    refine r_ite (fun hb20 => ?_) (fun hb20 => ?_)
    · refine r_tswI (off := 195) (q := 228) hX hb20 dL_law_33 (by decide) (by decide) ?_
      refine r_aload_n (i := 1) (x := z7) (q := 229) 1 hX dL_law_228 rfl rfl rfl ?_
      refine r_aload_n (i := 0) (x := 1) (q := 230) 0 hX dL_law_229 rfl rfl rfl ?_
      refine r_iload_n (i := 3) (x := s15.1) (q := 231) 3 hX dL_law_230 rfl rfl rfl ?_
      refine r_iconst (v := (1 : Int32)) (q := 232) hX dL_law_231 rfl rfl ?_
      refine r_iadd (q := 233) hX dL_law_232 rfl ?_
      refine r_ck (fun hc21 => ?_)
      refine r_sld (i := (s15.1 + (1 : Int32))) (q := 234) hX hSc hc21 dL_law_233 rfl ?_
      refine r_aload_n (i := 0) (x := 1) (q := 235) 0 hX dL_law_234 rfl rfl rfl ?_
      refine r_iload_n (i := 3) (x := s15.1) (q := 236) 3 hX dL_law_235 rfl rfl rfl ?_
      refine r_iconst (v := (2 : Int32)) (q := 237) hX dL_law_236 rfl rfl ?_
      refine r_iadd (q := 238) hX dL_law_237 rfl ?_
      refine r_ck (fun hc22 => ?_)
      refine r_sld (i := (s15.1 + (2 : Int32))) (q := 239) hX hSc hc22 dL_law_238 rfl ?_
      refine r_aload_n (i := 0) (x := 1) (q := 240) 0 hX dL_law_239 rfl rfl rfl ?_
      refine r_iload_n (i := 3) (x := s15.1) (q := 241) 3 hX dL_law_240 rfl rfl rfl ?_
      refine r_iconst (v := (3 : Int32)) (q := 242) hX dL_law_241 rfl rfl ?_
      refine r_iadd (q := 243) hX dL_law_242 rfl ?_
      refine r_ck (fun hc23 => ?_)
      refine r_sld (i := (s15.1 + (3 : Int32))) (q := 244) hX hSc hc23 dL_law_243 rfl ?_
      refine r_ck (fun hc24 => ?_)
      refine r_bind (fun v25 h26 => ?_)
      refine r_cv (a := z7) (As := [vi (xs (ix (s15.1 + (1 : Int32)))), vi (xs (ix (s15.1 + (2 : Int32)))), vi (xs (ix (s15.1 + (3 : Int32))))]) (st := []) (r := (some (vi v25.1))) (Z1 := s15.2.1) (M1 := v25.2) (k1 := (108 + 2 * ix s15.1)) (n1 := (3361 + 700 * ix s15.1)) (st1 := [vi v25.1]) (q := 247) hX (fun l => kX11_pound l s15.2.1 s15.2.2 z7 (xs (ix (s15.1 + (1 : Int32)))) (xs (ix (s15.1 + (2 : Int32)))) (xs (ix (s15.1 + (3 : Int32)))) v25 h26) hc24 ivX11_pound ccX11_pound (Or.inl lkL_13) rfl rfl rfl ⟨Nat.le_of_ble_eq_true rfl, Nat.le_of_ble_eq_true rfl, rfl, rfl, law_k hI 108 0 (Nat.le_of_ble_eq_true rfl), law_n hI 3361 0 (Nat.le_of_ble_eq_true rfl)⟩ (Nat.le_of_ble_eq_true rfl) dL_law_244 rfl ?_
      refine r_aload_n (i := 2) (x := z14) (q := 248) 2 hX dL_law_247 rfl rfl rfl ?_
      refine r_aload_n (i := 0) (x := 1) (q := 249) 0 hX dL_law_248 rfl rfl rfl ?_
      refine r_iload_n (i := 3) (x := s15.1) (q := 250) 3 hX dL_law_249 rfl rfl rfl ?_
      refine r_iconst (v := (1 : Int32)) (q := 251) hX dL_law_250 rfl rfl ?_
      refine r_iadd (q := 252) hX dL_law_251 rfl ?_
      refine r_sld (i := (s15.1 + (1 : Int32))) (q := 253) hX hSc hc21 dL_law_252 rfl ?_
      refine r_aload_n (i := 0) (x := 1) (q := 254) 0 hX dL_law_253 rfl rfl rfl ?_
      refine r_iload_n (i := 3) (x := s15.1) (q := 255) 3 hX dL_law_254 rfl rfl rfl ?_
      refine r_iconst (v := (2 : Int32)) (q := 256) hX dL_law_255 rfl rfl ?_
      refine r_iadd (q := 257) hX dL_law_256 rfl ?_
      refine r_sld (i := (s15.1 + (2 : Int32))) (q := 258) hX hSc hc22 dL_law_257 rfl ?_
      refine r_aload_n (i := 0) (x := 1) (q := 259) 0 hX dL_law_258 rfl rfl rfl ?_
      refine r_iload_n (i := 3) (x := s15.1) (q := 260) 3 hX dL_law_259 rfl rfl rfl ?_
      refine r_iconst (v := (3 : Int32)) (q := 261) hX dL_law_260 rfl rfl ?_
      refine r_iadd (q := 262) hX dL_law_261 rfl ?_
      refine r_sld (i := (s15.1 + (3 : Int32))) (q := 263) hX hSc hc23 dL_law_262 rfl ?_
      refine r_ck (fun hc27 => ?_)
      refine r_bind (fun v28 h29 => ?_)
      refine r_cv (a := z14) (As := [vi (xs (ix (s15.1 + (1 : Int32)))), vi (xs (ix (s15.1 + (2 : Int32)))), vi (xs (ix (s15.1 + (3 : Int32))))]) (st := [vi v25.1]) (r := (some (vi v28.1))) (Z1 := s15.2.1) (M1 := v28.2) (k1 := (108 + 2 * ix s15.1)) (n1 := (3361 + 700 * ix s15.1)) (st1 := [vi v28.1, vi v25.1]) (q := 266) hX (fun l => kX12_pound l s15.2.1 v25.2 z14 (xs (ix (s15.1 + (1 : Int32)))) (xs (ix (s15.1 + (2 : Int32)))) (xs (ix (s15.1 + (3 : Int32)))) v28 h29) hc27 ivX12_pound ccX12_pound (Or.inl lkL_17) rfl rfl rfl ⟨Nat.le_of_ble_eq_true rfl, Nat.le_of_ble_eq_true rfl, rfl, rfl, law_k hI 108 0 (Nat.le_of_ble_eq_true rfl), law_n hI 3361 0 (Nat.le_of_ble_eq_true rfl)⟩ (Nat.le_of_ble_eq_true rfl) dL_law_263 rfl ?_
      refine r_icmp_eq (tgt := 1753) (q := 269) hX dL_law_266 (by decide) rfl (fun hb30 => ?_) (fun hb30 => ?_)
      · refine r_iinc (x := s15.1) (v := (s15.1 + (7 : Int32))) (q := 1756) 3 3 [1, 2, 3, 0] (L1 := [(0, vr 1), (1, vr z7), (2, vr z14), (3, vi (s15.1 + (7 : Int32)))]) hX dL_law_1753 rfl rfl (Nat.le_of_ble_eq_true rfl) rfl rfl ?_
        refine r_goto (q := 18) hX dL_law_1756 (by decide) ?_
        refine r_l0 ?_
        refine r_wide (k1 := 108 + 2 * ix (s15.1 + (7 : Int32))) (n1 := 3361 + 700 * ix (s15.1 + (7 : Int32))) (law_wk hc19 hL 108 0 (Nat.le_of_ble_eq_true rfl)) (law_wn hc19 hL 3361 0 (Nat.le_of_ble_eq_true rfl)) ?_
        exact hn16 ((s15.1 + (7 : Int32)), s15.2.1, v28.2) (law_nx hc19 hL)
      · refine r_iconst (v := (0 : Int32)) (q := 270) hX dL_law_269 rfl rfl ?_
        exact r_none
    · refine r_ite (fun hb31 => ?_) (fun hb31 => ?_)
      · refine r_tswI (off := 238) (q := 271) hX hb31 dL_law_33 (by decide) (by decide) ?_
        refine r_aload_n (i := 1) (x := z7) (q := 272) 1 hX dL_law_271 rfl rfl rfl ?_
        refine r_aload_n (i := 0) (x := 1) (q := 273) 0 hX dL_law_272 rfl rfl rfl ?_
        refine r_iload_n (i := 3) (x := s15.1) (q := 274) 3 hX dL_law_273 rfl rfl rfl ?_
        refine r_iconst (v := (1 : Int32)) (q := 275) hX dL_law_274 rfl rfl ?_
        refine r_iadd (q := 276) hX dL_law_275 rfl ?_
        refine r_ck (fun hc32 => ?_)
        refine r_sld (i := (s15.1 + (1 : Int32))) (q := 277) hX hSc hc32 dL_law_276 rfl ?_
        refine r_ck (fun hc33 => ?_)
        refine r_bind (fun v34 h35 => ?_)
        refine r_cv (a := z7) (As := [vi (xs (ix (s15.1 + (1 : Int32))))]) (st := []) (r := (some (vi v34.1))) (Z1 := s15.2.1) (M1 := v34.2) (k1 := (108 + 2 * ix s15.1)) (n1 := (3361 + 700 * ix s15.1)) (st1 := [vi v34.1]) (q := 280) hX (fun l => kX11_summit l s15.2.1 s15.2.2 z7 (xs (ix (s15.1 + (1 : Int32)))) v34 h35) hc33 ivX11_summit ccX11_summit (Or.inl lkL_18) rfl rfl rfl ⟨Nat.le_of_ble_eq_true rfl, Nat.le_of_ble_eq_true rfl, rfl, rfl, law_k hI 108 0 (Nat.le_of_ble_eq_true rfl), law_n hI 3361 0 (Nat.le_of_ble_eq_true rfl)⟩ (Nat.le_of_ble_eq_true rfl) dL_law_277 rfl ?_
        refine r_aload_n (i := 2) (x := z14) (q := 281) 2 hX dL_law_280 rfl rfl rfl ?_
        refine r_aload_n (i := 0) (x := 1) (q := 282) 0 hX dL_law_281 rfl rfl rfl ?_
        refine r_iload_n (i := 3) (x := s15.1) (q := 283) 3 hX dL_law_282 rfl rfl rfl ?_
        refine r_iconst (v := (1 : Int32)) (q := 284) hX dL_law_283 rfl rfl ?_
        refine r_iadd (q := 285) hX dL_law_284 rfl ?_
        refine r_sld (i := (s15.1 + (1 : Int32))) (q := 286) hX hSc hc32 dL_law_285 rfl ?_
        refine r_ck (fun hc36 => ?_)
        refine r_bind (fun v37 h38 => ?_)
        refine r_cv (a := z14) (As := [vi (xs (ix (s15.1 + (1 : Int32))))]) (st := [vi v34.1]) (r := (some (vi v37.1))) (Z1 := s15.2.1) (M1 := v37.2) (k1 := (108 + 2 * ix s15.1)) (n1 := (3361 + 700 * ix s15.1)) (st1 := [vi v37.1, vi v34.1]) (q := 289) hX (fun l => kX12_summit l s15.2.1 v34.2 z14 (xs (ix (s15.1 + (1 : Int32)))) v37 h38) hc36 ivX12_summit ccX12_summit (Or.inl lkL_22) rfl rfl rfl ⟨Nat.le_of_ble_eq_true rfl, Nat.le_of_ble_eq_true rfl, rfl, rfl, law_k hI 108 0 (Nat.le_of_ble_eq_true rfl), law_n hI 3361 0 (Nat.le_of_ble_eq_true rfl)⟩ (Nat.le_of_ble_eq_true rfl) dL_law_286 rfl ?_
        refine r_icmp_eq (tgt := 1753) (q := 292) hX dL_law_289 (by decide) rfl (fun hb39 => ?_) (fun hb39 => ?_)
        · refine r_iinc (x := s15.1) (v := (s15.1 + (7 : Int32))) (q := 1756) 3 3 [1, 2, 3, 0] (L1 := [(0, vr 1), (1, vr z7), (2, vr z14), (3, vi (s15.1 + (7 : Int32)))]) hX dL_law_1753 rfl rfl (Nat.le_of_ble_eq_true rfl) rfl rfl ?_
          refine r_goto (q := 18) hX dL_law_1756 (by decide) ?_
          refine r_l0 ?_
          refine r_wide (k1 := 108 + 2 * ix (s15.1 + (7 : Int32))) (n1 := 3361 + 700 * ix (s15.1 + (7 : Int32))) (law_wk hc19 hL 108 0 (Nat.le_of_ble_eq_true rfl)) (law_wn hc19 hL 3361 0 (Nat.le_of_ble_eq_true rfl)) ?_
          exact hn16 ((s15.1 + (7 : Int32)), s15.2.1, v37.2) (law_nx hc19 hL)
        · refine r_iconst (v := (0 : Int32)) (q := 293) hX dL_law_292 rfl rfl ?_
          exact r_none
      · refine r_ite (fun hb40 => ?_) (fun hb40 => ?_)
        · refine r_tswI (off := 261) (q := 294) hX hb40 dL_law_33 (by decide) (by decide) ?_
          refine r_aload_n (i := 1) (x := z7) (q := 295) 1 hX dL_law_294 rfl rfl rfl ?_
          refine r_aload_n (i := 0) (x := 1) (q := 296) 0 hX dL_law_295 rfl rfl rfl ?_
          refine r_iload_n (i := 3) (x := s15.1) (q := 297) 3 hX dL_law_296 rfl rfl rfl ?_
          refine r_iconst (v := (1 : Int32)) (q := 298) hX dL_law_297 rfl rfl ?_
          refine r_iadd (q := 299) hX dL_law_298 rfl ?_
          refine r_ck (fun hc41 => ?_)
          refine r_sld (i := (s15.1 + (1 : Int32))) (q := 300) hX hSc hc41 dL_law_299 rfl ?_
          refine r_aload_n (i := 0) (x := 1) (q := 301) 0 hX dL_law_300 rfl rfl rfl ?_
          refine r_iload_n (i := 3) (x := s15.1) (q := 302) 3 hX dL_law_301 rfl rfl rfl ?_
          refine r_iconst (v := (2 : Int32)) (q := 303) hX dL_law_302 rfl rfl ?_
          refine r_iadd (q := 304) hX dL_law_303 rfl ?_
          refine r_ck (fun hc42 => ?_)
          refine r_sld (i := (s15.1 + (2 : Int32))) (q := 305) hX hSc hc42 dL_law_304 rfl ?_
          refine r_aload_n (i := 0) (x := 1) (q := 306) 0 hX dL_law_305 rfl rfl rfl ?_
          refine r_iload_n (i := 3) (x := s15.1) (q := 307) 3 hX dL_law_306 rfl rfl rfl ?_
          refine r_iconst (v := (3 : Int32)) (q := 308) hX dL_law_307 rfl rfl ?_
          refine r_iadd (q := 309) hX dL_law_308 rfl ?_
          refine r_ck (fun hc43 => ?_)
          refine r_sld (i := (s15.1 + (3 : Int32))) (q := 310) hX hSc hc43 dL_law_309 rfl ?_
          refine r_ck (fun hc44 => ?_)
          refine r_bind (fun v45 h46 => ?_)
          refine r_cv (a := z7) (As := [vi (xs (ix (s15.1 + (1 : Int32)))), vi (xs (ix (s15.1 + (2 : Int32)))), vi (xs (ix (s15.1 + (3 : Int32))))]) (st := []) (r := (some (vi v45.1))) (Z1 := s15.2.1) (M1 := v45.2) (k1 := (108 + 2 * ix s15.1)) (n1 := (3361 + 700 * ix s15.1)) (st1 := [vi v45.1]) (q := 313) hX (fun l => kX11_lock l s15.2.1 s15.2.2 z7 (xs (ix (s15.1 + (1 : Int32)))) (xs (ix (s15.1 + (2 : Int32)))) (xs (ix (s15.1 + (3 : Int32)))) v45 h46) hc44 ivX11_lock ccX11_lock (Or.inl lkL_23) rfl rfl rfl ⟨Nat.le_of_ble_eq_true rfl, Nat.le_of_ble_eq_true rfl, rfl, rfl, law_k hI 108 0 (Nat.le_of_ble_eq_true rfl), law_n hI 3361 0 (Nat.le_of_ble_eq_true rfl)⟩ (Nat.le_of_ble_eq_true rfl) dL_law_310 rfl ?_
          refine r_aload_n (i := 2) (x := z14) (q := 314) 2 hX dL_law_313 rfl rfl rfl ?_
          refine r_aload_n (i := 0) (x := 1) (q := 315) 0 hX dL_law_314 rfl rfl rfl ?_
          refine r_iload_n (i := 3) (x := s15.1) (q := 316) 3 hX dL_law_315 rfl rfl rfl ?_
          refine r_iconst (v := (1 : Int32)) (q := 317) hX dL_law_316 rfl rfl ?_
          refine r_iadd (q := 318) hX dL_law_317 rfl ?_
          refine r_sld (i := (s15.1 + (1 : Int32))) (q := 319) hX hSc hc41 dL_law_318 rfl ?_
          refine r_aload_n (i := 0) (x := 1) (q := 320) 0 hX dL_law_319 rfl rfl rfl ?_
          refine r_iload_n (i := 3) (x := s15.1) (q := 321) 3 hX dL_law_320 rfl rfl rfl ?_
          refine r_iconst (v := (2 : Int32)) (q := 322) hX dL_law_321 rfl rfl ?_
          refine r_iadd (q := 323) hX dL_law_322 rfl ?_
          refine r_sld (i := (s15.1 + (2 : Int32))) (q := 324) hX hSc hc42 dL_law_323 rfl ?_
          refine r_aload_n (i := 0) (x := 1) (q := 325) 0 hX dL_law_324 rfl rfl rfl ?_
          refine r_iload_n (i := 3) (x := s15.1) (q := 326) 3 hX dL_law_325 rfl rfl rfl ?_
          refine r_iconst (v := (3 : Int32)) (q := 327) hX dL_law_326 rfl rfl ?_
          refine r_iadd (q := 328) hX dL_law_327 rfl ?_
          refine r_sld (i := (s15.1 + (3 : Int32))) (q := 329) hX hSc hc43 dL_law_328 rfl ?_
          refine r_ck (fun hc47 => ?_)
          refine r_bind (fun v48 h49 => ?_)
          refine r_cv (a := z14) (As := [vi (xs (ix (s15.1 + (1 : Int32)))), vi (xs (ix (s15.1 + (2 : Int32)))), vi (xs (ix (s15.1 + (3 : Int32))))]) (st := [vi v45.1]) (r := (some (vi v48.1))) (Z1 := s15.2.1) (M1 := v48.2) (k1 := (108 + 2 * ix s15.1)) (n1 := (3361 + 700 * ix s15.1)) (st1 := [vi v48.1, vi v45.1]) (q := 332) hX (fun l => kX12_lock l s15.2.1 v45.2 z14 (xs (ix (s15.1 + (1 : Int32)))) (xs (ix (s15.1 + (2 : Int32)))) (xs (ix (s15.1 + (3 : Int32)))) v48 h49) hc47 ivX12_lock ccX12_lock (Or.inl lkL_26) rfl rfl rfl ⟨Nat.le_of_ble_eq_true rfl, Nat.le_of_ble_eq_true rfl, rfl, rfl, law_k hI 108 0 (Nat.le_of_ble_eq_true rfl), law_n hI 3361 0 (Nat.le_of_ble_eq_true rfl)⟩ (Nat.le_of_ble_eq_true rfl) dL_law_329 rfl ?_
          refine r_icmp_eq (tgt := 1753) (q := 335) hX dL_law_332 (by decide) rfl (fun hb50 => ?_) (fun hb50 => ?_)
          · refine r_iinc (x := s15.1) (v := (s15.1 + (7 : Int32))) (q := 1756) 3 3 [1, 2, 3, 0] (L1 := [(0, vr 1), (1, vr z7), (2, vr z14), (3, vi (s15.1 + (7 : Int32)))]) hX dL_law_1753 rfl rfl (Nat.le_of_ble_eq_true rfl) rfl rfl ?_
            refine r_goto (q := 18) hX dL_law_1756 (by decide) ?_
            refine r_l0 ?_
            refine r_wide (k1 := 108 + 2 * ix (s15.1 + (7 : Int32))) (n1 := 3361 + 700 * ix (s15.1 + (7 : Int32))) (law_wk hc19 hL 108 0 (Nat.le_of_ble_eq_true rfl)) (law_wn hc19 hL 3361 0 (Nat.le_of_ble_eq_true rfl)) ?_
            exact hn16 ((s15.1 + (7 : Int32)), s15.2.1, v48.2) (law_nx hc19 hL)
          · refine r_iconst (v := (0 : Int32)) (q := 336) hX dL_law_335 rfl rfl ?_
            exact r_none
        · refine r_ite (fun hb51 => ?_) (fun hb51 => ?_)
          · refine r_tswI (off := 304) (q := 337) hX hb51 dL_law_33 (by decide) (by decide) ?_
            refine r_aload_n (i := 1) (x := z7) (q := 338) 1 hX dL_law_337 rfl rfl rfl ?_
            refine r_aload_n (i := 0) (x := 1) (q := 339) 0 hX dL_law_338 rfl rfl rfl ?_
            refine r_iload_n (i := 3) (x := s15.1) (q := 340) 3 hX dL_law_339 rfl rfl rfl ?_
            refine r_iconst (v := (1 : Int32)) (q := 341) hX dL_law_340 rfl rfl ?_
            refine r_iadd (q := 342) hX dL_law_341 rfl ?_
            refine r_ck (fun hc52 => ?_)
            refine r_sld (i := (s15.1 + (1 : Int32))) (q := 343) hX hSc hc52 dL_law_342 rfl ?_
            refine r_aload_n (i := 0) (x := 1) (q := 344) 0 hX dL_law_343 rfl rfl rfl ?_
            refine r_iload_n (i := 3) (x := s15.1) (q := 345) 3 hX dL_law_344 rfl rfl rfl ?_
            refine r_iconst (v := (2 : Int32)) (q := 346) hX dL_law_345 rfl rfl ?_
            refine r_iadd (q := 347) hX dL_law_346 rfl ?_
            refine r_ck (fun hc53 => ?_)
            refine r_sld (i := (s15.1 + (2 : Int32))) (q := 348) hX hSc hc53 dL_law_347 rfl ?_
            refine r_aload_n (i := 0) (x := 1) (q := 349) 0 hX dL_law_348 rfl rfl rfl ?_
            refine r_iload_n (i := 3) (x := s15.1) (q := 350) 3 hX dL_law_349 rfl rfl rfl ?_
            refine r_iconst (v := (3 : Int32)) (q := 351) hX dL_law_350 rfl rfl ?_
            refine r_iadd (q := 352) hX dL_law_351 rfl ?_
            refine r_ck (fun hc54 => ?_)
            refine r_sld (i := (s15.1 + (3 : Int32))) (q := 353) hX hSc hc54 dL_law_352 rfl ?_
            refine r_aload_n (i := 0) (x := 1) (q := 354) 0 hX dL_law_353 rfl rfl rfl ?_
            refine r_iload_n (i := 3) (x := s15.1) (q := 355) 3 hX dL_law_354 rfl rfl rfl ?_
            refine r_iconst (v := (4 : Int32)) (q := 356) hX dL_law_355 rfl rfl ?_
            refine r_iadd (q := 357) hX dL_law_356 rfl ?_
            refine r_ck (fun hc55 => ?_)
            refine r_sld (i := (s15.1 + (4 : Int32))) (q := 358) hX hSc hc55 dL_law_357 rfl ?_
            refine r_ck (fun hc56 => ?_)
            refine r_bind (fun v57 h58 => ?_)
            refine r_cv (a := z7) (As := [vi (xs (ix (s15.1 + (1 : Int32)))), vi (xs (ix (s15.1 + (2 : Int32)))), vi (xs (ix (s15.1 + (3 : Int32)))), vi (xs (ix (s15.1 + (4 : Int32))))]) (st := []) (r := (some (vi v57.1))) (Z1 := v57.2.1) (M1 := v57.2.2) (k1 := (108 + 2 * ix s15.1 + 1)) (n1 := (3361 + 700 * ix s15.1 + 5)) (st1 := [vi v57.1]) (q := 361) hX (fun l => kX11_taker l s15.2.1 s15.2.2 z7 (xs (ix (s15.1 + (1 : Int32)))) (xs (ix (s15.1 + (2 : Int32)))) (xs (ix (s15.1 + (3 : Int32)))) (xs (ix (s15.1 + (4 : Int32)))) v57 h58) hc56 ivX11_taker ccX11_taker (Or.inl lkL_27) rfl rfl rfl ⟨Nat.le_of_ble_eq_true rfl, Nat.le_of_ble_eq_true rfl, rfl, rfl, law_k hI 108 1 (Nat.le_of_ble_eq_true rfl), law_n hI 3361 5 (Nat.le_of_ble_eq_true rfl)⟩ (Nat.le_of_ble_eq_true rfl) dL_law_358 rfl ?_
            refine r_aload_n (i := 2) (x := z14) (q := 362) 2 hX dL_law_361 rfl rfl rfl ?_
            refine r_aload_n (i := 0) (x := 1) (q := 363) 0 hX dL_law_362 rfl rfl rfl ?_
            refine r_iload_n (i := 3) (x := s15.1) (q := 364) 3 hX dL_law_363 rfl rfl rfl ?_
            refine r_iconst (v := (1 : Int32)) (q := 365) hX dL_law_364 rfl rfl ?_
            refine r_iadd (q := 366) hX dL_law_365 rfl ?_
            refine r_sld (i := (s15.1 + (1 : Int32))) (q := 367) hX hSc hc52 dL_law_366 rfl ?_
            refine r_aload_n (i := 0) (x := 1) (q := 368) 0 hX dL_law_367 rfl rfl rfl ?_
            refine r_iload_n (i := 3) (x := s15.1) (q := 369) 3 hX dL_law_368 rfl rfl rfl ?_
            refine r_iconst (v := (2 : Int32)) (q := 370) hX dL_law_369 rfl rfl ?_
            refine r_iadd (q := 371) hX dL_law_370 rfl ?_
            refine r_sld (i := (s15.1 + (2 : Int32))) (q := 372) hX hSc hc53 dL_law_371 rfl ?_
            refine r_aload_n (i := 0) (x := 1) (q := 373) 0 hX dL_law_372 rfl rfl rfl ?_
            refine r_iload_n (i := 3) (x := s15.1) (q := 374) 3 hX dL_law_373 rfl rfl rfl ?_
            refine r_iconst (v := (3 : Int32)) (q := 375) hX dL_law_374 rfl rfl ?_
            refine r_iadd (q := 376) hX dL_law_375 rfl ?_
            refine r_sld (i := (s15.1 + (3 : Int32))) (q := 377) hX hSc hc54 dL_law_376 rfl ?_
            refine r_aload_n (i := 0) (x := 1) (q := 378) 0 hX dL_law_377 rfl rfl rfl ?_
            refine r_iload_n (i := 3) (x := s15.1) (q := 379) 3 hX dL_law_378 rfl rfl rfl ?_
            refine r_iconst (v := (4 : Int32)) (q := 380) hX dL_law_379 rfl rfl ?_
            refine r_iadd (q := 381) hX dL_law_380 rfl ?_
            refine r_sld (i := (s15.1 + (4 : Int32))) (q := 382) hX hSc hc55 dL_law_381 rfl ?_
            refine r_ck (fun hc59 => ?_)
            refine r_bind (fun v60 h61 => ?_)
            refine r_cv (a := z14) (As := [vi (xs (ix (s15.1 + (1 : Int32)))), vi (xs (ix (s15.1 + (2 : Int32)))), vi (xs (ix (s15.1 + (3 : Int32)))), vi (xs (ix (s15.1 + (4 : Int32))))]) (st := [vi v57.1]) (r := (some (vi v60.1))) (Z1 := v57.2.1) (M1 := v60.2) (k1 := (108 + 2 * ix s15.1 + 1)) (n1 := (3361 + 700 * ix s15.1 + 5)) (st1 := [vi v60.1, vi v57.1]) (q := 385) hX (fun l => kX12_taker l v57.2.1 v57.2.2 z14 (xs (ix (s15.1 + (1 : Int32)))) (xs (ix (s15.1 + (2 : Int32)))) (xs (ix (s15.1 + (3 : Int32)))) (xs (ix (s15.1 + (4 : Int32)))) v60 h61) hc59 ivX12_taker ccX12_taker (Or.inl lkL_31) rfl rfl rfl ⟨Nat.le_of_ble_eq_true rfl, Nat.le_of_ble_eq_true rfl, rfl, rfl, law_k hI 108 1 (Nat.le_of_ble_eq_true rfl), law_n hI 3361 5 (Nat.le_of_ble_eq_true rfl)⟩ (Nat.le_of_ble_eq_true rfl) dL_law_382 rfl ?_
            refine r_icmp_eq (tgt := 1753) (q := 388) hX dL_law_385 (by decide) rfl (fun hb62 => ?_) (fun hb62 => ?_)
            · refine r_iinc (x := s15.1) (v := (s15.1 + (7 : Int32))) (q := 1756) 3 3 [1, 2, 3, 0] (L1 := [(0, vr 1), (1, vr z7), (2, vr z14), (3, vi (s15.1 + (7 : Int32)))]) hX dL_law_1753 rfl rfl (Nat.le_of_ble_eq_true rfl) rfl rfl ?_
              refine r_goto (q := 18) hX dL_law_1756 (by decide) ?_
              refine r_l0 ?_
              refine r_wide (k1 := 108 + 2 * ix (s15.1 + (7 : Int32))) (n1 := 3361 + 700 * ix (s15.1 + (7 : Int32))) (law_wk hc19 hL 108 1 (Nat.le_of_ble_eq_true rfl)) (law_wn hc19 hL 3361 5 (Nat.le_of_ble_eq_true rfl)) ?_
              exact hn16 ((s15.1 + (7 : Int32)), v57.2.1, v60.2) (law_nx hc19 hL)
            · refine r_iconst (v := (0 : Int32)) (q := 389) hX dL_law_388 rfl rfl ?_
              exact r_none
          · refine r_ite (fun hb63 => ?_) (fun hb63 => ?_)
            · refine r_tswI (off := 357) (q := 390) hX hb63 dL_law_33 (by decide) (by decide) ?_
              refine r_aload_n (i := 1) (x := z7) (q := 391) 1 hX dL_law_390 rfl rfl rfl ?_
              refine r_aload_n (i := 0) (x := 1) (q := 392) 0 hX dL_law_391 rfl rfl rfl ?_
              refine r_iload_n (i := 3) (x := s15.1) (q := 393) 3 hX dL_law_392 rfl rfl rfl ?_
              refine r_iconst (v := (1 : Int32)) (q := 394) hX dL_law_393 rfl rfl ?_
              refine r_iadd (q := 395) hX dL_law_394 rfl ?_
              refine r_ck (fun hc64 => ?_)
              refine r_sld (i := (s15.1 + (1 : Int32))) (q := 396) hX hSc hc64 dL_law_395 rfl ?_
              refine r_aload_n (i := 0) (x := 1) (q := 397) 0 hX dL_law_396 rfl rfl rfl ?_
              refine r_iload_n (i := 3) (x := s15.1) (q := 398) 3 hX dL_law_397 rfl rfl rfl ?_
              refine r_iconst (v := (2 : Int32)) (q := 399) hX dL_law_398 rfl rfl ?_
              refine r_iadd (q := 400) hX dL_law_399 rfl ?_
              refine r_ck (fun hc65 => ?_)
              refine r_sld (i := (s15.1 + (2 : Int32))) (q := 401) hX hSc hc65 dL_law_400 rfl ?_
              refine r_ck (fun hc66 => ?_)
              refine r_bind (fun v67 h68 => ?_)
              refine r_cv (a := z7) (As := [vi (xs (ix (s15.1 + (1 : Int32)))), vi (xs (ix (s15.1 + (2 : Int32))))]) (st := []) (r := (some (vi v67))) (Z1 := s15.2.1) (M1 := s15.2.2) (k1 := (108 + 2 * ix s15.1)) (n1 := (3361 + 700 * ix s15.1)) (st1 := [vi v67]) (q := 404) hX (fun l => kX11_as l s15.2.1 s15.2.2 z7 (xs (ix (s15.1 + (1 : Int32)))) (xs (ix (s15.1 + (2 : Int32)))) v67 h68) hc66 ivX11_as ccX11_as (Or.inl lkL_32) rfl rfl rfl ⟨Nat.le_of_ble_eq_true rfl, Nat.le_of_ble_eq_true rfl, rfl, rfl, law_k hI 108 0 (Nat.le_of_ble_eq_true rfl), law_n hI 3361 0 (Nat.le_of_ble_eq_true rfl)⟩ (Nat.le_of_ble_eq_true rfl) dL_law_401 rfl ?_
              refine r_aload_n (i := 2) (x := z14) (q := 405) 2 hX dL_law_404 rfl rfl rfl ?_
              refine r_aload_n (i := 0) (x := 1) (q := 406) 0 hX dL_law_405 rfl rfl rfl ?_
              refine r_iload_n (i := 3) (x := s15.1) (q := 407) 3 hX dL_law_406 rfl rfl rfl ?_
              refine r_iconst (v := (1 : Int32)) (q := 408) hX dL_law_407 rfl rfl ?_
              refine r_iadd (q := 409) hX dL_law_408 rfl ?_
              refine r_sld (i := (s15.1 + (1 : Int32))) (q := 410) hX hSc hc64 dL_law_409 rfl ?_
              refine r_aload_n (i := 0) (x := 1) (q := 411) 0 hX dL_law_410 rfl rfl rfl ?_
              refine r_iload_n (i := 3) (x := s15.1) (q := 412) 3 hX dL_law_411 rfl rfl rfl ?_
              refine r_iconst (v := (2 : Int32)) (q := 413) hX dL_law_412 rfl rfl ?_
              refine r_iadd (q := 414) hX dL_law_413 rfl ?_
              refine r_sld (i := (s15.1 + (2 : Int32))) (q := 415) hX hSc hc65 dL_law_414 rfl ?_
              refine r_ck (fun hc69 => ?_)
              refine r_bind (fun v70 h71 => ?_)
              refine r_cv (a := z14) (As := [vi (xs (ix (s15.1 + (1 : Int32)))), vi (xs (ix (s15.1 + (2 : Int32))))]) (st := [vi v67]) (r := (some (vi v70))) (Z1 := s15.2.1) (M1 := s15.2.2) (k1 := (108 + 2 * ix s15.1)) (n1 := (3361 + 700 * ix s15.1)) (st1 := [vi v70, vi v67]) (q := 418) hX (fun l => kX12_as l s15.2.1 s15.2.2 z14 (xs (ix (s15.1 + (1 : Int32)))) (xs (ix (s15.1 + (2 : Int32)))) v70 h71) hc69 ivX12_as ccX12_as (Or.inl lkL_36) rfl rfl rfl ⟨Nat.le_of_ble_eq_true rfl, Nat.le_of_ble_eq_true rfl, rfl, rfl, law_k hI 108 0 (Nat.le_of_ble_eq_true rfl), law_n hI 3361 0 (Nat.le_of_ble_eq_true rfl)⟩ (Nat.le_of_ble_eq_true rfl) dL_law_415 rfl ?_
              refine r_icmp_eq (tgt := 1753) (q := 421) hX dL_law_418 (by decide) rfl (fun hb72 => ?_) (fun hb72 => ?_)
              · refine r_iinc (x := s15.1) (v := (s15.1 + (7 : Int32))) (q := 1756) 3 3 [1, 2, 3, 0] (L1 := [(0, vr 1), (1, vr z7), (2, vr z14), (3, vi (s15.1 + (7 : Int32)))]) hX dL_law_1753 rfl rfl (Nat.le_of_ble_eq_true rfl) rfl rfl ?_
                refine r_goto (q := 18) hX dL_law_1756 (by decide) ?_
                refine r_l0 ?_
                refine r_wide (k1 := 108 + 2 * ix (s15.1 + (7 : Int32))) (n1 := 3361 + 700 * ix (s15.1 + (7 : Int32))) (law_wk hc19 hL 108 0 (Nat.le_of_ble_eq_true rfl)) (law_wn hc19 hL 3361 0 (Nat.le_of_ble_eq_true rfl)) ?_
                exact hn16 ((s15.1 + (7 : Int32)), s15.2.1, s15.2.2) (law_nx hc19 hL)
              · refine r_iconst (v := (0 : Int32)) (q := 422) hX dL_law_421 rfl rfl ?_
                exact r_none
            · refine r_ite (fun hb73 => ?_) (fun hb73 => ?_)
              · refine r_tswI (off := 390) (q := 423) hX hb73 dL_law_33 (by decide) (by decide) ?_
                refine r_aload_n (i := 1) (x := z7) (q := 424) 1 hX dL_law_423 rfl rfl rfl ?_
                refine r_aload_n (i := 0) (x := 1) (q := 425) 0 hX dL_law_424 rfl rfl rfl ?_
                refine r_iload_n (i := 3) (x := s15.1) (q := 426) 3 hX dL_law_425 rfl rfl rfl ?_
                refine r_iconst (v := (1 : Int32)) (q := 427) hX dL_law_426 rfl rfl ?_
                refine r_iadd (q := 428) hX dL_law_427 rfl ?_
                refine r_ck (fun hc74 => ?_)
                refine r_sld (i := (s15.1 + (1 : Int32))) (q := 429) hX hSc hc74 dL_law_428 rfl ?_
                refine r_aload_n (i := 0) (x := 1) (q := 430) 0 hX dL_law_429 rfl rfl rfl ?_
                refine r_iload_n (i := 3) (x := s15.1) (q := 431) 3 hX dL_law_430 rfl rfl rfl ?_
                refine r_iconst (v := (2 : Int32)) (q := 432) hX dL_law_431 rfl rfl ?_
                refine r_iadd (q := 433) hX dL_law_432 rfl ?_
                refine r_ck (fun hc75 => ?_)
                refine r_sld (i := (s15.1 + (2 : Int32))) (q := 434) hX hSc hc75 dL_law_433 rfl ?_
                refine r_aload_n (i := 0) (x := 1) (q := 435) 0 hX dL_law_434 rfl rfl rfl ?_
                refine r_iload_n (i := 3) (x := s15.1) (q := 436) 3 hX dL_law_435 rfl rfl rfl ?_
                refine r_iconst (v := (3 : Int32)) (q := 437) hX dL_law_436 rfl rfl ?_
                refine r_iadd (q := 438) hX dL_law_437 rfl ?_
                refine r_ck (fun hc76 => ?_)
                refine r_sld (i := (s15.1 + (3 : Int32))) (q := 439) hX hSc hc76 dL_law_438 rfl ?_
                refine r_ck (fun hc77 => ?_)
                refine r_bind (fun v78 h79 => ?_)
                refine r_cv (a := z7) (As := [vi (xs (ix (s15.1 + (1 : Int32)))), vi (xs (ix (s15.1 + (2 : Int32)))), vi (xs (ix (s15.1 + (3 : Int32))))]) (st := []) (r := (some (vi v78))) (Z1 := s15.2.1) (M1 := s15.2.2) (k1 := (108 + 2 * ix s15.1)) (n1 := (3361 + 700 * ix s15.1)) (st1 := [vi v78]) (q := 442) hX (fun l => kX11_acts l s15.2.1 s15.2.2 z7 (xs (ix (s15.1 + (1 : Int32)))) (xs (ix (s15.1 + (2 : Int32)))) (xs (ix (s15.1 + (3 : Int32)))) v78 h79) hc77 ivX11_acts ccX11_acts (Or.inl lkL_37) rfl rfl rfl ⟨Nat.le_of_ble_eq_true rfl, Nat.le_of_ble_eq_true rfl, rfl, rfl, law_k hI 108 0 (Nat.le_of_ble_eq_true rfl), law_n hI 3361 0 (Nat.le_of_ble_eq_true rfl)⟩ (Nat.le_of_ble_eq_true rfl) dL_law_439 rfl ?_
                refine r_aload_n (i := 2) (x := z14) (q := 443) 2 hX dL_law_442 rfl rfl rfl ?_
                refine r_aload_n (i := 0) (x := 1) (q := 444) 0 hX dL_law_443 rfl rfl rfl ?_
                refine r_iload_n (i := 3) (x := s15.1) (q := 445) 3 hX dL_law_444 rfl rfl rfl ?_
                refine r_iconst (v := (1 : Int32)) (q := 446) hX dL_law_445 rfl rfl ?_
                refine r_iadd (q := 447) hX dL_law_446 rfl ?_
                refine r_sld (i := (s15.1 + (1 : Int32))) (q := 448) hX hSc hc74 dL_law_447 rfl ?_
                refine r_aload_n (i := 0) (x := 1) (q := 449) 0 hX dL_law_448 rfl rfl rfl ?_
                refine r_iload_n (i := 3) (x := s15.1) (q := 450) 3 hX dL_law_449 rfl rfl rfl ?_
                refine r_iconst (v := (2 : Int32)) (q := 451) hX dL_law_450 rfl rfl ?_
                refine r_iadd (q := 452) hX dL_law_451 rfl ?_
                refine r_sld (i := (s15.1 + (2 : Int32))) (q := 453) hX hSc hc75 dL_law_452 rfl ?_
                refine r_aload_n (i := 0) (x := 1) (q := 454) 0 hX dL_law_453 rfl rfl rfl ?_
                refine r_iload_n (i := 3) (x := s15.1) (q := 455) 3 hX dL_law_454 rfl rfl rfl ?_
                refine r_iconst (v := (3 : Int32)) (q := 456) hX dL_law_455 rfl rfl ?_
                refine r_iadd (q := 457) hX dL_law_456 rfl ?_
                refine r_sld (i := (s15.1 + (3 : Int32))) (q := 458) hX hSc hc76 dL_law_457 rfl ?_
                refine r_ck (fun hc80 => ?_)
                refine r_bind (fun v81 h82 => ?_)
                refine r_cv (a := z14) (As := [vi (xs (ix (s15.1 + (1 : Int32)))), vi (xs (ix (s15.1 + (2 : Int32)))), vi (xs (ix (s15.1 + (3 : Int32))))]) (st := [vi v78]) (r := (some (vi v81))) (Z1 := s15.2.1) (M1 := s15.2.2) (k1 := (108 + 2 * ix s15.1)) (n1 := (3361 + 700 * ix s15.1)) (st1 := [vi v81, vi v78]) (q := 461) hX (fun l => kX12_acts l s15.2.1 s15.2.2 z14 (xs (ix (s15.1 + (1 : Int32)))) (xs (ix (s15.1 + (2 : Int32)))) (xs (ix (s15.1 + (3 : Int32)))) v81 h82) hc80 ivX12_acts ccX12_acts (Or.inl lkL_40) rfl rfl rfl ⟨Nat.le_of_ble_eq_true rfl, Nat.le_of_ble_eq_true rfl, rfl, rfl, law_k hI 108 0 (Nat.le_of_ble_eq_true rfl), law_n hI 3361 0 (Nat.le_of_ble_eq_true rfl)⟩ (Nat.le_of_ble_eq_true rfl) dL_law_458 rfl ?_
                refine r_icmp_eq (tgt := 1753) (q := 464) hX dL_law_461 (by decide) rfl (fun hb83 => ?_) (fun hb83 => ?_)
                · refine r_iinc (x := s15.1) (v := (s15.1 + (7 : Int32))) (q := 1756) 3 3 [1, 2, 3, 0] (L1 := [(0, vr 1), (1, vr z7), (2, vr z14), (3, vi (s15.1 + (7 : Int32)))]) hX dL_law_1753 rfl rfl (Nat.le_of_ble_eq_true rfl) rfl rfl ?_
                  refine r_goto (q := 18) hX dL_law_1756 (by decide) ?_
                  refine r_l0 ?_
                  refine r_wide (k1 := 108 + 2 * ix (s15.1 + (7 : Int32))) (n1 := 3361 + 700 * ix (s15.1 + (7 : Int32))) (law_wk hc19 hL 108 0 (Nat.le_of_ble_eq_true rfl)) (law_wn hc19 hL 3361 0 (Nat.le_of_ble_eq_true rfl)) ?_
                  exact hn16 ((s15.1 + (7 : Int32)), s15.2.1, s15.2.2) (law_nx hc19 hL)
                · refine r_iconst (v := (0 : Int32)) (q := 465) hX dL_law_464 rfl rfl ?_
                  exact r_none
              · refine r_ite (fun hb84 => ?_) (fun hb84 => ?_)
                · refine r_tswI (off := 433) (q := 466) hX hb84 dL_law_33 (by decide) (by decide) ?_
                  refine r_aload_n (i := 1) (x := z7) (q := 467) 1 hX dL_law_466 rfl rfl rfl ?_
                  refine r_aload_n (i := 0) (x := 1) (q := 468) 0 hX dL_law_467 rfl rfl rfl ?_
                  refine r_iload_n (i := 3) (x := s15.1) (q := 469) 3 hX dL_law_468 rfl rfl rfl ?_
                  refine r_iconst (v := (1 : Int32)) (q := 470) hX dL_law_469 rfl rfl ?_
                  refine r_iadd (q := 471) hX dL_law_470 rfl ?_
                  refine r_ck (fun hc85 => ?_)
                  refine r_sld (i := (s15.1 + (1 : Int32))) (q := 472) hX hSc hc85 dL_law_471 rfl ?_
                  refine r_aload_n (i := 0) (x := 1) (q := 473) 0 hX dL_law_472 rfl rfl rfl ?_
                  refine r_iload_n (i := 3) (x := s15.1) (q := 474) 3 hX dL_law_473 rfl rfl rfl ?_
                  refine r_iconst (v := (2 : Int32)) (q := 475) hX dL_law_474 rfl rfl ?_
                  refine r_iadd (q := 476) hX dL_law_475 rfl ?_
                  refine r_ck (fun hc86 => ?_)
                  refine r_sld (i := (s15.1 + (2 : Int32))) (q := 477) hX hSc hc86 dL_law_476 rfl ?_
                  refine r_aload_n (i := 0) (x := 1) (q := 478) 0 hX dL_law_477 rfl rfl rfl ?_
                  refine r_iload_n (i := 3) (x := s15.1) (q := 479) 3 hX dL_law_478 rfl rfl rfl ?_
                  refine r_iconst (v := (3 : Int32)) (q := 480) hX dL_law_479 rfl rfl ?_
                  refine r_iadd (q := 481) hX dL_law_480 rfl ?_
                  refine r_ck (fun hc87 => ?_)
                  refine r_sld (i := (s15.1 + (3 : Int32))) (q := 482) hX hSc hc87 dL_law_481 rfl ?_
                  refine r_aload_n (i := 0) (x := 1) (q := 483) 0 hX dL_law_482 rfl rfl rfl ?_
                  refine r_iload_n (i := 3) (x := s15.1) (q := 484) 3 hX dL_law_483 rfl rfl rfl ?_
                  refine r_iconst (v := (4 : Int32)) (q := 485) hX dL_law_484 rfl rfl ?_
                  refine r_iadd (q := 486) hX dL_law_485 rfl ?_
                  refine r_ck (fun hc88 => ?_)
                  refine r_sld (i := (s15.1 + (4 : Int32))) (q := 487) hX hSc hc88 dL_law_486 rfl ?_
                  refine r_aload_n (i := 0) (x := 1) (q := 488) 0 hX dL_law_487 rfl rfl rfl ?_
                  refine r_iload_n (i := 3) (x := s15.1) (q := 489) 3 hX dL_law_488 rfl rfl rfl ?_
                  refine r_iconst (v := (5 : Int32)) (q := 490) hX dL_law_489 rfl rfl ?_
                  refine r_iadd (q := 491) hX dL_law_490 rfl ?_
                  refine r_ck (fun hc89 => ?_)
                  refine r_sld (i := (s15.1 + (5 : Int32))) (q := 492) hX hSc hc89 dL_law_491 rfl ?_
                  refine r_aload_n (i := 0) (x := 1) (q := 493) 0 hX dL_law_492 rfl rfl rfl ?_
                  refine r_iload_n (i := 3) (x := s15.1) (q := 494) 3 hX dL_law_493 rfl rfl rfl ?_
                  refine r_bipush (v := (6 : Int32)) (q := 496) hX dL_law_494 rfl rfl ?_
                  refine r_iadd (q := 497) hX dL_law_496 rfl ?_
                  refine r_ck (fun hc90 => ?_)
                  refine r_sld (i := (s15.1 + (6 : Int32))) (q := 498) hX hSc hc90 dL_law_497 rfl ?_
                  refine r_ck (fun hc91 => ?_)
                  refine r_bind (fun v92 h93 => ?_)
                  refine r_cv (a := z7) (As := [vi (xs (ix (s15.1 + (1 : Int32)))), vi (xs (ix (s15.1 + (2 : Int32)))), vi (xs (ix (s15.1 + (3 : Int32)))), vi (xs (ix (s15.1 + (4 : Int32)))), vi (xs (ix (s15.1 + (5 : Int32)))), vi (xs (ix (s15.1 + (6 : Int32))))]) (st := []) (r := (some (vi v92.1))) (Z1 := v92.2.1) (M1 := v92.2.2) (k1 := (108 + 2 * ix s15.1 + 1)) (n1 := (3361 + 700 * ix s15.1 + 10)) (st1 := [vi v92.1]) (q := 501) hX (fun l => kX11_boat l s15.2.1 s15.2.2 z7 (xs (ix (s15.1 + (1 : Int32)))) (xs (ix (s15.1 + (2 : Int32)))) (xs (ix (s15.1 + (3 : Int32)))) (xs (ix (s15.1 + (4 : Int32)))) (xs (ix (s15.1 + (5 : Int32)))) (xs (ix (s15.1 + (6 : Int32)))) v92 h93) hc91 ivX11_boat ccX11_boat (Or.inl lkL_41) rfl rfl rfl ⟨Nat.le_of_ble_eq_true rfl, Nat.le_of_ble_eq_true rfl, rfl, rfl, law_k hI 108 1 (Nat.le_of_ble_eq_true rfl), law_n hI 3361 10 (Nat.le_of_ble_eq_true rfl)⟩ (Nat.le_of_ble_eq_true rfl) dL_law_498 rfl ?_
                  refine r_aload_n (i := 2) (x := z14) (q := 502) 2 hX dL_law_501 rfl rfl rfl ?_
                  refine r_aload_n (i := 0) (x := 1) (q := 503) 0 hX dL_law_502 rfl rfl rfl ?_
                  refine r_iload_n (i := 3) (x := s15.1) (q := 504) 3 hX dL_law_503 rfl rfl rfl ?_
                  refine r_iconst (v := (1 : Int32)) (q := 505) hX dL_law_504 rfl rfl ?_
                  refine r_iadd (q := 506) hX dL_law_505 rfl ?_
                  refine r_sld (i := (s15.1 + (1 : Int32))) (q := 507) hX hSc hc85 dL_law_506 rfl ?_
                  refine r_aload_n (i := 0) (x := 1) (q := 508) 0 hX dL_law_507 rfl rfl rfl ?_
                  refine r_iload_n (i := 3) (x := s15.1) (q := 509) 3 hX dL_law_508 rfl rfl rfl ?_
                  refine r_iconst (v := (2 : Int32)) (q := 510) hX dL_law_509 rfl rfl ?_
                  refine r_iadd (q := 511) hX dL_law_510 rfl ?_
                  refine r_sld (i := (s15.1 + (2 : Int32))) (q := 512) hX hSc hc86 dL_law_511 rfl ?_
                  refine r_aload_n (i := 0) (x := 1) (q := 513) 0 hX dL_law_512 rfl rfl rfl ?_
                  refine r_iload_n (i := 3) (x := s15.1) (q := 514) 3 hX dL_law_513 rfl rfl rfl ?_
                  refine r_iconst (v := (3 : Int32)) (q := 515) hX dL_law_514 rfl rfl ?_
                  refine r_iadd (q := 516) hX dL_law_515 rfl ?_
                  refine r_sld (i := (s15.1 + (3 : Int32))) (q := 517) hX hSc hc87 dL_law_516 rfl ?_
                  refine r_aload_n (i := 0) (x := 1) (q := 518) 0 hX dL_law_517 rfl rfl rfl ?_
                  refine r_iload_n (i := 3) (x := s15.1) (q := 519) 3 hX dL_law_518 rfl rfl rfl ?_
                  refine r_iconst (v := (4 : Int32)) (q := 520) hX dL_law_519 rfl rfl ?_
                  refine r_iadd (q := 521) hX dL_law_520 rfl ?_
                  refine r_sld (i := (s15.1 + (4 : Int32))) (q := 522) hX hSc hc88 dL_law_521 rfl ?_
                  refine r_aload_n (i := 0) (x := 1) (q := 523) 0 hX dL_law_522 rfl rfl rfl ?_
                  refine r_iload_n (i := 3) (x := s15.1) (q := 524) 3 hX dL_law_523 rfl rfl rfl ?_
                  refine r_iconst (v := (5 : Int32)) (q := 525) hX dL_law_524 rfl rfl ?_
                  refine r_iadd (q := 526) hX dL_law_525 rfl ?_
                  refine r_sld (i := (s15.1 + (5 : Int32))) (q := 527) hX hSc hc89 dL_law_526 rfl ?_
                  refine r_aload_n (i := 0) (x := 1) (q := 528) 0 hX dL_law_527 rfl rfl rfl ?_
                  refine r_iload_n (i := 3) (x := s15.1) (q := 529) 3 hX dL_law_528 rfl rfl rfl ?_
                  refine r_bipush (v := (6 : Int32)) (q := 531) hX dL_law_529 rfl rfl ?_
                  refine r_iadd (q := 532) hX dL_law_531 rfl ?_
                  refine r_sld (i := (s15.1 + (6 : Int32))) (q := 533) hX hSc hc90 dL_law_532 rfl ?_
                  refine r_ck (fun hc94 => ?_)
                  refine r_bind (fun v95 h96 => ?_)
                  refine r_cv (a := z14) (As := [vi (xs (ix (s15.1 + (1 : Int32)))), vi (xs (ix (s15.1 + (2 : Int32)))), vi (xs (ix (s15.1 + (3 : Int32)))), vi (xs (ix (s15.1 + (4 : Int32)))), vi (xs (ix (s15.1 + (5 : Int32)))), vi (xs (ix (s15.1 + (6 : Int32))))]) (st := [vi v92.1]) (r := (some (vi v95.1))) (Z1 := v92.2.1) (M1 := v95.2) (k1 := (108 + 2 * ix s15.1 + 1)) (n1 := (3361 + 700 * ix s15.1 + 10)) (st1 := [vi v95.1, vi v92.1]) (q := 536) hX (fun l => kX12_boat l v92.2.1 v92.2.2 z14 (xs (ix (s15.1 + (1 : Int32)))) (xs (ix (s15.1 + (2 : Int32)))) (xs (ix (s15.1 + (3 : Int32)))) (xs (ix (s15.1 + (4 : Int32)))) (xs (ix (s15.1 + (5 : Int32)))) (xs (ix (s15.1 + (6 : Int32)))) v95 h96) hc94 ivX12_boat ccX12_boat (Or.inl lkL_45) rfl rfl rfl ⟨Nat.le_of_ble_eq_true rfl, Nat.le_of_ble_eq_true rfl, rfl, rfl, law_k hI 108 1 (Nat.le_of_ble_eq_true rfl), law_n hI 3361 10 (Nat.le_of_ble_eq_true rfl)⟩ (Nat.le_of_ble_eq_true rfl) dL_law_533 rfl ?_
                  refine r_icmp_eq (tgt := 1753) (q := 539) hX dL_law_536 (by decide) rfl (fun hb97 => ?_) (fun hb97 => ?_)
                  · refine r_iinc (x := s15.1) (v := (s15.1 + (7 : Int32))) (q := 1756) 3 3 [1, 2, 3, 0] (L1 := [(0, vr 1), (1, vr z7), (2, vr z14), (3, vi (s15.1 + (7 : Int32)))]) hX dL_law_1753 rfl rfl (Nat.le_of_ble_eq_true rfl) rfl rfl ?_
                    refine r_goto (q := 18) hX dL_law_1756 (by decide) ?_
                    refine r_l0 ?_
                    refine r_wide (k1 := 108 + 2 * ix (s15.1 + (7 : Int32))) (n1 := 3361 + 700 * ix (s15.1 + (7 : Int32))) (law_wk hc19 hL 108 1 (Nat.le_of_ble_eq_true rfl)) (law_wn hc19 hL 3361 10 (Nat.le_of_ble_eq_true rfl)) ?_
                    exact hn16 ((s15.1 + (7 : Int32)), v92.2.1, v95.2) (law_nx hc19 hL)
                  · refine r_iconst (v := (0 : Int32)) (q := 540) hX dL_law_539 rfl rfl ?_
                    exact r_none
                · refine r_ite (fun hb98 => ?_) (fun hb98 => ?_)
                  · refine r_tswI (off := 508) (q := 541) hX hb98 dL_law_33 (by decide) (by decide) ?_
                    refine r_aload_n (i := 1) (x := z7) (q := 542) 1 hX dL_law_541 rfl rfl rfl ?_
                    refine r_aload_n (i := 0) (x := 1) (q := 543) 0 hX dL_law_542 rfl rfl rfl ?_
                    refine r_iload_n (i := 3) (x := s15.1) (q := 544) 3 hX dL_law_543 rfl rfl rfl ?_
                    refine r_iconst (v := (1 : Int32)) (q := 545) hX dL_law_544 rfl rfl ?_
                    refine r_iadd (q := 546) hX dL_law_545 rfl ?_
                    refine r_ck (fun hc99 => ?_)
                    refine r_sld (i := (s15.1 + (1 : Int32))) (q := 547) hX hSc hc99 dL_law_546 rfl ?_
                    refine r_ck (fun hc100 => ?_)
                    refine r_bind (fun v101 h102 => ?_)
                    refine r_cv (a := z7) (As := [vi (xs (ix (s15.1 + (1 : Int32))))]) (st := []) (r := (some (vi v101.1))) (Z1 := s15.2.1) (M1 := v101.2) (k1 := (108 + 2 * ix s15.1)) (n1 := (3361 + 700 * ix s15.1)) (st1 := [vi v101.1]) (q := 550) hX (fun l => kX11_hour l s15.2.1 s15.2.2 z7 (xs (ix (s15.1 + (1 : Int32)))) v101 h102) hc100 ivX11_hour ccX11_hour (Or.inl lkL_46) rfl rfl rfl ⟨Nat.le_of_ble_eq_true rfl, Nat.le_of_ble_eq_true rfl, rfl, rfl, law_k hI 108 0 (Nat.le_of_ble_eq_true rfl), law_n hI 3361 0 (Nat.le_of_ble_eq_true rfl)⟩ (Nat.le_of_ble_eq_true rfl) dL_law_547 rfl ?_
                    refine r_aload_n (i := 2) (x := z14) (q := 551) 2 hX dL_law_550 rfl rfl rfl ?_
                    refine r_aload_n (i := 0) (x := 1) (q := 552) 0 hX dL_law_551 rfl rfl rfl ?_
                    refine r_iload_n (i := 3) (x := s15.1) (q := 553) 3 hX dL_law_552 rfl rfl rfl ?_
                    refine r_iconst (v := (1 : Int32)) (q := 554) hX dL_law_553 rfl rfl ?_
                    refine r_iadd (q := 555) hX dL_law_554 rfl ?_
                    refine r_sld (i := (s15.1 + (1 : Int32))) (q := 556) hX hSc hc99 dL_law_555 rfl ?_
                    refine r_ck (fun hc103 => ?_)
                    refine r_bind (fun v104 h105 => ?_)
                    refine r_cv (a := z14) (As := [vi (xs (ix (s15.1 + (1 : Int32))))]) (st := [vi v101.1]) (r := (some (vi v104.1))) (Z1 := s15.2.1) (M1 := v104.2) (k1 := (108 + 2 * ix s15.1)) (n1 := (3361 + 700 * ix s15.1)) (st1 := [vi v104.1, vi v101.1]) (q := 559) hX (fun l => kX12_hour l s15.2.1 v101.2 z14 (xs (ix (s15.1 + (1 : Int32)))) v104 h105) hc103 ivX12_hour ccX12_hour (Or.inl lkL_49) rfl rfl rfl ⟨Nat.le_of_ble_eq_true rfl, Nat.le_of_ble_eq_true rfl, rfl, rfl, law_k hI 108 0 (Nat.le_of_ble_eq_true rfl), law_n hI 3361 0 (Nat.le_of_ble_eq_true rfl)⟩ (Nat.le_of_ble_eq_true rfl) dL_law_556 rfl ?_
                    refine r_icmp_eq (tgt := 1753) (q := 562) hX dL_law_559 (by decide) rfl (fun hb106 => ?_) (fun hb106 => ?_)
                    · refine r_iinc (x := s15.1) (v := (s15.1 + (7 : Int32))) (q := 1756) 3 3 [1, 2, 3, 0] (L1 := [(0, vr 1), (1, vr z7), (2, vr z14), (3, vi (s15.1 + (7 : Int32)))]) hX dL_law_1753 rfl rfl (Nat.le_of_ble_eq_true rfl) rfl rfl ?_
                      refine r_goto (q := 18) hX dL_law_1756 (by decide) ?_
                      refine r_l0 ?_
                      refine r_wide (k1 := 108 + 2 * ix (s15.1 + (7 : Int32))) (n1 := 3361 + 700 * ix (s15.1 + (7 : Int32))) (law_wk hc19 hL 108 0 (Nat.le_of_ble_eq_true rfl)) (law_wn hc19 hL 3361 0 (Nat.le_of_ble_eq_true rfl)) ?_
                      exact hn16 ((s15.1 + (7 : Int32)), s15.2.1, v104.2) (law_nx hc19 hL)
                    · refine r_iconst (v := (0 : Int32)) (q := 563) hX dL_law_562 rfl rfl ?_
                      exact r_none
                  · refine r_ite (fun hb107 => ?_) (fun hb107 => ?_)
                    · refine r_tswI (off := 531) (q := 564) hX hb107 dL_law_33 (by decide) (by decide) ?_
                      refine r_aload_n (i := 1) (x := z7) (q := 565) 1 hX dL_law_564 rfl rfl rfl ?_
                      refine r_aload_n (i := 0) (x := 1) (q := 566) 0 hX dL_law_565 rfl rfl rfl ?_
                      refine r_iload_n (i := 3) (x := s15.1) (q := 567) 3 hX dL_law_566 rfl rfl rfl ?_
                      refine r_iconst (v := (1 : Int32)) (q := 568) hX dL_law_567 rfl rfl ?_
                      refine r_iadd (q := 569) hX dL_law_568 rfl ?_
                      refine r_ck (fun hc108 => ?_)
                      refine r_sld (i := (s15.1 + (1 : Int32))) (q := 570) hX hSc hc108 dL_law_569 rfl ?_
                      refine r_aload_n (i := 0) (x := 1) (q := 571) 0 hX dL_law_570 rfl rfl rfl ?_
                      refine r_iload_n (i := 3) (x := s15.1) (q := 572) 3 hX dL_law_571 rfl rfl rfl ?_
                      refine r_iconst (v := (2 : Int32)) (q := 573) hX dL_law_572 rfl rfl ?_
                      refine r_iadd (q := 574) hX dL_law_573 rfl ?_
                      refine r_ck (fun hc109 => ?_)
                      refine r_sld (i := (s15.1 + (2 : Int32))) (q := 575) hX hSc hc109 dL_law_574 rfl ?_
                      refine r_ck (fun hc110 => ?_)
                      refine r_bind (fun v111 h112 => ?_)
                      refine r_cv (a := z7) (As := [vi (xs (ix (s15.1 + (1 : Int32)))), vi (xs (ix (s15.1 + (2 : Int32))))]) (st := []) (r := (some (vi v111.1))) (Z1 := s15.2.1) (M1 := v111.2) (k1 := (108 + 2 * ix s15.1)) (n1 := (3361 + 700 * ix s15.1)) (st1 := [vi v111.1]) (q := 578) hX (fun l => kX11_hours l s15.2.1 s15.2.2 z7 (xs (ix (s15.1 + (1 : Int32)))) (xs (ix (s15.1 + (2 : Int32)))) v111 h112) hc110 ivX11_hours ccX11_hours (Or.inl lkL_50) rfl rfl rfl ⟨Nat.le_of_ble_eq_true rfl, Nat.le_of_ble_eq_true rfl, rfl, rfl, law_k hI 108 0 (Nat.le_of_ble_eq_true rfl), law_n hI 3361 0 (Nat.le_of_ble_eq_true rfl)⟩ (Nat.le_of_ble_eq_true rfl) dL_law_575 rfl ?_
                      refine r_aload_n (i := 2) (x := z14) (q := 579) 2 hX dL_law_578 rfl rfl rfl ?_
                      refine r_aload_n (i := 0) (x := 1) (q := 580) 0 hX dL_law_579 rfl rfl rfl ?_
                      refine r_iload_n (i := 3) (x := s15.1) (q := 581) 3 hX dL_law_580 rfl rfl rfl ?_
                      refine r_iconst (v := (1 : Int32)) (q := 582) hX dL_law_581 rfl rfl ?_
                      refine r_iadd (q := 583) hX dL_law_582 rfl ?_
                      refine r_sld (i := (s15.1 + (1 : Int32))) (q := 584) hX hSc hc108 dL_law_583 rfl ?_
                      refine r_aload_n (i := 0) (x := 1) (q := 585) 0 hX dL_law_584 rfl rfl rfl ?_
                      refine r_iload_n (i := 3) (x := s15.1) (q := 586) 3 hX dL_law_585 rfl rfl rfl ?_
                      refine r_iconst (v := (2 : Int32)) (q := 587) hX dL_law_586 rfl rfl ?_
                      refine r_iadd (q := 588) hX dL_law_587 rfl ?_
                      refine r_sld (i := (s15.1 + (2 : Int32))) (q := 589) hX hSc hc109 dL_law_588 rfl ?_
                      refine r_ck (fun hc113 => ?_)
                      refine r_bind (fun v114 h115 => ?_)
                      refine r_cv (a := z14) (As := [vi (xs (ix (s15.1 + (1 : Int32)))), vi (xs (ix (s15.1 + (2 : Int32))))]) (st := [vi v111.1]) (r := (some (vi v114.1))) (Z1 := s15.2.1) (M1 := v114.2) (k1 := (108 + 2 * ix s15.1)) (n1 := (3361 + 700 * ix s15.1)) (st1 := [vi v114.1, vi v111.1]) (q := 592) hX (fun l => kX12_hours l s15.2.1 v111.2 z14 (xs (ix (s15.1 + (1 : Int32)))) (xs (ix (s15.1 + (2 : Int32)))) v114 h115) hc113 ivX12_hours ccX12_hours (Or.inl lkL_53) rfl rfl rfl ⟨Nat.le_of_ble_eq_true rfl, Nat.le_of_ble_eq_true rfl, rfl, rfl, law_k hI 108 0 (Nat.le_of_ble_eq_true rfl), law_n hI 3361 0 (Nat.le_of_ble_eq_true rfl)⟩ (Nat.le_of_ble_eq_true rfl) dL_law_589 rfl ?_
                      refine r_icmp_eq (tgt := 1753) (q := 595) hX dL_law_592 (by decide) rfl (fun hb116 => ?_) (fun hb116 => ?_)
                      · refine r_iinc (x := s15.1) (v := (s15.1 + (7 : Int32))) (q := 1756) 3 3 [1, 2, 3, 0] (L1 := [(0, vr 1), (1, vr z7), (2, vr z14), (3, vi (s15.1 + (7 : Int32)))]) hX dL_law_1753 rfl rfl (Nat.le_of_ble_eq_true rfl) rfl rfl ?_
                        refine r_goto (q := 18) hX dL_law_1756 (by decide) ?_
                        refine r_l0 ?_
                        refine r_wide (k1 := 108 + 2 * ix (s15.1 + (7 : Int32))) (n1 := 3361 + 700 * ix (s15.1 + (7 : Int32))) (law_wk hc19 hL 108 0 (Nat.le_of_ble_eq_true rfl)) (law_wn hc19 hL 3361 0 (Nat.le_of_ble_eq_true rfl)) ?_
                        exact hn16 ((s15.1 + (7 : Int32)), s15.2.1, v114.2) (law_nx hc19 hL)
                      · refine r_iconst (v := (0 : Int32)) (q := 596) hX dL_law_595 rfl rfl ?_
                        exact r_none
                    · refine r_ite (fun hb117 => ?_) (fun hb117 => ?_)
                      · refine r_tswI (off := 564) (q := 597) hX hb117 dL_law_33 (by decide) (by decide) ?_
                        refine r_aload_n (i := 1) (x := z7) (q := 598) 1 hX dL_law_597 rfl rfl rfl ?_
                        refine r_aload_n (i := 0) (x := 1) (q := 599) 0 hX dL_law_598 rfl rfl rfl ?_
                        refine r_iload_n (i := 3) (x := s15.1) (q := 600) 3 hX dL_law_599 rfl rfl rfl ?_
                        refine r_iconst (v := (1 : Int32)) (q := 601) hX dL_law_600 rfl rfl ?_
                        refine r_iadd (q := 602) hX dL_law_601 rfl ?_
                        refine r_ck (fun hc118 => ?_)
                        refine r_sld (i := (s15.1 + (1 : Int32))) (q := 603) hX hSc hc118 dL_law_602 rfl ?_
                        refine r_aload_n (i := 0) (x := 1) (q := 604) 0 hX dL_law_603 rfl rfl rfl ?_
                        refine r_iload_n (i := 3) (x := s15.1) (q := 605) 3 hX dL_law_604 rfl rfl rfl ?_
                        refine r_iconst (v := (2 : Int32)) (q := 606) hX dL_law_605 rfl rfl ?_
                        refine r_iadd (q := 607) hX dL_law_606 rfl ?_
                        refine r_ck (fun hc119 => ?_)
                        refine r_sld (i := (s15.1 + (2 : Int32))) (q := 608) hX hSc hc119 dL_law_607 rfl ?_
                        refine r_ck (fun hc120 => ?_)
                        refine r_bind (fun v121 h122 => ?_)
                        refine r_cv (a := z7) (As := [vi (xs (ix (s15.1 + (1 : Int32)))), vi (xs (ix (s15.1 + (2 : Int32))))]) (st := []) (r := (some (vi v121))) (Z1 := s15.2.1) (M1 := s15.2.2) (k1 := (108 + 2 * ix s15.1)) (n1 := (3361 + 700 * ix s15.1)) (st1 := [vi v121]) (q := 611) hX (fun l => kX11_at l s15.2.1 s15.2.2 z7 (xs (ix (s15.1 + (1 : Int32)))) (xs (ix (s15.1 + (2 : Int32)))) v121 h122) hc120 ivX11_at ccX11_at (Or.inl lkL_54) rfl rfl rfl ⟨Nat.le_of_ble_eq_true rfl, Nat.le_of_ble_eq_true rfl, rfl, rfl, law_k hI 108 0 (Nat.le_of_ble_eq_true rfl), law_n hI 3361 0 (Nat.le_of_ble_eq_true rfl)⟩ (Nat.le_of_ble_eq_true rfl) dL_law_608 rfl ?_
                        refine r_aload_n (i := 2) (x := z14) (q := 612) 2 hX dL_law_611 rfl rfl rfl ?_
                        refine r_aload_n (i := 0) (x := 1) (q := 613) 0 hX dL_law_612 rfl rfl rfl ?_
                        refine r_iload_n (i := 3) (x := s15.1) (q := 614) 3 hX dL_law_613 rfl rfl rfl ?_
                        refine r_iconst (v := (1 : Int32)) (q := 615) hX dL_law_614 rfl rfl ?_
                        refine r_iadd (q := 616) hX dL_law_615 rfl ?_
                        refine r_sld (i := (s15.1 + (1 : Int32))) (q := 617) hX hSc hc118 dL_law_616 rfl ?_
                        refine r_aload_n (i := 0) (x := 1) (q := 618) 0 hX dL_law_617 rfl rfl rfl ?_
                        refine r_iload_n (i := 3) (x := s15.1) (q := 619) 3 hX dL_law_618 rfl rfl rfl ?_
                        refine r_iconst (v := (2 : Int32)) (q := 620) hX dL_law_619 rfl rfl ?_
                        refine r_iadd (q := 621) hX dL_law_620 rfl ?_
                        refine r_sld (i := (s15.1 + (2 : Int32))) (q := 622) hX hSc hc119 dL_law_621 rfl ?_
                        refine r_ck (fun hc123 => ?_)
                        refine r_bind (fun v124 h125 => ?_)
                        refine r_cv (a := z14) (As := [vi (xs (ix (s15.1 + (1 : Int32)))), vi (xs (ix (s15.1 + (2 : Int32))))]) (st := [vi v121]) (r := (some (vi v124))) (Z1 := s15.2.1) (M1 := s15.2.2) (k1 := (108 + 2 * ix s15.1)) (n1 := (3361 + 700 * ix s15.1)) (st1 := [vi v124, vi v121]) (q := 625) hX (fun l => kX12_at l s15.2.1 s15.2.2 z14 (xs (ix (s15.1 + (1 : Int32)))) (xs (ix (s15.1 + (2 : Int32)))) v124 h125) hc123 ivX12_at ccX12_at (Or.inl lkL_57) rfl rfl rfl ⟨Nat.le_of_ble_eq_true rfl, Nat.le_of_ble_eq_true rfl, rfl, rfl, law_k hI 108 0 (Nat.le_of_ble_eq_true rfl), law_n hI 3361 0 (Nat.le_of_ble_eq_true rfl)⟩ (Nat.le_of_ble_eq_true rfl) dL_law_622 rfl ?_
                        refine r_icmp_eq (tgt := 1753) (q := 628) hX dL_law_625 (by decide) rfl (fun hb126 => ?_) (fun hb126 => ?_)
                        · refine r_iinc (x := s15.1) (v := (s15.1 + (7 : Int32))) (q := 1756) 3 3 [1, 2, 3, 0] (L1 := [(0, vr 1), (1, vr z7), (2, vr z14), (3, vi (s15.1 + (7 : Int32)))]) hX dL_law_1753 rfl rfl (Nat.le_of_ble_eq_true rfl) rfl rfl ?_
                          refine r_goto (q := 18) hX dL_law_1756 (by decide) ?_
                          refine r_l0 ?_
                          refine r_wide (k1 := 108 + 2 * ix (s15.1 + (7 : Int32))) (n1 := 3361 + 700 * ix (s15.1 + (7 : Int32))) (law_wk hc19 hL 108 0 (Nat.le_of_ble_eq_true rfl)) (law_wn hc19 hL 3361 0 (Nat.le_of_ble_eq_true rfl)) ?_
                          exact hn16 ((s15.1 + (7 : Int32)), s15.2.1, s15.2.2) (law_nx hc19 hL)
                        · refine r_iconst (v := (0 : Int32)) (q := 629) hX dL_law_628 rfl rfl ?_
                          exact r_none
                      · refine r_ite (fun hb127 => ?_) (fun hb127 => ?_)
                        · refine r_tswI (off := 597) (q := 630) hX hb127 dL_law_33 (by decide) (by decide) ?_
                          refine r_aload_n (i := 1) (x := z7) (q := 631) 1 hX dL_law_630 rfl rfl rfl ?_
                          refine r_aload_n (i := 0) (x := 1) (q := 632) 0 hX dL_law_631 rfl rfl rfl ?_
                          refine r_iload_n (i := 3) (x := s15.1) (q := 633) 3 hX dL_law_632 rfl rfl rfl ?_
                          refine r_iconst (v := (1 : Int32)) (q := 634) hX dL_law_633 rfl rfl ?_
                          refine r_iadd (q := 635) hX dL_law_634 rfl ?_
                          refine r_ck (fun hc128 => ?_)
                          refine r_sld (i := (s15.1 + (1 : Int32))) (q := 636) hX hSc hc128 dL_law_635 rfl ?_
                          refine r_aload_n (i := 0) (x := 1) (q := 637) 0 hX dL_law_636 rfl rfl rfl ?_
                          refine r_iload_n (i := 3) (x := s15.1) (q := 638) 3 hX dL_law_637 rfl rfl rfl ?_
                          refine r_iconst (v := (2 : Int32)) (q := 639) hX dL_law_638 rfl rfl ?_
                          refine r_iadd (q := 640) hX dL_law_639 rfl ?_
                          refine r_ck (fun hc129 => ?_)
                          refine r_sld (i := (s15.1 + (2 : Int32))) (q := 641) hX hSc hc129 dL_law_640 rfl ?_
                          refine r_ck (fun hc130 => ?_)
                          refine r_bind (fun v131 h132 => ?_)
                          refine r_cv (a := z7) (As := [vi (xs (ix (s15.1 + (1 : Int32)))), vi (xs (ix (s15.1 + (2 : Int32))))]) (st := []) (r := (some (vi v131))) (Z1 := s15.2.1) (M1 := s15.2.2) (k1 := (108 + 2 * ix s15.1)) (n1 := (3361 + 700 * ix s15.1)) (st1 := [vi v131]) (q := 644) hX (fun l => kX11_lockIs l s15.2.1 s15.2.2 z7 (xs (ix (s15.1 + (1 : Int32)))) (xs (ix (s15.1 + (2 : Int32)))) v131 h132) hc130 ivX11_lockIs ccX11_lockIs (Or.inl lkL_58) rfl rfl rfl ⟨Nat.le_of_ble_eq_true rfl, Nat.le_of_ble_eq_true rfl, rfl, rfl, law_k hI 108 0 (Nat.le_of_ble_eq_true rfl), law_n hI 3361 0 (Nat.le_of_ble_eq_true rfl)⟩ (Nat.le_of_ble_eq_true rfl) dL_law_641 rfl ?_
                          refine r_aload_n (i := 2) (x := z14) (q := 645) 2 hX dL_law_644 rfl rfl rfl ?_
                          refine r_aload_n (i := 0) (x := 1) (q := 646) 0 hX dL_law_645 rfl rfl rfl ?_
                          refine r_iload_n (i := 3) (x := s15.1) (q := 647) 3 hX dL_law_646 rfl rfl rfl ?_
                          refine r_iconst (v := (1 : Int32)) (q := 648) hX dL_law_647 rfl rfl ?_
                          refine r_iadd (q := 649) hX dL_law_648 rfl ?_
                          refine r_sld (i := (s15.1 + (1 : Int32))) (q := 650) hX hSc hc128 dL_law_649 rfl ?_
                          refine r_aload_n (i := 0) (x := 1) (q := 651) 0 hX dL_law_650 rfl rfl rfl ?_
                          refine r_iload_n (i := 3) (x := s15.1) (q := 652) 3 hX dL_law_651 rfl rfl rfl ?_
                          refine r_iconst (v := (2 : Int32)) (q := 653) hX dL_law_652 rfl rfl ?_
                          refine r_iadd (q := 654) hX dL_law_653 rfl ?_
                          refine r_sld (i := (s15.1 + (2 : Int32))) (q := 655) hX hSc hc129 dL_law_654 rfl ?_
                          refine r_ck (fun hc133 => ?_)
                          refine r_bind (fun v134 h135 => ?_)
                          refine r_cv (a := z14) (As := [vi (xs (ix (s15.1 + (1 : Int32)))), vi (xs (ix (s15.1 + (2 : Int32))))]) (st := [vi v131]) (r := (some (vi v134))) (Z1 := s15.2.1) (M1 := s15.2.2) (k1 := (108 + 2 * ix s15.1)) (n1 := (3361 + 700 * ix s15.1)) (st1 := [vi v134, vi v131]) (q := 658) hX (fun l => kX12_lockIs l s15.2.1 s15.2.2 z14 (xs (ix (s15.1 + (1 : Int32)))) (xs (ix (s15.1 + (2 : Int32)))) v134 h135) hc133 ivX12_lockIs ccX12_lockIs (Or.inl lkL_61) rfl rfl rfl ⟨Nat.le_of_ble_eq_true rfl, Nat.le_of_ble_eq_true rfl, rfl, rfl, law_k hI 108 0 (Nat.le_of_ble_eq_true rfl), law_n hI 3361 0 (Nat.le_of_ble_eq_true rfl)⟩ (Nat.le_of_ble_eq_true rfl) dL_law_655 rfl ?_
                          refine r_icmp_eq (tgt := 1753) (q := 661) hX dL_law_658 (by decide) rfl (fun hb136 => ?_) (fun hb136 => ?_)
                          · refine r_iinc (x := s15.1) (v := (s15.1 + (7 : Int32))) (q := 1756) 3 3 [1, 2, 3, 0] (L1 := [(0, vr 1), (1, vr z7), (2, vr z14), (3, vi (s15.1 + (7 : Int32)))]) hX dL_law_1753 rfl rfl (Nat.le_of_ble_eq_true rfl) rfl rfl ?_
                            refine r_goto (q := 18) hX dL_law_1756 (by decide) ?_
                            refine r_l0 ?_
                            refine r_wide (k1 := 108 + 2 * ix (s15.1 + (7 : Int32))) (n1 := 3361 + 700 * ix (s15.1 + (7 : Int32))) (law_wk hc19 hL 108 0 (Nat.le_of_ble_eq_true rfl)) (law_wn hc19 hL 3361 0 (Nat.le_of_ble_eq_true rfl)) ?_
                            exact hn16 ((s15.1 + (7 : Int32)), s15.2.1, s15.2.2) (law_nx hc19 hL)
                          · refine r_iconst (v := (0 : Int32)) (q := 662) hX dL_law_661 rfl rfl ?_
                            exact r_none
                        · refine r_ite (fun hb137 => ?_) (fun hb137 => ?_)
                          · refine r_tswI (off := 630) (q := 663) hX hb137 dL_law_33 (by decide) (by decide) ?_
                            refine r_aload_n (i := 1) (x := z7) (q := 664) 1 hX dL_law_663 rfl rfl rfl ?_
                            refine r_aload_n (i := 0) (x := 1) (q := 665) 0 hX dL_law_664 rfl rfl rfl ?_
                            refine r_iload_n (i := 3) (x := s15.1) (q := 666) 3 hX dL_law_665 rfl rfl rfl ?_
                            refine r_iconst (v := (1 : Int32)) (q := 667) hX dL_law_666 rfl rfl ?_
                            refine r_iadd (q := 668) hX dL_law_667 rfl ?_
                            refine r_ck (fun hc138 => ?_)
                            refine r_sld (i := (s15.1 + (1 : Int32))) (q := 669) hX hSc hc138 dL_law_668 rfl ?_
                            refine r_aload_n (i := 0) (x := 1) (q := 670) 0 hX dL_law_669 rfl rfl rfl ?_
                            refine r_iload_n (i := 3) (x := s15.1) (q := 671) 3 hX dL_law_670 rfl rfl rfl ?_
                            refine r_iconst (v := (2 : Int32)) (q := 672) hX dL_law_671 rfl rfl ?_
                            refine r_iadd (q := 673) hX dL_law_672 rfl ?_
                            refine r_ck (fun hc139 => ?_)
                            refine r_sld (i := (s15.1 + (2 : Int32))) (q := 674) hX hSc hc139 dL_law_673 rfl ?_
                            refine r_ck (fun hc140 => ?_)
                            refine r_bind (fun v141 h142 => ?_)
                            refine r_cv (a := z7) (As := [vi (xs (ix (s15.1 + (1 : Int32)))), vi (xs (ix (s15.1 + (2 : Int32))))]) (st := []) (r := (some (vi v141))) (Z1 := s15.2.1) (M1 := s15.2.2) (k1 := (108 + 2 * ix s15.1)) (n1 := (3361 + 700 * ix s15.1)) (st1 := [vi v141]) (q := 677) hX (fun l => kX11_now l s15.2.1 s15.2.2 z7 (xs (ix (s15.1 + (1 : Int32)))) (xs (ix (s15.1 + (2 : Int32)))) v141 h142) hc140 ivX11_now ccX11_now (Or.inl lkL_62) rfl rfl rfl ⟨Nat.le_of_ble_eq_true rfl, Nat.le_of_ble_eq_true rfl, rfl, rfl, law_k hI 108 0 (Nat.le_of_ble_eq_true rfl), law_n hI 3361 0 (Nat.le_of_ble_eq_true rfl)⟩ (Nat.le_of_ble_eq_true rfl) dL_law_674 rfl ?_
                            refine r_aload_n (i := 2) (x := z14) (q := 678) 2 hX dL_law_677 rfl rfl rfl ?_
                            refine r_aload_n (i := 0) (x := 1) (q := 679) 0 hX dL_law_678 rfl rfl rfl ?_
                            refine r_iload_n (i := 3) (x := s15.1) (q := 680) 3 hX dL_law_679 rfl rfl rfl ?_
                            refine r_iconst (v := (1 : Int32)) (q := 681) hX dL_law_680 rfl rfl ?_
                            refine r_iadd (q := 682) hX dL_law_681 rfl ?_
                            refine r_sld (i := (s15.1 + (1 : Int32))) (q := 683) hX hSc hc138 dL_law_682 rfl ?_
                            refine r_aload_n (i := 0) (x := 1) (q := 684) 0 hX dL_law_683 rfl rfl rfl ?_
                            refine r_iload_n (i := 3) (x := s15.1) (q := 685) 3 hX dL_law_684 rfl rfl rfl ?_
                            refine r_iconst (v := (2 : Int32)) (q := 686) hX dL_law_685 rfl rfl ?_
                            refine r_iadd (q := 687) hX dL_law_686 rfl ?_
                            refine r_sld (i := (s15.1 + (2 : Int32))) (q := 688) hX hSc hc139 dL_law_687 rfl ?_
                            refine r_ck (fun hc143 => ?_)
                            refine r_bind (fun v144 h145 => ?_)
                            refine r_cv (a := z14) (As := [vi (xs (ix (s15.1 + (1 : Int32)))), vi (xs (ix (s15.1 + (2 : Int32))))]) (st := [vi v141]) (r := (some (vi v144))) (Z1 := s15.2.1) (M1 := s15.2.2) (k1 := (108 + 2 * ix s15.1)) (n1 := (3361 + 700 * ix s15.1)) (st1 := [vi v144, vi v141]) (q := 691) hX (fun l => kX12_now l s15.2.1 s15.2.2 z14 (xs (ix (s15.1 + (1 : Int32)))) (xs (ix (s15.1 + (2 : Int32)))) v144 h145) hc143 ivX12_now ccX12_now (Or.inl lkL_65) rfl rfl rfl ⟨Nat.le_of_ble_eq_true rfl, Nat.le_of_ble_eq_true rfl, rfl, rfl, law_k hI 108 0 (Nat.le_of_ble_eq_true rfl), law_n hI 3361 0 (Nat.le_of_ble_eq_true rfl)⟩ (Nat.le_of_ble_eq_true rfl) dL_law_688 rfl ?_
                            refine r_icmp_eq (tgt := 1753) (q := 694) hX dL_law_691 (by decide) rfl (fun hb146 => ?_) (fun hb146 => ?_)
                            · refine r_iinc (x := s15.1) (v := (s15.1 + (7 : Int32))) (q := 1756) 3 3 [1, 2, 3, 0] (L1 := [(0, vr 1), (1, vr z7), (2, vr z14), (3, vi (s15.1 + (7 : Int32)))]) hX dL_law_1753 rfl rfl (Nat.le_of_ble_eq_true rfl) rfl rfl ?_
                              refine r_goto (q := 18) hX dL_law_1756 (by decide) ?_
                              refine r_l0 ?_
                              refine r_wide (k1 := 108 + 2 * ix (s15.1 + (7 : Int32))) (n1 := 3361 + 700 * ix (s15.1 + (7 : Int32))) (law_wk hc19 hL 108 0 (Nat.le_of_ble_eq_true rfl)) (law_wn hc19 hL 3361 0 (Nat.le_of_ble_eq_true rfl)) ?_
                              exact hn16 ((s15.1 + (7 : Int32)), s15.2.1, s15.2.2) (law_nx hc19 hL)
                            · refine r_iconst (v := (0 : Int32)) (q := 695) hX dL_law_694 rfl rfl ?_
                              exact r_none
                          · refine r_ite (fun hb147 => ?_) (fun hb147 => ?_)
                            · refine r_tswI (off := 663) (q := 696) hX hb147 dL_law_33 (by decide) (by decide) ?_
                              refine r_aload_n (i := 1) (x := z7) (q := 697) 1 hX dL_law_696 rfl rfl rfl ?_
                              refine r_aload_n (i := 0) (x := 1) (q := 698) 0 hX dL_law_697 rfl rfl rfl ?_
                              refine r_iload_n (i := 3) (x := s15.1) (q := 699) 3 hX dL_law_698 rfl rfl rfl ?_
                              refine r_iconst (v := (1 : Int32)) (q := 700) hX dL_law_699 rfl rfl ?_
                              refine r_iadd (q := 701) hX dL_law_700 rfl ?_
                              refine r_ck (fun hc148 => ?_)
                              refine r_sld (i := (s15.1 + (1 : Int32))) (q := 702) hX hSc hc148 dL_law_701 rfl ?_
                              refine r_ck (fun hc149 => ?_)
                              refine r_bind (fun v150 h151 => ?_)
                              refine r_cv (a := z7) (As := [vi (xs (ix (s15.1 + (1 : Int32))))]) (st := []) (r := (some (vj v150))) (Z1 := s15.2.1) (M1 := s15.2.2) (k1 := (108 + 2 * ix s15.1)) (n1 := (3361 + 700 * ix s15.1)) (st1 := [vj v150]) (q := 705) hX (fun l => kX11_sum l s15.2.1 s15.2.2 z7 (xs (ix (s15.1 + (1 : Int32)))) v150 h151) hc149 ivX11_sum ccX11_sum (Or.inl lkL_66) rfl rfl rfl ⟨Nat.le_of_ble_eq_true rfl, Nat.le_of_ble_eq_true rfl, rfl, rfl, law_k hI 108 0 (Nat.le_of_ble_eq_true rfl), law_n hI 3361 0 (Nat.le_of_ble_eq_true rfl)⟩ (Nat.le_of_ble_eq_true rfl) dL_law_702 rfl ?_
                              refine r_aload_n (i := 2) (x := z14) (q := 706) 2 hX dL_law_705 rfl rfl rfl ?_
                              refine r_aload_n (i := 0) (x := 1) (q := 707) 0 hX dL_law_706 rfl rfl rfl ?_
                              refine r_iload_n (i := 3) (x := s15.1) (q := 708) 3 hX dL_law_707 rfl rfl rfl ?_
                              refine r_iconst (v := (1 : Int32)) (q := 709) hX dL_law_708 rfl rfl ?_
                              refine r_iadd (q := 710) hX dL_law_709 rfl ?_
                              refine r_sld (i := (s15.1 + (1 : Int32))) (q := 711) hX hSc hc148 dL_law_710 rfl ?_
                              refine r_ck (fun hc152 => ?_)
                              refine r_bind (fun v153 h154 => ?_)
                              refine r_cv (a := z14) (As := [vi (xs (ix (s15.1 + (1 : Int32))))]) (st := [vj v150]) (r := (some (vj v153))) (Z1 := s15.2.1) (M1 := s15.2.2) (k1 := (108 + 2 * ix s15.1)) (n1 := (3361 + 700 * ix s15.1)) (st1 := [vj v153, vj v150]) (q := 714) hX (fun l => kX12_sum l s15.2.1 s15.2.2 z14 (xs (ix (s15.1 + (1 : Int32)))) v153 h154) hc152 ivX12_sum ccX12_sum (Or.inl lkL_70) rfl rfl rfl ⟨Nat.le_of_ble_eq_true rfl, Nat.le_of_ble_eq_true rfl, rfl, rfl, law_k hI 108 0 (Nat.le_of_ble_eq_true rfl), law_n hI 3361 0 (Nat.le_of_ble_eq_true rfl)⟩ (Nat.le_of_ble_eq_true rfl) dL_law_711 rfl ?_
                              refine r_lcmp (q := 715) hX dL_law_714 rfl ?_
                              refine r_if_eq (tgt := 1753) (q := 718) hX dL_law_715 (by decide) rfl (fun hb155 => ?_) (fun hb155 => ?_)
                              · refine r_iinc (x := s15.1) (v := (s15.1 + (7 : Int32))) (q := 1756) 3 3 [1, 2, 3, 0] (L1 := [(0, vr 1), (1, vr z7), (2, vr z14), (3, vi (s15.1 + (7 : Int32)))]) hX dL_law_1753 rfl rfl (Nat.le_of_ble_eq_true rfl) rfl rfl ?_
                                refine r_goto (q := 18) hX dL_law_1756 (by decide) ?_
                                refine r_l0 ?_
                                refine r_wide (k1 := 108 + 2 * ix (s15.1 + (7 : Int32))) (n1 := 3361 + 700 * ix (s15.1 + (7 : Int32))) (law_wk hc19 hL 108 0 (Nat.le_of_ble_eq_true rfl)) (law_wn hc19 hL 3361 0 (Nat.le_of_ble_eq_true rfl)) ?_
                                exact hn16 ((s15.1 + (7 : Int32)), s15.2.1, s15.2.2) (law_nx hc19 hL)
                              · refine r_iconst (v := (0 : Int32)) (q := 719) hX dL_law_718 rfl rfl ?_
                                exact r_none
                            · refine r_ite (fun hb156 => ?_) (fun hb156 => ?_)
                              · refine r_tswI (off := 687) (q := 720) hX hb156 dL_law_33 (by decide) (by decide) ?_
                                refine r_aload_n (i := 1) (x := z7) (q := 721) 1 hX dL_law_720 rfl rfl rfl ?_
                                refine r_aload_n (i := 0) (x := 1) (q := 722) 0 hX dL_law_721 rfl rfl rfl ?_
                                refine r_iload_n (i := 3) (x := s15.1) (q := 723) 3 hX dL_law_722 rfl rfl rfl ?_
                                refine r_iconst (v := (1 : Int32)) (q := 724) hX dL_law_723 rfl rfl ?_
                                refine r_iadd (q := 725) hX dL_law_724 rfl ?_
                                refine r_ck (fun hc157 => ?_)
                                refine r_sld (i := (s15.1 + (1 : Int32))) (q := 726) hX hSc hc157 dL_law_725 rfl ?_
                                refine r_i2l (q := 727) hX dL_law_726 rfl ?_
                                refine r_bipush (v := (32 : Int32)) (q := 729) hX dL_law_727 rfl rfl ?_
                                refine r_lshl (q := 730) hX dL_law_729 rfl ?_
                                refine r_aload_n (i := 0) (x := 1) (q := 731) 0 hX dL_law_730 rfl rfl rfl ?_
                                refine r_iload_n (i := 3) (x := s15.1) (q := 732) 3 hX dL_law_731 rfl rfl rfl ?_
                                refine r_iconst (v := (2 : Int32)) (q := 733) hX dL_law_732 rfl rfl ?_
                                refine r_iadd (q := 734) hX dL_law_733 rfl ?_
                                refine r_ck (fun hc158 => ?_)
                                refine r_sld (i := (s15.1 + (2 : Int32))) (q := 735) hX hSc hc158 dL_law_734 rfl ?_
                                refine r_i2l (q := 736) hX dL_law_735 rfl ?_
                                refine r_ldc2 (v := (4294967295 : Int64)) (q := 739) hX dL_law_736 (gd (hcw8_7 _ (List.mem_of_getElem? (i := 0) rfl)) rfl) rfl ?_
                                refine r_land (q := 740) hX dL_law_739 rfl ?_
                                refine r_lor (q := 741) hX dL_law_740 rfl ?_
                                refine r_ck (fun hc159 => ?_)
                                refine r_bind (fun v160 h161 => ?_)
                                refine r_cv (a := z7) (As := [vj ((((xs (ix (s15.1 + (1 : Int32)))).toInt64) <<< ((32 : Int32).toInt64 &&& 63)) ||| (((xs (ix (s15.1 + (2 : Int32)))).toInt64) &&& (4294967295 : Int64)))]) (st := []) (r := (some (vi v160.1))) (Z1 := s15.2.1) (M1 := v160.2) (k1 := (108 + 2 * ix s15.1)) (n1 := (3361 + 700 * ix s15.1)) (st1 := [vi v160.1]) (q := 744) hX (fun l => kX11_letters l s15.2.1 s15.2.2 z7 ((((xs (ix (s15.1 + (1 : Int32)))).toInt64) <<< ((32 : Int32).toInt64 &&& 63)) ||| (((xs (ix (s15.1 + (2 : Int32)))).toInt64) &&& (4294967295 : Int64))) v160 h161) hc159 ivX11_letters ccX11_letters (Or.inl lkL_73) rfl rfl rfl ⟨Nat.le_of_ble_eq_true rfl, Nat.le_of_ble_eq_true rfl, rfl, rfl, law_k hI 108 0 (Nat.le_of_ble_eq_true rfl), law_n hI 3361 0 (Nat.le_of_ble_eq_true rfl)⟩ (Nat.le_of_ble_eq_true rfl) dL_law_741 rfl ?_
                                refine r_aload_n (i := 2) (x := z14) (q := 745) 2 hX dL_law_744 rfl rfl rfl ?_
                                refine r_aload_n (i := 0) (x := 1) (q := 746) 0 hX dL_law_745 rfl rfl rfl ?_
                                refine r_iload_n (i := 3) (x := s15.1) (q := 747) 3 hX dL_law_746 rfl rfl rfl ?_
                                refine r_iconst (v := (1 : Int32)) (q := 748) hX dL_law_747 rfl rfl ?_
                                refine r_iadd (q := 749) hX dL_law_748 rfl ?_
                                refine r_sld (i := (s15.1 + (1 : Int32))) (q := 750) hX hSc hc157 dL_law_749 rfl ?_
                                refine r_i2l (q := 751) hX dL_law_750 rfl ?_
                                refine r_bipush (v := (32 : Int32)) (q := 753) hX dL_law_751 rfl rfl ?_
                                refine r_lshl (q := 754) hX dL_law_753 rfl ?_
                                refine r_aload_n (i := 0) (x := 1) (q := 755) 0 hX dL_law_754 rfl rfl rfl ?_
                                refine r_iload_n (i := 3) (x := s15.1) (q := 756) 3 hX dL_law_755 rfl rfl rfl ?_
                                refine r_iconst (v := (2 : Int32)) (q := 757) hX dL_law_756 rfl rfl ?_
                                refine r_iadd (q := 758) hX dL_law_757 rfl ?_
                                refine r_sld (i := (s15.1 + (2 : Int32))) (q := 759) hX hSc hc158 dL_law_758 rfl ?_
                                refine r_i2l (q := 760) hX dL_law_759 rfl ?_
                                refine r_ldc2 (v := (4294967295 : Int64)) (q := 763) hX dL_law_760 (gd (hcw8_7 _ (List.mem_of_getElem? (i := 0) rfl)) rfl) rfl ?_
                                refine r_land (q := 764) hX dL_law_763 rfl ?_
                                refine r_lor (q := 765) hX dL_law_764 rfl ?_
                                refine r_ck (fun hc162 => ?_)
                                refine r_bind (fun v163 h164 => ?_)
                                refine r_cv (a := z14) (As := [vj ((((xs (ix (s15.1 + (1 : Int32)))).toInt64) <<< ((32 : Int32).toInt64 &&& 63)) ||| (((xs (ix (s15.1 + (2 : Int32)))).toInt64) &&& (4294967295 : Int64)))]) (st := [vi v160.1]) (r := (some (vi v163.1))) (Z1 := s15.2.1) (M1 := v163.2) (k1 := (108 + 2 * ix s15.1)) (n1 := (3361 + 700 * ix s15.1)) (st1 := [vi v163.1, vi v160.1]) (q := 768) hX (fun l => kX12_letters l s15.2.1 v160.2 z14 ((((xs (ix (s15.1 + (1 : Int32)))).toInt64) <<< ((32 : Int32).toInt64 &&& 63)) ||| (((xs (ix (s15.1 + (2 : Int32)))).toInt64) &&& (4294967295 : Int64))) v163 h164) hc162 ivX12_letters ccX12_letters (Or.inl lkL_77) rfl rfl rfl ⟨Nat.le_of_ble_eq_true rfl, Nat.le_of_ble_eq_true rfl, rfl, rfl, law_k hI 108 0 (Nat.le_of_ble_eq_true rfl), law_n hI 3361 0 (Nat.le_of_ble_eq_true rfl)⟩ (Nat.le_of_ble_eq_true rfl) dL_law_765 rfl ?_
                                refine r_icmp_eq (tgt := 1753) (q := 771) hX dL_law_768 (by decide) rfl (fun hb165 => ?_) (fun hb165 => ?_)
                                · refine r_iinc (x := s15.1) (v := (s15.1 + (7 : Int32))) (q := 1756) 3 3 [1, 2, 3, 0] (L1 := [(0, vr 1), (1, vr z7), (2, vr z14), (3, vi (s15.1 + (7 : Int32)))]) hX dL_law_1753 rfl rfl (Nat.le_of_ble_eq_true rfl) rfl rfl ?_
                                  refine r_goto (q := 18) hX dL_law_1756 (by decide) ?_
                                  refine r_l0 ?_
                                  refine r_wide (k1 := 108 + 2 * ix (s15.1 + (7 : Int32))) (n1 := 3361 + 700 * ix (s15.1 + (7 : Int32))) (law_wk hc19 hL 108 0 (Nat.le_of_ble_eq_true rfl)) (law_wn hc19 hL 3361 0 (Nat.le_of_ble_eq_true rfl)) ?_
                                  exact hn16 ((s15.1 + (7 : Int32)), s15.2.1, v163.2) (law_nx hc19 hL)
                                · refine r_iconst (v := (0 : Int32)) (q := 772) hX dL_law_771 rfl rfl ?_
                                  exact r_none
                              · refine r_ite (fun hb166 => ?_) (fun hb166 => ?_)
                                · refine r_tswI (off := 740) (q := 773) hX hb166 dL_law_33 (by decide) (by decide) ?_
                                  refine r_aload_n (i := 1) (x := z7) (q := 774) 1 hX dL_law_773 rfl rfl rfl ?_
                                  refine r_ck (fun hc167 => ?_)
                                  refine r_bind (fun v168 h169 => ?_)
                                  refine r_cv (a := z7) (As := []) (st := []) (r := (some (vi v168.1))) (Z1 := s15.2.1) (M1 := v168.2) (k1 := (108 + 2 * ix s15.1)) (n1 := (3361 + 700 * ix s15.1)) (st1 := [vi v168.1]) (q := 777) hX (fun l => kX11_blank l s15.2.1 s15.2.2 z7 v168 h169) hc167 ivX11_blank ccX11_blank (Or.inl lkL_78) rfl rfl rfl ⟨Nat.le_of_ble_eq_true rfl, Nat.le_of_ble_eq_true rfl, rfl, rfl, law_k hI 108 0 (Nat.le_of_ble_eq_true rfl), law_n hI 3361 0 (Nat.le_of_ble_eq_true rfl)⟩ (Nat.le_of_ble_eq_true rfl) dL_law_774 rfl ?_
                                  refine r_aload_n (i := 2) (x := z14) (q := 778) 2 hX dL_law_777 rfl rfl rfl ?_
                                  refine r_ck (fun hc170 => ?_)
                                  refine r_bind (fun v171 h172 => ?_)
                                  refine r_cv (a := z14) (As := []) (st := [vi v168.1]) (r := (some (vi v171.1))) (Z1 := s15.2.1) (M1 := v171.2) (k1 := (108 + 2 * ix s15.1)) (n1 := (3361 + 700 * ix s15.1)) (st1 := [vi v171.1, vi v168.1]) (q := 781) hX (fun l => kX12_blank l s15.2.1 v168.2 z14 v171 h172) hc170 ivX12_blank ccX12_blank (Or.inl lkL_82) rfl rfl rfl ⟨Nat.le_of_ble_eq_true rfl, Nat.le_of_ble_eq_true rfl, rfl, rfl, law_k hI 108 0 (Nat.le_of_ble_eq_true rfl), law_n hI 3361 0 (Nat.le_of_ble_eq_true rfl)⟩ (Nat.le_of_ble_eq_true rfl) dL_law_778 rfl ?_
                                  refine r_icmp_eq (tgt := 1753) (q := 784) hX dL_law_781 (by decide) rfl (fun hb173 => ?_) (fun hb173 => ?_)
                                  · refine r_iinc (x := s15.1) (v := (s15.1 + (7 : Int32))) (q := 1756) 3 3 [1, 2, 3, 0] (L1 := [(0, vr 1), (1, vr z7), (2, vr z14), (3, vi (s15.1 + (7 : Int32)))]) hX dL_law_1753 rfl rfl (Nat.le_of_ble_eq_true rfl) rfl rfl ?_
                                    refine r_goto (q := 18) hX dL_law_1756 (by decide) ?_
                                    refine r_l0 ?_
                                    refine r_wide (k1 := 108 + 2 * ix (s15.1 + (7 : Int32))) (n1 := 3361 + 700 * ix (s15.1 + (7 : Int32))) (law_wk hc19 hL 108 0 (Nat.le_of_ble_eq_true rfl)) (law_wn hc19 hL 3361 0 (Nat.le_of_ble_eq_true rfl)) ?_
                                    exact hn16 ((s15.1 + (7 : Int32)), s15.2.1, v171.2) (law_nx hc19 hL)
                                  · refine r_iconst (v := (0 : Int32)) (q := 785) hX dL_law_784 rfl rfl ?_
                                    exact r_none
                                · refine r_ite (fun hb174 => ?_) (fun hb174 => ?_)
                                  · refine r_tswI (off := 753) (q := 786) hX hb174 dL_law_33 (by decide) (by decide) ?_
                                    refine r_aload_n (i := 1) (x := z7) (q := 787) 1 hX dL_law_786 rfl rfl rfl ?_
                                    refine r_ck (fun hc175 => ?_)
                                    refine r_bind (fun v176 h177 => ?_)
                                    refine r_cv (a := z7) (As := []) (st := []) (r := (some (vi v176))) (Z1 := s15.2.1) (M1 := s15.2.2) (k1 := (108 + 2 * ix s15.1)) (n1 := (3361 + 700 * ix s15.1)) (st1 := [vi v176]) (q := 790) hX (fun l => kX11_fault l s15.2.1 s15.2.2 z7 v176 h177) hc175 ivX11_fault ccX11_fault (Or.inl lkL_83) rfl rfl rfl ⟨Nat.le_of_ble_eq_true rfl, Nat.le_of_ble_eq_true rfl, rfl, rfl, law_k hI 108 0 (Nat.le_of_ble_eq_true rfl), law_n hI 3361 0 (Nat.le_of_ble_eq_true rfl)⟩ (Nat.le_of_ble_eq_true rfl) dL_law_787 rfl ?_
                                    refine r_aload_n (i := 2) (x := z14) (q := 791) 2 hX dL_law_790 rfl rfl rfl ?_
                                    refine r_ck (fun hc178 => ?_)
                                    refine r_bind (fun v179 h180 => ?_)
                                    refine r_cv (a := z14) (As := []) (st := [vi v176]) (r := (some (vi v179.1))) (Z1 := s15.2.1) (M1 := v179.2) (k1 := (108 + 2 * ix s15.1)) (n1 := (3361 + 700 * ix s15.1)) (st1 := [vi v179.1, vi v176]) (q := 794) hX (fun l => kX12_fault l s15.2.1 s15.2.2 z14 v179 h180) hc178 ivX12_fault ccX12_fault (Or.inl lkL_86) rfl rfl rfl ⟨Nat.le_of_ble_eq_true rfl, Nat.le_of_ble_eq_true rfl, rfl, rfl, law_k hI 108 0 (Nat.le_of_ble_eq_true rfl), law_n hI 3361 0 (Nat.le_of_ble_eq_true rfl)⟩ (Nat.le_of_ble_eq_true rfl) dL_law_791 rfl ?_
                                    refine r_icmp_eq (tgt := 1753) (q := 797) hX dL_law_794 (by decide) rfl (fun hb181 => ?_) (fun hb181 => ?_)
                                    · refine r_iinc (x := s15.1) (v := (s15.1 + (7 : Int32))) (q := 1756) 3 3 [1, 2, 3, 0] (L1 := [(0, vr 1), (1, vr z7), (2, vr z14), (3, vi (s15.1 + (7 : Int32)))]) hX dL_law_1753 rfl rfl (Nat.le_of_ble_eq_true rfl) rfl rfl ?_
                                      refine r_goto (q := 18) hX dL_law_1756 (by decide) ?_
                                      refine r_l0 ?_
                                      refine r_wide (k1 := 108 + 2 * ix (s15.1 + (7 : Int32))) (n1 := 3361 + 700 * ix (s15.1 + (7 : Int32))) (law_wk hc19 hL 108 0 (Nat.le_of_ble_eq_true rfl)) (law_wn hc19 hL 3361 0 (Nat.le_of_ble_eq_true rfl)) ?_
                                      exact hn16 ((s15.1 + (7 : Int32)), s15.2.1, v179.2) (law_nx hc19 hL)
                                    · refine r_iconst (v := (0 : Int32)) (q := 798) hX dL_law_797 rfl rfl ?_
                                      exact r_none
                                  · refine r_ite (fun hb182 => ?_) (fun hb182 => ?_)
                                    · refine r_tswI (off := 766) (q := 799) hX hb182 dL_law_33 (by decide) (by decide) ?_
                                      refine r_aload_n (i := 1) (x := z7) (q := 800) 1 hX dL_law_799 rfl rfl rfl ?_
                                      refine r_ck (fun hc183 => ?_)
                                      refine r_bind (fun v184 h185 => ?_)
                                      refine r_cv (a := z7) (As := []) (st := []) (r := (some (vi v184.1))) (Z1 := v184.2.1) (M1 := v184.2.2) (k1 := (108 + 2 * ix s15.1 + 2)) (n1 := (3361 + 700 * ix s15.1 + 66)) (st1 := [vi v184.1]) (q := 803) hX (fun l => kX11_text l s15.2.1 s15.2.2 z7 v184 h185) hc183 ivX11_text ccX11_text (Or.inl lkL_87) rfl rfl rfl ⟨Nat.le_of_ble_eq_true rfl, Nat.le_of_ble_eq_true rfl, rfl, rfl, law_k hI 108 2 (Nat.le_of_ble_eq_true rfl), law_n hI 3361 66 (Nat.le_of_ble_eq_true rfl)⟩ (Nat.le_of_ble_eq_true rfl) dL_law_800 rfl ?_
                                      refine r_aload_n (i := 2) (x := z14) (q := 804) 2 hX dL_law_803 rfl rfl rfl ?_
                                      refine r_ck (fun hc186 => ?_)
                                      refine r_bind (fun v187 h188 => ?_)
                                      refine r_cv (a := z14) (As := []) (st := [vi v184.1]) (r := (some (vi v187.1))) (Z1 := v184.2.1) (M1 := v187.2) (k1 := (108 + 2 * ix s15.1 + 2)) (n1 := (3361 + 700 * ix s15.1 + 66)) (st1 := [vi v187.1, vi v184.1]) (q := 807) hX (fun l => kX12_text l v184.2.1 v184.2.2 z14 v187 h188) hc186 ivX12_text ccX12_text (Or.inl lkL_90) rfl rfl rfl ⟨Nat.le_of_ble_eq_true rfl, Nat.le_of_ble_eq_true rfl, rfl, rfl, law_k hI 108 2 (Nat.le_of_ble_eq_true rfl), law_n hI 3361 66 (Nat.le_of_ble_eq_true rfl)⟩ (Nat.le_of_ble_eq_true rfl) dL_law_804 rfl ?_
                                      refine r_icmp_eq (tgt := 1753) (q := 810) hX dL_law_807 (by decide) rfl (fun hb189 => ?_) (fun hb189 => ?_)
                                      · refine r_iinc (x := s15.1) (v := (s15.1 + (7 : Int32))) (q := 1756) 3 3 [1, 2, 3, 0] (L1 := [(0, vr 1), (1, vr z7), (2, vr z14), (3, vi (s15.1 + (7 : Int32)))]) hX dL_law_1753 rfl rfl (Nat.le_of_ble_eq_true rfl) rfl rfl ?_
                                        refine r_goto (q := 18) hX dL_law_1756 (by decide) ?_
                                        refine r_l0 ?_
                                        refine r_wide (k1 := 108 + 2 * ix (s15.1 + (7 : Int32))) (n1 := 3361 + 700 * ix (s15.1 + (7 : Int32))) (law_wk hc19 hL 108 2 (Nat.le_of_ble_eq_true rfl)) (law_wn hc19 hL 3361 66 (Nat.le_of_ble_eq_true rfl)) ?_
                                        exact hn16 ((s15.1 + (7 : Int32)), v184.2.1, v187.2) (law_nx hc19 hL)
                                      · refine r_iconst (v := (0 : Int32)) (q := 811) hX dL_law_810 rfl rfl ?_
                                        exact r_none
                                    · refine r_ite (fun hb190 => ?_) (fun hb190 => ?_)
                                      · refine r_tswI (off := 779) (q := 812) hX hb190 dL_law_33 (by decide) (by decide) ?_
                                        refine r_aload_n (i := 1) (x := z7) (q := 813) 1 hX dL_law_812 rfl rfl rfl ?_
                                        refine r_aload_n (i := 0) (x := 1) (q := 814) 0 hX dL_law_813 rfl rfl rfl ?_
                                        refine r_iload_n (i := 3) (x := s15.1) (q := 815) 3 hX dL_law_814 rfl rfl rfl ?_
                                        refine r_iconst (v := (1 : Int32)) (q := 816) hX dL_law_815 rfl rfl ?_
                                        refine r_iadd (q := 817) hX dL_law_816 rfl ?_
                                        refine r_ck (fun hc191 => ?_)
                                        refine r_sld (i := (s15.1 + (1 : Int32))) (q := 818) hX hSc hc191 dL_law_817 rfl ?_
                                        refine r_aload_n (i := 0) (x := 1) (q := 819) 0 hX dL_law_818 rfl rfl rfl ?_
                                        refine r_iload_n (i := 3) (x := s15.1) (q := 820) 3 hX dL_law_819 rfl rfl rfl ?_
                                        refine r_iconst (v := (2 : Int32)) (q := 821) hX dL_law_820 rfl rfl ?_
                                        refine r_iadd (q := 822) hX dL_law_821 rfl ?_
                                        refine r_ck (fun hc192 => ?_)
                                        refine r_sld (i := (s15.1 + (2 : Int32))) (q := 823) hX hSc hc192 dL_law_822 rfl ?_
                                        refine r_aload_n (i := 0) (x := 1) (q := 824) 0 hX dL_law_823 rfl rfl rfl ?_
                                        refine r_iload_n (i := 3) (x := s15.1) (q := 825) 3 hX dL_law_824 rfl rfl rfl ?_
                                        refine r_iconst (v := (3 : Int32)) (q := 826) hX dL_law_825 rfl rfl ?_
                                        refine r_iadd (q := 827) hX dL_law_826 rfl ?_
                                        refine r_ck (fun hc193 => ?_)
                                        refine r_sld (i := (s15.1 + (3 : Int32))) (q := 828) hX hSc hc193 dL_law_827 rfl ?_
                                        refine r_ck (fun hc194 => ?_)
                                        refine r_bind (fun v195 h196 => ?_)
                                        refine r_cv (a := z7) (As := [vi (xs (ix (s15.1 + (1 : Int32)))), vi (xs (ix (s15.1 + (2 : Int32)))), vi (xs (ix (s15.1 + (3 : Int32))))]) (st := []) (r := (some (vi v195.1))) (Z1 := s15.2.1) (M1 := v195.2) (k1 := (108 + 2 * ix s15.1)) (n1 := (3361 + 700 * ix s15.1)) (st1 := [vi v195.1]) (q := 831) hX (fun l => kX11_force l s15.2.1 s15.2.2 z7 (xs (ix (s15.1 + (1 : Int32)))) (xs (ix (s15.1 + (2 : Int32)))) (xs (ix (s15.1 + (3 : Int32)))) v195 h196) hc194 ivX11_force ccX11_force (Or.inl lkL_91) rfl rfl rfl ⟨Nat.le_of_ble_eq_true rfl, Nat.le_of_ble_eq_true rfl, rfl, rfl, law_k hI 108 0 (Nat.le_of_ble_eq_true rfl), law_n hI 3361 0 (Nat.le_of_ble_eq_true rfl)⟩ (Nat.le_of_ble_eq_true rfl) dL_law_828 rfl ?_
                                        refine r_aload_n (i := 2) (x := z14) (q := 832) 2 hX dL_law_831 rfl rfl rfl ?_
                                        refine r_aload_n (i := 0) (x := 1) (q := 833) 0 hX dL_law_832 rfl rfl rfl ?_
                                        refine r_iload_n (i := 3) (x := s15.1) (q := 834) 3 hX dL_law_833 rfl rfl rfl ?_
                                        refine r_iconst (v := (1 : Int32)) (q := 835) hX dL_law_834 rfl rfl ?_
                                        refine r_iadd (q := 836) hX dL_law_835 rfl ?_
                                        refine r_sld (i := (s15.1 + (1 : Int32))) (q := 837) hX hSc hc191 dL_law_836 rfl ?_
                                        refine r_aload_n (i := 0) (x := 1) (q := 838) 0 hX dL_law_837 rfl rfl rfl ?_
                                        refine r_iload_n (i := 3) (x := s15.1) (q := 839) 3 hX dL_law_838 rfl rfl rfl ?_
                                        refine r_iconst (v := (2 : Int32)) (q := 840) hX dL_law_839 rfl rfl ?_
                                        refine r_iadd (q := 841) hX dL_law_840 rfl ?_
                                        refine r_sld (i := (s15.1 + (2 : Int32))) (q := 842) hX hSc hc192 dL_law_841 rfl ?_
                                        refine r_aload_n (i := 0) (x := 1) (q := 843) 0 hX dL_law_842 rfl rfl rfl ?_
                                        refine r_iload_n (i := 3) (x := s15.1) (q := 844) 3 hX dL_law_843 rfl rfl rfl ?_
                                        refine r_iconst (v := (3 : Int32)) (q := 845) hX dL_law_844 rfl rfl ?_
                                        refine r_iadd (q := 846) hX dL_law_845 rfl ?_
                                        refine r_sld (i := (s15.1 + (3 : Int32))) (q := 847) hX hSc hc193 dL_law_846 rfl ?_
                                        refine r_ck (fun hc197 => ?_)
                                        refine r_bind (fun v198 h199 => ?_)
                                        refine r_cv (a := z14) (As := [vi (xs (ix (s15.1 + (1 : Int32)))), vi (xs (ix (s15.1 + (2 : Int32)))), vi (xs (ix (s15.1 + (3 : Int32))))]) (st := [vi v195.1]) (r := (some (vi v198.1))) (Z1 := s15.2.1) (M1 := v198.2) (k1 := (108 + 2 * ix s15.1)) (n1 := (3361 + 700 * ix s15.1)) (st1 := [vi v198.1, vi v195.1]) (q := 850) hX (fun l => kX12_force l s15.2.1 v195.2 z14 (xs (ix (s15.1 + (1 : Int32)))) (xs (ix (s15.1 + (2 : Int32)))) (xs (ix (s15.1 + (3 : Int32)))) v198 h199) hc197 ivX12_force ccX12_force (Or.inl lkL_94) rfl rfl rfl ⟨Nat.le_of_ble_eq_true rfl, Nat.le_of_ble_eq_true rfl, rfl, rfl, law_k hI 108 0 (Nat.le_of_ble_eq_true rfl), law_n hI 3361 0 (Nat.le_of_ble_eq_true rfl)⟩ (Nat.le_of_ble_eq_true rfl) dL_law_847 rfl ?_
                                        refine r_icmp_eq (tgt := 1753) (q := 853) hX dL_law_850 (by decide) rfl (fun hb200 => ?_) (fun hb200 => ?_)
                                        · refine r_iinc (x := s15.1) (v := (s15.1 + (7 : Int32))) (q := 1756) 3 3 [1, 2, 3, 0] (L1 := [(0, vr 1), (1, vr z7), (2, vr z14), (3, vi (s15.1 + (7 : Int32)))]) hX dL_law_1753 rfl rfl (Nat.le_of_ble_eq_true rfl) rfl rfl ?_
                                          refine r_goto (q := 18) hX dL_law_1756 (by decide) ?_
                                          refine r_l0 ?_
                                          refine r_wide (k1 := 108 + 2 * ix (s15.1 + (7 : Int32))) (n1 := 3361 + 700 * ix (s15.1 + (7 : Int32))) (law_wk hc19 hL 108 0 (Nat.le_of_ble_eq_true rfl)) (law_wn hc19 hL 3361 0 (Nat.le_of_ble_eq_true rfl)) ?_
                                          exact hn16 ((s15.1 + (7 : Int32)), s15.2.1, v198.2) (law_nx hc19 hL)
                                        · refine r_iconst (v := (0 : Int32)) (q := 854) hX dL_law_853 rfl rfl ?_
                                          exact r_none
                                      · refine r_ite (fun hb201 => ?_) (fun hb201 => ?_)
                                        · refine r_tswI (off := 822) (q := 855) hX hb201 dL_law_33 (by decide) (by decide) ?_
                                          refine r_aload_n (i := 1) (x := z7) (q := 856) 1 hX dL_law_855 rfl rfl rfl ?_
                                          refine r_aload_n (i := 0) (x := 1) (q := 857) 0 hX dL_law_856 rfl rfl rfl ?_
                                          refine r_iload_n (i := 3) (x := s15.1) (q := 858) 3 hX dL_law_857 rfl rfl rfl ?_
                                          refine r_iconst (v := (1 : Int32)) (q := 859) hX dL_law_858 rfl rfl ?_
                                          refine r_iadd (q := 860) hX dL_law_859 rfl ?_
                                          refine r_ck (fun hc202 => ?_)
                                          refine r_sld (i := (s15.1 + (1 : Int32))) (q := 861) hX hSc hc202 dL_law_860 rfl ?_
                                          refine r_aload_n (i := 0) (x := 1) (q := 862) 0 hX dL_law_861 rfl rfl rfl ?_
                                          refine r_iload_n (i := 3) (x := s15.1) (q := 863) 3 hX dL_law_862 rfl rfl rfl ?_
                                          refine r_iconst (v := (2 : Int32)) (q := 864) hX dL_law_863 rfl rfl ?_
                                          refine r_iadd (q := 865) hX dL_law_864 rfl ?_
                                          refine r_ck (fun hc203 => ?_)
                                          refine r_sld (i := (s15.1 + (2 : Int32))) (q := 866) hX hSc hc203 dL_law_865 rfl ?_
                                          refine r_aload_n (i := 0) (x := 1) (q := 867) 0 hX dL_law_866 rfl rfl rfl ?_
                                          refine r_iload_n (i := 3) (x := s15.1) (q := 868) 3 hX dL_law_867 rfl rfl rfl ?_
                                          refine r_iconst (v := (3 : Int32)) (q := 869) hX dL_law_868 rfl rfl ?_
                                          refine r_iadd (q := 870) hX dL_law_869 rfl ?_
                                          refine r_ck (fun hc204 => ?_)
                                          refine r_sld (i := (s15.1 + (3 : Int32))) (q := 871) hX hSc hc204 dL_law_870 rfl ?_
                                          refine r_ck (fun hc205 => ?_)
                                          refine r_bind (fun v206 h207 => ?_)
                                          refine r_cv (a := z7) (As := [vi (xs (ix (s15.1 + (1 : Int32)))), vi (xs (ix (s15.1 + (2 : Int32)))), vi (xs (ix (s15.1 + (3 : Int32))))]) (st := []) (r := (some (vi v206))) (Z1 := s15.2.1) (M1 := s15.2.2) (k1 := (108 + 2 * ix s15.1)) (n1 := (3361 + 700 * ix s15.1)) (st1 := [vi v206]) (q := 874) hX (fun l => kX11_speaks l s15.2.1 s15.2.2 z7 (xs (ix (s15.1 + (1 : Int32)))) (xs (ix (s15.1 + (2 : Int32)))) (xs (ix (s15.1 + (3 : Int32)))) v206 h207) hc205 ivX11_speaks ccX11_speaks (Or.inl lkL_95) rfl rfl rfl ⟨Nat.le_of_ble_eq_true rfl, Nat.le_of_ble_eq_true rfl, rfl, rfl, law_k hI 108 0 (Nat.le_of_ble_eq_true rfl), law_n hI 3361 0 (Nat.le_of_ble_eq_true rfl)⟩ (Nat.le_of_ble_eq_true rfl) dL_law_871 rfl ?_
                                          refine r_aload_n (i := 2) (x := z14) (q := 875) 2 hX dL_law_874 rfl rfl rfl ?_
                                          refine r_aload_n (i := 0) (x := 1) (q := 876) 0 hX dL_law_875 rfl rfl rfl ?_
                                          refine r_iload_n (i := 3) (x := s15.1) (q := 877) 3 hX dL_law_876 rfl rfl rfl ?_
                                          refine r_iconst (v := (1 : Int32)) (q := 878) hX dL_law_877 rfl rfl ?_
                                          refine r_iadd (q := 879) hX dL_law_878 rfl ?_
                                          refine r_sld (i := (s15.1 + (1 : Int32))) (q := 880) hX hSc hc202 dL_law_879 rfl ?_
                                          refine r_aload_n (i := 0) (x := 1) (q := 881) 0 hX dL_law_880 rfl rfl rfl ?_
                                          refine r_iload_n (i := 3) (x := s15.1) (q := 882) 3 hX dL_law_881 rfl rfl rfl ?_
                                          refine r_iconst (v := (2 : Int32)) (q := 883) hX dL_law_882 rfl rfl ?_
                                          refine r_iadd (q := 884) hX dL_law_883 rfl ?_
                                          refine r_sld (i := (s15.1 + (2 : Int32))) (q := 885) hX hSc hc203 dL_law_884 rfl ?_
                                          refine r_aload_n (i := 0) (x := 1) (q := 886) 0 hX dL_law_885 rfl rfl rfl ?_
                                          refine r_iload_n (i := 3) (x := s15.1) (q := 887) 3 hX dL_law_886 rfl rfl rfl ?_
                                          refine r_iconst (v := (3 : Int32)) (q := 888) hX dL_law_887 rfl rfl ?_
                                          refine r_iadd (q := 889) hX dL_law_888 rfl ?_
                                          refine r_sld (i := (s15.1 + (3 : Int32))) (q := 890) hX hSc hc204 dL_law_889 rfl ?_
                                          refine r_ck (fun hc208 => ?_)
                                          refine r_bind (fun v209 h210 => ?_)
                                          refine r_cv (a := z14) (As := [vi (xs (ix (s15.1 + (1 : Int32)))), vi (xs (ix (s15.1 + (2 : Int32)))), vi (xs (ix (s15.1 + (3 : Int32))))]) (st := [vi v206]) (r := (some (vi v209.1))) (Z1 := s15.2.1) (M1 := v209.2) (k1 := (108 + 2 * ix s15.1)) (n1 := (3361 + 700 * ix s15.1)) (st1 := [vi v209.1, vi v206]) (q := 893) hX (fun l => kX12_speaks l s15.2.1 s15.2.2 z14 (xs (ix (s15.1 + (1 : Int32)))) (xs (ix (s15.1 + (2 : Int32)))) (xs (ix (s15.1 + (3 : Int32)))) v209 h210) hc208 ivX12_speaks ccX12_speaks (Or.inl lkL_98) rfl rfl rfl ⟨Nat.le_of_ble_eq_true rfl, Nat.le_of_ble_eq_true rfl, rfl, rfl, law_k hI 108 0 (Nat.le_of_ble_eq_true rfl), law_n hI 3361 0 (Nat.le_of_ble_eq_true rfl)⟩ (Nat.le_of_ble_eq_true rfl) dL_law_890 rfl ?_
                                          refine r_icmp_eq (tgt := 1753) (q := 896) hX dL_law_893 (by decide) rfl (fun hb211 => ?_) (fun hb211 => ?_)
                                          · refine r_iinc (x := s15.1) (v := (s15.1 + (7 : Int32))) (q := 1756) 3 3 [1, 2, 3, 0] (L1 := [(0, vr 1), (1, vr z7), (2, vr z14), (3, vi (s15.1 + (7 : Int32)))]) hX dL_law_1753 rfl rfl (Nat.le_of_ble_eq_true rfl) rfl rfl ?_
                                            refine r_goto (q := 18) hX dL_law_1756 (by decide) ?_
                                            refine r_l0 ?_
                                            refine r_wide (k1 := 108 + 2 * ix (s15.1 + (7 : Int32))) (n1 := 3361 + 700 * ix (s15.1 + (7 : Int32))) (law_wk hc19 hL 108 0 (Nat.le_of_ble_eq_true rfl)) (law_wn hc19 hL 3361 0 (Nat.le_of_ble_eq_true rfl)) ?_
                                            exact hn16 ((s15.1 + (7 : Int32)), s15.2.1, v209.2) (law_nx hc19 hL)
                                          · refine r_iconst (v := (0 : Int32)) (q := 897) hX dL_law_896 rfl rfl ?_
                                            exact r_none
                                        · refine r_ite (fun hb212 => ?_) (fun hb212 => ?_)
                                          · refine r_tswI (off := 865) (q := 898) hX hb212 dL_law_33 (by decide) (by decide) ?_
                                            refine r_aload_n (i := 1) (x := z7) (q := 899) 1 hX dL_law_898 rfl rfl rfl ?_
                                            refine r_aload_n (i := 0) (x := 1) (q := 900) 0 hX dL_law_899 rfl rfl rfl ?_
                                            refine r_iload_n (i := 3) (x := s15.1) (q := 901) 3 hX dL_law_900 rfl rfl rfl ?_
                                            refine r_iconst (v := (1 : Int32)) (q := 902) hX dL_law_901 rfl rfl ?_
                                            refine r_iadd (q := 903) hX dL_law_902 rfl ?_
                                            refine r_ck (fun hc213 => ?_)
                                            refine r_sld (i := (s15.1 + (1 : Int32))) (q := 904) hX hSc hc213 dL_law_903 rfl ?_
                                            refine r_aload_n (i := 0) (x := 1) (q := 905) 0 hX dL_law_904 rfl rfl rfl ?_
                                            refine r_iload_n (i := 3) (x := s15.1) (q := 906) 3 hX dL_law_905 rfl rfl rfl ?_
                                            refine r_iconst (v := (2 : Int32)) (q := 907) hX dL_law_906 rfl rfl ?_
                                            refine r_iadd (q := 908) hX dL_law_907 rfl ?_
                                            refine r_ck (fun hc214 => ?_)
                                            refine r_sld (i := (s15.1 + (2 : Int32))) (q := 909) hX hSc hc214 dL_law_908 rfl ?_
                                            refine r_aload_n (i := 0) (x := 1) (q := 910) 0 hX dL_law_909 rfl rfl rfl ?_
                                            refine r_iload_n (i := 3) (x := s15.1) (q := 911) 3 hX dL_law_910 rfl rfl rfl ?_
                                            refine r_iconst (v := (3 : Int32)) (q := 912) hX dL_law_911 rfl rfl ?_
                                            refine r_iadd (q := 913) hX dL_law_912 rfl ?_
                                            refine r_ck (fun hc215 => ?_)
                                            refine r_sld (i := (s15.1 + (3 : Int32))) (q := 914) hX hSc hc215 dL_law_913 rfl ?_
                                            refine r_ck (fun hc216 => ?_)
                                            refine r_bind (fun v217 h218 => ?_)
                                            refine r_cv (a := z7) (As := [vi (xs (ix (s15.1 + (1 : Int32)))), vi (xs (ix (s15.1 + (2 : Int32)))), vi (xs (ix (s15.1 + (3 : Int32))))]) (st := []) (r := (some (vi v217))) (Z1 := s15.2.1) (M1 := s15.2.2) (k1 := (108 + 2 * ix s15.1)) (n1 := (3361 + 700 * ix s15.1)) (st1 := [vi v217]) (q := 917) hX (fun l => kX11_quarrel l s15.2.1 s15.2.2 z7 (xs (ix (s15.1 + (1 : Int32)))) (xs (ix (s15.1 + (2 : Int32)))) (xs (ix (s15.1 + (3 : Int32)))) v217 h218) hc216 ivX11_quarrel ccX11_quarrel (Or.inl lkL_99) rfl rfl rfl ⟨Nat.le_of_ble_eq_true rfl, Nat.le_of_ble_eq_true rfl, rfl, rfl, law_k hI 108 0 (Nat.le_of_ble_eq_true rfl), law_n hI 3361 0 (Nat.le_of_ble_eq_true rfl)⟩ (Nat.le_of_ble_eq_true rfl) dL_law_914 rfl ?_
                                            refine r_aload_n (i := 2) (x := z14) (q := 918) 2 hX dL_law_917 rfl rfl rfl ?_
                                            refine r_aload_n (i := 0) (x := 1) (q := 919) 0 hX dL_law_918 rfl rfl rfl ?_
                                            refine r_iload_n (i := 3) (x := s15.1) (q := 920) 3 hX dL_law_919 rfl rfl rfl ?_
                                            refine r_iconst (v := (1 : Int32)) (q := 921) hX dL_law_920 rfl rfl ?_
                                            refine r_iadd (q := 922) hX dL_law_921 rfl ?_
                                            refine r_sld (i := (s15.1 + (1 : Int32))) (q := 923) hX hSc hc213 dL_law_922 rfl ?_
                                            refine r_aload_n (i := 0) (x := 1) (q := 924) 0 hX dL_law_923 rfl rfl rfl ?_
                                            refine r_iload_n (i := 3) (x := s15.1) (q := 925) 3 hX dL_law_924 rfl rfl rfl ?_
                                            refine r_iconst (v := (2 : Int32)) (q := 926) hX dL_law_925 rfl rfl ?_
                                            refine r_iadd (q := 927) hX dL_law_926 rfl ?_
                                            refine r_sld (i := (s15.1 + (2 : Int32))) (q := 928) hX hSc hc214 dL_law_927 rfl ?_
                                            refine r_aload_n (i := 0) (x := 1) (q := 929) 0 hX dL_law_928 rfl rfl rfl ?_
                                            refine r_iload_n (i := 3) (x := s15.1) (q := 930) 3 hX dL_law_929 rfl rfl rfl ?_
                                            refine r_iconst (v := (3 : Int32)) (q := 931) hX dL_law_930 rfl rfl ?_
                                            refine r_iadd (q := 932) hX dL_law_931 rfl ?_
                                            refine r_sld (i := (s15.1 + (3 : Int32))) (q := 933) hX hSc hc215 dL_law_932 rfl ?_
                                            refine r_ck (fun hc219 => ?_)
                                            refine r_bind (fun v220 h221 => ?_)
                                            refine r_cv (a := z14) (As := [vi (xs (ix (s15.1 + (1 : Int32)))), vi (xs (ix (s15.1 + (2 : Int32)))), vi (xs (ix (s15.1 + (3 : Int32))))]) (st := [vi v217]) (r := (some (vi v220.1))) (Z1 := s15.2.1) (M1 := v220.2) (k1 := (108 + 2 * ix s15.1)) (n1 := (3361 + 700 * ix s15.1)) (st1 := [vi v220.1, vi v217]) (q := 936) hX (fun l => kX12_quarrel l s15.2.1 s15.2.2 z14 (xs (ix (s15.1 + (1 : Int32)))) (xs (ix (s15.1 + (2 : Int32)))) (xs (ix (s15.1 + (3 : Int32)))) v220 h221) hc219 ivX12_quarrel ccX12_quarrel (Or.inl lkL_102) rfl rfl rfl ⟨Nat.le_of_ble_eq_true rfl, Nat.le_of_ble_eq_true rfl, rfl, rfl, law_k hI 108 0 (Nat.le_of_ble_eq_true rfl), law_n hI 3361 0 (Nat.le_of_ble_eq_true rfl)⟩ (Nat.le_of_ble_eq_true rfl) dL_law_933 rfl ?_
                                            refine r_icmp_eq (tgt := 1753) (q := 939) hX dL_law_936 (by decide) rfl (fun hb222 => ?_) (fun hb222 => ?_)
                                            · refine r_iinc (x := s15.1) (v := (s15.1 + (7 : Int32))) (q := 1756) 3 3 [1, 2, 3, 0] (L1 := [(0, vr 1), (1, vr z7), (2, vr z14), (3, vi (s15.1 + (7 : Int32)))]) hX dL_law_1753 rfl rfl (Nat.le_of_ble_eq_true rfl) rfl rfl ?_
                                              refine r_goto (q := 18) hX dL_law_1756 (by decide) ?_
                                              refine r_l0 ?_
                                              refine r_wide (k1 := 108 + 2 * ix (s15.1 + (7 : Int32))) (n1 := 3361 + 700 * ix (s15.1 + (7 : Int32))) (law_wk hc19 hL 108 0 (Nat.le_of_ble_eq_true rfl)) (law_wn hc19 hL 3361 0 (Nat.le_of_ble_eq_true rfl)) ?_
                                              exact hn16 ((s15.1 + (7 : Int32)), s15.2.1, v220.2) (law_nx hc19 hL)
                                            · refine r_iconst (v := (0 : Int32)) (q := 940) hX dL_law_939 rfl rfl ?_
                                              exact r_none
                                          · refine r_ite (fun hb223 => ?_) (fun hb223 => ?_)
                                            · refine r_tswI (off := 908) (q := 941) hX hb223 dL_law_33 (by decide) (by decide) ?_
                                              refine r_aload_n (i := 1) (x := z7) (q := 942) 1 hX dL_law_941 rfl rfl rfl ?_
                                              refine r_aload_n (i := 0) (x := 1) (q := 943) 0 hX dL_law_942 rfl rfl rfl ?_
                                              refine r_iload_n (i := 3) (x := s15.1) (q := 944) 3 hX dL_law_943 rfl rfl rfl ?_
                                              refine r_iconst (v := (1 : Int32)) (q := 945) hX dL_law_944 rfl rfl ?_
                                              refine r_iadd (q := 946) hX dL_law_945 rfl ?_
                                              refine r_ck (fun hc224 => ?_)
                                              refine r_sld (i := (s15.1 + (1 : Int32))) (q := 947) hX hSc hc224 dL_law_946 rfl ?_
                                              refine r_aload_n (i := 0) (x := 1) (q := 948) 0 hX dL_law_947 rfl rfl rfl ?_
                                              refine r_iload_n (i := 3) (x := s15.1) (q := 949) 3 hX dL_law_948 rfl rfl rfl ?_
                                              refine r_iconst (v := (2 : Int32)) (q := 950) hX dL_law_949 rfl rfl ?_
                                              refine r_iadd (q := 951) hX dL_law_950 rfl ?_
                                              refine r_ck (fun hc225 => ?_)
                                              refine r_sld (i := (s15.1 + (2 : Int32))) (q := 952) hX hSc hc225 dL_law_951 rfl ?_
                                              refine r_ck (fun hc226 => ?_)
                                              refine r_bind (fun v227 h228 => ?_)
                                              refine r_cv (a := z7) (As := [vi (xs (ix (s15.1 + (1 : Int32)))), vi (xs (ix (s15.1 + (2 : Int32))))]) (st := []) (r := (some (vi v227))) (Z1 := s15.2.1) (M1 := s15.2.2) (k1 := (108 + 2 * ix s15.1)) (n1 := (3361 + 700 * ix s15.1)) (st1 := [vi v227]) (q := 955) hX (fun l => kX11_toll l s15.2.1 s15.2.2 z7 (xs (ix (s15.1 + (1 : Int32)))) (xs (ix (s15.1 + (2 : Int32)))) v227 h228) hc226 ivX11_toll ccX11_toll (Or.inl lkL_103) rfl rfl rfl ⟨Nat.le_of_ble_eq_true rfl, Nat.le_of_ble_eq_true rfl, rfl, rfl, law_k hI 108 0 (Nat.le_of_ble_eq_true rfl), law_n hI 3361 0 (Nat.le_of_ble_eq_true rfl)⟩ (Nat.le_of_ble_eq_true rfl) dL_law_952 rfl ?_
                                              refine r_aload_n (i := 2) (x := z14) (q := 956) 2 hX dL_law_955 rfl rfl rfl ?_
                                              refine r_aload_n (i := 0) (x := 1) (q := 957) 0 hX dL_law_956 rfl rfl rfl ?_
                                              refine r_iload_n (i := 3) (x := s15.1) (q := 958) 3 hX dL_law_957 rfl rfl rfl ?_
                                              refine r_iconst (v := (1 : Int32)) (q := 959) hX dL_law_958 rfl rfl ?_
                                              refine r_iadd (q := 960) hX dL_law_959 rfl ?_
                                              refine r_sld (i := (s15.1 + (1 : Int32))) (q := 961) hX hSc hc224 dL_law_960 rfl ?_
                                              refine r_aload_n (i := 0) (x := 1) (q := 962) 0 hX dL_law_961 rfl rfl rfl ?_
                                              refine r_iload_n (i := 3) (x := s15.1) (q := 963) 3 hX dL_law_962 rfl rfl rfl ?_
                                              refine r_iconst (v := (2 : Int32)) (q := 964) hX dL_law_963 rfl rfl ?_
                                              refine r_iadd (q := 965) hX dL_law_964 rfl ?_
                                              refine r_sld (i := (s15.1 + (2 : Int32))) (q := 966) hX hSc hc225 dL_law_965 rfl ?_
                                              refine r_ck (fun hc229 => ?_)
                                              refine r_bind (fun v230 h231 => ?_)
                                              refine r_cv (a := z14) (As := [vi (xs (ix (s15.1 + (1 : Int32)))), vi (xs (ix (s15.1 + (2 : Int32))))]) (st := [vi v227]) (r := (some (vi v230.1))) (Z1 := s15.2.1) (M1 := v230.2) (k1 := (108 + 2 * ix s15.1)) (n1 := (3361 + 700 * ix s15.1)) (st1 := [vi v230.1, vi v227]) (q := 969) hX (fun l => kX12_toll l s15.2.1 s15.2.2 z14 (xs (ix (s15.1 + (1 : Int32)))) (xs (ix (s15.1 + (2 : Int32)))) v230 h231) hc229 ivX12_toll ccX12_toll (Or.inl lkL_106) rfl rfl rfl ⟨Nat.le_of_ble_eq_true rfl, Nat.le_of_ble_eq_true rfl, rfl, rfl, law_k hI 108 0 (Nat.le_of_ble_eq_true rfl), law_n hI 3361 0 (Nat.le_of_ble_eq_true rfl)⟩ (Nat.le_of_ble_eq_true rfl) dL_law_966 rfl ?_
                                              refine r_icmp_eq (tgt := 1753) (q := 972) hX dL_law_969 (by decide) rfl (fun hb232 => ?_) (fun hb232 => ?_)
                                              · refine r_iinc (x := s15.1) (v := (s15.1 + (7 : Int32))) (q := 1756) 3 3 [1, 2, 3, 0] (L1 := [(0, vr 1), (1, vr z7), (2, vr z14), (3, vi (s15.1 + (7 : Int32)))]) hX dL_law_1753 rfl rfl (Nat.le_of_ble_eq_true rfl) rfl rfl ?_
                                                refine r_goto (q := 18) hX dL_law_1756 (by decide) ?_
                                                refine r_l0 ?_
                                                refine r_wide (k1 := 108 + 2 * ix (s15.1 + (7 : Int32))) (n1 := 3361 + 700 * ix (s15.1 + (7 : Int32))) (law_wk hc19 hL 108 0 (Nat.le_of_ble_eq_true rfl)) (law_wn hc19 hL 3361 0 (Nat.le_of_ble_eq_true rfl)) ?_
                                                exact hn16 ((s15.1 + (7 : Int32)), s15.2.1, v230.2) (law_nx hc19 hL)
                                              · refine r_iconst (v := (0 : Int32)) (q := 973) hX dL_law_972 rfl rfl ?_
                                                exact r_none
                                            · refine r_ite (fun hb233 => ?_) (fun hb233 => ?_)
                                              · refine r_tswI (off := 941) (q := 974) hX hb233 dL_law_33 (by decide) (by decide) ?_
                                                refine r_aload_n (i := 1) (x := z7) (q := 975) 1 hX dL_law_974 rfl rfl rfl ?_
                                                refine r_aload_n (i := 0) (x := 1) (q := 976) 0 hX dL_law_975 rfl rfl rfl ?_
                                                refine r_iload_n (i := 3) (x := s15.1) (q := 977) 3 hX dL_law_976 rfl rfl rfl ?_
                                                refine r_iconst (v := (1 : Int32)) (q := 978) hX dL_law_977 rfl rfl ?_
                                                refine r_iadd (q := 979) hX dL_law_978 rfl ?_
                                                refine r_ck (fun hc234 => ?_)
                                                refine r_sld (i := (s15.1 + (1 : Int32))) (q := 980) hX hSc hc234 dL_law_979 rfl ?_
                                                refine r_jn (J := fun (v238 : Int32) (P : Option Res) => Ref mL_law X (108 + 2 * ix s15.1) (3361 + 700 * ix s15.1) s15.2.1 s15.2.2 988 [(0, vr 1), (1, vr z7), (2, vr z14), (3, vi s15.1)] [vi v238, vr z7] P) (fun v238 => ?_) (fun K1 hj236 => ?_)
                                                · refine r_aload_n (i := 0) (x := 1) (q := 989) 0 hX dL_law_988 rfl rfl rfl ?_
                                                  refine r_iload_n (i := 3) (x := s15.1) (q := 990) 3 hX dL_law_989 rfl rfl rfl ?_
                                                  refine r_iconst (v := (2 : Int32)) (q := 991) hX dL_law_990 rfl rfl ?_
                                                  refine r_iadd (q := 992) hX dL_law_991 rfl ?_
                                                  refine r_ck (fun hc239 => ?_)
                                                  refine r_sld (i := (s15.1 + (2 : Int32))) (q := 993) hX hSc hc239 dL_law_992 rfl ?_
                                                  refine r_aload_n (i := 0) (x := 1) (q := 994) 0 hX dL_law_993 rfl rfl rfl ?_
                                                  refine r_iload_n (i := 3) (x := s15.1) (q := 995) 3 hX dL_law_994 rfl rfl rfl ?_
                                                  refine r_iconst (v := (3 : Int32)) (q := 996) hX dL_law_995 rfl rfl ?_
                                                  refine r_iadd (q := 997) hX dL_law_996 rfl ?_
                                                  refine r_ck (fun hc240 => ?_)
                                                  refine r_sld (i := (s15.1 + (3 : Int32))) (q := 998) hX hSc hc240 dL_law_997 rfl ?_
                                                  refine r_ck (fun hc241 => ?_)
                                                  refine r_bind (fun v242 h243 => ?_)
                                                  refine r_cv (a := z7) (As := [vi v238, vi (xs (ix (s15.1 + (2 : Int32)))), vi (xs (ix (s15.1 + (3 : Int32))))]) (st := []) (r := (some (vi v242.1))) (Z1 := s15.2.1) (M1 := v242.2) (k1 := (108 + 2 * ix s15.1)) (n1 := (3361 + 700 * ix s15.1)) (st1 := [vi v242.1]) (q := 1001) hX (fun l => kX11_comer l s15.2.1 s15.2.2 z7 v238 (xs (ix (s15.1 + (2 : Int32)))) (xs (ix (s15.1 + (3 : Int32)))) v242 h243) hc241 ivX11_comer ccX11_comer (Or.inl lkL_107) rfl rfl rfl ⟨Nat.le_of_ble_eq_true rfl, Nat.le_of_ble_eq_true rfl, rfl, rfl, law_k hI 108 0 (Nat.le_of_ble_eq_true rfl), law_n hI 3361 0 (Nat.le_of_ble_eq_true rfl)⟩ (Nat.le_of_ble_eq_true rfl) dL_law_998 rfl ?_
                                                  refine r_aload_n (i := 2) (x := z14) (q := 1002) 2 hX dL_law_1001 rfl rfl rfl ?_
                                                  refine r_aload_n (i := 0) (x := 1) (q := 1003) 0 hX dL_law_1002 rfl rfl rfl ?_
                                                  refine r_iload_n (i := 3) (x := s15.1) (q := 1004) 3 hX dL_law_1003 rfl rfl rfl ?_
                                                  refine r_iconst (v := (1 : Int32)) (q := 1005) hX dL_law_1004 rfl rfl ?_
                                                  refine r_iadd (q := 1006) hX dL_law_1005 rfl ?_
                                                  refine r_sld (i := (s15.1 + (1 : Int32))) (q := 1007) hX hSc hc234 dL_law_1006 rfl ?_
                                                  refine r_jn (J := fun (v247 : Int32) (P : Option Res) => Ref mL_law X (108 + 2 * ix s15.1) (3361 + 700 * ix s15.1) s15.2.1 v242.2 1015 [(0, vr 1), (1, vr z7), (2, vr z14), (3, vi s15.1)] [vi v247, vr z14, vi v242.1] P) (fun v247 => ?_) (fun K1 hj245 => ?_)
                                                  · refine r_aload_n (i := 0) (x := 1) (q := 1016) 0 hX dL_law_1015 rfl rfl rfl ?_
                                                    refine r_iload_n (i := 3) (x := s15.1) (q := 1017) 3 hX dL_law_1016 rfl rfl rfl ?_
                                                    refine r_iconst (v := (2 : Int32)) (q := 1018) hX dL_law_1017 rfl rfl ?_
                                                    refine r_iadd (q := 1019) hX dL_law_1018 rfl ?_
                                                    refine r_sld (i := (s15.1 + (2 : Int32))) (q := 1020) hX hSc hc239 dL_law_1019 rfl ?_
                                                    refine r_aload_n (i := 0) (x := 1) (q := 1021) 0 hX dL_law_1020 rfl rfl rfl ?_
                                                    refine r_iload_n (i := 3) (x := s15.1) (q := 1022) 3 hX dL_law_1021 rfl rfl rfl ?_
                                                    refine r_iconst (v := (3 : Int32)) (q := 1023) hX dL_law_1022 rfl rfl ?_
                                                    refine r_iadd (q := 1024) hX dL_law_1023 rfl ?_
                                                    refine r_sld (i := (s15.1 + (3 : Int32))) (q := 1025) hX hSc hc240 dL_law_1024 rfl ?_
                                                    refine r_ck (fun hc248 => ?_)
                                                    refine r_bind (fun v249 h250 => ?_)
                                                    refine r_cv (a := z14) (As := [vi v247, vi (xs (ix (s15.1 + (2 : Int32)))), vi (xs (ix (s15.1 + (3 : Int32))))]) (st := [vi v242.1]) (r := (some (vi v249.1))) (Z1 := s15.2.1) (M1 := v249.2) (k1 := (108 + 2 * ix s15.1)) (n1 := (3361 + 700 * ix s15.1)) (st1 := [vi v249.1, vi v242.1]) (q := 1028) hX (fun l => kX12_comer l s15.2.1 v242.2 z14 v247 (xs (ix (s15.1 + (2 : Int32)))) (xs (ix (s15.1 + (3 : Int32)))) v249 h250) hc248 ivX12_comer ccX12_comer (Or.inl lkL_111) rfl rfl rfl ⟨Nat.le_of_ble_eq_true rfl, Nat.le_of_ble_eq_true rfl, rfl, rfl, law_k hI 108 0 (Nat.le_of_ble_eq_true rfl), law_n hI 3361 0 (Nat.le_of_ble_eq_true rfl)⟩ (Nat.le_of_ble_eq_true rfl) dL_law_1025 rfl ?_
                                                    refine r_icmp_eq (tgt := 1753) (q := 1031) hX dL_law_1028 (by decide) rfl (fun hb251 => ?_) (fun hb251 => ?_)
                                                    · refine r_iinc (x := s15.1) (v := (s15.1 + (7 : Int32))) (q := 1756) 3 3 [1, 2, 3, 0] (L1 := [(0, vr 1), (1, vr z7), (2, vr z14), (3, vi (s15.1 + (7 : Int32)))]) hX dL_law_1753 rfl rfl (Nat.le_of_ble_eq_true rfl) rfl rfl ?_
                                                      refine r_goto (q := 18) hX dL_law_1756 (by decide) ?_
                                                      refine r_l0 ?_
                                                      refine r_wide (k1 := 108 + 2 * ix (s15.1 + (7 : Int32))) (n1 := 3361 + 700 * ix (s15.1 + (7 : Int32))) (law_wk hc19 hL 108 0 (Nat.le_of_ble_eq_true rfl)) (law_wn hc19 hL 3361 0 (Nat.le_of_ble_eq_true rfl)) ?_
                                                      exact hn16 ((s15.1 + (7 : Int32)), s15.2.1, v249.2) (law_nx hc19 hL)
                                                    · refine r_iconst (v := (0 : Int32)) (q := 1032) hX dL_law_1031 rfl rfl ?_
                                                      exact r_none
                                                  · refine r_if_eq (tgt := 1014) (q := 1010) hX dL_law_1007 (by decide) rfl (fun hb244 => ?_) (fun hb244 => ?_)
                                                    · refine r_iconst (v := (0 : Int32)) (q := 1015) hX dL_law_1014 rfl rfl ?_
                                                      refine r_l0 ?_
                                                      exact hj245 (0 : Int32)
                                                    · refine r_iconst (v := (1 : Int32)) (q := 1011) hX dL_law_1010 rfl rfl ?_
                                                      refine r_goto (q := 1015) hX dL_law_1011 (by decide) ?_
                                                      refine r_l0 ?_
                                                      exact hj245 (1 : Int32)
                                                · refine r_if_eq (tgt := 987) (q := 983) hX dL_law_980 (by decide) rfl (fun hb235 => ?_) (fun hb235 => ?_)
                                                  · refine r_iconst (v := (0 : Int32)) (q := 988) hX dL_law_987 rfl rfl ?_
                                                    refine r_l0 ?_
                                                    exact hj236 (0 : Int32)
                                                  · refine r_iconst (v := (1 : Int32)) (q := 984) hX dL_law_983 rfl rfl ?_
                                                    refine r_goto (q := 988) hX dL_law_984 (by decide) ?_
                                                    refine r_l0 ?_
                                                    exact hj236 (1 : Int32)
                                              · refine r_ite (fun hb252 => ?_) (fun hb252 => ?_)
                                                · refine r_tswI (off := 1000) (q := 1033) hX hb252 dL_law_33 (by decide) (by decide) ?_
                                                  refine r_aload_n (i := 1) (x := z7) (q := 1034) 1 hX dL_law_1033 rfl rfl rfl ?_
                                                  refine r_ck (fun hc253 => ?_)
                                                  refine r_bind (fun v254 h255 => ?_)
                                                  refine r_cv (a := z7) (As := []) (st := []) (r := (some (vi v254.1))) (Z1 := s15.2.1) (M1 := v254.2) (k1 := (108 + 2 * ix s15.1)) (n1 := (3361 + 700 * ix s15.1)) (st1 := [vi v254.1]) (q := 1037) hX (fun l => kX11_clear l s15.2.1 s15.2.2 z7 v254 h255) hc253 ivX11_clear ccX11_clear (Or.inl lkL_112) rfl rfl rfl ⟨Nat.le_of_ble_eq_true rfl, Nat.le_of_ble_eq_true rfl, rfl, rfl, law_k hI 108 0 (Nat.le_of_ble_eq_true rfl), law_n hI 3361 0 (Nat.le_of_ble_eq_true rfl)⟩ (Nat.le_of_ble_eq_true rfl) dL_law_1034 rfl ?_
                                                  refine r_aload_n (i := 2) (x := z14) (q := 1038) 2 hX dL_law_1037 rfl rfl rfl ?_
                                                  refine r_ck (fun hc256 => ?_)
                                                  refine r_bind (fun v257 h258 => ?_)
                                                  refine r_cv (a := z14) (As := []) (st := [vi v254.1]) (r := (some (vi v257.1))) (Z1 := s15.2.1) (M1 := v257.2) (k1 := (108 + 2 * ix s15.1)) (n1 := (3361 + 700 * ix s15.1)) (st1 := [vi v257.1, vi v254.1]) (q := 1041) hX (fun l => kX12_clear l s15.2.1 v254.2 z14 v257 h258) hc256 ivX12_clear ccX12_clear (Or.inl lkL_115) rfl rfl rfl ⟨Nat.le_of_ble_eq_true rfl, Nat.le_of_ble_eq_true rfl, rfl, rfl, law_k hI 108 0 (Nat.le_of_ble_eq_true rfl), law_n hI 3361 0 (Nat.le_of_ble_eq_true rfl)⟩ (Nat.le_of_ble_eq_true rfl) dL_law_1038 rfl ?_
                                                  refine r_icmp_eq (tgt := 1753) (q := 1044) hX dL_law_1041 (by decide) rfl (fun hb259 => ?_) (fun hb259 => ?_)
                                                  · refine r_iinc (x := s15.1) (v := (s15.1 + (7 : Int32))) (q := 1756) 3 3 [1, 2, 3, 0] (L1 := [(0, vr 1), (1, vr z7), (2, vr z14), (3, vi (s15.1 + (7 : Int32)))]) hX dL_law_1753 rfl rfl (Nat.le_of_ble_eq_true rfl) rfl rfl ?_
                                                    refine r_goto (q := 18) hX dL_law_1756 (by decide) ?_
                                                    refine r_l0 ?_
                                                    refine r_wide (k1 := 108 + 2 * ix (s15.1 + (7 : Int32))) (n1 := 3361 + 700 * ix (s15.1 + (7 : Int32))) (law_wk hc19 hL 108 0 (Nat.le_of_ble_eq_true rfl)) (law_wn hc19 hL 3361 0 (Nat.le_of_ble_eq_true rfl)) ?_
                                                    exact hn16 ((s15.1 + (7 : Int32)), s15.2.1, v257.2) (law_nx hc19 hL)
                                                  · refine r_iconst (v := (0 : Int32)) (q := 1045) hX dL_law_1044 rfl rfl ?_
                                                    exact r_none
                                                · refine r_ite (fun hb260 => ?_) (fun hb260 => ?_)
                                                  · refine r_tswI (off := 1013) (q := 1046) hX hb260 dL_law_33 (by decide) (by decide) ?_
                                                    refine r_aload_n (i := 1) (x := z7) (q := 1047) 1 hX dL_law_1046 rfl rfl rfl ?_
                                                    refine r_aload_n (i := 0) (x := 1) (q := 1048) 0 hX dL_law_1047 rfl rfl rfl ?_
                                                    refine r_iload_n (i := 3) (x := s15.1) (q := 1049) 3 hX dL_law_1048 rfl rfl rfl ?_
                                                    refine r_iconst (v := (1 : Int32)) (q := 1050) hX dL_law_1049 rfl rfl ?_
                                                    refine r_iadd (q := 1051) hX dL_law_1050 rfl ?_
                                                    refine r_ck (fun hc261 => ?_)
                                                    refine r_sld (i := (s15.1 + (1 : Int32))) (q := 1052) hX hSc hc261 dL_law_1051 rfl ?_
                                                    refine r_ck (fun hc262 => ?_)
                                                    refine r_bind (fun v263 h264 => ?_)
                                                    refine r_cv (a := z7) (As := [vi (xs (ix (s15.1 + (1 : Int32))))]) (st := []) (r := (some (vi v263.1))) (Z1 := v263.2.1) (M1 := v263.2.2) (k1 := (108 + 2 * ix s15.1 + 1)) (n1 := (3361 + 700 * ix s15.1 + 4608)) (st1 := [vi v263.1]) (q := 1055) hX (fun l => kX11_turn l s15.2.1 s15.2.2 z7 (xs (ix (s15.1 + (1 : Int32)))) v263 h264) hc262 ivX11_turn ccX11_turn (Or.inl lkL_116) rfl rfl rfl ⟨Nat.le_of_ble_eq_true rfl, Nat.le_of_ble_eq_true rfl, rfl, rfl, law_k hI 108 1 (Nat.le_of_ble_eq_true rfl), law_n hI 3361 4608 (Nat.le_of_ble_eq_true rfl)⟩ (Nat.le_of_ble_eq_true rfl) dL_law_1052 rfl ?_
                                                    refine r_aload_n (i := 2) (x := z14) (q := 1056) 2 hX dL_law_1055 rfl rfl rfl ?_
                                                    refine r_aload_n (i := 0) (x := 1) (q := 1057) 0 hX dL_law_1056 rfl rfl rfl ?_
                                                    refine r_iload_n (i := 3) (x := s15.1) (q := 1058) 3 hX dL_law_1057 rfl rfl rfl ?_
                                                    refine r_iconst (v := (1 : Int32)) (q := 1059) hX dL_law_1058 rfl rfl ?_
                                                    refine r_iadd (q := 1060) hX dL_law_1059 rfl ?_
                                                    refine r_sld (i := (s15.1 + (1 : Int32))) (q := 1061) hX hSc hc261 dL_law_1060 rfl ?_
                                                    refine r_ck (fun hc265 => ?_)
                                                    refine r_bind (fun v266 h267 => ?_)
                                                    refine r_cv (a := z14) (As := [vi (xs (ix (s15.1 + (1 : Int32))))]) (st := [vi v263.1]) (r := (some (vi v266.1))) (Z1 := v263.2.1) (M1 := v266.2) (k1 := (108 + 2 * ix s15.1 + 1)) (n1 := (3361 + 700 * ix s15.1 + 4608)) (st1 := [vi v266.1, vi v263.1]) (q := 1064) hX (fun l => kX12_turn l v263.2.1 v263.2.2 z14 (xs (ix (s15.1 + (1 : Int32)))) v266 h267) hc265 ivX12_turn ccX12_turn (Or.inl lkL_119) rfl rfl rfl ⟨Nat.le_of_ble_eq_true rfl, Nat.le_of_ble_eq_true rfl, rfl, rfl, law_k hI 108 1 (Nat.le_of_ble_eq_true rfl), law_n hI 3361 4608 (Nat.le_of_ble_eq_true rfl)⟩ (Nat.le_of_ble_eq_true rfl) dL_law_1061 rfl ?_
                                                    refine r_icmp_eq (tgt := 1753) (q := 1067) hX dL_law_1064 (by decide) rfl (fun hb268 => ?_) (fun hb268 => ?_)
                                                    · refine r_iinc (x := s15.1) (v := (s15.1 + (7 : Int32))) (q := 1756) 3 3 [1, 2, 3, 0] (L1 := [(0, vr 1), (1, vr z7), (2, vr z14), (3, vi (s15.1 + (7 : Int32)))]) hX dL_law_1753 rfl rfl (Nat.le_of_ble_eq_true rfl) rfl rfl ?_
                                                      refine r_goto (q := 18) hX dL_law_1756 (by decide) ?_
                                                      refine r_l0 ?_
                                                      refine r_wide (k1 := 108 + 2 * ix (s15.1 + (7 : Int32))) (n1 := 3361 + 700 * ix (s15.1 + (7 : Int32))) (law_wk hc19 hL 108 1 (Nat.le_of_ble_eq_true rfl)) (law_wn hc19 hL 3361 4608 (Nat.le_of_ble_eq_true rfl)) ?_
                                                      exact hn16 ((s15.1 + (7 : Int32)), v263.2.1, v266.2) (law_nx hc19 hL)
                                                    · refine r_iconst (v := (0 : Int32)) (q := 1068) hX dL_law_1067 rfl rfl ?_
                                                      exact r_none
                                                  · refine r_ite (fun hb269 => ?_) (fun hb269 => ?_)
                                                    · refine r_tswI (off := 1036) (q := 1069) hX hb269 dL_law_33 (by decide) (by decide) ?_
                                                      refine r_aload_n (i := 1) (x := z7) (q := 1070) 1 hX dL_law_1069 rfl rfl rfl ?_
                                                      refine r_aload_n (i := 0) (x := 1) (q := 1071) 0 hX dL_law_1070 rfl rfl rfl ?_
                                                      refine r_iload_n (i := 3) (x := s15.1) (q := 1072) 3 hX dL_law_1071 rfl rfl rfl ?_
                                                      refine r_iconst (v := (1 : Int32)) (q := 1073) hX dL_law_1072 rfl rfl ?_
                                                      refine r_iadd (q := 1074) hX dL_law_1073 rfl ?_
                                                      refine r_ck (fun hc270 => ?_)
                                                      refine r_sld (i := (s15.1 + (1 : Int32))) (q := 1075) hX hSc hc270 dL_law_1074 rfl ?_
                                                      refine r_ck (fun hc271 => ?_)
                                                      refine r_bind (fun v272 h273 => ?_)
                                                      refine r_cv (a := z7) (As := [vi (xs (ix (s15.1 + (1 : Int32))))]) (st := []) (r := (some (vi v272))) (Z1 := s15.2.1) (M1 := s15.2.2) (k1 := (108 + 2 * ix s15.1)) (n1 := (3361 + 700 * ix s15.1)) (st1 := [vi v272]) (q := 1078) hX (fun l => kX11_judge l s15.2.1 s15.2.2 z7 (xs (ix (s15.1 + (1 : Int32)))) v272 h273) hc271 ivX11_judge ccX11_judge (Or.inl lkL_120) rfl rfl rfl ⟨Nat.le_of_ble_eq_true rfl, Nat.le_of_ble_eq_true rfl, rfl, rfl, law_k hI 108 0 (Nat.le_of_ble_eq_true rfl), law_n hI 3361 0 (Nat.le_of_ble_eq_true rfl)⟩ (Nat.le_of_ble_eq_true rfl) dL_law_1075 rfl ?_
                                                      refine r_aload_n (i := 2) (x := z14) (q := 1079) 2 hX dL_law_1078 rfl rfl rfl ?_
                                                      refine r_aload_n (i := 0) (x := 1) (q := 1080) 0 hX dL_law_1079 rfl rfl rfl ?_
                                                      refine r_iload_n (i := 3) (x := s15.1) (q := 1081) 3 hX dL_law_1080 rfl rfl rfl ?_
                                                      refine r_iconst (v := (1 : Int32)) (q := 1082) hX dL_law_1081 rfl rfl ?_
                                                      refine r_iadd (q := 1083) hX dL_law_1082 rfl ?_
                                                      refine r_sld (i := (s15.1 + (1 : Int32))) (q := 1084) hX hSc hc270 dL_law_1083 rfl ?_
                                                      refine r_ck (fun hc274 => ?_)
                                                      refine r_bind (fun v275 h276 => ?_)
                                                      refine r_cv (a := z14) (As := [vi (xs (ix (s15.1 + (1 : Int32))))]) (st := [vi v272]) (r := (some (vi v275.1))) (Z1 := s15.2.1) (M1 := v275.2) (k1 := (108 + 2 * ix s15.1)) (n1 := (3361 + 700 * ix s15.1)) (st1 := [vi v275.1, vi v272]) (q := 1087) hX (fun l => kX12_judge l s15.2.1 s15.2.2 z14 (xs (ix (s15.1 + (1 : Int32)))) v275 h276) hc274 ivX12_judge ccX12_judge (Or.inl lkL_123) rfl rfl rfl ⟨Nat.le_of_ble_eq_true rfl, Nat.le_of_ble_eq_true rfl, rfl, rfl, law_k hI 108 0 (Nat.le_of_ble_eq_true rfl), law_n hI 3361 0 (Nat.le_of_ble_eq_true rfl)⟩ (Nat.le_of_ble_eq_true rfl) dL_law_1084 rfl ?_
                                                      refine r_icmp_eq (tgt := 1753) (q := 1090) hX dL_law_1087 (by decide) rfl (fun hb277 => ?_) (fun hb277 => ?_)
                                                      · refine r_iinc (x := s15.1) (v := (s15.1 + (7 : Int32))) (q := 1756) 3 3 [1, 2, 3, 0] (L1 := [(0, vr 1), (1, vr z7), (2, vr z14), (3, vi (s15.1 + (7 : Int32)))]) hX dL_law_1753 rfl rfl (Nat.le_of_ble_eq_true rfl) rfl rfl ?_
                                                        refine r_goto (q := 18) hX dL_law_1756 (by decide) ?_
                                                        refine r_l0 ?_
                                                        refine r_wide (k1 := 108 + 2 * ix (s15.1 + (7 : Int32))) (n1 := 3361 + 700 * ix (s15.1 + (7 : Int32))) (law_wk hc19 hL 108 0 (Nat.le_of_ble_eq_true rfl)) (law_wn hc19 hL 3361 0 (Nat.le_of_ble_eq_true rfl)) ?_
                                                        exact hn16 ((s15.1 + (7 : Int32)), s15.2.1, v275.2) (law_nx hc19 hL)
                                                      · refine r_iconst (v := (0 : Int32)) (q := 1091) hX dL_law_1090 rfl rfl ?_
                                                        exact r_none
                                                    · refine r_ite (fun hb278 => ?_) (fun hb278 => ?_)
                                                      · refine r_tswI (off := 1059) (q := 1092) hX hb278 dL_law_33 (by decide) (by decide) ?_
                                                        refine r_aload_n (i := 1) (x := z7) (q := 1093) 1 hX dL_law_1092 rfl rfl rfl ?_
                                                        refine r_aload_n (i := 0) (x := 1) (q := 1094) 0 hX dL_law_1093 rfl rfl rfl ?_
                                                        refine r_iload_n (i := 3) (x := s15.1) (q := 1095) 3 hX dL_law_1094 rfl rfl rfl ?_
                                                        refine r_iconst (v := (1 : Int32)) (q := 1096) hX dL_law_1095 rfl rfl ?_
                                                        refine r_iadd (q := 1097) hX dL_law_1096 rfl ?_
                                                        refine r_ck (fun hc279 => ?_)
                                                        refine r_sld (i := (s15.1 + (1 : Int32))) (q := 1098) hX hSc hc279 dL_law_1097 rfl ?_
                                                        refine r_aload_n (i := 0) (x := 1) (q := 1099) 0 hX dL_law_1098 rfl rfl rfl ?_
                                                        refine r_iload_n (i := 3) (x := s15.1) (q := 1100) 3 hX dL_law_1099 rfl rfl rfl ?_
                                                        refine r_iconst (v := (2 : Int32)) (q := 1101) hX dL_law_1100 rfl rfl ?_
                                                        refine r_iadd (q := 1102) hX dL_law_1101 rfl ?_
                                                        refine r_ck (fun hc280 => ?_)
                                                        refine r_sld (i := (s15.1 + (2 : Int32))) (q := 1103) hX hSc hc280 dL_law_1102 rfl ?_
                                                        refine r_aload_n (i := 0) (x := 1) (q := 1104) 0 hX dL_law_1103 rfl rfl rfl ?_
                                                        refine r_iload_n (i := 3) (x := s15.1) (q := 1105) 3 hX dL_law_1104 rfl rfl rfl ?_
                                                        refine r_iconst (v := (3 : Int32)) (q := 1106) hX dL_law_1105 rfl rfl ?_
                                                        refine r_iadd (q := 1107) hX dL_law_1106 rfl ?_
                                                        refine r_ck (fun hc281 => ?_)
                                                        refine r_sld (i := (s15.1 + (3 : Int32))) (q := 1108) hX hSc hc281 dL_law_1107 rfl ?_
                                                        refine r_aload_n (i := 0) (x := 1) (q := 1109) 0 hX dL_law_1108 rfl rfl rfl ?_
                                                        refine r_iload_n (i := 3) (x := s15.1) (q := 1110) 3 hX dL_law_1109 rfl rfl rfl ?_
                                                        refine r_iconst (v := (4 : Int32)) (q := 1111) hX dL_law_1110 rfl rfl ?_
                                                        refine r_iadd (q := 1112) hX dL_law_1111 rfl ?_
                                                        refine r_ck (fun hc282 => ?_)
                                                        refine r_sld (i := (s15.1 + (4 : Int32))) (q := 1113) hX hSc hc282 dL_law_1112 rfl ?_
                                                        refine r_aload_n (i := 0) (x := 1) (q := 1114) 0 hX dL_law_1113 rfl rfl rfl ?_
                                                        refine r_iload_n (i := 3) (x := s15.1) (q := 1115) 3 hX dL_law_1114 rfl rfl rfl ?_
                                                        refine r_iconst (v := (5 : Int32)) (q := 1116) hX dL_law_1115 rfl rfl ?_
                                                        refine r_iadd (q := 1117) hX dL_law_1116 rfl ?_
                                                        refine r_ck (fun hc283 => ?_)
                                                        refine r_sld (i := (s15.1 + (5 : Int32))) (q := 1118) hX hSc hc283 dL_law_1117 rfl ?_
                                                        refine r_ck (fun hc284 => ?_)
                                                        refine r_bind (fun v285 h286 => ?_)
                                                        refine r_cv (a := z7) (As := [vi (xs (ix (s15.1 + (1 : Int32)))), vi (xs (ix (s15.1 + (2 : Int32)))), vi (xs (ix (s15.1 + (3 : Int32)))), vi (xs (ix (s15.1 + (4 : Int32)))), vi (xs (ix (s15.1 + (5 : Int32))))]) (st := []) (r := (some (vi v285))) (Z1 := s15.2.1) (M1 := s15.2.2) (k1 := (108 + 2 * ix s15.1)) (n1 := (3361 + 700 * ix s15.1)) (st1 := [vi v285]) (q := 1121) hX (fun l => kX11_dry l s15.2.1 s15.2.2 z7 (xs (ix (s15.1 + (1 : Int32)))) (xs (ix (s15.1 + (2 : Int32)))) (xs (ix (s15.1 + (3 : Int32)))) (xs (ix (s15.1 + (4 : Int32)))) (xs (ix (s15.1 + (5 : Int32)))) v285 h286) hc284 ivX11_dry ccX11_dry (Or.inl lkL_124) rfl rfl rfl ⟨Nat.le_of_ble_eq_true rfl, Nat.le_of_ble_eq_true rfl, rfl, rfl, law_k hI 108 0 (Nat.le_of_ble_eq_true rfl), law_n hI 3361 0 (Nat.le_of_ble_eq_true rfl)⟩ (Nat.le_of_ble_eq_true rfl) dL_law_1118 rfl ?_
                                                        refine r_aload_n (i := 2) (x := z14) (q := 1122) 2 hX dL_law_1121 rfl rfl rfl ?_
                                                        refine r_aload_n (i := 0) (x := 1) (q := 1123) 0 hX dL_law_1122 rfl rfl rfl ?_
                                                        refine r_iload_n (i := 3) (x := s15.1) (q := 1124) 3 hX dL_law_1123 rfl rfl rfl ?_
                                                        refine r_iconst (v := (1 : Int32)) (q := 1125) hX dL_law_1124 rfl rfl ?_
                                                        refine r_iadd (q := 1126) hX dL_law_1125 rfl ?_
                                                        refine r_sld (i := (s15.1 + (1 : Int32))) (q := 1127) hX hSc hc279 dL_law_1126 rfl ?_
                                                        refine r_aload_n (i := 0) (x := 1) (q := 1128) 0 hX dL_law_1127 rfl rfl rfl ?_
                                                        refine r_iload_n (i := 3) (x := s15.1) (q := 1129) 3 hX dL_law_1128 rfl rfl rfl ?_
                                                        refine r_iconst (v := (2 : Int32)) (q := 1130) hX dL_law_1129 rfl rfl ?_
                                                        refine r_iadd (q := 1131) hX dL_law_1130 rfl ?_
                                                        refine r_sld (i := (s15.1 + (2 : Int32))) (q := 1132) hX hSc hc280 dL_law_1131 rfl ?_
                                                        refine r_aload_n (i := 0) (x := 1) (q := 1133) 0 hX dL_law_1132 rfl rfl rfl ?_
                                                        refine r_iload_n (i := 3) (x := s15.1) (q := 1134) 3 hX dL_law_1133 rfl rfl rfl ?_
                                                        refine r_iconst (v := (3 : Int32)) (q := 1135) hX dL_law_1134 rfl rfl ?_
                                                        refine r_iadd (q := 1136) hX dL_law_1135 rfl ?_
                                                        refine r_sld (i := (s15.1 + (3 : Int32))) (q := 1137) hX hSc hc281 dL_law_1136 rfl ?_
                                                        refine r_aload_n (i := 0) (x := 1) (q := 1138) 0 hX dL_law_1137 rfl rfl rfl ?_
                                                        refine r_iload_n (i := 3) (x := s15.1) (q := 1139) 3 hX dL_law_1138 rfl rfl rfl ?_
                                                        refine r_iconst (v := (4 : Int32)) (q := 1140) hX dL_law_1139 rfl rfl ?_
                                                        refine r_iadd (q := 1141) hX dL_law_1140 rfl ?_
                                                        refine r_sld (i := (s15.1 + (4 : Int32))) (q := 1142) hX hSc hc282 dL_law_1141 rfl ?_
                                                        refine r_aload_n (i := 0) (x := 1) (q := 1143) 0 hX dL_law_1142 rfl rfl rfl ?_
                                                        refine r_iload_n (i := 3) (x := s15.1) (q := 1144) 3 hX dL_law_1143 rfl rfl rfl ?_
                                                        refine r_iconst (v := (5 : Int32)) (q := 1145) hX dL_law_1144 rfl rfl ?_
                                                        refine r_iadd (q := 1146) hX dL_law_1145 rfl ?_
                                                        refine r_sld (i := (s15.1 + (5 : Int32))) (q := 1147) hX hSc hc283 dL_law_1146 rfl ?_
                                                        refine r_ck (fun hc287 => ?_)
                                                        refine r_bind (fun v288 h289 => ?_)
                                                        refine r_cv (a := z14) (As := [vi (xs (ix (s15.1 + (1 : Int32)))), vi (xs (ix (s15.1 + (2 : Int32)))), vi (xs (ix (s15.1 + (3 : Int32)))), vi (xs (ix (s15.1 + (4 : Int32)))), vi (xs (ix (s15.1 + (5 : Int32))))]) (st := [vi v285]) (r := (some (vi v288))) (Z1 := s15.2.1) (M1 := s15.2.2) (k1 := (108 + 2 * ix s15.1)) (n1 := (3361 + 700 * ix s15.1)) (st1 := [vi v288, vi v285]) (q := 1150) hX (fun l => kX12_dry l s15.2.1 s15.2.2 z14 (xs (ix (s15.1 + (1 : Int32)))) (xs (ix (s15.1 + (2 : Int32)))) (xs (ix (s15.1 + (3 : Int32)))) (xs (ix (s15.1 + (4 : Int32)))) (xs (ix (s15.1 + (5 : Int32)))) v288 h289) hc287 ivX12_dry ccX12_dry (Or.inl lkL_128) rfl rfl rfl ⟨Nat.le_of_ble_eq_true rfl, Nat.le_of_ble_eq_true rfl, rfl, rfl, law_k hI 108 0 (Nat.le_of_ble_eq_true rfl), law_n hI 3361 0 (Nat.le_of_ble_eq_true rfl)⟩ (Nat.le_of_ble_eq_true rfl) dL_law_1147 rfl ?_
                                                        refine r_icmp_eq (tgt := 1753) (q := 1153) hX dL_law_1150 (by decide) rfl (fun hb290 => ?_) (fun hb290 => ?_)
                                                        · refine r_iinc (x := s15.1) (v := (s15.1 + (7 : Int32))) (q := 1756) 3 3 [1, 2, 3, 0] (L1 := [(0, vr 1), (1, vr z7), (2, vr z14), (3, vi (s15.1 + (7 : Int32)))]) hX dL_law_1753 rfl rfl (Nat.le_of_ble_eq_true rfl) rfl rfl ?_
                                                          refine r_goto (q := 18) hX dL_law_1756 (by decide) ?_
                                                          refine r_l0 ?_
                                                          refine r_wide (k1 := 108 + 2 * ix (s15.1 + (7 : Int32))) (n1 := 3361 + 700 * ix (s15.1 + (7 : Int32))) (law_wk hc19 hL 108 0 (Nat.le_of_ble_eq_true rfl)) (law_wn hc19 hL 3361 0 (Nat.le_of_ble_eq_true rfl)) ?_
                                                          exact hn16 ((s15.1 + (7 : Int32)), s15.2.1, s15.2.2) (law_nx hc19 hL)
                                                        · refine r_iconst (v := (0 : Int32)) (q := 1154) hX dL_law_1153 rfl rfl ?_
                                                          exact r_none
                                                      · refine r_ite (fun hb291 => ?_) (fun hb291 => ?_)
                                                        · refine r_tswI (off := 1122) (q := 1155) hX hb291 dL_law_33 (by decide) (by decide) ?_
                                                          refine r_aload_n (i := 1) (x := z7) (q := 1156) 1 hX dL_law_1155 rfl rfl rfl ?_
                                                          refine r_aload_n (i := 0) (x := 1) (q := 1157) 0 hX dL_law_1156 rfl rfl rfl ?_
                                                          refine r_iload_n (i := 3) (x := s15.1) (q := 1158) 3 hX dL_law_1157 rfl rfl rfl ?_
                                                          refine r_iconst (v := (1 : Int32)) (q := 1159) hX dL_law_1158 rfl rfl ?_
                                                          refine r_iadd (q := 1160) hX dL_law_1159 rfl ?_
                                                          refine r_ck (fun hc292 => ?_)
                                                          refine r_sld (i := (s15.1 + (1 : Int32))) (q := 1161) hX hSc hc292 dL_law_1160 rfl ?_
                                                          refine r_aload_n (i := 0) (x := 1) (q := 1162) 0 hX dL_law_1161 rfl rfl rfl ?_
                                                          refine r_iload_n (i := 3) (x := s15.1) (q := 1163) 3 hX dL_law_1162 rfl rfl rfl ?_
                                                          refine r_iconst (v := (2 : Int32)) (q := 1164) hX dL_law_1163 rfl rfl ?_
                                                          refine r_iadd (q := 1165) hX dL_law_1164 rfl ?_
                                                          refine r_ck (fun hc293 => ?_)
                                                          refine r_sld (i := (s15.1 + (2 : Int32))) (q := 1166) hX hSc hc293 dL_law_1165 rfl ?_
                                                          refine r_ck (fun hc294 => ?_)
                                                          refine r_bind (fun v295 h296 => ?_)
                                                          refine r_cv (a := z7) (As := [vi (xs (ix (s15.1 + (1 : Int32)))), vi (xs (ix (s15.1 + (2 : Int32))))]) (st := []) (r := (some (vi v295.1))) (Z1 := s15.2.1) (M1 := v295.2) (k1 := (108 + 2 * ix s15.1)) (n1 := (3361 + 700 * ix s15.1)) (st1 := [vi v295.1]) (q := 1169) hX (fun l => kX11_bank l s15.2.1 s15.2.2 z7 (xs (ix (s15.1 + (1 : Int32)))) (xs (ix (s15.1 + (2 : Int32)))) v295 h296) hc294 ivX11_bank ccX11_bank (Or.inl lkL_129) rfl rfl rfl ⟨Nat.le_of_ble_eq_true rfl, Nat.le_of_ble_eq_true rfl, rfl, rfl, law_k hI 108 0 (Nat.le_of_ble_eq_true rfl), law_n hI 3361 0 (Nat.le_of_ble_eq_true rfl)⟩ (Nat.le_of_ble_eq_true rfl) dL_law_1166 rfl ?_
                                                          refine r_aload_n (i := 2) (x := z14) (q := 1170) 2 hX dL_law_1169 rfl rfl rfl ?_
                                                          refine r_aload_n (i := 0) (x := 1) (q := 1171) 0 hX dL_law_1170 rfl rfl rfl ?_
                                                          refine r_iload_n (i := 3) (x := s15.1) (q := 1172) 3 hX dL_law_1171 rfl rfl rfl ?_
                                                          refine r_iconst (v := (1 : Int32)) (q := 1173) hX dL_law_1172 rfl rfl ?_
                                                          refine r_iadd (q := 1174) hX dL_law_1173 rfl ?_
                                                          refine r_sld (i := (s15.1 + (1 : Int32))) (q := 1175) hX hSc hc292 dL_law_1174 rfl ?_
                                                          refine r_aload_n (i := 0) (x := 1) (q := 1176) 0 hX dL_law_1175 rfl rfl rfl ?_
                                                          refine r_iload_n (i := 3) (x := s15.1) (q := 1177) 3 hX dL_law_1176 rfl rfl rfl ?_
                                                          refine r_iconst (v := (2 : Int32)) (q := 1178) hX dL_law_1177 rfl rfl ?_
                                                          refine r_iadd (q := 1179) hX dL_law_1178 rfl ?_
                                                          refine r_sld (i := (s15.1 + (2 : Int32))) (q := 1180) hX hSc hc293 dL_law_1179 rfl ?_
                                                          refine r_ck (fun hc297 => ?_)
                                                          refine r_bind (fun v298 h299 => ?_)
                                                          refine r_cv (a := z14) (As := [vi (xs (ix (s15.1 + (1 : Int32)))), vi (xs (ix (s15.1 + (2 : Int32))))]) (st := [vi v295.1]) (r := (some (vi v298.1))) (Z1 := s15.2.1) (M1 := v298.2) (k1 := (108 + 2 * ix s15.1)) (n1 := (3361 + 700 * ix s15.1)) (st1 := [vi v298.1, vi v295.1]) (q := 1183) hX (fun l => kX12_bank l s15.2.1 v295.2 z14 (xs (ix (s15.1 + (1 : Int32)))) (xs (ix (s15.1 + (2 : Int32)))) v298 h299) hc297 ivX12_bank ccX12_bank (Or.inl lkL_132) rfl rfl rfl ⟨Nat.le_of_ble_eq_true rfl, Nat.le_of_ble_eq_true rfl, rfl, rfl, law_k hI 108 0 (Nat.le_of_ble_eq_true rfl), law_n hI 3361 0 (Nat.le_of_ble_eq_true rfl)⟩ (Nat.le_of_ble_eq_true rfl) dL_law_1180 rfl ?_
                                                          refine r_icmp_eq (tgt := 1753) (q := 1186) hX dL_law_1183 (by decide) rfl (fun hb300 => ?_) (fun hb300 => ?_)
                                                          · refine r_iinc (x := s15.1) (v := (s15.1 + (7 : Int32))) (q := 1756) 3 3 [1, 2, 3, 0] (L1 := [(0, vr 1), (1, vr z7), (2, vr z14), (3, vi (s15.1 + (7 : Int32)))]) hX dL_law_1753 rfl rfl (Nat.le_of_ble_eq_true rfl) rfl rfl ?_
                                                            refine r_goto (q := 18) hX dL_law_1756 (by decide) ?_
                                                            refine r_l0 ?_
                                                            refine r_wide (k1 := 108 + 2 * ix (s15.1 + (7 : Int32))) (n1 := 3361 + 700 * ix (s15.1 + (7 : Int32))) (law_wk hc19 hL 108 0 (Nat.le_of_ble_eq_true rfl)) (law_wn hc19 hL 3361 0 (Nat.le_of_ble_eq_true rfl)) ?_
                                                            exact hn16 ((s15.1 + (7 : Int32)), s15.2.1, v298.2) (law_nx hc19 hL)
                                                          · refine r_iconst (v := (0 : Int32)) (q := 1187) hX dL_law_1186 rfl rfl ?_
                                                            exact r_none
                                                        · refine r_ite (fun hb301 => ?_) (fun hb301 => ?_)
                                                          · refine r_tswI (off := 1155) (q := 1188) hX hb301 dL_law_33 (by decide) (by decide) ?_
                                                            refine r_aload_n (i := 1) (x := z7) (q := 1189) 1 hX dL_law_1188 rfl rfl rfl ?_
                                                            refine r_aload_n (i := 0) (x := 1) (q := 1190) 0 hX dL_law_1189 rfl rfl rfl ?_
                                                            refine r_iload_n (i := 3) (x := s15.1) (q := 1191) 3 hX dL_law_1190 rfl rfl rfl ?_
                                                            refine r_iconst (v := (1 : Int32)) (q := 1192) hX dL_law_1191 rfl rfl ?_
                                                            refine r_iadd (q := 1193) hX dL_law_1192 rfl ?_
                                                            refine r_ck (fun hc302 => ?_)
                                                            refine r_sld (i := (s15.1 + (1 : Int32))) (q := 1194) hX hSc hc302 dL_law_1193 rfl ?_
                                                            refine r_aload_n (i := 0) (x := 1) (q := 1195) 0 hX dL_law_1194 rfl rfl rfl ?_
                                                            refine r_iload_n (i := 3) (x := s15.1) (q := 1196) 3 hX dL_law_1195 rfl rfl rfl ?_
                                                            refine r_iconst (v := (2 : Int32)) (q := 1197) hX dL_law_1196 rfl rfl ?_
                                                            refine r_iadd (q := 1198) hX dL_law_1197 rfl ?_
                                                            refine r_ck (fun hc303 => ?_)
                                                            refine r_sld (i := (s15.1 + (2 : Int32))) (q := 1199) hX hSc hc303 dL_law_1198 rfl ?_
                                                            refine r_aload_n (i := 0) (x := 1) (q := 1200) 0 hX dL_law_1199 rfl rfl rfl ?_
                                                            refine r_iload_n (i := 3) (x := s15.1) (q := 1201) 3 hX dL_law_1200 rfl rfl rfl ?_
                                                            refine r_iconst (v := (3 : Int32)) (q := 1202) hX dL_law_1201 rfl rfl ?_
                                                            refine r_iadd (q := 1203) hX dL_law_1202 rfl ?_
                                                            refine r_ck (fun hc304 => ?_)
                                                            refine r_sld (i := (s15.1 + (3 : Int32))) (q := 1204) hX hSc hc304 dL_law_1203 rfl ?_
                                                            refine r_ck (fun hc305 => ?_)
                                                            refine r_bind (fun v306 h307 => ?_)
                                                            refine r_cv (a := z7) (As := [vi (xs (ix (s15.1 + (1 : Int32)))), vi (xs (ix (s15.1 + (2 : Int32)))), vi (xs (ix (s15.1 + (3 : Int32))))]) (st := []) (r := (some (vi v306.1))) (Z1 := s15.2.1) (M1 := v306.2) (k1 := (108 + 2 * ix s15.1)) (n1 := (3361 + 700 * ix s15.1)) (st1 := [vi v306.1]) (q := 1207) hX (fun l => kX11_read l s15.2.1 s15.2.2 z7 (xs (ix (s15.1 + (1 : Int32)))) (xs (ix (s15.1 + (2 : Int32)))) (xs (ix (s15.1 + (3 : Int32)))) v306 h307) hc305 ivX11_read ccX11_read (Or.inl lkL_133) rfl rfl rfl ⟨Nat.le_of_ble_eq_true rfl, Nat.le_of_ble_eq_true rfl, rfl, rfl, law_k hI 108 0 (Nat.le_of_ble_eq_true rfl), law_n hI 3361 0 (Nat.le_of_ble_eq_true rfl)⟩ (Nat.le_of_ble_eq_true rfl) dL_law_1204 rfl ?_
                                                            refine r_aload_n (i := 2) (x := z14) (q := 1208) 2 hX dL_law_1207 rfl rfl rfl ?_
                                                            refine r_aload_n (i := 0) (x := 1) (q := 1209) 0 hX dL_law_1208 rfl rfl rfl ?_
                                                            refine r_iload_n (i := 3) (x := s15.1) (q := 1210) 3 hX dL_law_1209 rfl rfl rfl ?_
                                                            refine r_iconst (v := (1 : Int32)) (q := 1211) hX dL_law_1210 rfl rfl ?_
                                                            refine r_iadd (q := 1212) hX dL_law_1211 rfl ?_
                                                            refine r_sld (i := (s15.1 + (1 : Int32))) (q := 1213) hX hSc hc302 dL_law_1212 rfl ?_
                                                            refine r_aload_n (i := 0) (x := 1) (q := 1214) 0 hX dL_law_1213 rfl rfl rfl ?_
                                                            refine r_iload_n (i := 3) (x := s15.1) (q := 1215) 3 hX dL_law_1214 rfl rfl rfl ?_
                                                            refine r_iconst (v := (2 : Int32)) (q := 1216) hX dL_law_1215 rfl rfl ?_
                                                            refine r_iadd (q := 1217) hX dL_law_1216 rfl ?_
                                                            refine r_sld (i := (s15.1 + (2 : Int32))) (q := 1218) hX hSc hc303 dL_law_1217 rfl ?_
                                                            refine r_aload_n (i := 0) (x := 1) (q := 1219) 0 hX dL_law_1218 rfl rfl rfl ?_
                                                            refine r_iload_n (i := 3) (x := s15.1) (q := 1220) 3 hX dL_law_1219 rfl rfl rfl ?_
                                                            refine r_iconst (v := (3 : Int32)) (q := 1221) hX dL_law_1220 rfl rfl ?_
                                                            refine r_iadd (q := 1222) hX dL_law_1221 rfl ?_
                                                            refine r_sld (i := (s15.1 + (3 : Int32))) (q := 1223) hX hSc hc304 dL_law_1222 rfl ?_
                                                            refine r_ck (fun hc308 => ?_)
                                                            refine r_bind (fun v309 h310 => ?_)
                                                            refine r_cv (a := z14) (As := [vi (xs (ix (s15.1 + (1 : Int32)))), vi (xs (ix (s15.1 + (2 : Int32)))), vi (xs (ix (s15.1 + (3 : Int32))))]) (st := [vi v306.1]) (r := (some (vi v309.1))) (Z1 := s15.2.1) (M1 := v309.2) (k1 := (108 + 2 * ix s15.1)) (n1 := (3361 + 700 * ix s15.1)) (st1 := [vi v309.1, vi v306.1]) (q := 1226) hX (fun l => kX12_read l s15.2.1 v306.2 z14 (xs (ix (s15.1 + (1 : Int32)))) (xs (ix (s15.1 + (2 : Int32)))) (xs (ix (s15.1 + (3 : Int32)))) v309 h310) hc308 ivX12_read ccX12_read (Or.inl lkL_136) rfl rfl rfl ⟨Nat.le_of_ble_eq_true rfl, Nat.le_of_ble_eq_true rfl, rfl, rfl, law_k hI 108 0 (Nat.le_of_ble_eq_true rfl), law_n hI 3361 0 (Nat.le_of_ble_eq_true rfl)⟩ (Nat.le_of_ble_eq_true rfl) dL_law_1223 rfl ?_
                                                            refine r_icmp_eq (tgt := 1753) (q := 1229) hX dL_law_1226 (by decide) rfl (fun hb311 => ?_) (fun hb311 => ?_)
                                                            · refine r_iinc (x := s15.1) (v := (s15.1 + (7 : Int32))) (q := 1756) 3 3 [1, 2, 3, 0] (L1 := [(0, vr 1), (1, vr z7), (2, vr z14), (3, vi (s15.1 + (7 : Int32)))]) hX dL_law_1753 rfl rfl (Nat.le_of_ble_eq_true rfl) rfl rfl ?_
                                                              refine r_goto (q := 18) hX dL_law_1756 (by decide) ?_
                                                              refine r_l0 ?_
                                                              refine r_wide (k1 := 108 + 2 * ix (s15.1 + (7 : Int32))) (n1 := 3361 + 700 * ix (s15.1 + (7 : Int32))) (law_wk hc19 hL 108 0 (Nat.le_of_ble_eq_true rfl)) (law_wn hc19 hL 3361 0 (Nat.le_of_ble_eq_true rfl)) ?_
                                                              exact hn16 ((s15.1 + (7 : Int32)), s15.2.1, v309.2) (law_nx hc19 hL)
                                                            · refine r_iconst (v := (0 : Int32)) (q := 1230) hX dL_law_1229 rfl rfl ?_
                                                              exact r_none
                                                          · refine r_ite (fun hb312 => ?_) (fun hb312 => ?_)
                                                            · refine r_tswI (off := 1198) (q := 1231) hX hb312 dL_law_33 (by decide) (by decide) ?_
                                                              refine r_aload_n (i := 1) (x := z7) (q := 1232) 1 hX dL_law_1231 rfl rfl rfl ?_
                                                              refine r_ck (fun hc313 => ?_)
                                                              refine r_bind (fun v314 h315 => ?_)
                                                              refine r_cv (a := z7) (As := []) (st := []) (r := (some (vi v314.1))) (Z1 := s15.2.1) (M1 := v314.2) (k1 := (108 + 2 * ix s15.1)) (n1 := (3361 + 700 * ix s15.1)) (st1 := [vi v314.1]) (q := 1235) hX (fun l => kX11_unread l s15.2.1 s15.2.2 z7 v314 h315) hc313 ivX11_unread ccX11_unread (Or.inl lkL_137) rfl rfl rfl ⟨Nat.le_of_ble_eq_true rfl, Nat.le_of_ble_eq_true rfl, rfl, rfl, law_k hI 108 0 (Nat.le_of_ble_eq_true rfl), law_n hI 3361 0 (Nat.le_of_ble_eq_true rfl)⟩ (Nat.le_of_ble_eq_true rfl) dL_law_1232 rfl ?_
                                                              refine r_aload_n (i := 2) (x := z14) (q := 1236) 2 hX dL_law_1235 rfl rfl rfl ?_
                                                              refine r_ck (fun hc316 => ?_)
                                                              refine r_bind (fun v317 h318 => ?_)
                                                              refine r_cv (a := z14) (As := []) (st := [vi v314.1]) (r := (some (vi v317.1))) (Z1 := s15.2.1) (M1 := v317.2) (k1 := (108 + 2 * ix s15.1)) (n1 := (3361 + 700 * ix s15.1)) (st1 := [vi v317.1, vi v314.1]) (q := 1239) hX (fun l => kX12_unread l s15.2.1 v314.2 z14 v317 h318) hc316 ivX12_unread ccX12_unread (Or.inl lkL_140) rfl rfl rfl ⟨Nat.le_of_ble_eq_true rfl, Nat.le_of_ble_eq_true rfl, rfl, rfl, law_k hI 108 0 (Nat.le_of_ble_eq_true rfl), law_n hI 3361 0 (Nat.le_of_ble_eq_true rfl)⟩ (Nat.le_of_ble_eq_true rfl) dL_law_1236 rfl ?_
                                                              refine r_icmp_eq (tgt := 1753) (q := 1242) hX dL_law_1239 (by decide) rfl (fun hb319 => ?_) (fun hb319 => ?_)
                                                              · refine r_iinc (x := s15.1) (v := (s15.1 + (7 : Int32))) (q := 1756) 3 3 [1, 2, 3, 0] (L1 := [(0, vr 1), (1, vr z7), (2, vr z14), (3, vi (s15.1 + (7 : Int32)))]) hX dL_law_1753 rfl rfl (Nat.le_of_ble_eq_true rfl) rfl rfl ?_
                                                                refine r_goto (q := 18) hX dL_law_1756 (by decide) ?_
                                                                refine r_l0 ?_
                                                                refine r_wide (k1 := 108 + 2 * ix (s15.1 + (7 : Int32))) (n1 := 3361 + 700 * ix (s15.1 + (7 : Int32))) (law_wk hc19 hL 108 0 (Nat.le_of_ble_eq_true rfl)) (law_wn hc19 hL 3361 0 (Nat.le_of_ble_eq_true rfl)) ?_
                                                                exact hn16 ((s15.1 + (7 : Int32)), s15.2.1, v317.2) (law_nx hc19 hL)
                                                              · refine r_iconst (v := (0 : Int32)) (q := 1243) hX dL_law_1242 rfl rfl ?_
                                                                exact r_none
                                                            · refine r_ite (fun hb320 => ?_) (fun hb320 => ?_)
                                                              · refine r_tswI (off := 1211) (q := 1244) hX hb320 dL_law_33 (by decide) (by decide) ?_
                                                                refine r_aload_n (i := 1) (x := z7) (q := 1245) 1 hX dL_law_1244 rfl rfl rfl ?_
                                                                refine r_aload_n (i := 0) (x := 1) (q := 1246) 0 hX dL_law_1245 rfl rfl rfl ?_
                                                                refine r_iload_n (i := 3) (x := s15.1) (q := 1247) 3 hX dL_law_1246 rfl rfl rfl ?_
                                                                refine r_iconst (v := (1 : Int32)) (q := 1248) hX dL_law_1247 rfl rfl ?_
                                                                refine r_iadd (q := 1249) hX dL_law_1248 rfl ?_
                                                                refine r_ck (fun hc321 => ?_)
                                                                refine r_sld (i := (s15.1 + (1 : Int32))) (q := 1250) hX hSc hc321 dL_law_1249 rfl ?_
                                                                refine r_ck (fun hc322 => ?_)
                                                                refine r_bind (fun v323 h324 => ?_)
                                                                refine r_cv (a := z7) (As := [vi (xs (ix (s15.1 + (1 : Int32))))]) (st := []) (r := (some (vi v323.1))) (Z1 := s15.2.1) (M1 := v323.2) (k1 := (108 + 2 * ix s15.1)) (n1 := (3361 + 700 * ix s15.1)) (st1 := [vi v323.1]) (q := 1253) hX (fun l => kX11_find l s15.2.1 s15.2.2 z7 (xs (ix (s15.1 + (1 : Int32)))) v323 h324) hc322 ivX11_find ccX11_find (Or.inl lkL_141) rfl rfl rfl ⟨Nat.le_of_ble_eq_true rfl, Nat.le_of_ble_eq_true rfl, rfl, rfl, law_k hI 108 0 (Nat.le_of_ble_eq_true rfl), law_n hI 3361 0 (Nat.le_of_ble_eq_true rfl)⟩ (Nat.le_of_ble_eq_true rfl) dL_law_1250 rfl ?_
                                                                refine r_aload_n (i := 2) (x := z14) (q := 1254) 2 hX dL_law_1253 rfl rfl rfl ?_
                                                                refine r_aload_n (i := 0) (x := 1) (q := 1255) 0 hX dL_law_1254 rfl rfl rfl ?_
                                                                refine r_iload_n (i := 3) (x := s15.1) (q := 1256) 3 hX dL_law_1255 rfl rfl rfl ?_
                                                                refine r_iconst (v := (1 : Int32)) (q := 1257) hX dL_law_1256 rfl rfl ?_
                                                                refine r_iadd (q := 1258) hX dL_law_1257 rfl ?_
                                                                refine r_sld (i := (s15.1 + (1 : Int32))) (q := 1259) hX hSc hc321 dL_law_1258 rfl ?_
                                                                refine r_ck (fun hc325 => ?_)
                                                                refine r_bind (fun v326 h327 => ?_)
                                                                refine r_cv (a := z14) (As := [vi (xs (ix (s15.1 + (1 : Int32))))]) (st := [vi v323.1]) (r := (some (vi v326))) (Z1 := s15.2.1) (M1 := v323.2) (k1 := (108 + 2 * ix s15.1)) (n1 := (3361 + 700 * ix s15.1)) (st1 := [vi v326, vi v323.1]) (q := 1262) hX (fun l => kX12_find l s15.2.1 v323.2 z14 (xs (ix (s15.1 + (1 : Int32)))) v326 h327) hc325 ivX12_find ccX12_find (Or.inl lkL_144) rfl rfl rfl ⟨Nat.le_of_ble_eq_true rfl, Nat.le_of_ble_eq_true rfl, rfl, rfl, law_k hI 108 0 (Nat.le_of_ble_eq_true rfl), law_n hI 3361 0 (Nat.le_of_ble_eq_true rfl)⟩ (Nat.le_of_ble_eq_true rfl) dL_law_1259 rfl ?_
                                                                refine r_icmp_eq (tgt := 1753) (q := 1265) hX dL_law_1262 (by decide) rfl (fun hb328 => ?_) (fun hb328 => ?_)
                                                                · refine r_iinc (x := s15.1) (v := (s15.1 + (7 : Int32))) (q := 1756) 3 3 [1, 2, 3, 0] (L1 := [(0, vr 1), (1, vr z7), (2, vr z14), (3, vi (s15.1 + (7 : Int32)))]) hX dL_law_1753 rfl rfl (Nat.le_of_ble_eq_true rfl) rfl rfl ?_
                                                                  refine r_goto (q := 18) hX dL_law_1756 (by decide) ?_
                                                                  refine r_l0 ?_
                                                                  refine r_wide (k1 := 108 + 2 * ix (s15.1 + (7 : Int32))) (n1 := 3361 + 700 * ix (s15.1 + (7 : Int32))) (law_wk hc19 hL 108 0 (Nat.le_of_ble_eq_true rfl)) (law_wn hc19 hL 3361 0 (Nat.le_of_ble_eq_true rfl)) ?_
                                                                  exact hn16 ((s15.1 + (7 : Int32)), s15.2.1, v323.2) (law_nx hc19 hL)
                                                                · refine r_iconst (v := (0 : Int32)) (q := 1266) hX dL_law_1265 rfl rfl ?_
                                                                  exact r_none
                                                              · refine r_ite (fun hb329 => ?_) (fun hb329 => ?_)
                                                                · refine r_tswI (off := 1234) (q := 1267) hX hb329 dL_law_33 (by decide) (by decide) ?_
                                                                  refine r_aload_n (i := 1) (x := z7) (q := 1268) 1 hX dL_law_1267 rfl rfl rfl ?_
                                                                  refine r_aload_n (i := 0) (x := 1) (q := 1269) 0 hX dL_law_1268 rfl rfl rfl ?_
                                                                  refine r_iload_n (i := 3) (x := s15.1) (q := 1270) 3 hX dL_law_1269 rfl rfl rfl ?_
                                                                  refine r_iconst (v := (1 : Int32)) (q := 1271) hX dL_law_1270 rfl rfl ?_
                                                                  refine r_iadd (q := 1272) hX dL_law_1271 rfl ?_
                                                                  refine r_ck (fun hc330 => ?_)
                                                                  refine r_sld (i := (s15.1 + (1 : Int32))) (q := 1273) hX hSc hc330 dL_law_1272 rfl ?_
                                                                  refine r_aload_n (i := 0) (x := 1) (q := 1274) 0 hX dL_law_1273 rfl rfl rfl ?_
                                                                  refine r_iload_n (i := 3) (x := s15.1) (q := 1275) 3 hX dL_law_1274 rfl rfl rfl ?_
                                                                  refine r_iconst (v := (2 : Int32)) (q := 1276) hX dL_law_1275 rfl rfl ?_
                                                                  refine r_iadd (q := 1277) hX dL_law_1276 rfl ?_
                                                                  refine r_ck (fun hc331 => ?_)
                                                                  refine r_sld (i := (s15.1 + (2 : Int32))) (q := 1278) hX hSc hc331 dL_law_1277 rfl ?_
                                                                  refine r_ck (fun hc332 => ?_)
                                                                  refine r_bind (fun v333 h334 => ?_)
                                                                  refine r_cv (a := z7) (As := [vi (xs (ix (s15.1 + (1 : Int32)))), vi (xs (ix (s15.1 + (2 : Int32))))]) (st := []) (r := (some (vi v333.1))) (Z1 := s15.2.1) (M1 := v333.2) (k1 := (108 + 2 * ix s15.1)) (n1 := (3361 + 700 * ix s15.1)) (st1 := [vi v333.1]) (q := 1281) hX (fun l => kX11_bill l s15.2.1 s15.2.2 z7 (xs (ix (s15.1 + (1 : Int32)))) (xs (ix (s15.1 + (2 : Int32)))) v333 h334) hc332 ivX11_bill ccX11_bill (Or.inl lkL_145) rfl rfl rfl ⟨Nat.le_of_ble_eq_true rfl, Nat.le_of_ble_eq_true rfl, rfl, rfl, law_k hI 108 0 (Nat.le_of_ble_eq_true rfl), law_n hI 3361 0 (Nat.le_of_ble_eq_true rfl)⟩ (Nat.le_of_ble_eq_true rfl) dL_law_1278 rfl ?_
                                                                  refine r_aload_n (i := 2) (x := z14) (q := 1282) 2 hX dL_law_1281 rfl rfl rfl ?_
                                                                  refine r_aload_n (i := 0) (x := 1) (q := 1283) 0 hX dL_law_1282 rfl rfl rfl ?_
                                                                  refine r_iload_n (i := 3) (x := s15.1) (q := 1284) 3 hX dL_law_1283 rfl rfl rfl ?_
                                                                  refine r_iconst (v := (1 : Int32)) (q := 1285) hX dL_law_1284 rfl rfl ?_
                                                                  refine r_iadd (q := 1286) hX dL_law_1285 rfl ?_
                                                                  refine r_sld (i := (s15.1 + (1 : Int32))) (q := 1287) hX hSc hc330 dL_law_1286 rfl ?_
                                                                  refine r_aload_n (i := 0) (x := 1) (q := 1288) 0 hX dL_law_1287 rfl rfl rfl ?_
                                                                  refine r_iload_n (i := 3) (x := s15.1) (q := 1289) 3 hX dL_law_1288 rfl rfl rfl ?_
                                                                  refine r_iconst (v := (2 : Int32)) (q := 1290) hX dL_law_1289 rfl rfl ?_
                                                                  refine r_iadd (q := 1291) hX dL_law_1290 rfl ?_
                                                                  refine r_sld (i := (s15.1 + (2 : Int32))) (q := 1292) hX hSc hc331 dL_law_1291 rfl ?_
                                                                  refine r_ck (fun hc335 => ?_)
                                                                  refine r_bind (fun v336 h337 => ?_)
                                                                  refine r_cv (a := z14) (As := [vi (xs (ix (s15.1 + (1 : Int32)))), vi (xs (ix (s15.1 + (2 : Int32))))]) (st := [vi v333.1]) (r := (some (vi v336.1))) (Z1 := s15.2.1) (M1 := v336.2) (k1 := (108 + 2 * ix s15.1)) (n1 := (3361 + 700 * ix s15.1)) (st1 := [vi v336.1, vi v333.1]) (q := 1295) hX (fun l => kX12_bill l s15.2.1 v333.2 z14 (xs (ix (s15.1 + (1 : Int32)))) (xs (ix (s15.1 + (2 : Int32)))) v336 h337) hc335 ivX12_bill ccX12_bill (Or.inl lkL_148) rfl rfl rfl ⟨Nat.le_of_ble_eq_true rfl, Nat.le_of_ble_eq_true rfl, rfl, rfl, law_k hI 108 0 (Nat.le_of_ble_eq_true rfl), law_n hI 3361 0 (Nat.le_of_ble_eq_true rfl)⟩ (Nat.le_of_ble_eq_true rfl) dL_law_1292 rfl ?_
                                                                  refine r_icmp_eq (tgt := 1753) (q := 1298) hX dL_law_1295 (by decide) rfl (fun hb338 => ?_) (fun hb338 => ?_)
                                                                  · refine r_iinc (x := s15.1) (v := (s15.1 + (7 : Int32))) (q := 1756) 3 3 [1, 2, 3, 0] (L1 := [(0, vr 1), (1, vr z7), (2, vr z14), (3, vi (s15.1 + (7 : Int32)))]) hX dL_law_1753 rfl rfl (Nat.le_of_ble_eq_true rfl) rfl rfl ?_
                                                                    refine r_goto (q := 18) hX dL_law_1756 (by decide) ?_
                                                                    refine r_l0 ?_
                                                                    refine r_wide (k1 := 108 + 2 * ix (s15.1 + (7 : Int32))) (n1 := 3361 + 700 * ix (s15.1 + (7 : Int32))) (law_wk hc19 hL 108 0 (Nat.le_of_ble_eq_true rfl)) (law_wn hc19 hL 3361 0 (Nat.le_of_ble_eq_true rfl)) ?_
                                                                    exact hn16 ((s15.1 + (7 : Int32)), s15.2.1, v336.2) (law_nx hc19 hL)
                                                                  · refine r_iconst (v := (0 : Int32)) (q := 1299) hX dL_law_1298 rfl rfl ?_
                                                                    exact r_none
                                                                · refine r_ite (fun hb339 => ?_) (fun hb339 => ?_)
                                                                  · refine r_tswI (off := 1267) (q := 1300) hX hb339 dL_law_33 (by decide) (by decide) ?_
                                                                    refine r_aload_n (i := 1) (x := z7) (q := 1301) 1 hX dL_law_1300 rfl rfl rfl ?_
                                                                    refine r_aload_n (i := 0) (x := 1) (q := 1302) 0 hX dL_law_1301 rfl rfl rfl ?_
                                                                    refine r_iload_n (i := 3) (x := s15.1) (q := 1303) 3 hX dL_law_1302 rfl rfl rfl ?_
                                                                    refine r_iconst (v := (1 : Int32)) (q := 1304) hX dL_law_1303 rfl rfl ?_
                                                                    refine r_iadd (q := 1305) hX dL_law_1304 rfl ?_
                                                                    refine r_ck (fun hc340 => ?_)
                                                                    refine r_sld (i := (s15.1 + (1 : Int32))) (q := 1306) hX hSc hc340 dL_law_1305 rfl ?_
                                                                    refine r_aload_n (i := 0) (x := 1) (q := 1307) 0 hX dL_law_1306 rfl rfl rfl ?_
                                                                    refine r_iload_n (i := 3) (x := s15.1) (q := 1308) 3 hX dL_law_1307 rfl rfl rfl ?_
                                                                    refine r_iconst (v := (2 : Int32)) (q := 1309) hX dL_law_1308 rfl rfl ?_
                                                                    refine r_iadd (q := 1310) hX dL_law_1309 rfl ?_
                                                                    refine r_ck (fun hc341 => ?_)
                                                                    refine r_sld (i := (s15.1 + (2 : Int32))) (q := 1311) hX hSc hc341 dL_law_1310 rfl ?_
                                                                    refine r_ck (fun hc342 => ?_)
                                                                    refine r_bind (fun v343 h344 => ?_)
                                                                    refine r_cv (a := z7) (As := [vi (xs (ix (s15.1 + (1 : Int32)))), vi (xs (ix (s15.1 + (2 : Int32))))]) (st := []) (r := (some (vi v343.1))) (Z1 := s15.2.1) (M1 := v343.2) (k1 := (108 + 2 * ix s15.1)) (n1 := (3361 + 700 * ix s15.1)) (st1 := [vi v343.1]) (q := 1314) hX (fun l => kX11_pay l s15.2.1 s15.2.2 z7 (xs (ix (s15.1 + (1 : Int32)))) (xs (ix (s15.1 + (2 : Int32)))) v343 h344) hc342 ivX11_pay ccX11_pay (Or.inl lkL_149) rfl rfl rfl ⟨Nat.le_of_ble_eq_true rfl, Nat.le_of_ble_eq_true rfl, rfl, rfl, law_k hI 108 0 (Nat.le_of_ble_eq_true rfl), law_n hI 3361 0 (Nat.le_of_ble_eq_true rfl)⟩ (Nat.le_of_ble_eq_true rfl) dL_law_1311 rfl ?_
                                                                    refine r_aload_n (i := 2) (x := z14) (q := 1315) 2 hX dL_law_1314 rfl rfl rfl ?_
                                                                    refine r_aload_n (i := 0) (x := 1) (q := 1316) 0 hX dL_law_1315 rfl rfl rfl ?_
                                                                    refine r_iload_n (i := 3) (x := s15.1) (q := 1317) 3 hX dL_law_1316 rfl rfl rfl ?_
                                                                    refine r_iconst (v := (1 : Int32)) (q := 1318) hX dL_law_1317 rfl rfl ?_
                                                                    refine r_iadd (q := 1319) hX dL_law_1318 rfl ?_
                                                                    refine r_sld (i := (s15.1 + (1 : Int32))) (q := 1320) hX hSc hc340 dL_law_1319 rfl ?_
                                                                    refine r_aload_n (i := 0) (x := 1) (q := 1321) 0 hX dL_law_1320 rfl rfl rfl ?_
                                                                    refine r_iload_n (i := 3) (x := s15.1) (q := 1322) 3 hX dL_law_1321 rfl rfl rfl ?_
                                                                    refine r_iconst (v := (2 : Int32)) (q := 1323) hX dL_law_1322 rfl rfl ?_
                                                                    refine r_iadd (q := 1324) hX dL_law_1323 rfl ?_
                                                                    refine r_sld (i := (s15.1 + (2 : Int32))) (q := 1325) hX hSc hc341 dL_law_1324 rfl ?_
                                                                    refine r_ck (fun hc345 => ?_)
                                                                    refine r_bind (fun v346 h347 => ?_)
                                                                    refine r_cv (a := z14) (As := [vi (xs (ix (s15.1 + (1 : Int32)))), vi (xs (ix (s15.1 + (2 : Int32))))]) (st := [vi v343.1]) (r := (some (vi v346.1))) (Z1 := s15.2.1) (M1 := v346.2) (k1 := (108 + 2 * ix s15.1)) (n1 := (3361 + 700 * ix s15.1)) (st1 := [vi v346.1, vi v343.1]) (q := 1328) hX (fun l => kX12_pay l s15.2.1 v343.2 z14 (xs (ix (s15.1 + (1 : Int32)))) (xs (ix (s15.1 + (2 : Int32)))) v346 h347) hc345 ivX12_pay ccX12_pay (Or.inl lkL_152) rfl rfl rfl ⟨Nat.le_of_ble_eq_true rfl, Nat.le_of_ble_eq_true rfl, rfl, rfl, law_k hI 108 0 (Nat.le_of_ble_eq_true rfl), law_n hI 3361 0 (Nat.le_of_ble_eq_true rfl)⟩ (Nat.le_of_ble_eq_true rfl) dL_law_1325 rfl ?_
                                                                    refine r_icmp_eq (tgt := 1753) (q := 1331) hX dL_law_1328 (by decide) rfl (fun hb348 => ?_) (fun hb348 => ?_)
                                                                    · refine r_iinc (x := s15.1) (v := (s15.1 + (7 : Int32))) (q := 1756) 3 3 [1, 2, 3, 0] (L1 := [(0, vr 1), (1, vr z7), (2, vr z14), (3, vi (s15.1 + (7 : Int32)))]) hX dL_law_1753 rfl rfl (Nat.le_of_ble_eq_true rfl) rfl rfl ?_
                                                                      refine r_goto (q := 18) hX dL_law_1756 (by decide) ?_
                                                                      refine r_l0 ?_
                                                                      refine r_wide (k1 := 108 + 2 * ix (s15.1 + (7 : Int32))) (n1 := 3361 + 700 * ix (s15.1 + (7 : Int32))) (law_wk hc19 hL 108 0 (Nat.le_of_ble_eq_true rfl)) (law_wn hc19 hL 3361 0 (Nat.le_of_ble_eq_true rfl)) ?_
                                                                      exact hn16 ((s15.1 + (7 : Int32)), s15.2.1, v346.2) (law_nx hc19 hL)
                                                                    · refine r_iconst (v := (0 : Int32)) (q := 1332) hX dL_law_1331 rfl rfl ?_
                                                                      exact r_none
                                                                  · refine r_ite (fun hb349 => ?_) (fun hb349 => ?_)
                                                                    · refine r_tswI (off := 1300) (q := 1333) hX hb349 dL_law_33 (by decide) (by decide) ?_
                                                                      refine r_aload_n (i := 1) (x := z7) (q := 1334) 1 hX dL_law_1333 rfl rfl rfl ?_
                                                                      refine r_aload_n (i := 0) (x := 1) (q := 1335) 0 hX dL_law_1334 rfl rfl rfl ?_
                                                                      refine r_iload_n (i := 3) (x := s15.1) (q := 1336) 3 hX dL_law_1335 rfl rfl rfl ?_
                                                                      refine r_iconst (v := (1 : Int32)) (q := 1337) hX dL_law_1336 rfl rfl ?_
                                                                      refine r_iadd (q := 1338) hX dL_law_1337 rfl ?_
                                                                      refine r_ck (fun hc350 => ?_)
                                                                      refine r_sld (i := (s15.1 + (1 : Int32))) (q := 1339) hX hSc hc350 dL_law_1338 rfl ?_
                                                                      refine r_aload_n (i := 0) (x := 1) (q := 1340) 0 hX dL_law_1339 rfl rfl rfl ?_
                                                                      refine r_iload_n (i := 3) (x := s15.1) (q := 1341) 3 hX dL_law_1340 rfl rfl rfl ?_
                                                                      refine r_iconst (v := (2 : Int32)) (q := 1342) hX dL_law_1341 rfl rfl ?_
                                                                      refine r_iadd (q := 1343) hX dL_law_1342 rfl ?_
                                                                      refine r_ck (fun hc351 => ?_)
                                                                      refine r_sld (i := (s15.1 + (2 : Int32))) (q := 1344) hX hSc hc351 dL_law_1343 rfl ?_
                                                                      refine r_aload_n (i := 0) (x := 1) (q := 1345) 0 hX dL_law_1344 rfl rfl rfl ?_
                                                                      refine r_iload_n (i := 3) (x := s15.1) (q := 1346) 3 hX dL_law_1345 rfl rfl rfl ?_
                                                                      refine r_iconst (v := (3 : Int32)) (q := 1347) hX dL_law_1346 rfl rfl ?_
                                                                      refine r_iadd (q := 1348) hX dL_law_1347 rfl ?_
                                                                      refine r_ck (fun hc352 => ?_)
                                                                      refine r_sld (i := (s15.1 + (3 : Int32))) (q := 1349) hX hSc hc352 dL_law_1348 rfl ?_
                                                                      refine r_ck (fun hc353 => ?_)
                                                                      refine r_bind (fun v354 h355 => ?_)
                                                                      refine r_cv (a := z7) (As := [vi (xs (ix (s15.1 + (1 : Int32)))), vi (xs (ix (s15.1 + (2 : Int32)))), vi (xs (ix (s15.1 + (3 : Int32))))]) (st := []) (r := (some (vi v354.1))) (Z1 := s15.2.1) (M1 := v354.2) (k1 := (108 + 2 * ix s15.1)) (n1 := (3361 + 700 * ix s15.1)) (st1 := [vi v354.1]) (q := 1352) hX (fun l => kX11_debt l s15.2.1 s15.2.2 z7 (xs (ix (s15.1 + (1 : Int32)))) (xs (ix (s15.1 + (2 : Int32)))) (xs (ix (s15.1 + (3 : Int32)))) v354 h355) hc353 ivX11_debt ccX11_debt (Or.inl lkL_153) rfl rfl rfl ⟨Nat.le_of_ble_eq_true rfl, Nat.le_of_ble_eq_true rfl, rfl, rfl, law_k hI 108 0 (Nat.le_of_ble_eq_true rfl), law_n hI 3361 0 (Nat.le_of_ble_eq_true rfl)⟩ (Nat.le_of_ble_eq_true rfl) dL_law_1349 rfl ?_
                                                                      refine r_aload_n (i := 2) (x := z14) (q := 1353) 2 hX dL_law_1352 rfl rfl rfl ?_
                                                                      refine r_aload_n (i := 0) (x := 1) (q := 1354) 0 hX dL_law_1353 rfl rfl rfl ?_
                                                                      refine r_iload_n (i := 3) (x := s15.1) (q := 1355) 3 hX dL_law_1354 rfl rfl rfl ?_
                                                                      refine r_iconst (v := (1 : Int32)) (q := 1356) hX dL_law_1355 rfl rfl ?_
                                                                      refine r_iadd (q := 1357) hX dL_law_1356 rfl ?_
                                                                      refine r_sld (i := (s15.1 + (1 : Int32))) (q := 1358) hX hSc hc350 dL_law_1357 rfl ?_
                                                                      refine r_aload_n (i := 0) (x := 1) (q := 1359) 0 hX dL_law_1358 rfl rfl rfl ?_
                                                                      refine r_iload_n (i := 3) (x := s15.1) (q := 1360) 3 hX dL_law_1359 rfl rfl rfl ?_
                                                                      refine r_iconst (v := (2 : Int32)) (q := 1361) hX dL_law_1360 rfl rfl ?_
                                                                      refine r_iadd (q := 1362) hX dL_law_1361 rfl ?_
                                                                      refine r_sld (i := (s15.1 + (2 : Int32))) (q := 1363) hX hSc hc351 dL_law_1362 rfl ?_
                                                                      refine r_aload_n (i := 0) (x := 1) (q := 1364) 0 hX dL_law_1363 rfl rfl rfl ?_
                                                                      refine r_iload_n (i := 3) (x := s15.1) (q := 1365) 3 hX dL_law_1364 rfl rfl rfl ?_
                                                                      refine r_iconst (v := (3 : Int32)) (q := 1366) hX dL_law_1365 rfl rfl ?_
                                                                      refine r_iadd (q := 1367) hX dL_law_1366 rfl ?_
                                                                      refine r_sld (i := (s15.1 + (3 : Int32))) (q := 1368) hX hSc hc352 dL_law_1367 rfl ?_
                                                                      refine r_ck (fun hc356 => ?_)
                                                                      refine r_bind (fun v357 h358 => ?_)
                                                                      refine r_cv (a := z14) (As := [vi (xs (ix (s15.1 + (1 : Int32)))), vi (xs (ix (s15.1 + (2 : Int32)))), vi (xs (ix (s15.1 + (3 : Int32))))]) (st := [vi v354.1]) (r := (some (vi v357.1))) (Z1 := s15.2.1) (M1 := v357.2) (k1 := (108 + 2 * ix s15.1)) (n1 := (3361 + 700 * ix s15.1)) (st1 := [vi v357.1, vi v354.1]) (q := 1371) hX (fun l => kX12_debt l s15.2.1 v354.2 z14 (xs (ix (s15.1 + (1 : Int32)))) (xs (ix (s15.1 + (2 : Int32)))) (xs (ix (s15.1 + (3 : Int32)))) v357 h358) hc356 ivX12_debt ccX12_debt (Or.inl lkL_156) rfl rfl rfl ⟨Nat.le_of_ble_eq_true rfl, Nat.le_of_ble_eq_true rfl, rfl, rfl, law_k hI 108 0 (Nat.le_of_ble_eq_true rfl), law_n hI 3361 0 (Nat.le_of_ble_eq_true rfl)⟩ (Nat.le_of_ble_eq_true rfl) dL_law_1368 rfl ?_
                                                                      refine r_icmp_eq (tgt := 1753) (q := 1374) hX dL_law_1371 (by decide) rfl (fun hb359 => ?_) (fun hb359 => ?_)
                                                                      · refine r_iinc (x := s15.1) (v := (s15.1 + (7 : Int32))) (q := 1756) 3 3 [1, 2, 3, 0] (L1 := [(0, vr 1), (1, vr z7), (2, vr z14), (3, vi (s15.1 + (7 : Int32)))]) hX dL_law_1753 rfl rfl (Nat.le_of_ble_eq_true rfl) rfl rfl ?_
                                                                        refine r_goto (q := 18) hX dL_law_1756 (by decide) ?_
                                                                        refine r_l0 ?_
                                                                        refine r_wide (k1 := 108 + 2 * ix (s15.1 + (7 : Int32))) (n1 := 3361 + 700 * ix (s15.1 + (7 : Int32))) (law_wk hc19 hL 108 0 (Nat.le_of_ble_eq_true rfl)) (law_wn hc19 hL 3361 0 (Nat.le_of_ble_eq_true rfl)) ?_
                                                                        exact hn16 ((s15.1 + (7 : Int32)), s15.2.1, v357.2) (law_nx hc19 hL)
                                                                      · refine r_iconst (v := (0 : Int32)) (q := 1375) hX dL_law_1374 rfl rfl ?_
                                                                        exact r_none
                                                                    · refine r_ite (fun hb360 => ?_) (fun hb360 => ?_)
                                                                      · refine r_tswI (off := 1343) (q := 1376) hX hb360 dL_law_33 (by decide) (by decide) ?_
                                                                        refine r_aload_n (i := 1) (x := z7) (q := 1377) 1 hX dL_law_1376 rfl rfl rfl ?_
                                                                        refine r_aload_n (i := 0) (x := 1) (q := 1378) 0 hX dL_law_1377 rfl rfl rfl ?_
                                                                        refine r_iload_n (i := 3) (x := s15.1) (q := 1379) 3 hX dL_law_1378 rfl rfl rfl ?_
                                                                        refine r_iconst (v := (1 : Int32)) (q := 1380) hX dL_law_1379 rfl rfl ?_
                                                                        refine r_iadd (q := 1381) hX dL_law_1380 rfl ?_
                                                                        refine r_ck (fun hc361 => ?_)
                                                                        refine r_sld (i := (s15.1 + (1 : Int32))) (q := 1382) hX hSc hc361 dL_law_1381 rfl ?_
                                                                        refine r_aload_n (i := 0) (x := 1) (q := 1383) 0 hX dL_law_1382 rfl rfl rfl ?_
                                                                        refine r_iload_n (i := 3) (x := s15.1) (q := 1384) 3 hX dL_law_1383 rfl rfl rfl ?_
                                                                        refine r_iconst (v := (2 : Int32)) (q := 1385) hX dL_law_1384 rfl rfl ?_
                                                                        refine r_iadd (q := 1386) hX dL_law_1385 rfl ?_
                                                                        refine r_ck (fun hc362 => ?_)
                                                                        refine r_sld (i := (s15.1 + (2 : Int32))) (q := 1387) hX hSc hc362 dL_law_1386 rfl ?_
                                                                        refine r_ck (fun hc363 => ?_)
                                                                        refine r_bind (fun v364 h365 => ?_)
                                                                        refine r_cv (a := z7) (As := [vi (xs (ix (s15.1 + (1 : Int32)))), vi (xs (ix (s15.1 + (2 : Int32))))]) (st := []) (r := (some (vi v364))) (Z1 := s15.2.1) (M1 := s15.2.2) (k1 := (108 + 2 * ix s15.1)) (n1 := (3361 + 700 * ix s15.1)) (st1 := [vi v364]) (q := 1390) hX (fun l => kX11_failed l s15.2.1 s15.2.2 z7 (xs (ix (s15.1 + (1 : Int32)))) (xs (ix (s15.1 + (2 : Int32)))) v364 h365) hc363 ivX11_failed ccX11_failed (Or.inl lkL_157) rfl rfl rfl ⟨Nat.le_of_ble_eq_true rfl, Nat.le_of_ble_eq_true rfl, rfl, rfl, law_k hI 108 0 (Nat.le_of_ble_eq_true rfl), law_n hI 3361 0 (Nat.le_of_ble_eq_true rfl)⟩ (Nat.le_of_ble_eq_true rfl) dL_law_1387 rfl ?_
                                                                        refine r_aload_n (i := 2) (x := z14) (q := 1391) 2 hX dL_law_1390 rfl rfl rfl ?_
                                                                        refine r_aload_n (i := 0) (x := 1) (q := 1392) 0 hX dL_law_1391 rfl rfl rfl ?_
                                                                        refine r_iload_n (i := 3) (x := s15.1) (q := 1393) 3 hX dL_law_1392 rfl rfl rfl ?_
                                                                        refine r_iconst (v := (1 : Int32)) (q := 1394) hX dL_law_1393 rfl rfl ?_
                                                                        refine r_iadd (q := 1395) hX dL_law_1394 rfl ?_
                                                                        refine r_sld (i := (s15.1 + (1 : Int32))) (q := 1396) hX hSc hc361 dL_law_1395 rfl ?_
                                                                        refine r_aload_n (i := 0) (x := 1) (q := 1397) 0 hX dL_law_1396 rfl rfl rfl ?_
                                                                        refine r_iload_n (i := 3) (x := s15.1) (q := 1398) 3 hX dL_law_1397 rfl rfl rfl ?_
                                                                        refine r_iconst (v := (2 : Int32)) (q := 1399) hX dL_law_1398 rfl rfl ?_
                                                                        refine r_iadd (q := 1400) hX dL_law_1399 rfl ?_
                                                                        refine r_sld (i := (s15.1 + (2 : Int32))) (q := 1401) hX hSc hc362 dL_law_1400 rfl ?_
                                                                        refine r_ck (fun hc366 => ?_)
                                                                        refine r_bind (fun v367 h368 => ?_)
                                                                        refine r_cv (a := z14) (As := [vi (xs (ix (s15.1 + (1 : Int32)))), vi (xs (ix (s15.1 + (2 : Int32))))]) (st := [vi v364]) (r := (some (vi v367))) (Z1 := s15.2.1) (M1 := s15.2.2) (k1 := (108 + 2 * ix s15.1)) (n1 := (3361 + 700 * ix s15.1)) (st1 := [vi v367, vi v364]) (q := 1404) hX (fun l => kX12_failed l s15.2.1 s15.2.2 z14 (xs (ix (s15.1 + (1 : Int32)))) (xs (ix (s15.1 + (2 : Int32)))) v367 h368) hc366 ivX12_failed ccX12_failed (Or.inl lkL_160) rfl rfl rfl ⟨Nat.le_of_ble_eq_true rfl, Nat.le_of_ble_eq_true rfl, rfl, rfl, law_k hI 108 0 (Nat.le_of_ble_eq_true rfl), law_n hI 3361 0 (Nat.le_of_ble_eq_true rfl)⟩ (Nat.le_of_ble_eq_true rfl) dL_law_1401 rfl ?_
                                                                        refine r_icmp_eq (tgt := 1753) (q := 1407) hX dL_law_1404 (by decide) rfl (fun hb369 => ?_) (fun hb369 => ?_)
                                                                        · refine r_iinc (x := s15.1) (v := (s15.1 + (7 : Int32))) (q := 1756) 3 3 [1, 2, 3, 0] (L1 := [(0, vr 1), (1, vr z7), (2, vr z14), (3, vi (s15.1 + (7 : Int32)))]) hX dL_law_1753 rfl rfl (Nat.le_of_ble_eq_true rfl) rfl rfl ?_
                                                                          refine r_goto (q := 18) hX dL_law_1756 (by decide) ?_
                                                                          refine r_l0 ?_
                                                                          refine r_wide (k1 := 108 + 2 * ix (s15.1 + (7 : Int32))) (n1 := 3361 + 700 * ix (s15.1 + (7 : Int32))) (law_wk hc19 hL 108 0 (Nat.le_of_ble_eq_true rfl)) (law_wn hc19 hL 3361 0 (Nat.le_of_ble_eq_true rfl)) ?_
                                                                          exact hn16 ((s15.1 + (7 : Int32)), s15.2.1, s15.2.2) (law_nx hc19 hL)
                                                                        · refine r_iconst (v := (0 : Int32)) (q := 1408) hX dL_law_1407 rfl rfl ?_
                                                                          exact r_none
                                                                      · refine r_ite (fun hb370 => ?_) (fun hb370 => ?_)
                                                                        · refine r_tswI (off := 1376) (q := 1409) hX hb370 dL_law_33 (by decide) (by decide) ?_
                                                                          refine r_aload_n (i := 1) (x := z7) (q := 1410) 1 hX dL_law_1409 rfl rfl rfl ?_
                                                                          refine r_aload_n (i := 0) (x := 1) (q := 1411) 0 hX dL_law_1410 rfl rfl rfl ?_
                                                                          refine r_iload_n (i := 3) (x := s15.1) (q := 1412) 3 hX dL_law_1411 rfl rfl rfl ?_
                                                                          refine r_iconst (v := (1 : Int32)) (q := 1413) hX dL_law_1412 rfl rfl ?_
                                                                          refine r_iadd (q := 1414) hX dL_law_1413 rfl ?_
                                                                          refine r_ck (fun hc371 => ?_)
                                                                          refine r_sld (i := (s15.1 + (1 : Int32))) (q := 1415) hX hSc hc371 dL_law_1414 rfl ?_
                                                                          refine r_aload_n (i := 0) (x := 1) (q := 1416) 0 hX dL_law_1415 rfl rfl rfl ?_
                                                                          refine r_iload_n (i := 3) (x := s15.1) (q := 1417) 3 hX dL_law_1416 rfl rfl rfl ?_
                                                                          refine r_iconst (v := (2 : Int32)) (q := 1418) hX dL_law_1417 rfl rfl ?_
                                                                          refine r_iadd (q := 1419) hX dL_law_1418 rfl ?_
                                                                          refine r_ck (fun hc372 => ?_)
                                                                          refine r_sld (i := (s15.1 + (2 : Int32))) (q := 1420) hX hSc hc372 dL_law_1419 rfl ?_
                                                                          refine r_ck (fun hc373 => ?_)
                                                                          refine r_bind (fun v374 h375 => ?_)
                                                                          refine r_cv (a := z7) (As := [vi (xs (ix (s15.1 + (1 : Int32)))), vi (xs (ix (s15.1 + (2 : Int32))))]) (st := []) (r := (some (vi v374.1))) (Z1 := s15.2.1) (M1 := v374.2) (k1 := (108 + 2 * ix s15.1)) (n1 := (3361 + 700 * ix s15.1)) (st1 := [vi v374.1]) (q := 1423) hX (fun l => kX11_shares l s15.2.1 s15.2.2 z7 (xs (ix (s15.1 + (1 : Int32)))) (xs (ix (s15.1 + (2 : Int32)))) v374 h375) hc373 ivX11_shares ccX11_shares (Or.inl lkL_161) rfl rfl rfl ⟨Nat.le_of_ble_eq_true rfl, Nat.le_of_ble_eq_true rfl, rfl, rfl, law_k hI 108 0 (Nat.le_of_ble_eq_true rfl), law_n hI 3361 0 (Nat.le_of_ble_eq_true rfl)⟩ (Nat.le_of_ble_eq_true rfl) dL_law_1420 rfl ?_
                                                                          refine r_aload_n (i := 2) (x := z14) (q := 1424) 2 hX dL_law_1423 rfl rfl rfl ?_
                                                                          refine r_aload_n (i := 0) (x := 1) (q := 1425) 0 hX dL_law_1424 rfl rfl rfl ?_
                                                                          refine r_iload_n (i := 3) (x := s15.1) (q := 1426) 3 hX dL_law_1425 rfl rfl rfl ?_
                                                                          refine r_iconst (v := (1 : Int32)) (q := 1427) hX dL_law_1426 rfl rfl ?_
                                                                          refine r_iadd (q := 1428) hX dL_law_1427 rfl ?_
                                                                          refine r_sld (i := (s15.1 + (1 : Int32))) (q := 1429) hX hSc hc371 dL_law_1428 rfl ?_
                                                                          refine r_aload_n (i := 0) (x := 1) (q := 1430) 0 hX dL_law_1429 rfl rfl rfl ?_
                                                                          refine r_iload_n (i := 3) (x := s15.1) (q := 1431) 3 hX dL_law_1430 rfl rfl rfl ?_
                                                                          refine r_iconst (v := (2 : Int32)) (q := 1432) hX dL_law_1431 rfl rfl ?_
                                                                          refine r_iadd (q := 1433) hX dL_law_1432 rfl ?_
                                                                          refine r_sld (i := (s15.1 + (2 : Int32))) (q := 1434) hX hSc hc372 dL_law_1433 rfl ?_
                                                                          refine r_ck (fun hc376 => ?_)
                                                                          refine r_bind (fun v377 h378 => ?_)
                                                                          refine r_cv (a := z14) (As := [vi (xs (ix (s15.1 + (1 : Int32)))), vi (xs (ix (s15.1 + (2 : Int32))))]) (st := [vi v374.1]) (r := (some (vi v377.1))) (Z1 := s15.2.1) (M1 := v377.2) (k1 := (108 + 2 * ix s15.1)) (n1 := (3361 + 700 * ix s15.1)) (st1 := [vi v377.1, vi v374.1]) (q := 1437) hX (fun l => kX12_shares l s15.2.1 v374.2 z14 (xs (ix (s15.1 + (1 : Int32)))) (xs (ix (s15.1 + (2 : Int32)))) v377 h378) hc376 ivX12_shares ccX12_shares (Or.inl lkL_164) rfl rfl rfl ⟨Nat.le_of_ble_eq_true rfl, Nat.le_of_ble_eq_true rfl, rfl, rfl, law_k hI 108 0 (Nat.le_of_ble_eq_true rfl), law_n hI 3361 0 (Nat.le_of_ble_eq_true rfl)⟩ (Nat.le_of_ble_eq_true rfl) dL_law_1434 rfl ?_
                                                                          refine r_icmp_eq (tgt := 1753) (q := 1440) hX dL_law_1437 (by decide) rfl (fun hb379 => ?_) (fun hb379 => ?_)
                                                                          · refine r_iinc (x := s15.1) (v := (s15.1 + (7 : Int32))) (q := 1756) 3 3 [1, 2, 3, 0] (L1 := [(0, vr 1), (1, vr z7), (2, vr z14), (3, vi (s15.1 + (7 : Int32)))]) hX dL_law_1753 rfl rfl (Nat.le_of_ble_eq_true rfl) rfl rfl ?_
                                                                            refine r_goto (q := 18) hX dL_law_1756 (by decide) ?_
                                                                            refine r_l0 ?_
                                                                            refine r_wide (k1 := 108 + 2 * ix (s15.1 + (7 : Int32))) (n1 := 3361 + 700 * ix (s15.1 + (7 : Int32))) (law_wk hc19 hL 108 0 (Nat.le_of_ble_eq_true rfl)) (law_wn hc19 hL 3361 0 (Nat.le_of_ble_eq_true rfl)) ?_
                                                                            exact hn16 ((s15.1 + (7 : Int32)), s15.2.1, v377.2) (law_nx hc19 hL)
                                                                          · refine r_iconst (v := (0 : Int32)) (q := 1441) hX dL_law_1440 rfl rfl ?_
                                                                            exact r_none
                                                                        · refine r_ite (fun hb380 => ?_) (fun hb380 => ?_)
                                                                          · refine r_tswI (off := 1409) (q := 1442) hX hb380 dL_law_33 (by decide) (by decide) ?_
                                                                            refine r_aload_n (i := 1) (x := z7) (q := 1443) 1 hX dL_law_1442 rfl rfl rfl ?_
                                                                            refine r_aload_n (i := 0) (x := 1) (q := 1444) 0 hX dL_law_1443 rfl rfl rfl ?_
                                                                            refine r_iload_n (i := 3) (x := s15.1) (q := 1445) 3 hX dL_law_1444 rfl rfl rfl ?_
                                                                            refine r_iconst (v := (1 : Int32)) (q := 1446) hX dL_law_1445 rfl rfl ?_
                                                                            refine r_iadd (q := 1447) hX dL_law_1446 rfl ?_
                                                                            refine r_ck (fun hc381 => ?_)
                                                                            refine r_sld (i := (s15.1 + (1 : Int32))) (q := 1448) hX hSc hc381 dL_law_1447 rfl ?_
                                                                            refine r_aload_n (i := 0) (x := 1) (q := 1449) 0 hX dL_law_1448 rfl rfl rfl ?_
                                                                            refine r_iload_n (i := 3) (x := s15.1) (q := 1450) 3 hX dL_law_1449 rfl rfl rfl ?_
                                                                            refine r_iconst (v := (2 : Int32)) (q := 1451) hX dL_law_1450 rfl rfl ?_
                                                                            refine r_iadd (q := 1452) hX dL_law_1451 rfl ?_
                                                                            refine r_ck (fun hc382 => ?_)
                                                                            refine r_sld (i := (s15.1 + (2 : Int32))) (q := 1453) hX hSc hc382 dL_law_1452 rfl ?_
                                                                            refine r_aload_n (i := 0) (x := 1) (q := 1454) 0 hX dL_law_1453 rfl rfl rfl ?_
                                                                            refine r_iload_n (i := 3) (x := s15.1) (q := 1455) 3 hX dL_law_1454 rfl rfl rfl ?_
                                                                            refine r_iconst (v := (3 : Int32)) (q := 1456) hX dL_law_1455 rfl rfl ?_
                                                                            refine r_iadd (q := 1457) hX dL_law_1456 rfl ?_
                                                                            refine r_ck (fun hc383 => ?_)
                                                                            refine r_sld (i := (s15.1 + (3 : Int32))) (q := 1458) hX hSc hc383 dL_law_1457 rfl ?_
                                                                            refine r_aload_n (i := 0) (x := 1) (q := 1459) 0 hX dL_law_1458 rfl rfl rfl ?_
                                                                            refine r_iload_n (i := 3) (x := s15.1) (q := 1460) 3 hX dL_law_1459 rfl rfl rfl ?_
                                                                            refine r_iconst (v := (4 : Int32)) (q := 1461) hX dL_law_1460 rfl rfl ?_
                                                                            refine r_iadd (q := 1462) hX dL_law_1461 rfl ?_
                                                                            refine r_ck (fun hc384 => ?_)
                                                                            refine r_sld (i := (s15.1 + (4 : Int32))) (q := 1463) hX hSc hc384 dL_law_1462 rfl ?_
                                                                            refine r_ck (fun hc385 => ?_)
                                                                            refine r_bind (fun v386 h387 => ?_)
                                                                            refine r_cv (a := z7) (As := [vi (xs (ix (s15.1 + (1 : Int32)))), vi (xs (ix (s15.1 + (2 : Int32)))), vi (xs (ix (s15.1 + (3 : Int32)))), vi (xs (ix (s15.1 + (4 : Int32))))]) (st := []) (r := (some (vi v386.1))) (Z1 := s15.2.1) (M1 := v386.2) (k1 := (108 + 2 * ix s15.1)) (n1 := (3361 + 700 * ix s15.1)) (st1 := [vi v386.1]) (q := 1466) hX (fun l => kX11_pass l s15.2.1 s15.2.2 z7 (xs (ix (s15.1 + (1 : Int32)))) (xs (ix (s15.1 + (2 : Int32)))) (xs (ix (s15.1 + (3 : Int32)))) (xs (ix (s15.1 + (4 : Int32)))) v386 h387) hc385 ivX11_pass ccX11_pass (Or.inl lkL_165) rfl rfl rfl ⟨Nat.le_of_ble_eq_true rfl, Nat.le_of_ble_eq_true rfl, rfl, rfl, law_k hI 108 0 (Nat.le_of_ble_eq_true rfl), law_n hI 3361 0 (Nat.le_of_ble_eq_true rfl)⟩ (Nat.le_of_ble_eq_true rfl) dL_law_1463 rfl ?_
                                                                            refine r_aload_n (i := 2) (x := z14) (q := 1467) 2 hX dL_law_1466 rfl rfl rfl ?_
                                                                            refine r_aload_n (i := 0) (x := 1) (q := 1468) 0 hX dL_law_1467 rfl rfl rfl ?_
                                                                            refine r_iload_n (i := 3) (x := s15.1) (q := 1469) 3 hX dL_law_1468 rfl rfl rfl ?_
                                                                            refine r_iconst (v := (1 : Int32)) (q := 1470) hX dL_law_1469 rfl rfl ?_
                                                                            refine r_iadd (q := 1471) hX dL_law_1470 rfl ?_
                                                                            refine r_sld (i := (s15.1 + (1 : Int32))) (q := 1472) hX hSc hc381 dL_law_1471 rfl ?_
                                                                            refine r_aload_n (i := 0) (x := 1) (q := 1473) 0 hX dL_law_1472 rfl rfl rfl ?_
                                                                            refine r_iload_n (i := 3) (x := s15.1) (q := 1474) 3 hX dL_law_1473 rfl rfl rfl ?_
                                                                            refine r_iconst (v := (2 : Int32)) (q := 1475) hX dL_law_1474 rfl rfl ?_
                                                                            refine r_iadd (q := 1476) hX dL_law_1475 rfl ?_
                                                                            refine r_sld (i := (s15.1 + (2 : Int32))) (q := 1477) hX hSc hc382 dL_law_1476 rfl ?_
                                                                            refine r_aload_n (i := 0) (x := 1) (q := 1478) 0 hX dL_law_1477 rfl rfl rfl ?_
                                                                            refine r_iload_n (i := 3) (x := s15.1) (q := 1479) 3 hX dL_law_1478 rfl rfl rfl ?_
                                                                            refine r_iconst (v := (3 : Int32)) (q := 1480) hX dL_law_1479 rfl rfl ?_
                                                                            refine r_iadd (q := 1481) hX dL_law_1480 rfl ?_
                                                                            refine r_sld (i := (s15.1 + (3 : Int32))) (q := 1482) hX hSc hc383 dL_law_1481 rfl ?_
                                                                            refine r_aload_n (i := 0) (x := 1) (q := 1483) 0 hX dL_law_1482 rfl rfl rfl ?_
                                                                            refine r_iload_n (i := 3) (x := s15.1) (q := 1484) 3 hX dL_law_1483 rfl rfl rfl ?_
                                                                            refine r_iconst (v := (4 : Int32)) (q := 1485) hX dL_law_1484 rfl rfl ?_
                                                                            refine r_iadd (q := 1486) hX dL_law_1485 rfl ?_
                                                                            refine r_sld (i := (s15.1 + (4 : Int32))) (q := 1487) hX hSc hc384 dL_law_1486 rfl ?_
                                                                            refine r_ck (fun hc388 => ?_)
                                                                            refine r_bind (fun v389 h390 => ?_)
                                                                            refine r_cv (a := z14) (As := [vi (xs (ix (s15.1 + (1 : Int32)))), vi (xs (ix (s15.1 + (2 : Int32)))), vi (xs (ix (s15.1 + (3 : Int32)))), vi (xs (ix (s15.1 + (4 : Int32))))]) (st := [vi v386.1]) (r := (some (vi v389.1))) (Z1 := s15.2.1) (M1 := v389.2) (k1 := (108 + 2 * ix s15.1)) (n1 := (3361 + 700 * ix s15.1)) (st1 := [vi v389.1, vi v386.1]) (q := 1490) hX (fun l => kX12_pass l s15.2.1 v386.2 z14 (xs (ix (s15.1 + (1 : Int32)))) (xs (ix (s15.1 + (2 : Int32)))) (xs (ix (s15.1 + (3 : Int32)))) (xs (ix (s15.1 + (4 : Int32)))) v389 h390) hc388 ivX12_pass ccX12_pass (Or.inl lkL_168) rfl rfl rfl ⟨Nat.le_of_ble_eq_true rfl, Nat.le_of_ble_eq_true rfl, rfl, rfl, law_k hI 108 0 (Nat.le_of_ble_eq_true rfl), law_n hI 3361 0 (Nat.le_of_ble_eq_true rfl)⟩ (Nat.le_of_ble_eq_true rfl) dL_law_1487 rfl ?_
                                                                            refine r_icmp_eq (tgt := 1753) (q := 1493) hX dL_law_1490 (by decide) rfl (fun hb391 => ?_) (fun hb391 => ?_)
                                                                            · refine r_iinc (x := s15.1) (v := (s15.1 + (7 : Int32))) (q := 1756) 3 3 [1, 2, 3, 0] (L1 := [(0, vr 1), (1, vr z7), (2, vr z14), (3, vi (s15.1 + (7 : Int32)))]) hX dL_law_1753 rfl rfl (Nat.le_of_ble_eq_true rfl) rfl rfl ?_
                                                                              refine r_goto (q := 18) hX dL_law_1756 (by decide) ?_
                                                                              refine r_l0 ?_
                                                                              refine r_wide (k1 := 108 + 2 * ix (s15.1 + (7 : Int32))) (n1 := 3361 + 700 * ix (s15.1 + (7 : Int32))) (law_wk hc19 hL 108 0 (Nat.le_of_ble_eq_true rfl)) (law_wn hc19 hL 3361 0 (Nat.le_of_ble_eq_true rfl)) ?_
                                                                              exact hn16 ((s15.1 + (7 : Int32)), s15.2.1, v389.2) (law_nx hc19 hL)
                                                                            · refine r_iconst (v := (0 : Int32)) (q := 1494) hX dL_law_1493 rfl rfl ?_
                                                                              exact r_none
                                                                          · refine r_ite (fun hb392 => ?_) (fun hb392 => ?_)
                                                                            · refine r_tswI (off := 1462) (q := 1495) hX hb392 dL_law_33 (by decide) (by decide) ?_
                                                                              refine r_aload_n (i := 1) (x := z7) (q := 1496) 1 hX dL_law_1495 rfl rfl rfl ?_
                                                                              refine r_aload_n (i := 0) (x := 1) (q := 1497) 0 hX dL_law_1496 rfl rfl rfl ?_
                                                                              refine r_iload_n (i := 3) (x := s15.1) (q := 1498) 3 hX dL_law_1497 rfl rfl rfl ?_
                                                                              refine r_iconst (v := (1 : Int32)) (q := 1499) hX dL_law_1498 rfl rfl ?_
                                                                              refine r_iadd (q := 1500) hX dL_law_1499 rfl ?_
                                                                              refine r_ck (fun hc393 => ?_)
                                                                              refine r_sld (i := (s15.1 + (1 : Int32))) (q := 1501) hX hSc hc393 dL_law_1500 rfl ?_
                                                                              refine r_aload_n (i := 0) (x := 1) (q := 1502) 0 hX dL_law_1501 rfl rfl rfl ?_
                                                                              refine r_iload_n (i := 3) (x := s15.1) (q := 1503) 3 hX dL_law_1502 rfl rfl rfl ?_
                                                                              refine r_iconst (v := (2 : Int32)) (q := 1504) hX dL_law_1503 rfl rfl ?_
                                                                              refine r_iadd (q := 1505) hX dL_law_1504 rfl ?_
                                                                              refine r_ck (fun hc394 => ?_)
                                                                              refine r_sld (i := (s15.1 + (2 : Int32))) (q := 1506) hX hSc hc394 dL_law_1505 rfl ?_
                                                                              refine r_ck (fun hc395 => ?_)
                                                                              refine r_bind (fun v396 h397 => ?_)
                                                                              refine r_cv (a := z7) (As := [vi (xs (ix (s15.1 + (1 : Int32)))), vi (xs (ix (s15.1 + (2 : Int32))))]) (st := []) (r := (some (vi v396))) (Z1 := s15.2.1) (M1 := s15.2.2) (k1 := (108 + 2 * ix s15.1)) (n1 := (3361 + 700 * ix s15.1)) (st1 := [vi v396]) (q := 1509) hX (fun l => kX11_had l s15.2.1 s15.2.2 z7 (xs (ix (s15.1 + (1 : Int32)))) (xs (ix (s15.1 + (2 : Int32)))) v396 h397) hc395 ivX11_had ccX11_had (Or.inl lkL_169) rfl rfl rfl ⟨Nat.le_of_ble_eq_true rfl, Nat.le_of_ble_eq_true rfl, rfl, rfl, law_k hI 108 0 (Nat.le_of_ble_eq_true rfl), law_n hI 3361 0 (Nat.le_of_ble_eq_true rfl)⟩ (Nat.le_of_ble_eq_true rfl) dL_law_1506 rfl ?_
                                                                              refine r_aload_n (i := 2) (x := z14) (q := 1510) 2 hX dL_law_1509 rfl rfl rfl ?_
                                                                              refine r_aload_n (i := 0) (x := 1) (q := 1511) 0 hX dL_law_1510 rfl rfl rfl ?_
                                                                              refine r_iload_n (i := 3) (x := s15.1) (q := 1512) 3 hX dL_law_1511 rfl rfl rfl ?_
                                                                              refine r_iconst (v := (1 : Int32)) (q := 1513) hX dL_law_1512 rfl rfl ?_
                                                                              refine r_iadd (q := 1514) hX dL_law_1513 rfl ?_
                                                                              refine r_sld (i := (s15.1 + (1 : Int32))) (q := 1515) hX hSc hc393 dL_law_1514 rfl ?_
                                                                              refine r_aload_n (i := 0) (x := 1) (q := 1516) 0 hX dL_law_1515 rfl rfl rfl ?_
                                                                              refine r_iload_n (i := 3) (x := s15.1) (q := 1517) 3 hX dL_law_1516 rfl rfl rfl ?_
                                                                              refine r_iconst (v := (2 : Int32)) (q := 1518) hX dL_law_1517 rfl rfl ?_
                                                                              refine r_iadd (q := 1519) hX dL_law_1518 rfl ?_
                                                                              refine r_sld (i := (s15.1 + (2 : Int32))) (q := 1520) hX hSc hc394 dL_law_1519 rfl ?_
                                                                              refine r_ck (fun hc398 => ?_)
                                                                              refine r_bind (fun v399 h400 => ?_)
                                                                              refine r_cv (a := z14) (As := [vi (xs (ix (s15.1 + (1 : Int32)))), vi (xs (ix (s15.1 + (2 : Int32))))]) (st := [vi v396]) (r := (some (vi v399))) (Z1 := s15.2.1) (M1 := s15.2.2) (k1 := (108 + 2 * ix s15.1)) (n1 := (3361 + 700 * ix s15.1)) (st1 := [vi v399, vi v396]) (q := 1523) hX (fun l => kX12_had l s15.2.1 s15.2.2 z14 (xs (ix (s15.1 + (1 : Int32)))) (xs (ix (s15.1 + (2 : Int32)))) v399 h400) hc398 ivX12_had ccX12_had (Or.inl lkL_172) rfl rfl rfl ⟨Nat.le_of_ble_eq_true rfl, Nat.le_of_ble_eq_true rfl, rfl, rfl, law_k hI 108 0 (Nat.le_of_ble_eq_true rfl), law_n hI 3361 0 (Nat.le_of_ble_eq_true rfl)⟩ (Nat.le_of_ble_eq_true rfl) dL_law_1520 rfl ?_
                                                                              refine r_icmp_eq (tgt := 1753) (q := 1526) hX dL_law_1523 (by decide) rfl (fun hb401 => ?_) (fun hb401 => ?_)
                                                                              · refine r_iinc (x := s15.1) (v := (s15.1 + (7 : Int32))) (q := 1756) 3 3 [1, 2, 3, 0] (L1 := [(0, vr 1), (1, vr z7), (2, vr z14), (3, vi (s15.1 + (7 : Int32)))]) hX dL_law_1753 rfl rfl (Nat.le_of_ble_eq_true rfl) rfl rfl ?_
                                                                                refine r_goto (q := 18) hX dL_law_1756 (by decide) ?_
                                                                                refine r_l0 ?_
                                                                                refine r_wide (k1 := 108 + 2 * ix (s15.1 + (7 : Int32))) (n1 := 3361 + 700 * ix (s15.1 + (7 : Int32))) (law_wk hc19 hL 108 0 (Nat.le_of_ble_eq_true rfl)) (law_wn hc19 hL 3361 0 (Nat.le_of_ble_eq_true rfl)) ?_
                                                                                exact hn16 ((s15.1 + (7 : Int32)), s15.2.1, s15.2.2) (law_nx hc19 hL)
                                                                              · refine r_iconst (v := (0 : Int32)) (q := 1527) hX dL_law_1526 rfl rfl ?_
                                                                                exact r_none
                                                                            · refine r_ite (fun hb402 => ?_) (fun hb402 => ?_)
                                                                              · refine r_tswI (off := 1495) (q := 1528) hX hb402 dL_law_33 (by decide) (by decide) ?_
                                                                                refine r_aload_n (i := 1) (x := z7) (q := 1529) 1 hX dL_law_1528 rfl rfl rfl ?_
                                                                                refine r_aload_n (i := 0) (x := 1) (q := 1530) 0 hX dL_law_1529 rfl rfl rfl ?_
                                                                                refine r_iload_n (i := 3) (x := s15.1) (q := 1531) 3 hX dL_law_1530 rfl rfl rfl ?_
                                                                                refine r_iconst (v := (1 : Int32)) (q := 1532) hX dL_law_1531 rfl rfl ?_
                                                                                refine r_iadd (q := 1533) hX dL_law_1532 rfl ?_
                                                                                refine r_ck (fun hc403 => ?_)
                                                                                refine r_sld (i := (s15.1 + (1 : Int32))) (q := 1534) hX hSc hc403 dL_law_1533 rfl ?_
                                                                                refine r_aload_n (i := 0) (x := 1) (q := 1535) 0 hX dL_law_1534 rfl rfl rfl ?_
                                                                                refine r_iload_n (i := 3) (x := s15.1) (q := 1536) 3 hX dL_law_1535 rfl rfl rfl ?_
                                                                                refine r_iconst (v := (2 : Int32)) (q := 1537) hX dL_law_1536 rfl rfl ?_
                                                                                refine r_iadd (q := 1538) hX dL_law_1537 rfl ?_
                                                                                refine r_ck (fun hc404 => ?_)
                                                                                refine r_sld (i := (s15.1 + (2 : Int32))) (q := 1539) hX hSc hc404 dL_law_1538 rfl ?_
                                                                                refine r_aload_n (i := 0) (x := 1) (q := 1540) 0 hX dL_law_1539 rfl rfl rfl ?_
                                                                                refine r_iload_n (i := 3) (x := s15.1) (q := 1541) 3 hX dL_law_1540 rfl rfl rfl ?_
                                                                                refine r_iconst (v := (3 : Int32)) (q := 1542) hX dL_law_1541 rfl rfl ?_
                                                                                refine r_iadd (q := 1543) hX dL_law_1542 rfl ?_
                                                                                refine r_ck (fun hc405 => ?_)
                                                                                refine r_sld (i := (s15.1 + (3 : Int32))) (q := 1544) hX hSc hc405 dL_law_1543 rfl ?_
                                                                                refine r_ck (fun hc406 => ?_)
                                                                                refine r_bind (fun v407 h408 => ?_)
                                                                                refine r_cv (a := z7) (As := [vi (xs (ix (s15.1 + (1 : Int32)))), vi (xs (ix (s15.1 + (2 : Int32)))), vi (xs (ix (s15.1 + (3 : Int32))))]) (st := []) (r := (some (vi v407))) (Z1 := s15.2.1) (M1 := s15.2.2) (k1 := (108 + 2 * ix s15.1)) (n1 := (3361 + 700 * ix s15.1)) (st1 := [vi v407]) (q := 1547) hX (fun l => kX11_dividend l s15.2.1 s15.2.2 z7 (xs (ix (s15.1 + (1 : Int32)))) (xs (ix (s15.1 + (2 : Int32)))) (xs (ix (s15.1 + (3 : Int32)))) v407 h408) hc406 ivX11_dividend ccX11_dividend (Or.inl lkL_173) rfl rfl rfl ⟨Nat.le_of_ble_eq_true rfl, Nat.le_of_ble_eq_true rfl, rfl, rfl, law_k hI 108 0 (Nat.le_of_ble_eq_true rfl), law_n hI 3361 0 (Nat.le_of_ble_eq_true rfl)⟩ (Nat.le_of_ble_eq_true rfl) dL_law_1544 rfl ?_
                                                                                refine r_aload_n (i := 2) (x := z14) (q := 1548) 2 hX dL_law_1547 rfl rfl rfl ?_
                                                                                refine r_aload_n (i := 0) (x := 1) (q := 1549) 0 hX dL_law_1548 rfl rfl rfl ?_
                                                                                refine r_iload_n (i := 3) (x := s15.1) (q := 1550) 3 hX dL_law_1549 rfl rfl rfl ?_
                                                                                refine r_iconst (v := (1 : Int32)) (q := 1551) hX dL_law_1550 rfl rfl ?_
                                                                                refine r_iadd (q := 1552) hX dL_law_1551 rfl ?_
                                                                                refine r_sld (i := (s15.1 + (1 : Int32))) (q := 1553) hX hSc hc403 dL_law_1552 rfl ?_
                                                                                refine r_aload_n (i := 0) (x := 1) (q := 1554) 0 hX dL_law_1553 rfl rfl rfl ?_
                                                                                refine r_iload_n (i := 3) (x := s15.1) (q := 1555) 3 hX dL_law_1554 rfl rfl rfl ?_
                                                                                refine r_iconst (v := (2 : Int32)) (q := 1556) hX dL_law_1555 rfl rfl ?_
                                                                                refine r_iadd (q := 1557) hX dL_law_1556 rfl ?_
                                                                                refine r_sld (i := (s15.1 + (2 : Int32))) (q := 1558) hX hSc hc404 dL_law_1557 rfl ?_
                                                                                refine r_aload_n (i := 0) (x := 1) (q := 1559) 0 hX dL_law_1558 rfl rfl rfl ?_
                                                                                refine r_iload_n (i := 3) (x := s15.1) (q := 1560) 3 hX dL_law_1559 rfl rfl rfl ?_
                                                                                refine r_iconst (v := (3 : Int32)) (q := 1561) hX dL_law_1560 rfl rfl ?_
                                                                                refine r_iadd (q := 1562) hX dL_law_1561 rfl ?_
                                                                                refine r_sld (i := (s15.1 + (3 : Int32))) (q := 1563) hX hSc hc405 dL_law_1562 rfl ?_
                                                                                refine r_ck (fun hc409 => ?_)
                                                                                refine r_bind (fun v410 h411 => ?_)
                                                                                refine r_cv (a := z14) (As := [vi (xs (ix (s15.1 + (1 : Int32)))), vi (xs (ix (s15.1 + (2 : Int32)))), vi (xs (ix (s15.1 + (3 : Int32))))]) (st := [vi v407]) (r := (some (vi v410))) (Z1 := s15.2.1) (M1 := s15.2.2) (k1 := (108 + 2 * ix s15.1)) (n1 := (3361 + 700 * ix s15.1)) (st1 := [vi v410, vi v407]) (q := 1566) hX (fun l => kX12_dividend l s15.2.1 s15.2.2 z14 (xs (ix (s15.1 + (1 : Int32)))) (xs (ix (s15.1 + (2 : Int32)))) (xs (ix (s15.1 + (3 : Int32)))) v410 h411) hc409 ivX12_dividend ccX12_dividend (Or.inl lkL_176) rfl rfl rfl ⟨Nat.le_of_ble_eq_true rfl, Nat.le_of_ble_eq_true rfl, rfl, rfl, law_k hI 108 0 (Nat.le_of_ble_eq_true rfl), law_n hI 3361 0 (Nat.le_of_ble_eq_true rfl)⟩ (Nat.le_of_ble_eq_true rfl) dL_law_1563 rfl ?_
                                                                                refine r_icmp_eq (tgt := 1753) (q := 1569) hX dL_law_1566 (by decide) rfl (fun hb412 => ?_) (fun hb412 => ?_)
                                                                                · refine r_iinc (x := s15.1) (v := (s15.1 + (7 : Int32))) (q := 1756) 3 3 [1, 2, 3, 0] (L1 := [(0, vr 1), (1, vr z7), (2, vr z14), (3, vi (s15.1 + (7 : Int32)))]) hX dL_law_1753 rfl rfl (Nat.le_of_ble_eq_true rfl) rfl rfl ?_
                                                                                  refine r_goto (q := 18) hX dL_law_1756 (by decide) ?_
                                                                                  refine r_l0 ?_
                                                                                  refine r_wide (k1 := 108 + 2 * ix (s15.1 + (7 : Int32))) (n1 := 3361 + 700 * ix (s15.1 + (7 : Int32))) (law_wk hc19 hL 108 0 (Nat.le_of_ble_eq_true rfl)) (law_wn hc19 hL 3361 0 (Nat.le_of_ble_eq_true rfl)) ?_
                                                                                  exact hn16 ((s15.1 + (7 : Int32)), s15.2.1, s15.2.2) (law_nx hc19 hL)
                                                                                · refine r_iconst (v := (0 : Int32)) (q := 1570) hX dL_law_1569 rfl rfl ?_
                                                                                  exact r_none
                                                                              · refine r_ite (fun hb413 => ?_) (fun hb413 => ?_)
                                                                                · refine r_tswI (off := 1538) (q := 1571) hX hb413 dL_law_33 (by decide) (by decide) ?_
                                                                                  refine r_aload_n (i := 1) (x := z7) (q := 1572) 1 hX dL_law_1571 rfl rfl rfl ?_
                                                                                  refine r_aload_n (i := 0) (x := 1) (q := 1573) 0 hX dL_law_1572 rfl rfl rfl ?_
                                                                                  refine r_iload_n (i := 3) (x := s15.1) (q := 1574) 3 hX dL_law_1573 rfl rfl rfl ?_
                                                                                  refine r_iconst (v := (1 : Int32)) (q := 1575) hX dL_law_1574 rfl rfl ?_
                                                                                  refine r_iadd (q := 1576) hX dL_law_1575 rfl ?_
                                                                                  refine r_ck (fun hc414 => ?_)
                                                                                  refine r_sld (i := (s15.1 + (1 : Int32))) (q := 1577) hX hSc hc414 dL_law_1576 rfl ?_
                                                                                  refine r_ck (fun hc415 => ?_)
                                                                                  refine r_bind (fun v416 h417 => ?_)
                                                                                  refine r_cv (a := z7) (As := [vi (xs (ix (s15.1 + (1 : Int32))))]) (st := []) (r := (some (vi v416.1))) (Z1 := s15.2.1) (M1 := v416.2) (k1 := (108 + 2 * ix s15.1)) (n1 := (3361 + 700 * ix s15.1)) (st1 := [vi v416.1]) (q := 1580) hX (fun l => kX11_rate l s15.2.1 s15.2.2 z7 (xs (ix (s15.1 + (1 : Int32)))) v416 h417) hc415 ivX11_rate ccX11_rate (Or.inl lkL_177) rfl rfl rfl ⟨Nat.le_of_ble_eq_true rfl, Nat.le_of_ble_eq_true rfl, rfl, rfl, law_k hI 108 0 (Nat.le_of_ble_eq_true rfl), law_n hI 3361 0 (Nat.le_of_ble_eq_true rfl)⟩ (Nat.le_of_ble_eq_true rfl) dL_law_1577 rfl ?_
                                                                                  refine r_aload_n (i := 2) (x := z14) (q := 1581) 2 hX dL_law_1580 rfl rfl rfl ?_
                                                                                  refine r_aload_n (i := 0) (x := 1) (q := 1582) 0 hX dL_law_1581 rfl rfl rfl ?_
                                                                                  refine r_iload_n (i := 3) (x := s15.1) (q := 1583) 3 hX dL_law_1582 rfl rfl rfl ?_
                                                                                  refine r_iconst (v := (1 : Int32)) (q := 1584) hX dL_law_1583 rfl rfl ?_
                                                                                  refine r_iadd (q := 1585) hX dL_law_1584 rfl ?_
                                                                                  refine r_sld (i := (s15.1 + (1 : Int32))) (q := 1586) hX hSc hc414 dL_law_1585 rfl ?_
                                                                                  refine r_ck (fun hc418 => ?_)
                                                                                  refine r_bind (fun v419 h420 => ?_)
                                                                                  refine r_cv (a := z14) (As := [vi (xs (ix (s15.1 + (1 : Int32))))]) (st := [vi v416.1]) (r := (some (vi v419.1))) (Z1 := s15.2.1) (M1 := v419.2) (k1 := (108 + 2 * ix s15.1)) (n1 := (3361 + 700 * ix s15.1)) (st1 := [vi v419.1, vi v416.1]) (q := 1589) hX (fun l => kX12_rate l s15.2.1 v416.2 z14 (xs (ix (s15.1 + (1 : Int32)))) v419 h420) hc418 ivX12_rate ccX12_rate (Or.inl lkL_180) rfl rfl rfl ⟨Nat.le_of_ble_eq_true rfl, Nat.le_of_ble_eq_true rfl, rfl, rfl, law_k hI 108 0 (Nat.le_of_ble_eq_true rfl), law_n hI 3361 0 (Nat.le_of_ble_eq_true rfl)⟩ (Nat.le_of_ble_eq_true rfl) dL_law_1586 rfl ?_
                                                                                  refine r_icmp_eq (tgt := 1753) (q := 1592) hX dL_law_1589 (by decide) rfl (fun hb421 => ?_) (fun hb421 => ?_)
                                                                                  · refine r_iinc (x := s15.1) (v := (s15.1 + (7 : Int32))) (q := 1756) 3 3 [1, 2, 3, 0] (L1 := [(0, vr 1), (1, vr z7), (2, vr z14), (3, vi (s15.1 + (7 : Int32)))]) hX dL_law_1753 rfl rfl (Nat.le_of_ble_eq_true rfl) rfl rfl ?_
                                                                                    refine r_goto (q := 18) hX dL_law_1756 (by decide) ?_
                                                                                    refine r_l0 ?_
                                                                                    refine r_wide (k1 := 108 + 2 * ix (s15.1 + (7 : Int32))) (n1 := 3361 + 700 * ix (s15.1 + (7 : Int32))) (law_wk hc19 hL 108 0 (Nat.le_of_ble_eq_true rfl)) (law_wn hc19 hL 3361 0 (Nat.le_of_ble_eq_true rfl)) ?_
                                                                                    exact hn16 ((s15.1 + (7 : Int32)), s15.2.1, v419.2) (law_nx hc19 hL)
                                                                                  · refine r_iconst (v := (0 : Int32)) (q := 1593) hX dL_law_1592 rfl rfl ?_
                                                                                    exact r_none
                                                                                · refine r_ite (fun hb422 => ?_) (fun hb422 => ?_)
                                                                                  · refine r_tswI (off := 1561) (q := 1594) hX hb422 dL_law_33 (by decide) (by decide) ?_
                                                                                    refine r_aload_n (i := 1) (x := z7) (q := 1595) 1 hX dL_law_1594 rfl rfl rfl ?_
                                                                                    refine r_aload_n (i := 0) (x := 1) (q := 1596) 0 hX dL_law_1595 rfl rfl rfl ?_
                                                                                    refine r_iload_n (i := 3) (x := s15.1) (q := 1597) 3 hX dL_law_1596 rfl rfl rfl ?_
                                                                                    refine r_iconst (v := (1 : Int32)) (q := 1598) hX dL_law_1597 rfl rfl ?_
                                                                                    refine r_iadd (q := 1599) hX dL_law_1598 rfl ?_
                                                                                    refine r_ck (fun hc423 => ?_)
                                                                                    refine r_sld (i := (s15.1 + (1 : Int32))) (q := 1600) hX hSc hc423 dL_law_1599 rfl ?_
                                                                                    refine r_ck (fun hc424 => ?_)
                                                                                    refine r_bind (fun v425 h426 => ?_)
                                                                                    refine r_cv (a := z7) (As := [vi (xs (ix (s15.1 + (1 : Int32))))]) (st := []) (r := (some (vi v425))) (Z1 := s15.2.1) (M1 := s15.2.2) (k1 := (108 + 2 * ix s15.1)) (n1 := (3361 + 700 * ix s15.1)) (st1 := [vi v425]) (q := 1603) hX (fun l => kX11_over l s15.2.1 s15.2.2 z7 (xs (ix (s15.1 + (1 : Int32)))) v425 h426) hc424 ivX11_over ccX11_over (Or.inl lkL_181) rfl rfl rfl ⟨Nat.le_of_ble_eq_true rfl, Nat.le_of_ble_eq_true rfl, rfl, rfl, law_k hI 108 0 (Nat.le_of_ble_eq_true rfl), law_n hI 3361 0 (Nat.le_of_ble_eq_true rfl)⟩ (Nat.le_of_ble_eq_true rfl) dL_law_1600 rfl ?_
                                                                                    refine r_aload_n (i := 2) (x := z14) (q := 1604) 2 hX dL_law_1603 rfl rfl rfl ?_
                                                                                    refine r_aload_n (i := 0) (x := 1) (q := 1605) 0 hX dL_law_1604 rfl rfl rfl ?_
                                                                                    refine r_iload_n (i := 3) (x := s15.1) (q := 1606) 3 hX dL_law_1605 rfl rfl rfl ?_
                                                                                    refine r_iconst (v := (1 : Int32)) (q := 1607) hX dL_law_1606 rfl rfl ?_
                                                                                    refine r_iadd (q := 1608) hX dL_law_1607 rfl ?_
                                                                                    refine r_sld (i := (s15.1 + (1 : Int32))) (q := 1609) hX hSc hc423 dL_law_1608 rfl ?_
                                                                                    refine r_ck (fun hc427 => ?_)
                                                                                    refine r_bind (fun v428 h429 => ?_)
                                                                                    refine r_cv (a := z14) (As := [vi (xs (ix (s15.1 + (1 : Int32))))]) (st := [vi v425]) (r := (some (vi v428))) (Z1 := s15.2.1) (M1 := s15.2.2) (k1 := (108 + 2 * ix s15.1)) (n1 := (3361 + 700 * ix s15.1)) (st1 := [vi v428, vi v425]) (q := 1612) hX (fun l => kX12_over l s15.2.1 s15.2.2 z14 (xs (ix (s15.1 + (1 : Int32)))) v428 h429) hc427 ivX12_over ccX12_over (Or.inl lkL_184) rfl rfl rfl ⟨Nat.le_of_ble_eq_true rfl, Nat.le_of_ble_eq_true rfl, rfl, rfl, law_k hI 108 0 (Nat.le_of_ble_eq_true rfl), law_n hI 3361 0 (Nat.le_of_ble_eq_true rfl)⟩ (Nat.le_of_ble_eq_true rfl) dL_law_1609 rfl ?_
                                                                                    refine r_icmp_eq (tgt := 1753) (q := 1615) hX dL_law_1612 (by decide) rfl (fun hb430 => ?_) (fun hb430 => ?_)
                                                                                    · refine r_iinc (x := s15.1) (v := (s15.1 + (7 : Int32))) (q := 1756) 3 3 [1, 2, 3, 0] (L1 := [(0, vr 1), (1, vr z7), (2, vr z14), (3, vi (s15.1 + (7 : Int32)))]) hX dL_law_1753 rfl rfl (Nat.le_of_ble_eq_true rfl) rfl rfl ?_
                                                                                      refine r_goto (q := 18) hX dL_law_1756 (by decide) ?_
                                                                                      refine r_l0 ?_
                                                                                      refine r_wide (k1 := 108 + 2 * ix (s15.1 + (7 : Int32))) (n1 := 3361 + 700 * ix (s15.1 + (7 : Int32))) (law_wk hc19 hL 108 0 (Nat.le_of_ble_eq_true rfl)) (law_wn hc19 hL 3361 0 (Nat.le_of_ble_eq_true rfl)) ?_
                                                                                      exact hn16 ((s15.1 + (7 : Int32)), s15.2.1, s15.2.2) (law_nx hc19 hL)
                                                                                    · refine r_iconst (v := (0 : Int32)) (q := 1616) hX dL_law_1615 rfl rfl ?_
                                                                                      exact r_none
                                                                                  · refine r_ite (fun hb431 => ?_) (fun hb431 => ?_)
                                                                                    · refine r_tswI (off := 1584) (q := 1617) hX hb431 dL_law_33 (by decide) (by decide) ?_
                                                                                      refine r_aload_n (i := 1) (x := z7) (q := 1618) 1 hX dL_law_1617 rfl rfl rfl ?_
                                                                                      refine r_aload_n (i := 0) (x := 1) (q := 1619) 0 hX dL_law_1618 rfl rfl rfl ?_
                                                                                      refine r_iload_n (i := 3) (x := s15.1) (q := 1620) 3 hX dL_law_1619 rfl rfl rfl ?_
                                                                                      refine r_iconst (v := (1 : Int32)) (q := 1621) hX dL_law_1620 rfl rfl ?_
                                                                                      refine r_iadd (q := 1622) hX dL_law_1621 rfl ?_
                                                                                      refine r_ck (fun hc432 => ?_)
                                                                                      refine r_sld (i := (s15.1 + (1 : Int32))) (q := 1623) hX hSc hc432 dL_law_1622 rfl ?_
                                                                                      refine r_ck (fun hc433 => ?_)
                                                                                      refine r_bind (fun v434 h435 => ?_)
                                                                                      refine r_cv (a := z7) (As := [vi (xs (ix (s15.1 + (1 : Int32))))]) (st := []) (r := (some (vi v434))) (Z1 := s15.2.1) (M1 := s15.2.2) (k1 := (108 + 2 * ix s15.1)) (n1 := (3361 + 700 * ix s15.1)) (st1 := [vi v434]) (q := 1626) hX (fun l => kX11_bestPence l s15.2.1 s15.2.2 z7 (xs (ix (s15.1 + (1 : Int32)))) v434 h435) hc433 ivX11_bestPence ccX11_bestPence (Or.inl lkL_185) rfl rfl rfl ⟨Nat.le_of_ble_eq_true rfl, Nat.le_of_ble_eq_true rfl, rfl, rfl, law_k hI 108 0 (Nat.le_of_ble_eq_true rfl), law_n hI 3361 0 (Nat.le_of_ble_eq_true rfl)⟩ (Nat.le_of_ble_eq_true rfl) dL_law_1623 rfl ?_
                                                                                      refine r_aload_n (i := 2) (x := z14) (q := 1627) 2 hX dL_law_1626 rfl rfl rfl ?_
                                                                                      refine r_aload_n (i := 0) (x := 1) (q := 1628) 0 hX dL_law_1627 rfl rfl rfl ?_
                                                                                      refine r_iload_n (i := 3) (x := s15.1) (q := 1629) 3 hX dL_law_1628 rfl rfl rfl ?_
                                                                                      refine r_iconst (v := (1 : Int32)) (q := 1630) hX dL_law_1629 rfl rfl ?_
                                                                                      refine r_iadd (q := 1631) hX dL_law_1630 rfl ?_
                                                                                      refine r_sld (i := (s15.1 + (1 : Int32))) (q := 1632) hX hSc hc432 dL_law_1631 rfl ?_
                                                                                      refine r_ck (fun hc436 => ?_)
                                                                                      refine r_bind (fun v437 h438 => ?_)
                                                                                      refine r_cv (a := z14) (As := [vi (xs (ix (s15.1 + (1 : Int32))))]) (st := [vi v434]) (r := (some (vi v437))) (Z1 := s15.2.1) (M1 := s15.2.2) (k1 := (108 + 2 * ix s15.1)) (n1 := (3361 + 700 * ix s15.1)) (st1 := [vi v437, vi v434]) (q := 1635) hX (fun l => kX12_bestPence l s15.2.1 s15.2.2 z14 (xs (ix (s15.1 + (1 : Int32)))) v437 h438) hc436 ivX12_bestPence ccX12_bestPence (Or.inl lkL_188) rfl rfl rfl ⟨Nat.le_of_ble_eq_true rfl, Nat.le_of_ble_eq_true rfl, rfl, rfl, law_k hI 108 0 (Nat.le_of_ble_eq_true rfl), law_n hI 3361 0 (Nat.le_of_ble_eq_true rfl)⟩ (Nat.le_of_ble_eq_true rfl) dL_law_1632 rfl ?_
                                                                                      refine r_icmp_eq (tgt := 1753) (q := 1638) hX dL_law_1635 (by decide) rfl (fun hb439 => ?_) (fun hb439 => ?_)
                                                                                      · refine r_iinc (x := s15.1) (v := (s15.1 + (7 : Int32))) (q := 1756) 3 3 [1, 2, 3, 0] (L1 := [(0, vr 1), (1, vr z7), (2, vr z14), (3, vi (s15.1 + (7 : Int32)))]) hX dL_law_1753 rfl rfl (Nat.le_of_ble_eq_true rfl) rfl rfl ?_
                                                                                        refine r_goto (q := 18) hX dL_law_1756 (by decide) ?_
                                                                                        refine r_l0 ?_
                                                                                        refine r_wide (k1 := 108 + 2 * ix (s15.1 + (7 : Int32))) (n1 := 3361 + 700 * ix (s15.1 + (7 : Int32))) (law_wk hc19 hL 108 0 (Nat.le_of_ble_eq_true rfl)) (law_wn hc19 hL 3361 0 (Nat.le_of_ble_eq_true rfl)) ?_
                                                                                        exact hn16 ((s15.1 + (7 : Int32)), s15.2.1, s15.2.2) (law_nx hc19 hL)
                                                                                      · refine r_iconst (v := (0 : Int32)) (q := 1639) hX dL_law_1638 rfl rfl ?_
                                                                                        exact r_none
                                                                                    · refine r_ite (fun hb440 => ?_) (fun hb440 => ?_)
                                                                                      · refine r_tswI (off := 1607) (q := 1640) hX hb440 dL_law_33 (by decide) (by decide) ?_
                                                                                        refine r_aload_n (i := 1) (x := z7) (q := 1641) 1 hX dL_law_1640 rfl rfl rfl ?_
                                                                                        refine r_aload_n (i := 0) (x := 1) (q := 1642) 0 hX dL_law_1641 rfl rfl rfl ?_
                                                                                        refine r_iload_n (i := 3) (x := s15.1) (q := 1643) 3 hX dL_law_1642 rfl rfl rfl ?_
                                                                                        refine r_iconst (v := (1 : Int32)) (q := 1644) hX dL_law_1643 rfl rfl ?_
                                                                                        refine r_iadd (q := 1645) hX dL_law_1644 rfl ?_
                                                                                        refine r_ck (fun hc441 => ?_)
                                                                                        refine r_sld (i := (s15.1 + (1 : Int32))) (q := 1646) hX hSc hc441 dL_law_1645 rfl ?_
                                                                                        refine r_aload_n (i := 0) (x := 1) (q := 1647) 0 hX dL_law_1646 rfl rfl rfl ?_
                                                                                        refine r_iload_n (i := 3) (x := s15.1) (q := 1648) 3 hX dL_law_1647 rfl rfl rfl ?_
                                                                                        refine r_iconst (v := (2 : Int32)) (q := 1649) hX dL_law_1648 rfl rfl ?_
                                                                                        refine r_iadd (q := 1650) hX dL_law_1649 rfl ?_
                                                                                        refine r_ck (fun hc442 => ?_)
                                                                                        refine r_sld (i := (s15.1 + (2 : Int32))) (q := 1651) hX hSc hc442 dL_law_1650 rfl ?_
                                                                                        refine r_aload_n (i := 0) (x := 1) (q := 1652) 0 hX dL_law_1651 rfl rfl rfl ?_
                                                                                        refine r_iload_n (i := 3) (x := s15.1) (q := 1653) 3 hX dL_law_1652 rfl rfl rfl ?_
                                                                                        refine r_iconst (v := (3 : Int32)) (q := 1654) hX dL_law_1653 rfl rfl ?_
                                                                                        refine r_iadd (q := 1655) hX dL_law_1654 rfl ?_
                                                                                        refine r_ck (fun hc443 => ?_)
                                                                                        refine r_sld (i := (s15.1 + (3 : Int32))) (q := 1656) hX hSc hc443 dL_law_1655 rfl ?_
                                                                                        refine r_ck (fun hc444 => ?_)
                                                                                        refine r_bind (fun v445 h446 => ?_)
                                                                                        refine r_cv (a := z7) (As := [vi (xs (ix (s15.1 + (1 : Int32)))), vi (xs (ix (s15.1 + (2 : Int32)))), vi (xs (ix (s15.1 + (3 : Int32))))]) (st := []) (r := (some (vi v445.1))) (Z1 := s15.2.1) (M1 := v445.2) (k1 := (108 + 2 * ix s15.1)) (n1 := (3361 + 700 * ix s15.1)) (st1 := [vi v445.1]) (q := 1659) hX (fun l => kX11_work l s15.2.1 s15.2.2 z7 (xs (ix (s15.1 + (1 : Int32)))) (xs (ix (s15.1 + (2 : Int32)))) (xs (ix (s15.1 + (3 : Int32)))) v445 h446) hc444 ivX11_work ccX11_work (Or.inl lkL_189) rfl rfl rfl ⟨Nat.le_of_ble_eq_true rfl, Nat.le_of_ble_eq_true rfl, rfl, rfl, law_k hI 108 0 (Nat.le_of_ble_eq_true rfl), law_n hI 3361 0 (Nat.le_of_ble_eq_true rfl)⟩ (Nat.le_of_ble_eq_true rfl) dL_law_1656 rfl ?_
                                                                                        refine r_aload_n (i := 2) (x := z14) (q := 1660) 2 hX dL_law_1659 rfl rfl rfl ?_
                                                                                        refine r_aload_n (i := 0) (x := 1) (q := 1661) 0 hX dL_law_1660 rfl rfl rfl ?_
                                                                                        refine r_iload_n (i := 3) (x := s15.1) (q := 1662) 3 hX dL_law_1661 rfl rfl rfl ?_
                                                                                        refine r_iconst (v := (1 : Int32)) (q := 1663) hX dL_law_1662 rfl rfl ?_
                                                                                        refine r_iadd (q := 1664) hX dL_law_1663 rfl ?_
                                                                                        refine r_sld (i := (s15.1 + (1 : Int32))) (q := 1665) hX hSc hc441 dL_law_1664 rfl ?_
                                                                                        refine r_aload_n (i := 0) (x := 1) (q := 1666) 0 hX dL_law_1665 rfl rfl rfl ?_
                                                                                        refine r_iload_n (i := 3) (x := s15.1) (q := 1667) 3 hX dL_law_1666 rfl rfl rfl ?_
                                                                                        refine r_iconst (v := (2 : Int32)) (q := 1668) hX dL_law_1667 rfl rfl ?_
                                                                                        refine r_iadd (q := 1669) hX dL_law_1668 rfl ?_
                                                                                        refine r_sld (i := (s15.1 + (2 : Int32))) (q := 1670) hX hSc hc442 dL_law_1669 rfl ?_
                                                                                        refine r_aload_n (i := 0) (x := 1) (q := 1671) 0 hX dL_law_1670 rfl rfl rfl ?_
                                                                                        refine r_iload_n (i := 3) (x := s15.1) (q := 1672) 3 hX dL_law_1671 rfl rfl rfl ?_
                                                                                        refine r_iconst (v := (3 : Int32)) (q := 1673) hX dL_law_1672 rfl rfl ?_
                                                                                        refine r_iadd (q := 1674) hX dL_law_1673 rfl ?_
                                                                                        refine r_sld (i := (s15.1 + (3 : Int32))) (q := 1675) hX hSc hc443 dL_law_1674 rfl ?_
                                                                                        refine r_ck (fun hc447 => ?_)
                                                                                        refine r_bind (fun v448 h449 => ?_)
                                                                                        refine r_cv (a := z14) (As := [vi (xs (ix (s15.1 + (1 : Int32)))), vi (xs (ix (s15.1 + (2 : Int32)))), vi (xs (ix (s15.1 + (3 : Int32))))]) (st := [vi v445.1]) (r := (some (vi v448.1))) (Z1 := s15.2.1) (M1 := v448.2) (k1 := (108 + 2 * ix s15.1)) (n1 := (3361 + 700 * ix s15.1)) (st1 := [vi v448.1, vi v445.1]) (q := 1678) hX (fun l => kX12_work l s15.2.1 v445.2 z14 (xs (ix (s15.1 + (1 : Int32)))) (xs (ix (s15.1 + (2 : Int32)))) (xs (ix (s15.1 + (3 : Int32)))) v448 h449) hc447 ivX12_work ccX12_work (Or.inl lkL_192) rfl rfl rfl ⟨Nat.le_of_ble_eq_true rfl, Nat.le_of_ble_eq_true rfl, rfl, rfl, law_k hI 108 0 (Nat.le_of_ble_eq_true rfl), law_n hI 3361 0 (Nat.le_of_ble_eq_true rfl)⟩ (Nat.le_of_ble_eq_true rfl) dL_law_1675 rfl ?_
                                                                                        refine r_icmp_eq (tgt := 1753) (q := 1681) hX dL_law_1678 (by decide) rfl (fun hb450 => ?_) (fun hb450 => ?_)
                                                                                        · refine r_iinc (x := s15.1) (v := (s15.1 + (7 : Int32))) (q := 1756) 3 3 [1, 2, 3, 0] (L1 := [(0, vr 1), (1, vr z7), (2, vr z14), (3, vi (s15.1 + (7 : Int32)))]) hX dL_law_1753 rfl rfl (Nat.le_of_ble_eq_true rfl) rfl rfl ?_
                                                                                          refine r_goto (q := 18) hX dL_law_1756 (by decide) ?_
                                                                                          refine r_l0 ?_
                                                                                          refine r_wide (k1 := 108 + 2 * ix (s15.1 + (7 : Int32))) (n1 := 3361 + 700 * ix (s15.1 + (7 : Int32))) (law_wk hc19 hL 108 0 (Nat.le_of_ble_eq_true rfl)) (law_wn hc19 hL 3361 0 (Nat.le_of_ble_eq_true rfl)) ?_
                                                                                          exact hn16 ((s15.1 + (7 : Int32)), s15.2.1, v448.2) (law_nx hc19 hL)
                                                                                        · refine r_iconst (v := (0 : Int32)) (q := 1682) hX dL_law_1681 rfl rfl ?_
                                                                                          exact r_none
                                                                                      · refine r_ite (fun hb451 => ?_) (fun hb451 => ?_)
                                                                                        · refine r_tswI (off := 1650) (q := 1683) hX hb451 dL_law_33 (by decide) (by decide) ?_
                                                                                          refine r_aload_n (i := 1) (x := z7) (q := 1684) 1 hX dL_law_1683 rfl rfl rfl ?_
                                                                                          refine r_aload_n (i := 0) (x := 1) (q := 1685) 0 hX dL_law_1684 rfl rfl rfl ?_
                                                                                          refine r_iload_n (i := 3) (x := s15.1) (q := 1686) 3 hX dL_law_1685 rfl rfl rfl ?_
                                                                                          refine r_iconst (v := (1 : Int32)) (q := 1687) hX dL_law_1686 rfl rfl ?_
                                                                                          refine r_iadd (q := 1688) hX dL_law_1687 rfl ?_
                                                                                          refine r_ck (fun hc452 => ?_)
                                                                                          refine r_sld (i := (s15.1 + (1 : Int32))) (q := 1689) hX hSc hc452 dL_law_1688 rfl ?_
                                                                                          refine r_aload_n (i := 0) (x := 1) (q := 1690) 0 hX dL_law_1689 rfl rfl rfl ?_
                                                                                          refine r_iload_n (i := 3) (x := s15.1) (q := 1691) 3 hX dL_law_1690 rfl rfl rfl ?_
                                                                                          refine r_iconst (v := (2 : Int32)) (q := 1692) hX dL_law_1691 rfl rfl ?_
                                                                                          refine r_iadd (q := 1693) hX dL_law_1692 rfl ?_
                                                                                          refine r_ck (fun hc453 => ?_)
                                                                                          refine r_sld (i := (s15.1 + (2 : Int32))) (q := 1694) hX hSc hc453 dL_law_1693 rfl ?_
                                                                                          refine r_ck (fun hc454 => ?_)
                                                                                          refine r_bind (fun v455 h456 => ?_)
                                                                                          refine r_cv (a := z7) (As := [vi (xs (ix (s15.1 + (1 : Int32)))), vi (xs (ix (s15.1 + (2 : Int32))))]) (st := []) (r := (some (vi v455))) (Z1 := s15.2.1) (M1 := s15.2.2) (k1 := (108 + 2 * ix s15.1)) (n1 := (3361 + 700 * ix s15.1)) (st1 := [vi v455]) (q := 1697) hX (fun l => kX11_plan l s15.2.1 s15.2.2 z7 (xs (ix (s15.1 + (1 : Int32)))) (xs (ix (s15.1 + (2 : Int32)))) v455 h456) hc454 ivX11_plan ccX11_plan (Or.inl lkL_193) rfl rfl rfl ⟨Nat.le_of_ble_eq_true rfl, Nat.le_of_ble_eq_true rfl, rfl, rfl, law_k hI 108 0 (Nat.le_of_ble_eq_true rfl), law_n hI 3361 0 (Nat.le_of_ble_eq_true rfl)⟩ (Nat.le_of_ble_eq_true rfl) dL_law_1694 rfl ?_
                                                                                          refine r_aload_n (i := 2) (x := z14) (q := 1698) 2 hX dL_law_1697 rfl rfl rfl ?_
                                                                                          refine r_aload_n (i := 0) (x := 1) (q := 1699) 0 hX dL_law_1698 rfl rfl rfl ?_
                                                                                          refine r_iload_n (i := 3) (x := s15.1) (q := 1700) 3 hX dL_law_1699 rfl rfl rfl ?_
                                                                                          refine r_iconst (v := (1 : Int32)) (q := 1701) hX dL_law_1700 rfl rfl ?_
                                                                                          refine r_iadd (q := 1702) hX dL_law_1701 rfl ?_
                                                                                          refine r_sld (i := (s15.1 + (1 : Int32))) (q := 1703) hX hSc hc452 dL_law_1702 rfl ?_
                                                                                          refine r_aload_n (i := 0) (x := 1) (q := 1704) 0 hX dL_law_1703 rfl rfl rfl ?_
                                                                                          refine r_iload_n (i := 3) (x := s15.1) (q := 1705) 3 hX dL_law_1704 rfl rfl rfl ?_
                                                                                          refine r_iconst (v := (2 : Int32)) (q := 1706) hX dL_law_1705 rfl rfl ?_
                                                                                          refine r_iadd (q := 1707) hX dL_law_1706 rfl ?_
                                                                                          refine r_sld (i := (s15.1 + (2 : Int32))) (q := 1708) hX hSc hc453 dL_law_1707 rfl ?_
                                                                                          refine r_ck (fun hc457 => ?_)
                                                                                          refine r_bind (fun v458 h459 => ?_)
                                                                                          refine r_cv (a := z14) (As := [vi (xs (ix (s15.1 + (1 : Int32)))), vi (xs (ix (s15.1 + (2 : Int32))))]) (st := [vi v455]) (r := (some (vi v458))) (Z1 := s15.2.1) (M1 := s15.2.2) (k1 := (108 + 2 * ix s15.1)) (n1 := (3361 + 700 * ix s15.1)) (st1 := [vi v458, vi v455]) (q := 1711) hX (fun l => kX12_plan l s15.2.1 s15.2.2 z14 (xs (ix (s15.1 + (1 : Int32)))) (xs (ix (s15.1 + (2 : Int32)))) v458 h459) hc457 ivX12_plan ccX12_plan (Or.inl lkL_196) rfl rfl rfl ⟨Nat.le_of_ble_eq_true rfl, Nat.le_of_ble_eq_true rfl, rfl, rfl, law_k hI 108 0 (Nat.le_of_ble_eq_true rfl), law_n hI 3361 0 (Nat.le_of_ble_eq_true rfl)⟩ (Nat.le_of_ble_eq_true rfl) dL_law_1708 rfl ?_
                                                                                          refine r_icmp_eq (tgt := 1753) (q := 1714) hX dL_law_1711 (by decide) rfl (fun hb460 => ?_) (fun hb460 => ?_)
                                                                                          · refine r_iinc (x := s15.1) (v := (s15.1 + (7 : Int32))) (q := 1756) 3 3 [1, 2, 3, 0] (L1 := [(0, vr 1), (1, vr z7), (2, vr z14), (3, vi (s15.1 + (7 : Int32)))]) hX dL_law_1753 rfl rfl (Nat.le_of_ble_eq_true rfl) rfl rfl ?_
                                                                                            refine r_goto (q := 18) hX dL_law_1756 (by decide) ?_
                                                                                            refine r_l0 ?_
                                                                                            refine r_wide (k1 := 108 + 2 * ix (s15.1 + (7 : Int32))) (n1 := 3361 + 700 * ix (s15.1 + (7 : Int32))) (law_wk hc19 hL 108 0 (Nat.le_of_ble_eq_true rfl)) (law_wn hc19 hL 3361 0 (Nat.le_of_ble_eq_true rfl)) ?_
                                                                                            exact hn16 ((s15.1 + (7 : Int32)), s15.2.1, s15.2.2) (law_nx hc19 hL)
                                                                                          · refine r_iconst (v := (0 : Int32)) (q := 1715) hX dL_law_1714 rfl rfl ?_
                                                                                            exact r_none
                                                                                        · refine r_ite (fun hb461 => ?_) (fun hb461 => ?_)
                                                                                          · refine r_tswI (off := 1683) (q := 1716) hX hb461 dL_law_33 (by decide) (by decide) ?_
                                                                                            refine r_aload_n (i := 1) (x := z7) (q := 1717) 1 hX dL_law_1716 rfl rfl rfl ?_
                                                                                            refine r_aload_n (i := 0) (x := 1) (q := 1718) 0 hX dL_law_1717 rfl rfl rfl ?_
                                                                                            refine r_iload_n (i := 3) (x := s15.1) (q := 1719) 3 hX dL_law_1718 rfl rfl rfl ?_
                                                                                            refine r_iconst (v := (1 : Int32)) (q := 1720) hX dL_law_1719 rfl rfl ?_
                                                                                            refine r_iadd (q := 1721) hX dL_law_1720 rfl ?_
                                                                                            refine r_ck (fun hc462 => ?_)
                                                                                            refine r_sld (i := (s15.1 + (1 : Int32))) (q := 1722) hX hSc hc462 dL_law_1721 rfl ?_
                                                                                            refine r_ck (fun hc463 => ?_)
                                                                                            refine r_bind (fun v464 h465 => ?_)
                                                                                            refine r_cv (a := z7) (As := [vi (xs (ix (s15.1 + (1 : Int32))))]) (st := []) (r := (some (vi v464))) (Z1 := s15.2.1) (M1 := s15.2.2) (k1 := (108 + 2 * ix s15.1)) (n1 := (3361 + 700 * ix s15.1)) (st1 := [vi v464]) (q := 1725) hX (fun l => kX11_count l s15.2.1 s15.2.2 z7 (xs (ix (s15.1 + (1 : Int32)))) v464 h465) hc463 ivX11_count ccX11_count (Or.inl lkL_197) rfl rfl rfl ⟨Nat.le_of_ble_eq_true rfl, Nat.le_of_ble_eq_true rfl, rfl, rfl, law_k hI 108 0 (Nat.le_of_ble_eq_true rfl), law_n hI 3361 0 (Nat.le_of_ble_eq_true rfl)⟩ (Nat.le_of_ble_eq_true rfl) dL_law_1722 rfl ?_
                                                                                            refine r_aload_n (i := 2) (x := z14) (q := 1726) 2 hX dL_law_1725 rfl rfl rfl ?_
                                                                                            refine r_aload_n (i := 0) (x := 1) (q := 1727) 0 hX dL_law_1726 rfl rfl rfl ?_
                                                                                            refine r_iload_n (i := 3) (x := s15.1) (q := 1728) 3 hX dL_law_1727 rfl rfl rfl ?_
                                                                                            refine r_iconst (v := (1 : Int32)) (q := 1729) hX dL_law_1728 rfl rfl ?_
                                                                                            refine r_iadd (q := 1730) hX dL_law_1729 rfl ?_
                                                                                            refine r_sld (i := (s15.1 + (1 : Int32))) (q := 1731) hX hSc hc462 dL_law_1730 rfl ?_
                                                                                            refine r_ck (fun hc466 => ?_)
                                                                                            refine r_bind (fun v467 h468 => ?_)
                                                                                            refine r_cv (a := z14) (As := [vi (xs (ix (s15.1 + (1 : Int32))))]) (st := [vi v464]) (r := (some (vi v467))) (Z1 := s15.2.1) (M1 := s15.2.2) (k1 := (108 + 2 * ix s15.1)) (n1 := (3361 + 700 * ix s15.1)) (st1 := [vi v467, vi v464]) (q := 1734) hX (fun l => kX12_count l s15.2.1 s15.2.2 z14 (xs (ix (s15.1 + (1 : Int32)))) v467 h468) hc466 ivX12_count ccX12_count (Or.inl lkL_200) rfl rfl rfl ⟨Nat.le_of_ble_eq_true rfl, Nat.le_of_ble_eq_true rfl, rfl, rfl, law_k hI 108 0 (Nat.le_of_ble_eq_true rfl), law_n hI 3361 0 (Nat.le_of_ble_eq_true rfl)⟩ (Nat.le_of_ble_eq_true rfl) dL_law_1731 rfl ?_
                                                                                            refine r_icmp_eq (tgt := 1753) (q := 1737) hX dL_law_1734 (by decide) rfl (fun hb469 => ?_) (fun hb469 => ?_)
                                                                                            · refine r_iinc (x := s15.1) (v := (s15.1 + (7 : Int32))) (q := 1756) 3 3 [1, 2, 3, 0] (L1 := [(0, vr 1), (1, vr z7), (2, vr z14), (3, vi (s15.1 + (7 : Int32)))]) hX dL_law_1753 rfl rfl (Nat.le_of_ble_eq_true rfl) rfl rfl ?_
                                                                                              refine r_goto (q := 18) hX dL_law_1756 (by decide) ?_
                                                                                              refine r_l0 ?_
                                                                                              refine r_wide (k1 := 108 + 2 * ix (s15.1 + (7 : Int32))) (n1 := 3361 + 700 * ix (s15.1 + (7 : Int32))) (law_wk hc19 hL 108 0 (Nat.le_of_ble_eq_true rfl)) (law_wn hc19 hL 3361 0 (Nat.le_of_ble_eq_true rfl)) ?_
                                                                                              exact hn16 ((s15.1 + (7 : Int32)), s15.2.1, s15.2.2) (law_nx hc19 hL)
                                                                                            · refine r_iconst (v := (0 : Int32)) (q := 1738) hX dL_law_1737 rfl rfl ?_
                                                                                              exact r_none
                                                                                          · refine r_ite (fun hb470 => ?_) (fun hb470 => ?_)
                                                                                            · refine r_tswI (off := 1706) (q := 1739) hX hb470 dL_law_33 (by decide) (by decide) ?_
                                                                                              refine r_aload_n (i := 1) (x := z7) (q := 1740) 1 hX dL_law_1739 rfl rfl rfl ?_
                                                                                              refine r_ck (fun hc471 => ?_)
                                                                                              refine r_bind (fun v472 h473 => ?_)
                                                                                              refine r_cv (a := z7) (As := []) (st := []) (r := (some (vj v472))) (Z1 := s15.2.1) (M1 := s15.2.2) (k1 := (108 + 2 * ix s15.1)) (n1 := (3361 + 700 * ix s15.1)) (st1 := [vj v472]) (q := 1743) hX (fun l => kX11_digest l s15.2.1 s15.2.2 z7 v472 h473) hc471 ivX11_digest ccX11_digest (Or.inl lkL_201) rfl rfl rfl ⟨Nat.le_of_ble_eq_true rfl, Nat.le_of_ble_eq_true rfl, rfl, rfl, law_k hI 108 0 (Nat.le_of_ble_eq_true rfl), law_n hI 3361 0 (Nat.le_of_ble_eq_true rfl)⟩ (Nat.le_of_ble_eq_true rfl) dL_law_1740 rfl ?_
                                                                                              refine r_aload_n (i := 2) (x := z14) (q := 1744) 2 hX dL_law_1743 rfl rfl rfl ?_
                                                                                              refine r_ck (fun hc474 => ?_)
                                                                                              refine r_bind (fun v475 h476 => ?_)
                                                                                              refine r_cv (a := z14) (As := []) (st := [vj v472]) (r := (some (vj v475.1))) (Z1 := s15.2.1) (M1 := v475.2) (k1 := (108 + 2 * ix s15.1)) (n1 := (3361 + 700 * ix s15.1)) (st1 := [vj v475.1, vj v472]) (q := 1747) hX (fun l => kX12_digest l s15.2.1 s15.2.2 z14 v475 h476) hc474 ivX12_digest ccX12_digest (Or.inl lkL_205) rfl rfl rfl ⟨Nat.le_of_ble_eq_true rfl, Nat.le_of_ble_eq_true rfl, rfl, rfl, law_k hI 108 0 (Nat.le_of_ble_eq_true rfl), law_n hI 3361 0 (Nat.le_of_ble_eq_true rfl)⟩ (Nat.le_of_ble_eq_true rfl) dL_law_1744 rfl ?_
                                                                                              refine r_lcmp (q := 1748) hX dL_law_1747 rfl ?_
                                                                                              refine r_if_eq (tgt := 1753) (q := 1751) hX dL_law_1748 (by decide) rfl (fun hb477 => ?_) (fun hb477 => ?_)
                                                                                              · refine r_iinc (x := s15.1) (v := (s15.1 + (7 : Int32))) (q := 1756) 3 3 [1, 2, 3, 0] (L1 := [(0, vr 1), (1, vr z7), (2, vr z14), (3, vi (s15.1 + (7 : Int32)))]) hX dL_law_1753 rfl rfl (Nat.le_of_ble_eq_true rfl) rfl rfl ?_
                                                                                                refine r_goto (q := 18) hX dL_law_1756 (by decide) ?_
                                                                                                refine r_l0 ?_
                                                                                                refine r_wide (k1 := 108 + 2 * ix (s15.1 + (7 : Int32))) (n1 := 3361 + 700 * ix (s15.1 + (7 : Int32))) (law_wk hc19 hL 108 0 (Nat.le_of_ble_eq_true rfl)) (law_wn hc19 hL 3361 0 (Nat.le_of_ble_eq_true rfl)) ?_
                                                                                                exact hn16 ((s15.1 + (7 : Int32)), s15.2.1, v475.2) (law_nx hc19 hL)
                                                                                              · refine r_iconst (v := (0 : Int32)) (q := 1752) hX dL_law_1751 rfl rfl ?_
                                                                                                exact r_none
                                                                                            · refine r_tswO (cs := [(0 : Int32), (1 : Int32), (2 : Int32), (3 : Int32), (4 : Int32), (5 : Int32), (6 : Int32), (7 : Int32), (8 : Int32), (9 : Int32), (10 : Int32), (11 : Int32), (12 : Int32), (13 : Int32), (14 : Int32), (15 : Int32), (16 : Int32), (17 : Int32), (18 : Int32), (19 : Int32), (20 : Int32), (21 : Int32), (22 : Int32), (23 : Int32), (24 : Int32), (25 : Int32), (26 : Int32), (27 : Int32), (28 : Int32), (29 : Int32), (30 : Int32), (31 : Int32), (32 : Int32), (33 : Int32), (34 : Int32), (35 : Int32), (36 : Int32), (37 : Int32), (38 : Int32), (39 : Int32), (40 : Int32), (41 : Int32), (42 : Int32), (43 : Int32), (44 : Int32)]) (q := 1753) hX ⟨hb20, ⟨hb31, ⟨hb40, ⟨hb51, ⟨hb63, ⟨hb73, ⟨hb84, ⟨hb98, ⟨hb107, ⟨hb117, ⟨hb127, ⟨hb137, ⟨hb147, ⟨hb156, ⟨hb166, ⟨hb174, ⟨hb182, ⟨hb190, ⟨hb201, ⟨hb212, ⟨hb223, ⟨hb233, ⟨hb252, ⟨hb260, ⟨hb269, ⟨hb278, ⟨hb291, ⟨hb301, ⟨hb312, ⟨hb320, ⟨hb329, ⟨hb339, ⟨hb349, ⟨hb360, ⟨hb370, ⟨hb380, ⟨hb392, ⟨hb402, ⟨hb413, ⟨hb422, ⟨hb431, ⟨hb440, ⟨hb451, ⟨hb461, ⟨hb470, trivial⟩⟩⟩⟩⟩⟩⟩⟩⟩⟩⟩⟩⟩⟩⟩⟩⟩⟩⟩⟩⟩⟩⟩⟩⟩⟩⟩⟩⟩⟩⟩⟩⟩⟩⟩⟩⟩⟩⟩⟩⟩⟩⟩⟩⟩ dL_law_33 (by decide) (by decide) ?_
                                                                                              refine r_iinc (x := s15.1) (v := (s15.1 + (7 : Int32))) (q := 1756) 3 3 [1, 2, 3, 0] (L1 := [(0, vr 1), (1, vr z7), (2, vr z14), (3, vi (s15.1 + (7 : Int32)))]) hX dL_law_1753 rfl rfl (Nat.le_of_ble_eq_true rfl) rfl rfl ?_
                                                                                              refine r_goto (q := 18) hX dL_law_1756 (by decide) ?_
                                                                                              refine r_l0 ?_
                                                                                              refine r_wide (k1 := 108 + 2 * ix (s15.1 + (7 : Int32))) (n1 := 3361 + 700 * ix (s15.1 + (7 : Int32))) (law_wk hc19 hL 108 0 (Nat.le_of_ble_eq_true rfl)) (law_wn hc19 hL 3361 0 (Nat.le_of_ble_eq_true rfl)) ?_
                                                                                              exact hn16 ((s15.1 + (7 : Int32)), s15.2.1, s15.2.2) (law_nx hc19 hL)
