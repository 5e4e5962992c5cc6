/-! the law holds: no answer of the class differs from the model's -/
noncomputable def lawF (xs : Nat → Int32) (Lg : Nat) : Int32 × Shp × Mem → Option ((Int32 × Shp × Mem) ⊕ Unit) := (fun s15 : Int32 × Shp × Mem => (if ((nI Lg) - (7 : Int32)) < s15.1 then some (Sum.inr ()) else (if 0 ≤ (s15.1).toInt ∧ (s15.1).toInt < (Lg : Int) then (if ((xs (ix s15.1)) &&& (63 : Int32)) = (0 : Int32) then (if 0 ≤ ((s15.1 + (1 : Int32))).toInt ∧ ((s15.1 + (1 : Int32))).toInt < (Lg : Int) then (if 0 ≤ ((s15.1 + (2 : Int32))).toInt ∧ ((s15.1 + (2 : Int32))).toInt < (Lg : Int) then (if 0 ≤ ((s15.1 + (3 : Int32))).toInt ∧ ((s15.1 + (3 : Int32))).toInt < (Lg : Int) then (if tg s15.2.1 2 = (12, 6) then (Option.bind (fX11_pound s15.2.1 s15.2.2 2 (xs (ix (s15.1 + (1 : Int32)))) (xs (ix (s15.1 + (2 : Int32)))) (xs (ix (s15.1 + (3 : Int32))))) (fun v25 => (if tg s15.2.1 51 = (13, 86) then (Option.bind (fX12_pound s15.2.1 v25.2 51 (xs (ix (s15.1 + (1 : Int32)))) (xs (ix (s15.1 + (2 : Int32)))) (xs (ix (s15.1 + (3 : Int32))))) (fun v28 => (if v25.1 = v28.1 then some (Sum.inl ((s15.1 + (7 : Int32)), s15.2.1, v28.2)) else none))) else none))) else none) else none) else none) else none) else (if ((xs (ix s15.1)) &&& (63 : Int32)) = (1 : Int32) then (if 0 ≤ ((s15.1 + (1 : Int32))).toInt ∧ ((s15.1 + (1 : Int32))).toInt < (Lg : Int) then (if tg s15.2.1 2 = (12, 6) then (Option.bind (fX11_summit s15.2.1 s15.2.2 2 (xs (ix (s15.1 + (1 : Int32))))) (fun v34 => (if tg s15.2.1 51 = (13, 86) then (Option.bind (fX12_summit s15.2.1 v34.2 51 (xs (ix (s15.1 + (1 : Int32))))) (fun v37 => (if v34.1 = v37.1 then some (Sum.inl ((s15.1 + (7 : Int32)), s15.2.1, v37.2)) else none))) else none))) else none) else none) else (if ((xs (ix s15.1)) &&& (63 : Int32)) = (2 : Int32) then (if 0 ≤ ((s15.1 + (1 : Int32))).toInt ∧ ((s15.1 + (1 : Int32))).toInt < (Lg : Int) then (if 0 ≤ ((s15.1 + (2 : Int32))).toInt ∧ ((s15.1 + (2 : Int32))).toInt < (Lg : Int) then (if 0 ≤ ((s15.1 + (3 : Int32))).toInt ∧ ((s15.1 + (3 : Int32))).toInt < (Lg : Int) then (if tg s15.2.1 2 = (12, 6) then (Option.bind (fX11_lock s15.2.1 s15.2.2 2 (xs (ix (s15.1 + (1 : Int32)))) (xs (ix (s15.1 + (2 : Int32)))) (xs (ix (s15.1 + (3 : Int32))))) (fun v45 => (if tg s15.2.1 51 = (13, 86) then (Option.bind (fX12_lock s15.2.1 v45.2 51 (xs (ix (s15.1 + (1 : Int32)))) (xs (ix (s15.1 + (2 : Int32)))) (xs (ix (s15.1 + (3 : Int32))))) (fun v48 => (if v45.1 = v48.1 then some (Sum.inl ((s15.1 + (7 : Int32)), s15.2.1, v48.2)) else none))) else none))) else none) else none) else none) else none) else (if ((xs (ix s15.1)) &&& (63 : Int32)) = (3 : Int32) then (if 0 ≤ ((s15.1 + (1 : Int32))).toInt ∧ ((s15.1 + (1 : Int32))).toInt < (Lg : Int) then (if 0 ≤ ((s15.1 + (2 : Int32))).toInt ∧ ((s15.1 + (2 : Int32))).toInt < (Lg : Int) then (if 0 ≤ ((s15.1 + (3 : Int32))).toInt ∧ ((s15.1 + (3 : Int32))).toInt < (Lg : Int) then (if 0 ≤ ((s15.1 + (4 : Int32))).toInt ∧ ((s15.1 + (4 : Int32))).toInt < (Lg : Int) then (if tg s15.2.1 2 = (12, 6) then (Option.bind (fX11_taker s15.2.1 s15.2.2 2 (xs (ix (s15.1 + (1 : Int32)))) (xs (ix (s15.1 + (2 : Int32)))) (xs (ix (s15.1 + (3 : Int32)))) (xs (ix (s15.1 + (4 : Int32))))) (fun v57 => (if tg v57.2.1 51 = (13, 86) then (Option.bind (fX12_taker v57.2.1 v57.2.2 51 (xs (ix (s15.1 + (1 : Int32)))) (xs (ix (s15.1 + (2 : Int32)))) (xs (ix (s15.1 + (3 : Int32)))) (xs (ix (s15.1 + (4 : Int32))))) (fun v60 => (if v57.1 = v60.1 then some (Sum.inl ((s15.1 + (7 : Int32)), v57.2.1, v60.2)) else none))) else none))) else none) else none) else none) else none) else none) else (if ((xs (ix s15.1)) &&& (63 : Int32)) = (4 : Int32) then (if 0 ≤ ((s15.1 + (1 : Int32))).toInt ∧ ((s15.1 + (1 : Int32))).toInt < (Lg : Int) then (if 0 ≤ ((s15.1 + (2 : Int32))).toInt ∧ ((s15.1 + (2 : Int32))).toInt < (Lg : Int) then (if tg s15.2.1 2 = (12, 6) then (Option.bind (fX11_as s15.2.1 s15.2.2 2 (xs (ix (s15.1 + (1 : Int32)))) (xs (ix (s15.1 + (2 : Int32))))) (fun v67 => (if tg s15.2.1 51 = (13, 86) then (Option.bind (fX12_as s15.2.1 s15.2.2 51 (xs (ix (s15.1 + (1 : Int32)))) (xs (ix (s15.1 + (2 : Int32))))) (fun v70 => (if v67 = v70 then some (Sum.inl ((s15.1 + (7 : Int32)), s15.2.1, s15.2.2)) else none))) else none))) else none) else none) else none) else (if ((xs (ix s15.1)) &&& (63 : Int32)) = (5 : Int32) then (if 0 ≤ ((s15.1 + (1 : Int32))).toInt ∧ ((s15.1 + (1 : Int32))).toInt < (Lg : Int) then (if 0 ≤ ((s15.1 + (2 : Int32))).toInt ∧ ((s15.1 + (2 : Int32))).toInt < (Lg : Int) then (if 0 ≤ ((s15.1 + (3 : Int32))).toInt ∧ ((s15.1 + (3 : Int32))).toInt < (Lg : Int) then (if tg s15.2.1 2 = (12, 6) then (Option.bind (fX11_acts s15.2.1 s15.2.2 2 (xs (ix (s15.1 + (1 : Int32)))) (xs (ix (s15.1 + (2 : Int32)))) (xs (ix (s15.1 + (3 : Int32))))) (fun v78 => (if tg s15.2.1 51 = (13, 86) then (Option.bind (fX12_acts s15.2.1 s15.2.2 51 (xs (ix (s15.1 + (1 : Int32)))) (xs (ix (s15.1 + (2 : Int32)))) (xs (ix (s15.1 + (3 : Int32))))) (fun v81 => (if v78 = v81 then some (Sum.inl ((s15.1 + (7 : Int32)), s15.2.1, s15.2.2)) else none))) else none))) else none) else none) else none) else none) else (if ((xs (ix s15.1)) &&& (63 : Int32)) = (6 : Int32) then (if 0 ≤ ((s15.1 + (1 : Int32))).toInt ∧ ((s15.1 + (1 : Int32))).toInt < (Lg : Int) then (if 0 ≤ ((s15.1 + (2 : Int32))).toInt ∧ ((s15.1 + (2 : Int32))).toInt < (Lg : Int) then (if 0 ≤ ((s15.1 + (3 : Int32))).toInt ∧ ((s15.1 + (3 : Int32))).toInt < (Lg : Int) then (if 0 ≤ ((s15.1 + (4 : Int32))).toInt ∧ ((s15.1 + (4 : Int32))).toInt < (Lg : Int) then (if 0 ≤ ((s15.1 + (5 : Int32))).toInt ∧ ((s15.1 + (5 : Int32))).toInt < (Lg : Int) then (if 0 ≤ ((s15.1 + (6 : Int32))).toInt ∧ ((s15.1 + (6 : Int32))).toInt < (Lg : Int) then (if tg s15.2.1 2 = (12, 6) then (Option.bind (fX11_boat s15.2.1 s15.2.2 2 (xs (ix (s15.1 + (1 : Int32)))) (xs (ix (s15.1 + (2 : Int32)))) (xs (ix (s15.1 + (3 : Int32)))) (xs (ix (s15.1 + (4 : Int32)))) (xs (ix (s15.1 + (5 : Int32)))) (xs (ix (s15.1 + (6 : Int32))))) (fun v92 => (if tg v92.2.1 51 = (13, 86) then (Option.bind (fX12_boat v92.2.1 v92.2.2 51 (xs (ix (s15.1 + (1 : Int32)))) (xs (ix (s15.1 + (2 : Int32)))) (xs (ix (s15.1 + (3 : Int32)))) (xs (ix (s15.1 + (4 : Int32)))) (xs (ix (s15.1 + (5 : Int32)))) (xs (ix (s15.1 + (6 : Int32))))) (fun v95 => (if v92.1 = v95.1 then some (Sum.inl ((s15.1 + (7 : Int32)), v92.2.1, v95.2)) else none))) else none))) else none) else none) else none) else none) else none) else none) else none) else (if ((xs (ix s15.1)) &&& (63 : Int32)) = (7 : Int32) then (if 0 ≤ ((s15.1 + (1 : Int32))).toInt ∧ ((s15.1 + (1 : Int32))).toInt < (Lg : Int) then (if tg s15.2.1 2 = (12, 6) then (Option.bind (fX11_hour s15.2.1 s15.2.2 2 (xs (ix (s15.1 + (1 : Int32))))) (fun v101 => (if tg s15.2.1 51 = (13, 86) then (Option.bind (fX12_hour s15.2.1 v101.2 51 (xs (ix (s15.1 + (1 : Int32))))) (fun v104 => (if v101.1 = v104.1 then some (Sum.inl ((s15.1 + (7 : Int32)), s15.2.1, v104.2)) else none))) else none))) else none) else none) else (if ((xs (ix s15.1)) &&& (63 : Int32)) = (8 : Int32) then (if 0 ≤ ((s15.1 + (1 : Int32))).toInt ∧ ((s15.1 + (1 : Int32))).toInt < (Lg : Int) then (if 0 ≤ ((s15.1 + (2 : Int32))).toInt ∧ ((s15.1 + (2 : Int32))).toInt < (Lg : Int) then (if tg s15.2.1 2 = (12, 6) then (Option.bind (fX11_hours s15.2.1 s15.2.2 2 (xs (ix (s15.1 + (1 : Int32)))) (xs (ix (s15.1 + (2 : Int32))))) (fun v111 => (if tg s15.2.1 51 = (13, 86) then (Option.bind (fX12_hours s15.2.1 v111.2 51 (xs (ix (s15.1 + (1 : Int32)))) (xs (ix (s15.1 + (2 : Int32))))) (fun v114 => (if v111.1 = v114.1 then some (Sum.inl ((s15.1 + (7 : Int32)), s15.2.1, v114.2)) else none))) else none))) else none) else none) else none) else (if ((xs (ix s15.1)) &&& (63 : Int32)) = (9 : Int32) then (if 0 ≤ ((s15.1 + (1 : Int32))).toInt ∧ ((s15.1 + (1 : Int32))).toInt < (Lg : Int) then (if 0 ≤ ((s15.1 + (2 : Int32))).toInt ∧ ((s15.1 + (2 : Int32))).toInt < (Lg : Int) then (if tg s15.2.1 2 = (12, 6) then (Option.bind (fX11_at s15.2.1 s15.2.2 2 (xs (ix (s15.1 + (1 : Int32)))) (xs (ix (s15.1 + (2 : Int32))))) (fun v121 => (if tg s15.2.1 51 = (13, 86) then (Option.bind (fX12_at s15.2.1 s15.2.2 51 (xs (ix (s15.1 + (1 : Int32)))) (xs (ix (s15.1 + (2 : Int32))))) (fun v124 => (if v121 = v124 then some (Sum.inl ((s15.1 + (7 : Int32)), s15.2.1, s15.2.2)) else none))) else none))) else none) else none) else none) else (if ((xs (ix s15.1)) &&& (63 : Int32)) = (10 : Int32) then (if 0 ≤ ((s15.1 + (1 : Int32))).toInt ∧ ((s15.1 + (1 : Int32))).toInt < (Lg : Int) then (if 0 ≤ ((s15.1 + (2 : Int32))).toInt ∧ ((s15.1 + (2 : Int32))).toInt < (Lg : Int) then (if tg s15.2.1 2 = (12, 6) then (Option.bind (fX11_lockIs s15.2.1 s15.2.2 2 (xs (ix (s15.1 + (1 : Int32)))) (xs (ix (s15.1 + (2 : Int32))))) (fun v131 => (if tg s15.2.1 51 = (13, 86) then (Option.bind (fX12_lockIs s15.2.1 s15.2.2 51 (xs (ix (s15.1 + (1 : Int32)))) (xs (ix (s15.1 + (2 : Int32))))) (fun v134 => (if v131 = v134 then some (Sum.inl ((s15.1 + (7 : Int32)), s15.2.1, s15.2.2)) else none))) else none))) else none) else none) else none) else (if ((xs (ix s15.1)) &&& (63 : Int32)) = (11 : Int32) then (if 0 ≤ ((s15.1 + (1 : Int32))).toInt ∧ ((s15.1 + (1 : Int32))).toInt < (Lg : Int) then (if 0 ≤ ((s15.1 + (2 : Int32))).toInt ∧ ((s15.1 + (2 : Int32))).toInt < (Lg : Int) then (if tg s15.2.1 2 = (12, 6) then (Option.bind (fX11_now s15.2.1 s15.2.2 2 (xs (ix (s15.1 + (1 : Int32)))) (xs (ix (s15.1 + (2 : Int32))))) (fun v141 => (if tg s15.2.1 51 = (13, 86) then (Option.bind (fX12_now s15.2.1 s15.2.2 51 (xs (ix (s15.1 + (1 : Int32)))) (xs (ix (s15.1 + (2 : Int32))))) (fun v144 => (if v141 = v144 then some (Sum.inl ((s15.1 + (7 : Int32)), s15.2.1, s15.2.2)) else none))) else none))) else none) else none) else none) else (if ((xs (ix s15.1)) &&& (63 : Int32)) = (12 : Int32) then (if 0 ≤ ((s15.1 + (1 : Int32))).toInt ∧ ((s15.1 + (1 : Int32))).toInt < (Lg : Int) then (if tg s15.2.1 2 = (12, 6) then (Option.bind (fX11_sum s15.2.1 s15.2.2 2 (xs (ix (s15.1 + (1 : Int32))))) (fun v150 => (if tg s15.2.1 51 = (13, 86) then (Option.bind (fX12_sum s15.2.1 s15.2.2 51 (xs (ix (s15.1 + (1 : Int32))))) (fun v153 => (if (lg_cmp v150 v153) = 0 then some (Sum.inl ((s15.1 + (7 : Int32)), s15.2.1, s15.2.2)) else none))) else none))) else none) else none) else (if ((xs (ix s15.1)) &&& (63 : Int32)) = (13 : Int32) then (if 0 ≤ ((s15.1 + (1 : Int32))).toInt ∧ ((s15.1 + (1 : Int32))).toInt < (Lg : Int) then (if 0 ≤ ((s15.1 + (2 : Int32))).toInt ∧ ((s15.1 + (2 : Int32))).toInt < (Lg : Int) then (if tg s15.2.1 2 = (12, 6) then (Option.bind (fX11_letters s15.2.1 s15.2.2 2 ((((xs (ix (s15.1 + (1 : Int32)))).toInt64) <<< ((32 : Int32).toInt64 &&& 63)) ||| (((xs (ix (s15.1 + (2 : Int32)))).toInt64) &&& (4294967295 : Int64)))) (fun v160 => (if tg s15.2.1 51 = (13, 86) then (Option.bind (fX12_letters s15.2.1 v160.2 51 ((((xs (ix (s15.1 + (1 : Int32)))).toInt64) <<< ((32 : Int32).toInt64 &&& 63)) ||| (((xs (ix (s15.1 + (2 : Int32)))).toInt64) &&& (4294967295 : Int64)))) (fun v163 => (if v160.1 = v163.1 then some (Sum.inl ((s15.1 + (7 : Int32)), s15.2.1, v163.2)) else none))) else none))) else none) else none) else none) else (if ((xs (ix s15.1)) &&& (63 : Int32)) = (14 : Int32) then (if tg s15.2.1 2 = (12, 6) then (Option.bind (fX11_blank s15.2.1 s15.2.2 2) (fun v168 => (if tg s15.2.1 51 = (13, 86) then (Option.bind (fX12_blank s15.2.1 v168.2 51) (fun v171 => (if v168.1 = v171.1 then some (Sum.inl ((s15.1 + (7 : Int32)), s15.2.1, v171.2)) else none))) else none))) else none) else (if ((xs (ix s15.1)) &&& (63 : Int32)) = (15 : Int32) then (if tg s15.2.1 2 = (12, 6) then (Option.bind (fX11_fault s15.2.1 s15.2.2 2) (fun v176 => (if tg s15.2.1 51 = (13, 86) then (Option.bind (fX12_fault s15.2.1 s15.2.2 51) (fun v179 => (if v176 = v179.1 then some (Sum.inl ((s15.1 + (7 : Int32)), s15.2.1, v179.2)) else none))) else none))) else none) else (if ((xs (ix s15.1)) &&& (63 : Int32)) = (16 : Int32) then (if tg s15.2.1 2 = (12, 6) then (Option.bind (fX11_text s15.2.1 s15.2.2 2) (fun v184 => (if tg v184.2.1 51 = (13, 86) then (Option.bind (fX12_text v184.2.1 v184.2.2 51) (fun v187 => (if v184.1 = v187.1 then some (Sum.inl ((s15.1 + (7 : Int32)), v184.2.1, v187.2)) else none))) else none))) else none) else (if ((xs (ix s15.1)) &&& (63 : Int32)) = (17 : Int32) then (if 0 ≤ ((s15.1 + (1 : Int32))).toInt ∧ ((s15.1 + (1 : Int32))).toInt < (Lg : Int) then (if 0 ≤ ((s15.1 + (2 : Int32))).toInt ∧ ((s15.1 + (2 : Int32))).toInt < (Lg : Int) then (if 0 ≤ ((s15.1 + (3 : Int32))).toInt ∧ ((s15.1 + (3 : Int32))).toInt < (Lg : Int) then (if tg s15.2.1 2 = (12, 6) then (Option.bind (fX11_force s15.2.1 s15.2.2 2 (xs (ix (s15.1 + (1 : Int32)))) (xs (ix (s15.1 + (2 : Int32)))) (xs (ix (s15.1 + (3 : Int32))))) (fun v195 => (if tg s15.2.1 51 = (13, 86) then (Option.bind (fX12_force s15.2.1 v195.2 51 (xs (ix (s15.1 + (1 : Int32)))) (xs (ix (s15.1 + (2 : Int32)))) (xs (ix (s15.1 + (3 : Int32))))) (fun v198 => (if v195.1 = v198.1 then some (Sum.inl ((s15.1 + (7 : Int32)), s15.2.1, v198.2)) else none))) else none))) else none) else none) else none) else none) else (if ((xs (ix s15.1)) &&& (63 : Int32)) = (18 : Int32) then (if 0 ≤ ((s15.1 + (1 : Int32))).toInt ∧ ((s15.1 + (1 : Int32))).toInt < (Lg : Int) then (if 0 ≤ ((s15.1 + (2 : Int32))).toInt ∧ ((s15.1 + (2 : Int32))).toInt < (Lg : Int) then (if 0 ≤ ((s15.1 + (3 : Int32))).toInt ∧ ((s15.1 + (3 : Int32))).toInt < (Lg : Int) then (if tg s15.2.1 2 = (12, 6) then (Option.bind (fX11_speaks s15.2.1 s15.2.2 2 (xs (ix (s15.1 + (1 : Int32)))) (xs (ix (s15.1 + (2 : Int32)))) (xs (ix (s15.1 + (3 : Int32))))) (fun v206 => (if tg s15.2.1 51 = (13, 86) then (Option.bind (fX12_speaks s15.2.1 s15.2.2 51 (xs (ix (s15.1 + (1 : Int32)))) (xs (ix (s15.1 + (2 : Int32)))) (xs (ix (s15.1 + (3 : Int32))))) (fun v209 => (if v206 = v209.1 then some (Sum.inl ((s15.1 + (7 : Int32)), s15.2.1, v209.2)) else none))) else none))) else none) else none) else none) else none) else (if ((xs (ix s15.1)) &&& (63 : Int32)) = (19 : Int32) then (if 0 ≤ ((s15.1 + (1 : Int32))).toInt ∧ ((s15.1 + (1 : Int32))).toInt < (Lg : Int) then (if 0 ≤ ((s15.1 + (2 : Int32))).toInt ∧ ((s15.1 + (2 : Int32))).toInt < (Lg : Int) then (if 0 ≤ ((s15.1 + (3 : Int32))).toInt ∧ ((s15.1 + (3 : Int32))).toInt < (Lg : Int) then (if tg s15.2.1 2 = (12, 6) then (Option.bind (fX11_quarrel s15.2.1 s15.2.2 2 (xs (ix (s15.1 + (1 : Int32)))) (xs (ix (s15.1 + (2 : Int32)))) (xs (ix (s15.1 + (3 : Int32))))) (fun v217 => (if tg s15.2.1 51 = (13, 86) then (Option.bind (fX12_quarrel s15.2.1 s15.2.2 51 (xs (ix (s15.1 + (1 : Int32)))) (xs (ix (s15.1 + (2 : Int32)))) (xs (ix (s15.1 + (3 : Int32))))) (fun v220 => (if v217 = v220.1 then some (Sum.inl ((s15.1 + (7 : Int32)), s15.2.1, v220.2)) else none))) else none))) else none) else none) else none) else none) else (if ((xs (ix s15.1)) &&& (63 : Int32)) = (20 : Int32) then (if 0 ≤ ((s15.1 + (1 : Int32))).toInt ∧ ((s15.1 + (1 : Int32))).toInt < (Lg : Int) then (if 0 ≤ ((s15.1 + (2 : Int32))).toInt ∧ ((s15.1 + (2 : Int32))).toInt < (Lg : Int) then (if tg s15.2.1 2 = (12, 6) then (Option.bind (fX11_toll s15.2.1 s15.2.2 2 (xs (ix (s15.1 + (1 : Int32)))) (xs (ix (s15.1 + (2 : Int32))))) (fun v227 => (if tg s15.2.1 51 = (13, 86) then (Option.bind (fX12_toll s15.2.1 s15.2.2 51 (xs (ix (s15.1 + (1 : Int32)))) (xs (ix (s15.1 + (2 : Int32))))) (fun v230 => (if v227 = v230.1 then some (Sum.inl ((s15.1 + (7 : Int32)), s15.2.1, v230.2)) else none))) else none))) else none) else none) else none) else (if ((xs (ix s15.1)) &&& (63 : Int32)) = (21 : Int32) then (if 0 ≤ ((s15.1 + (1 : Int32))).toInt ∧ ((s15.1 + (1 : Int32))).toInt < (Lg : Int) then (Option.bind (if (xs (ix (s15.1 + (1 : Int32)))) = 0 then some (0 : Int32) else some (1 : Int32)) (fun v238 : Int32 => (if 0 ≤ ((s15.1 + (2 : Int32))).toInt ∧ ((s15.1 + (2 : Int32))).toInt < (Lg : Int) then (if 0 ≤ ((s15.1 + (3 : Int32))).toInt ∧ ((s15.1 + (3 : Int32))).toInt < (Lg : Int) then (if tg s15.2.1 2 = (12, 6) then (Option.bind (fX11_comer s15.2.1 s15.2.2 2 v238 (xs (ix (s15.1 + (2 : Int32)))) (xs (ix (s15.1 + (3 : Int32))))) (fun v242 => (Option.bind (if (xs (ix (s15.1 + (1 : Int32)))) = 0 then some (0 : Int32) else some (1 : Int32)) (fun v247 : Int32 => (if tg s15.2.1 51 = (13, 86) then (Option.bind (fX12_comer s15.2.1 v242.2 51 v247 (xs (ix (s15.1 + (2 : Int32)))) (xs (ix (s15.1 + (3 : Int32))))) (fun v249 => (if v242.1 = v249.1 then some (Sum.inl ((s15.1 + (7 : Int32)), s15.2.1, v249.2)) else none))) else none))))) else none) else none) else none))) else none) else (if ((xs (ix s15.1)) &&& (63 : Int32)) = (22 : Int32) then (if tg s15.2.1 2 = (12, 6) then (Option.bind (fX11_clear s15.2.1 s15.2.2 2) (fun v254 => (if tg s15.2.1 51 = (13, 86) then (Option.bind (fX12_clear s15.2.1 v254.2 51) (fun v257 => (if v254.1 = v257.1 then some (Sum.inl ((s15.1 + (7 : Int32)), s15.2.1, v257.2)) else none))) else none))) else none) else (if ((xs (ix s15.1)) &&& (63 : Int32)) = (23 : Int32) then (if 0 ≤ ((s15.1 + (1 : Int32))).toInt ∧ ((s15.1 + (1 : Int32))).toInt < (Lg : Int) then (if tg s15.2.1 2 = (12, 6) then (Option.bind (fX11_turn s15.2.1 s15.2.2 2 (xs (ix (s15.1 + (1 : Int32))))) (fun v263 => (if tg v263.2.1 51 = (13, 86) then (Option.bind (fX12_turn v263.2.1 v263.2.2 51 (xs (ix (s15.1 + (1 : Int32))))) (fun v266 => (if v263.1 = v266.1 then some (Sum.inl ((s15.1 + (7 : Int32)), v263.2.1, v266.2)) else none))) else none))) else none) else none) else (if ((xs (ix s15.1)) &&& (63 : Int32)) = (24 : Int32) then (if 0 ≤ ((s15.1 + (1 : Int32))).toInt ∧ ((s15.1 + (1 : Int32))).toInt < (Lg : Int) then (if tg s15.2.1 2 = (12, 6) then (Option.bind (fX11_judge s15.2.1 s15.2.2 2 (xs (ix (s15.1 + (1 : Int32))))) (fun v272 => (if tg s15.2.1 51 = (13, 86) then (Option.bind (fX12_judge s15.2.1 s15.2.2 51 (xs (ix (s15.1 + (1 : Int32))))) (fun v275 => (if v272 = v275.1 then some (Sum.inl ((s15.1 + (7 : Int32)), s15.2.1, v275.2)) else none))) else none))) else none) else none) else (if ((xs (ix s15.1)) &&& (63 : Int32)) = (25 : Int32) then (if 0 ≤ ((s15.1 + (1 : Int32))).toInt ∧ ((s15.1 + (1 : Int32))).toInt < (Lg : Int) then (if 0 ≤ ((s15.1 + (2 : Int32))).toInt ∧ ((s15.1 + (2 : Int32))).toInt < (Lg : Int) then (if 0 ≤ ((s15.1 + (3 : Int32))).toInt ∧ ((s15.1 + (3 : Int32))).toInt < (Lg : Int) then (if 0 ≤ ((s15.1 + (4 : Int32))).toInt ∧ ((s15.1 + (4 : Int32))).toInt < (Lg : Int) then (if 0 ≤ ((s15.1 + (5 : Int32))).toInt ∧ ((s15.1 + (5 : Int32))).toInt < (Lg : Int) then (if tg s15.2.1 2 = (12, 6) then (Option.bind (fX11_dry s15.2.1 s15.2.2 2 (xs (ix (s15.1 + (1 : Int32)))) (xs (ix (s15.1 + (2 : Int32)))) (xs (ix (s15.1 + (3 : Int32)))) (xs (ix (s15.1 + (4 : Int32)))) (xs (ix (s15.1 + (5 : Int32))))) (fun v285 => (if tg s15.2.1 51 = (13, 86) then (Option.bind (fX12_dry s15.2.1 s15.2.2 51 (xs (ix (s15.1 + (1 : Int32)))) (xs (ix (s15.1 + (2 : Int32)))) (xs (ix (s15.1 + (3 : Int32)))) (xs (ix (s15.1 + (4 : Int32)))) (xs (ix (s15.1 + (5 : Int32))))) (fun v288 => (if v285 = v288 then some (Sum.inl ((s15.1 + (7 : Int32)), s15.2.1, s15.2.2)) else none))) else none))) else none) else none) else none) else none) else none) else none) else (if ((xs (ix s15.1)) &&& (63 : Int32)) = (26 : Int32) then (if 0 ≤ ((s15.1 + (1 : Int32))).toInt ∧ ((s15.1 + (1 : Int32))).toInt < (Lg : Int) then (if 0 ≤ ((s15.1 + (2 : Int32))).toInt ∧ ((s15.1 + (2 : Int32))).toInt < (Lg : Int) then (if tg s15.2.1 2 = (12, 6) then (Option.bind (fX11_bank s15.2.1 s15.2.2 2 (xs (ix (s15.1 + (1 : Int32)))) (xs (ix (s15.1 + (2 : Int32))))) (fun v295 => (if tg s15.2.1 51 = (13, 86) then (Option.bind (fX12_bank s15.2.1 v295.2 51 (xs (ix (s15.1 + (1 : Int32)))) (xs (ix (s15.1 + (2 : Int32))))) (fun v298 => (if v295.1 = v298.1 then some (Sum.inl ((s15.1 + (7 : Int32)), s15.2.1, v298.2)) else none))) else none))) else none) else none) else none) else (if ((xs (ix s15.1)) &&& (63 : Int32)) = (27 : Int32) then (if 0 ≤ ((s15.1 + (1 : Int32))).toInt ∧ ((s15.1 + (1 : Int32))).toInt < (Lg : Int) then (if 0 ≤ ((s15.1 + (2 : Int32))).toInt ∧ ((s15.1 + (2 : Int32))).toInt < (Lg : Int) then (if 0 ≤ ((s15.1 + (3 : Int32))).toInt ∧ ((s15.1 + (3 : Int32))).toInt < (Lg : Int) then (if tg s15.2.1 2 = (12, 6) then (Option.bind (fX11_read s15.2.1 s15.2.2 2 (xs (ix (s15.1 + (1 : Int32)))) (xs (ix (s15.1 + (2 : Int32)))) (xs (ix (s15.1 + (3 : Int32))))) (fun v306 => (if tg s15.2.1 51 = (13, 86) then (Option.bind (fX12_read s15.2.1 v306.2 51 (xs (ix (s15.1 + (1 : Int32)))) (xs (ix (s15.1 + (2 : Int32)))) (xs (ix (s15.1 + (3 : Int32))))) (fun v309 => (if v306.1 = v309.1 then some (Sum.inl ((s15.1 + (7 : Int32)), s15.2.1, v309.2)) else none))) else none))) else none) else none) else none) else none) else (if ((xs (ix s15.1)) &&& (63 : Int32)) = (28 : Int32) then (if tg s15.2.1 2 = (12, 6) then (Option.bind (fX11_unread s15.2.1 s15.2.2 2) (fun v314 => (if tg s15.2.1 51 = (13, 86) then (Option.bind (fX12_unread s15.2.1 v314.2 51) (fun v317 => (if v314.1 = v317.1 then some (Sum.inl ((s15.1 + (7 : Int32)), s15.2.1, v317.2)) else none))) else none))) else none) else (if ((xs (ix s15.1)) &&& (63 : Int32)) = (29 : Int32) then (if 0 ≤ ((s15.1 + (1 : Int32))).toInt ∧ ((s15.1 + (1 : Int32))).toInt < (Lg : Int) then (if tg s15.2.1 2 = (12, 6) then (Option.bind (fX11_find s15.2.1 s15.2.2 2 (xs (ix (s15.1 + (1 : Int32))))) (fun v323 => (if tg s15.2.1 51 = (13, 86) then (Option.bind (fX12_find s15.2.1 v323.2 51 (xs (ix (s15.1 + (1 : Int32))))) (fun v326 => (if v323.1 = v326 then some (Sum.inl ((s15.1 + (7 : Int32)), s15.2.1, v323.2)) else none))) else none))) else none) else none) else (if ((xs (ix s15.1)) &&& (63 : Int32)) = (30 : Int32) then (if 0 ≤ ((s15.1 + (1 : Int32))).toInt ∧ ((s15.1 + (1 : Int32))).toInt < (Lg : Int) then (if 0 ≤ ((s15.1 + (2 : Int32))).toInt ∧ ((s15.1 + (2 : Int32))).toInt < (Lg : Int) then (if tg s15.2.1 2 = (12, 6) then (Option.bind (fX11_bill s15.2.1 s15.2.2 2 (xs (ix (s15.1 + (1 : Int32)))) (xs (ix (s15.1 + (2 : Int32))))) (fun v333 => (if tg s15.2.1 51 = (13, 86) then (Option.bind (fX12_bill s15.2.1 v333.2 51 (xs (ix (s15.1 + (1 : Int32)))) (xs (ix (s15.1 + (2 : Int32))))) (fun v336 => (if v333.1 = v336.1 then some (Sum.inl ((s15.1 + (7 : Int32)), s15.2.1, v336.2)) else none))) else none))) else none) else none) else none) else (if ((xs (ix s15.1)) &&& (63 : Int32)) = (31 : Int32) then (if 0 ≤ ((s15.1 + (1 : Int32))).toInt ∧ ((s15.1 + (1 : Int32))).toInt < (Lg : Int) then (if 0 ≤ ((s15.1 + (2 : Int32))).toInt ∧ ((s15.1 + (2 : Int32))).toInt < (Lg : Int) then (if tg s15.2.1 2 = (12, 6) then (Option.bind (fX11_pay s15.2.1 s15.2.2 2 (xs (ix (s15.1 + (1 : Int32)))) (xs (ix (s15.1 + (2 : Int32))))) (fun v343 => (if tg s15.2.1 51 = (13, 86) then (Option.bind (fX12_pay s15.2.1 v343.2 51 (xs (ix (s15.1 + (1 : Int32)))) (xs (ix (s15.1 + (2 : Int32))))) (fun v346 => (if v343.1 = v346.1 then some (Sum.inl ((s15.1 + (7 : Int32)), s15.2.1, v346.2)) else none))) else none))) else none) else none) else none) else (if ((xs (ix s15.1)) &&& (63 : Int32)) = (32 : Int32) then (if 0 ≤ ((s15.1 + (1 : Int32))).toInt ∧ ((s15.1 + (1 : Int32))).toInt < (Lg : Int) then (if 0 ≤ ((s15.1 + (2 : Int32))).toInt ∧ ((s15.1 + (2 : Int32))).toInt < (Lg : Int) then (if 0 ≤ ((s15.1 + (3 : Int32))).toInt ∧ ((s15.1 + (3 : Int32))).toInt < (Lg : Int) then (if tg s15.2.1 2 = (12, 6) then (Option.bind (fX11_debt s15.2.1 s15.2.2 2 (xs (ix (s15.1 + (1 : Int32)))) (xs (ix (s15.1 + (2 : Int32)))) (xs (ix (s15.1 + (3 : Int32))))) (fun v354 => (if tg s15.2.1 51 = (13, 86) then (Option.bind (fX12_debt s15.2.1 v354.2 51 (xs (ix (s15.1 + (1 : Int32)))) (xs (ix (s15.1 + (2 : Int32)))) (xs (ix (s15.1 + (3 : Int32))))) (fun v357 => (if v354.1 = v357.1 then some (Sum.inl ((s15.1 + (7 : Int32)), s15.2.1, v357.2)) else none))) else none))) else none) else none) else none) else none) else (if ((xs (ix s15.1)) &&& (63 : Int32)) = (33 : Int32) then (if 0 ≤ ((s15.1 + (1 : Int32))).toInt ∧ ((s15.1 + (1 : Int32))).toInt < (Lg : Int) then (if 0 ≤ ((s15.1 + (2 : Int32))).toInt ∧ ((s15.1 + (2 : Int32))).toInt < (Lg : Int) then (if tg s15.2.1 2 = (12, 6) then (Option.bind (fX11_failed s15.2.1 s15.2.2 2 (xs (ix (s15.1 + (1 : Int32)))) (xs (ix (s15.1 + (2 : Int32))))) (fun v364 => (if tg s15.2.1 51 = (13, 86) then (Option.bind (fX12_failed s15.2.1 s15.2.2 51 (xs (ix (s15.1 + (1 : Int32)))) (xs (ix (s15.1 + (2 : Int32))))) (fun v367 => (if v364 = v367 then some (Sum.inl ((s15.1 + (7 : Int32)), s15.2.1, s15.2.2)) else none))) else none))) else none) else none) else none) else (if ((xs (ix s15.1)) &&& (63 : Int32)) = (34 : Int32) then (if 0 ≤ ((s15.1 + (1 : Int32))).toInt ∧ ((s15.1 + (1 : Int32))).toInt < (Lg : Int) then (if 0 ≤ ((s15.1 + (2 : Int32))).toInt ∧ ((s15.1 + (2 : Int32))).toInt < (Lg : Int) then (if tg s15.2.1 2 = (12, 6) then (Option.bind (fX11_shares s15.2.1 s15.2.2 2 (xs (ix (s15.1 + (1 : Int32)))) (xs (ix (s15.1 + (2 : Int32))))) (fun v374 => (if tg s15.2.1 51 = (13, 86) then (Option.bind (fX12_shares s15.2.1 v374.2 51 (xs (ix (s15.1 + (1 : Int32)))) (xs (ix (s15.1 + (2 : Int32))))) (fun v377 => (if v374.1 = v377.1 then some (Sum.inl ((s15.1 + (7 : Int32)), s15.2.1, v377.2)) else none))) else none))) else none) else none) else none) else (if ((xs (ix s15.1)) &&& (63 : Int32)) = (35 : Int32) then (if 0 ≤ ((s15.1 + (1 : Int32))).toInt ∧ ((s15.1 + (1 : Int32))).toInt < (Lg : Int) then (if 0 ≤ ((s15.1 + (2 : Int32))).toInt ∧ ((s15.1 + (2 : Int32))).toInt < (Lg : Int) then (if 0 ≤ ((s15.1 + (3 : Int32))).toInt ∧ ((s15.1 + (3 : Int32))).toInt < (Lg : Int) then (if 0 ≤ ((s15.1 + (4 : Int32))).toInt ∧ ((s15.1 + (4 : Int32))).toInt < (Lg : Int) then (if tg s15.2.1 2 = (12, 6) then (Option.bind (fX11_pass s15.2.1 s15.2.2 2 (xs (ix (s15.1 + (1 : Int32)))) (xs (ix (s15.1 + (2 : Int32)))) (xs (ix (s15.1 + (3 : Int32)))) (xs (ix (s15.1 + (4 : Int32))))) (fun v386 => (if tg s15.2.1 51 = (13, 86) then (Option.bind (fX12_pass s15.2.1 v386.2 51 (xs (ix (s15.1 + (1 : Int32)))) (xs (ix (s15.1 + (2 : Int32)))) (xs (ix (s15.1 + (3 : Int32)))) (xs (ix (s15.1 + (4 : Int32))))) (fun v389 => (if v386.1 = v389.1 then some (Sum.inl ((s15.1 + (7 : Int32)), s15.2.1, v389.2)) else none))) else none))) else none) else none) else none) else none) else none) else (if ((xs (ix s15.1)) &&& (63 : Int32)) = (36 : Int32) then (if 0 ≤ ((s15.1 + (1 : Int32))).toInt ∧ ((s15.1 + (1 : Int32))).toInt < (Lg : Int) then (if 0 ≤ ((s15.1 + (2 : Int32))).toInt ∧ ((s15.1 + (2 : Int32))).toInt < (Lg : Int) then (if tg s15.2.1 2 = (12, 6) then (Option.bind (fX11_had s15.2.1 s15.2.2 2 (xs (ix (s15.1 + (1 : Int32)))) (xs (ix (s15.1 + (2 : Int32))))) (fun v396 => (if tg s15.2.1 51 = (13, 86) then (Option.bind (fX12_had s15.2.1 s15.2.2 51 (xs (ix (s15.1 + (1 : Int32)))) (xs (ix (s15.1 + (2 : Int32))))) (fun v399 => (if v396 = v399 then some (Sum.inl ((s15.1 + (7 : Int32)), s15.2.1, s15.2.2)) else none))) else none))) else none) else none) else none) else (if ((xs (ix s15.1)) &&& (63 : Int32)) = (37 : Int32) then (if 0 ≤ ((s15.1 + (1 : Int32))).toInt ∧ ((s15.1 + (1 : Int32))).toInt < (Lg : Int) then (if 0 ≤ ((s15.1 + (2 : Int32))).toInt ∧ ((s15.1 + (2 : Int32))).toInt < (Lg : Int) then (if 0 ≤ ((s15.1 + (3 : Int32))).toInt ∧ ((s15.1 + (3 : Int32))).toInt < (Lg : Int) then (if tg s15.2.1 2 = (12, 6) then (Option.bind (fX11_dividend s15.2.1 s15.2.2 2 (xs (ix (s15.1 + (1 : Int32)))) (xs (ix (s15.1 + (2 : Int32)))) (xs (ix (s15.1 + (3 : Int32))))) (fun v407 => (if tg s15.2.1 51 = (13, 86) then (Option.bind (fX12_dividend s15.2.1 s15.2.2 51 (xs (ix (s15.1 + (1 : Int32)))) (xs (ix (s15.1 + (2 : Int32)))) (xs (ix (s15.1 + (3 : Int32))))) (fun v410 => (if v407 = v410 then some (Sum.inl ((s15.1 + (7 : Int32)), s15.2.1, s15.2.2)) else none))) else none))) else none) else none) else none) else none) else (if ((xs (ix s15.1)) &&& (63 : Int32)) = (38 : Int32) then (if 0 ≤ ((s15.1 + (1 : Int32))).toInt ∧ ((s15.1 + (1 : Int32))).toInt < (Lg : Int) then (if tg s15.2.1 2 = (12, 6) then (Option.bind (fX11_rate s15.2.1 s15.2.2 2 (xs (ix (s15.1 + (1 : Int32))))) (fun v416 => (if tg s15.2.1 51 = (13, 86) then (Option.bind (fX12_rate s15.2.1 v416.2 51 (xs (ix (s15.1 + (1 : Int32))))) (fun v419 => (if v416.1 = v419.1 then some (Sum.inl ((s15.1 + (7 : Int32)), s15.2.1, v419.2)) else none))) else none))) else none) else none) else (if ((xs (ix s15.1)) &&& (63 : Int32)) = (39 : Int32) then (if 0 ≤ ((s15.1 + (1 : Int32))).toInt ∧ ((s15.1 + (1 : Int32))).toInt < (Lg : Int) then (if tg s15.2.1 2 = (12, 6) then (Option.bind (fX11_over s15.2.1 s15.2.2 2 (xs (ix (s15.1 + (1 : Int32))))) (fun v425 => (if tg s15.2.1 51 = (13, 86) then (Option.bind (fX12_over s15.2.1 s15.2.2 51 (xs (ix (s15.1 + (1 : Int32))))) (fun v428 => (if v425 = v428 then some (Sum.inl ((s15.1 + (7 : Int32)), s15.2.1, s15.2.2)) else none))) else none))) else none) else none) else (if ((xs (ix s15.1)) &&& (63 : Int32)) = (40 : Int32) then (if 0 ≤ ((s15.1 + (1 : Int32))).toInt ∧ ((s15.1 + (1 : Int32))).toInt < (Lg : Int) then (if tg s15.2.1 2 = (12, 6) then (Option.bind (fX11_bestPence s15.2.1 s15.2.2 2 (xs (ix (s15.1 + (1 : Int32))))) (fun v434 => (if tg s15.2.1 51 = (13, 86) then (Option.bind (fX12_bestPence s15.2.1 s15.2.2 51 (xs (ix (s15.1 + (1 : Int32))))) (fun v437 => (if v434 = v437 then some (Sum.inl ((s15.1 + (7 : Int32)), s15.2.1, s15.2.2)) else none))) else none))) else none) else none) else (if ((xs (ix s15.1)) &&& (63 : Int32)) = (41 : Int32) then (if 0 ≤ ((s15.1 + (1 : Int32))).toInt ∧ ((s15.1 + (1 : Int32))).toInt < (Lg : Int) then (if 0 ≤ ((s15.1 + (2 : Int32))).toInt ∧ ((s15.1 + (2 : Int32))).toInt < (Lg : Int) then (if 0 ≤ ((s15.1 + (3 : Int32))).toInt ∧ ((s15.1 + (3 : Int32))).toInt < (Lg : Int) then (if tg s15.2.1 2 = (12, 6) then (Option.bind (fX11_work s15.2.1 s15.2.2 2 (xs (ix (s15.1 + (1 : Int32)))) (xs (ix (s15.1 + (2 : Int32)))) (xs (ix (s15.1 + (3 : Int32))))) (fun v445 => (if tg s15.2.1 51 = (13, 86) then (Option.bind (fX12_work s15.2.1 v445.2 51 (xs (ix (s15.1 + (1 : Int32)))) (xs (ix (s15.1 + (2 : Int32)))) (xs (ix (s15.1 + (3 : Int32))))) (fun v448 => (if v445.1 = v448.1 then some (Sum.inl ((s15.1 + (7 : Int32)), s15.2.1, v448.2)) else none))) else none))) else none) else none) else none) else none) else (if ((xs (ix s15.1)) &&& (63 : Int32)) = (42 : Int32) then (if 0 ≤ ((s15.1 + (1 : Int32))).toInt ∧ ((s15.1 + (1 : Int32))).toInt < (Lg : Int) then (if 0 ≤ ((s15.1 + (2 : Int32))).toInt ∧ ((s15.1 + (2 : Int32))).toInt < (Lg : Int) then (if tg s15.2.1 2 = (12, 6) then (Option.bind (fX11_plan s15.2.1 s15.2.2 2 (xs (ix (s15.1 + (1 : Int32)))) (xs (ix (s15.1 + (2 : Int32))))) (fun v455 => (if tg s15.2.1 51 = (13, 86) then (Option.bind (fX12_plan s15.2.1 s15.2.2 51 (xs (ix (s15.1 + (1 : Int32)))) (xs (ix (s15.1 + (2 : Int32))))) (fun v458 => (if v455 = v458 then some (Sum.inl ((s15.1 + (7 : Int32)), s15.2.1, s15.2.2)) else none))) else none))) else none) else none) else none) else (if ((xs (ix s15.1)) &&& (63 : Int32)) = (43 : Int32) then (if 0 ≤ ((s15.1 + (1 : Int32))).toInt ∧ ((s15.1 + (1 : Int32))).toInt < (Lg : Int) then (if tg s15.2.1 2 = (12, 6) then (Option.bind (fX11_count s15.2.1 s15.2.2 2 (xs (ix (s15.1 + (1 : Int32))))) (fun v464 => (if tg s15.2.1 51 = (13, 86) then (Option.bind (fX12_count s15.2.1 s15.2.2 51 (xs (ix (s15.1 + (1 : Int32))))) (fun v467 => (if v464 = v467 then some (Sum.inl ((s15.1 + (7 : Int32)), s15.2.1, s15.2.2)) else none))) else none))) else none) else none) else (if ((xs (ix s15.1)) &&& (63 : Int32)) = (44 : Int32) then (if tg s15.2.1 2 = (12, 6) then (Option.bind (fX11_digest s15.2.1 s15.2.2 2) (fun v472 => (if tg s15.2.1 51 = (13, 86) then (Option.bind (fX12_digest s15.2.1 s15.2.2 51) (fun v475 => (if (lg_cmp v472 v475.1) = 0 then some (Sum.inl ((s15.1 + (7 : Int32)), s15.2.1, v475.2)) else none))) else none))) else none) else some (Sum.inl ((s15.1 + (7 : Int32)), s15.2.1, s15.2.2))))))))))))))))))))))))))))))))))))))))))))))) else none)))
theorem lc_rf (x : Int64) : lg_cmp x x = 0 := by
  unfold lg_cmp
  rw [if_neg (fun h => absurd ((i64_lt _ _).mp h) (by omega)), if_pos rfl]
theorem pu_rf {α β : Type} (x : α) (f : α → β) : pu x f = f x := rfl
theorem law_red (xs : Nat → Int32) (L : Nat) : fL_law [] (fun _ _ => 0, fun _ _ => 0, fun _ _ => 0) xs L = loop (lawF xs L) ((0 : Int32), zE, mk wE) := by
  show fL_law [] (mk []) xs L = _
  unfold fL_law
  rw [show ([] : Shp).length + 2 = 2 from rfl, al (show [] ++ [(12, 6)] = sz0 from rfl) (show wqn 2 :: [] = sw1 from rfl), startC, Option.bind_some, pu_rf]
  rw [show (sz48, mk sw130).1 = sz48 from rfl, show (sz48, mk sw130).2 = mk sw130 from rfl, zl48, al zq49 (show wqn 51 :: sw130 = sw131 from rfl), startM, Option.bind_some, pu_rf]
  rfl
set_option maxHeartbeats 8000000 in
set_option maxRecDepth 4000 in
theorem law_run (xs : Nat → Int32) {L i : Nat} {Z : Shp} {M : Mem} (hL : L ≤ 3584) (hi : i + 7 ≤ L) (h : IAll Z M) : ∃ Z1 M1, lawF xs L (nI i, Z, M) = some (Sum.inl (nI (i + 7), Z1, M1)) ∧ IAll Z1 M1 := by
  have hZ : OKZ Z := h.1
  have kk : ∀ c : Nat, c < 7 → 0 ≤ (nI i + nI c).toInt ∧ (nI i + nI c).toInt < (L : Int) := by
    intro c hc
    rw [nI_add, nI_toInt (by omega)]
    omega
  have k0 : 0 ≤ (nI i).toInt ∧ (nI i).toInt < (L : Int) := by
    rw [nI_toInt (by omega)]
    omega
  have k1 : 0 ≤ (nI i + (1 : Int32)).toInt ∧ (nI i + (1 : Int32)).toInt < (L : Int) := kk 1 (by omega)
  have k2 : 0 ≤ (nI i + (2 : Int32)).toInt ∧ (nI i + (2 : Int32)).toInt < (L : Int) := kk 2 (by omega)
  have k3 : 0 ≤ (nI i + (3 : Int32)).toInt ∧ (nI i + (3 : Int32)).toInt < (L : Int) := kk 3 (by omega)
  have k4 : 0 ≤ (nI i + (4 : Int32)).toInt ∧ (nI i + (4 : Int32)).toInt < (L : Int) := kk 4 (by omega)
  have k5 : 0 ≤ (nI i + (5 : Int32)).toInt ∧ (nI i + (5 : Int32)).toInt < (L : Int) := kk 5 (by omega)
  have k6 : 0 ≤ (nI i + (6 : Int32)).toInt ∧ (nI i + (6 : Int32)).toInt < (L : Int) := kk 6 (by omega)
  have k7 : nI i + (7 : Int32) = nI (i + 7) := nI_add i 7
  have kl : ¬ nI L - (7 : Int32) < nI i := by
    have b1 := nI_toInt (n := L) (by omega)
    have b2 := nI_toInt (n := i) (by omega)
    have b3 : (7 : Int32).toInt = 7 := by decide
    rw [i32_lt, subI (by omega) (by omega)]
    omega
  have t2 := tg_2 hZ
  have t51 := tg_51 hZ
  unfold lawF
  dsimp only
  rw [k7, if_neg kl, if_pos k0]
  obtain ⟨c, hc⟩ : ∃ c, c = xs (ix (nI i)) &&& 63 := ⟨_, rfl⟩
  rw [← hc]
  by_cases c1 : c = (0 : Int32)
  · obtain ⟨r, M1, M2, e1, e2, h2⟩ := all_pound h (xs (ix (nI i + (1 : Int32)))) (xs (ix (nI i + (2 : Int32)))) (xs (ix (nI i + (3 : Int32))))
    rw [if_pos c1, if_pos k1, if_pos k2, if_pos k3, if_pos t2, e1, Option.bind_some, if_pos t51, e2, Option.bind_some, if_pos rfl]
    exact ⟨_, _, rfl, h2⟩
  rw [if_neg c1]
  by_cases c2 : c = (1 : Int32)
  · obtain ⟨r, M1, M2, e1, e2, h2⟩ := all_summit h (xs (ix (nI i + (1 : Int32))))
    rw [if_pos c2, if_pos k1, if_pos t2, e1, Option.bind_some, if_pos t51, e2, Option.bind_some, if_pos rfl]
    exact ⟨_, _, rfl, h2⟩
  rw [if_neg c2]
  by_cases c3 : c = (2 : Int32)
  · obtain ⟨r, M1, M2, e1, e2, h2⟩ := all_lock h (xs (ix (nI i + (1 : Int32)))) (xs (ix (nI i + (2 : Int32)))) (xs (ix (nI i + (3 : Int32))))
    rw [if_pos c3, if_pos k1, if_pos k2, if_pos k3, if_pos t2, e1, Option.bind_some, if_pos t51, e2, Option.bind_some, if_pos rfl]
    exact ⟨_, _, rfl, h2⟩
  rw [if_neg c3]
  by_cases c4 : c = (3 : Int32)
  · obtain ⟨r, Z1, M1, M2, e1, e2, h2⟩ := all_taker h (xs (ix (nI i + (1 : Int32)))) (xs (ix (nI i + (2 : Int32)))) (xs (ix (nI i + (3 : Int32)))) (xs (ix (nI i + (4 : Int32))))
    rw [if_pos c4, if_pos k1, if_pos k2, if_pos k3, if_pos k4, if_pos t2, e1, Option.bind_some, if_pos (tg_51 h2.1), e2, Option.bind_some, if_pos rfl]
    exact ⟨_, _, rfl, h2⟩
  rw [if_neg c4]
  by_cases c5 : c = (4 : Int32)
  · obtain ⟨r, e1, e2⟩ := all_as h (xs (ix (nI i + (1 : Int32)))) (xs (ix (nI i + (2 : Int32))))
    rw [if_pos c5, if_pos k1, if_pos k2, if_pos t2, e1, Option.bind_some, if_pos t51, e2, Option.bind_some, if_pos rfl]
    exact ⟨_, _, rfl, h⟩
  rw [if_neg c5]
  by_cases c6 : c = (5 : Int32)
  · obtain ⟨r, e1, e2⟩ := all_acts h (xs (ix (nI i + (1 : Int32)))) (xs (ix (nI i + (2 : Int32)))) (xs (ix (nI i + (3 : Int32))))
    rw [if_pos c6, if_pos k1, if_pos k2, if_pos k3, if_pos t2, e1, Option.bind_some, if_pos t51, e2, Option.bind_some, if_pos rfl]
    exact ⟨_, _, rfl, h⟩
  rw [if_neg c6]
  by_cases c7 : c = (6 : Int32)
  · obtain ⟨r, Z1, M1, M2, e1, e2, h2⟩ := all_boat h (xs (ix (nI i + (1 : Int32)))) (xs (ix (nI i + (2 : Int32)))) (xs (ix (nI i + (3 : Int32)))) (xs (ix (nI i + (4 : Int32)))) (xs (ix (nI i + (5 : Int32)))) (xs (ix (nI i + (6 : Int32))))
    rw [if_pos c7, if_pos k1, if_pos k2, if_pos k3, if_pos k4, if_pos k5, if_pos k6, if_pos t2, e1, Option.bind_some, if_pos (tg_51 h2.1), e2, Option.bind_some, if_pos rfl]
    exact ⟨_, _, rfl, h2⟩
  rw [if_neg c7]
  by_cases c8 : c = (7 : Int32)
  · obtain ⟨r, M1, M2, e1, e2, h2⟩ := all_hour h (xs (ix (nI i + (1 : Int32))))
    rw [if_pos c8, if_pos k1, if_pos t2, e1, Option.bind_some, if_pos t51, e2, Option.bind_some, if_pos rfl]
    exact ⟨_, _, rfl, h2⟩
  rw [if_neg c8]
  by_cases c9 : c = (8 : Int32)
  · obtain ⟨r, M1, M2, e1, e2, h2⟩ := all_hours h (xs (ix (nI i + (1 : Int32)))) (xs (ix (nI i + (2 : Int32))))
    rw [if_pos c9, if_pos k1, if_pos k2, if_pos t2, e1, Option.bind_some, if_pos t51, e2, Option.bind_some, if_pos rfl]
    exact ⟨_, _, rfl, h2⟩
  rw [if_neg c9]
  by_cases c10 : c = (9 : Int32)
  · obtain ⟨r, e1, e2⟩ := all_at h (xs (ix (nI i + (1 : Int32)))) (xs (ix (nI i + (2 : Int32))))
    rw [if_pos c10, if_pos k1, if_pos k2, if_pos t2, e1, Option.bind_some, if_pos t51, e2, Option.bind_some, if_pos rfl]
    exact ⟨_, _, rfl, h⟩
  rw [if_neg c10]
  by_cases c11 : c = (10 : Int32)
  · obtain ⟨r, e1, e2⟩ := all_lockIs h (xs (ix (nI i + (1 : Int32)))) (xs (ix (nI i + (2 : Int32))))
    rw [if_pos c11, if_pos k1, if_pos k2, if_pos t2, e1, Option.bind_some, if_pos t51, e2, Option.bind_some, if_pos rfl]
    exact ⟨_, _, rfl, h⟩
  rw [if_neg c11]
  by_cases c12 : c = (11 : Int32)
  · obtain ⟨r, e1, e2⟩ := all_now h (xs (ix (nI i + (1 : Int32)))) (xs (ix (nI i + (2 : Int32))))
    rw [if_pos c12, if_pos k1, if_pos k2, if_pos t2, e1, Option.bind_some, if_pos t51, e2, Option.bind_some, if_pos rfl]
    exact ⟨_, _, rfl, h⟩
  rw [if_neg c12]
  by_cases c13 : c = (12 : Int32)
  · obtain ⟨r, e1, e2⟩ := all_sum h (xs (ix (nI i + (1 : Int32))))
    rw [if_pos c13, if_pos k1, if_pos t2, e1, Option.bind_some, if_pos t51, e2, Option.bind_some, if_pos (lc_rf r)]
    exact ⟨_, _, rfl, h⟩
  rw [if_neg c13]
  by_cases c14 : c = (13 : Int32)
  · obtain ⟨r, M1, M2, e1, e2, h2⟩ := all_letters h ((((xs (ix (nI i + (1 : Int32)))).toInt64) <<< ((32 : Int32).toInt64 &&& 63)) ||| (((xs (ix (nI i + (2 : Int32)))).toInt64) &&& (4294967295 : Int64)))
    rw [if_pos c14, if_pos k1, if_pos k2, if_pos t2, e1, Option.bind_some, if_pos t51, e2, Option.bind_some, if_pos rfl]
    exact ⟨_, _, rfl, h2⟩
  rw [if_neg c14]
  by_cases c15 : c = (14 : Int32)
  · obtain ⟨r, M1, M2, e1, e2, h2⟩ := all_blank h 
    rw [if_pos c15, if_pos t2, e1, Option.bind_some, if_pos t51, e2, Option.bind_some, if_pos rfl]
    exact ⟨_, _, rfl, h2⟩
  rw [if_neg c15]
  by_cases c16 : c = (15 : Int32)
  · obtain ⟨r, M2, e1, e2, h2⟩ := all_fault h 
    rw [if_pos c16, if_pos t2, e1, Option.bind_some, if_pos t51, e2, Option.bind_some, if_pos rfl]
    exact ⟨_, _, rfl, h2⟩
  rw [if_neg c16]
  by_cases c17 : c = (16 : Int32)
  · obtain ⟨r, Z1, M1, M2, e1, e2, h2⟩ := all_text h 
    rw [if_pos c17, if_pos t2, e1, Option.bind_some, if_pos (tg_51 h2.1), e2, Option.bind_some, if_pos rfl]
    exact ⟨_, _, rfl, h2⟩
  rw [if_neg c17]
  by_cases c18 : c = (17 : Int32)
  · obtain ⟨r, M1, M2, e1, e2, h2⟩ := all_force h (xs (ix (nI i + (1 : Int32)))) (xs (ix (nI i + (2 : Int32)))) (xs (ix (nI i + (3 : Int32))))
    rw [if_pos c18, if_pos k1, if_pos k2, if_pos k3, if_pos t2, e1, Option.bind_some, if_pos t51, e2, Option.bind_some, if_pos rfl]
    exact ⟨_, _, rfl, h2⟩
  rw [if_neg c18]
  by_cases c19 : c = (18 : Int32)
  · obtain ⟨r, M2, e1, e2, h2⟩ := all_speaks h (xs (ix (nI i + (1 : Int32)))) (xs (ix (nI i + (2 : Int32)))) (xs (ix (nI i + (3 : Int32))))
    rw [if_pos c19, if_pos k1, if_pos k2, if_pos k3, if_pos t2, e1, Option.bind_some, if_pos t51, e2, Option.bind_some, if_pos rfl]
    exact ⟨_, _, rfl, h2⟩
  rw [if_neg c19]
  by_cases c20 : c = (19 : Int32)
  · obtain ⟨r, M2, e1, e2, h2⟩ := all_quarrel h (xs (ix (nI i + (1 : Int32)))) (xs (ix (nI i + (2 : Int32)))) (xs (ix (nI i + (3 : Int32))))
    rw [if_pos c20, if_pos k1, if_pos k2, if_pos k3, if_pos t2, e1, Option.bind_some, if_pos t51, e2, Option.bind_some, if_pos rfl]
    exact ⟨_, _, rfl, h2⟩
  rw [if_neg c20]
  by_cases c21 : c = (20 : Int32)
  · obtain ⟨r, M2, e1, e2, h2⟩ := all_toll h (xs (ix (nI i + (1 : Int32)))) (xs (ix (nI i + (2 : Int32))))
    rw [if_pos c21, if_pos k1, if_pos k2, if_pos t2, e1, Option.bind_some, if_pos t51, e2, Option.bind_some, if_pos rfl]
    exact ⟨_, _, rfl, h2⟩
  rw [if_neg c21]
  by_cases c22 : c = (21 : Int32)
  · obtain ⟨b, hb, hz⟩ : ∃ b, (if xs (ix (nI i + (1 : Int32))) = 0 then some (0 : Int32) else some (1 : Int32)) = some b ∧ zb b := by
      by_cases q : xs (ix (nI i + (1 : Int32))) = 0
      · exact ⟨0, if_pos q, Or.inl rfl⟩
      · exact ⟨1, if_neg q, Or.inr rfl⟩
    obtain ⟨r, M1, M2, e1, e2, h2⟩ := all_comer h b (xs (ix (nI i + (2 : Int32)))) (xs (ix (nI i + (3 : Int32)))) hz
    rw [if_pos c22, if_pos k1, hb, Option.bind_some, if_pos k2, if_pos k3, if_pos t2, e1, Option.bind_some, Option.bind_some, if_pos t51, e2, Option.bind_some, if_pos rfl]
    exact ⟨_, _, rfl, h2⟩
  rw [if_neg c22]
  by_cases c23 : c = (22 : Int32)
  · obtain ⟨r, M1, M2, e1, e2, h2⟩ := all_clear h 
    rw [if_pos c23, if_pos t2, e1, Option.bind_some, if_pos t51, e2, Option.bind_some, if_pos rfl]
    exact ⟨_, _, rfl, h2⟩
  rw [if_neg c23]
  by_cases c24 : c = (23 : Int32)
  · obtain ⟨r, Z1, M1, M2, e1, e2, h2⟩ := all_turn h (xs (ix (nI i + (1 : Int32))))
    rw [if_pos c24, if_pos k1, if_pos t2, e1, Option.bind_some, if_pos (tg_51 h2.1), e2, Option.bind_some, if_pos rfl]
    exact ⟨_, _, rfl, h2⟩
  rw [if_neg c24]
  by_cases c25 : c = (24 : Int32)
  · obtain ⟨r, M2, e1, e2, h2⟩ := all_judge h (xs (ix (nI i + (1 : Int32))))
    rw [if_pos c25, if_pos k1, if_pos t2, e1, Option.bind_some, if_pos t51, e2, Option.bind_some, if_pos rfl]
    exact ⟨_, _, rfl, h2⟩
  rw [if_neg c25]
  by_cases c26 : c = (25 : Int32)
  · obtain ⟨r, e1, e2⟩ := all_dry h (xs (ix (nI i + (1 : Int32)))) (xs (ix (nI i + (2 : Int32)))) (xs (ix (nI i + (3 : Int32)))) (xs (ix (nI i + (4 : Int32)))) (xs (ix (nI i + (5 : Int32))))
    rw [if_pos c26, if_pos k1, if_pos k2, if_pos k3, if_pos k4, if_pos k5, if_pos t2, e1, Option.bind_some, if_pos t51, e2, Option.bind_some, if_pos rfl]
    exact ⟨_, _, rfl, h⟩
  rw [if_neg c26]
  by_cases c27 : c = (26 : Int32)
  · obtain ⟨r, M1, M2, e1, e2, h2⟩ := all_bank h (xs (ix (nI i + (1 : Int32)))) (xs (ix (nI i + (2 : Int32))))
    rw [if_pos c27, if_pos k1, if_pos k2, if_pos t2, e1, Option.bind_some, if_pos t51, e2, Option.bind_some, if_pos rfl]
    exact ⟨_, _, rfl, h2⟩
  rw [if_neg c27]
  by_cases c28 : c = (27 : Int32)
  · obtain ⟨r, M1, M2, e1, e2, h2⟩ := all_read h (xs (ix (nI i + (1 : Int32)))) (xs (ix (nI i + (2 : Int32)))) (xs (ix (nI i + (3 : Int32))))
    rw [if_pos c28, if_pos k1, if_pos k2, if_pos k3, if_pos t2, e1, Option.bind_some, if_pos t51, e2, Option.bind_some, if_pos rfl]
    exact ⟨_, _, rfl, h2⟩
  rw [if_neg c28]
  by_cases c29 : c = (28 : Int32)
  · obtain ⟨r, M1, M2, e1, e2, h2⟩ := all_unread h 
    rw [if_pos c29, if_pos t2, e1, Option.bind_some, if_pos t51, e2, Option.bind_some, if_pos rfl]
    exact ⟨_, _, rfl, h2⟩
  rw [if_neg c29]
  by_cases c30 : c = (29 : Int32)
  · obtain ⟨r, M1, e1, e2, h2⟩ := all_find h (xs (ix (nI i + (1 : Int32))))
    rw [if_pos c30, if_pos k1, if_pos t2, e1, Option.bind_some, if_pos t51, e2, Option.bind_some, if_pos rfl]
    exact ⟨_, _, rfl, h2⟩
  rw [if_neg c30]
  by_cases c31 : c = (30 : Int32)
  · obtain ⟨r, M1, M2, e1, e2, h2⟩ := all_bill h (xs (ix (nI i + (1 : Int32)))) (xs (ix (nI i + (2 : Int32))))
    rw [if_pos c31, if_pos k1, if_pos k2, if_pos t2, e1, Option.bind_some, if_pos t51, e2, Option.bind_some, if_pos rfl]
    exact ⟨_, _, rfl, h2⟩
  rw [if_neg c31]
  by_cases c32 : c = (31 : Int32)
  · obtain ⟨r, M1, M2, e1, e2, h2⟩ := all_pay h (xs (ix (nI i + (1 : Int32)))) (xs (ix (nI i + (2 : Int32))))
    rw [if_pos c32, if_pos k1, if_pos k2, if_pos t2, e1, Option.bind_some, if_pos t51, e2, Option.bind_some, if_pos rfl]
    exact ⟨_, _, rfl, h2⟩
  rw [if_neg c32]
  by_cases c33 : c = (32 : Int32)
  · obtain ⟨r, M1, M2, e1, e2, h2⟩ := all_debt h (xs (ix (nI i + (1 : Int32)))) (xs (ix (nI i + (2 : Int32)))) (xs (ix (nI i + (3 : Int32))))
    rw [if_pos c33, if_pos k1, if_pos k2, if_pos k3, if_pos t2, e1, Option.bind_some, if_pos t51, e2, Option.bind_some, if_pos rfl]
    exact ⟨_, _, rfl, h2⟩
  rw [if_neg c33]
  by_cases c34 : c = (33 : Int32)
  · obtain ⟨r, e1, e2⟩ := all_failed h (xs (ix (nI i + (1 : Int32)))) (xs (ix (nI i + (2 : Int32))))
    rw [if_pos c34, if_pos k1, if_pos k2, if_pos t2, e1, Option.bind_some, if_pos t51, e2, Option.bind_some, if_pos rfl]
    exact ⟨_, _, rfl, h⟩
  rw [if_neg c34]
  by_cases c35 : c = (34 : Int32)
  · obtain ⟨r, M1, M2, e1, e2, h2⟩ := all_shares h (xs (ix (nI i + (1 : Int32)))) (xs (ix (nI i + (2 : Int32))))
    rw [if_pos c35, if_pos k1, if_pos k2, if_pos t2, e1, Option.bind_some, if_pos t51, e2, Option.bind_some, if_pos rfl]
    exact ⟨_, _, rfl, h2⟩
  rw [if_neg c35]
  by_cases c36 : c = (35 : Int32)
  · obtain ⟨r, M1, M2, e1, e2, h2⟩ := all_pass h (xs (ix (nI i + (1 : Int32)))) (xs (ix (nI i + (2 : Int32)))) (xs (ix (nI i + (3 : Int32)))) (xs (ix (nI i + (4 : Int32))))
    rw [if_pos c36, if_pos k1, if_pos k2, if_pos k3, if_pos k4, if_pos t2, e1, Option.bind_some, if_pos t51, e2, Option.bind_some, if_pos rfl]
    exact ⟨_, _, rfl, h2⟩
  rw [if_neg c36]
  by_cases c37 : c = (36 : Int32)
  · obtain ⟨r, e1, e2⟩ := all_had h (xs (ix (nI i + (1 : Int32)))) (xs (ix (nI i + (2 : Int32))))
    rw [if_pos c37, if_pos k1, if_pos k2, if_pos t2, e1, Option.bind_some, if_pos t51, e2, Option.bind_some, if_pos rfl]
    exact ⟨_, _, rfl, h⟩
  rw [if_neg c37]
  by_cases c38 : c = (37 : Int32)
  · obtain ⟨r, e1, e2⟩ := all_dividend h (xs (ix (nI i + (1 : Int32)))) (xs (ix (nI i + (2 : Int32)))) (xs (ix (nI i + (3 : Int32))))
    rw [if_pos c38, if_pos k1, if_pos k2, if_pos k3, if_pos t2, e1, Option.bind_some, if_pos t51, e2, Option.bind_some, if_pos rfl]
    exact ⟨_, _, rfl, h⟩
  rw [if_neg c38]
  by_cases c39 : c = (38 : Int32)
  · obtain ⟨r, M1, M2, e1, e2, h2⟩ := all_rate h (xs (ix (nI i + (1 : Int32))))
    rw [if_pos c39, if_pos k1, if_pos t2, e1, Option.bind_some, if_pos t51, e2, Option.bind_some, if_pos rfl]
    exact ⟨_, _, rfl, h2⟩
  rw [if_neg c39]
  by_cases c40 : c = (39 : Int32)
  · obtain ⟨r, e1, e2⟩ := all_over h (xs (ix (nI i + (1 : Int32))))
    rw [if_pos c40, if_pos k1, if_pos t2, e1, Option.bind_some, if_pos t51, e2, Option.bind_some, if_pos rfl]
    exact ⟨_, _, rfl, h⟩
  rw [if_neg c40]
  by_cases c41 : c = (40 : Int32)
  · obtain ⟨r, e1, e2⟩ := all_bestPence h (xs (ix (nI i + (1 : Int32))))
    rw [if_pos c41, if_pos k1, if_pos t2, e1, Option.bind_some, if_pos t51, e2, Option.bind_some, if_pos rfl]
    exact ⟨_, _, rfl, h⟩
  rw [if_neg c41]
  by_cases c42 : c = (41 : Int32)
  · obtain ⟨r, M1, M2, e1, e2, h2⟩ := all_work h (xs (ix (nI i + (1 : Int32)))) (xs (ix (nI i + (2 : Int32)))) (xs (ix (nI i + (3 : Int32))))
    rw [if_pos c42, if_pos k1, if_pos k2, if_pos k3, if_pos t2, e1, Option.bind_some, if_pos t51, e2, Option.bind_some, if_pos rfl]
    exact ⟨_, _, rfl, h2⟩
  rw [if_neg c42]
  by_cases c43 : c = (42 : Int32)
  · obtain ⟨r, e1, e2⟩ := all_plan h (xs (ix (nI i + (1 : Int32)))) (xs (ix (nI i + (2 : Int32))))
    rw [if_pos c43, if_pos k1, if_pos k2, if_pos t2, e1, Option.bind_some, if_pos t51, e2, Option.bind_some, if_pos rfl]
    exact ⟨_, _, rfl, h⟩
  rw [if_neg c43]
  by_cases c44 : c = (43 : Int32)
  · obtain ⟨r, e1, e2⟩ := all_count h (xs (ix (nI i + (1 : Int32))))
    rw [if_pos c44, if_pos k1, if_pos t2, e1, Option.bind_some, if_pos t51, e2, Option.bind_some, if_pos rfl]
    exact ⟨_, _, rfl, h⟩
  rw [if_neg c44]
  by_cases c45 : c = (44 : Int32)
  · obtain ⟨r, M2, e1, e2, h2⟩ := all_digest h 
    rw [if_pos c45, if_pos t2, e1, Option.bind_some, if_pos t51, e2, Option.bind_some, if_pos (lc_rf r)]
    exact ⟨_, _, rfl, h2⟩
  rw [if_neg c45]
  exact ⟨_, _, rfl, h⟩
theorem law_ok (xs : Nat → Int32) (L : Nat) (hL : L ≤ 3584) : fL_law [] (fun _ _ => 0, fun _ _ => 0, fun _ _ => 0) xs L = some () := by
  rw [law_red]
  obtain ⟨r, h1, -⟩ := loop_inv (f := lawF xs L) (fun s : Int32 × Shp × Mem => ∃ i, i ≤ 3600 ∧ s.1 = nI i ∧ IAll s.2.1 s.2.2) (fun _ : Unit => True) (fun s => 3600 - ix s.1) (by
    rintro ⟨t, Z, M⟩ ⟨i, hi, e, h⟩
    dsimp only at e h
    subst e
    by_cases c : i + 7 ≤ L
    · left
      obtain ⟨Z1, M1, g1, g2⟩ := law_run xs hL c h
      refine ⟨(nI (i + 7), Z1, M1), g1, ⟨i + 7, by omega, rfl, g2⟩, ?_⟩
      dsimp only
      rw [ix_nI (by omega), ix_nI (by omega)]
      omega
    · right
      refine ⟨(), ?_, trivial⟩
      have b1 := nI_toInt (n := L) (by omega)
      have b2 := nI_toInt (n := i) (by omega)
      have b3 : (7 : Int32).toInt = 7 := by decide
      have kl : nI L - (7 : Int32) < nI i := by
        rw [i32_lt, subI (by omega) (by omega)]
        omega
      unfold lawF
      dsimp only
      rw [if_pos kl]) ((0 : Int32), zE, mk wE) ⟨0, by omega, rfl, s_all⟩
  exact h1
