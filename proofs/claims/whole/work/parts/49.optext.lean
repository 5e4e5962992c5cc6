/-! text: the call -/
theorem nv_congr {g h : Nat → Int32} {i : Nat} : ∀ d, (∀ k, k < d → g (i + k) = h (i + k)) → nv g i d = nv h i d := by
  intro d
  induction d with
  | zero => exact fun _ => rfl
  | succ d ih =>
    intro hh
    rw [nv, nv, ih (fun k hk => hh k (by omega)), hh d (by omega)]
theorem drun_congr {g h : Nat → Int32} : ∀ f i, (∀ k, k < f → g (i + k) = h (i + k)) → drun g i f = drun h i f := by
  intro f
  induction f with
  | zero => exact fun _ _ => rfl
  | succ f ih =>
    intro i hh
    have h0 := hh 0 (by omega)
    rw [Nat.add_zero] at h0
    rw [drun, drun, h0, ih (i + 1) (fun k hk => by
      have := hh (k + 1) (by omega)
      rw [show i + 1 + k = i + (k + 1) by omega]
      exact this)]
theorem told_congr {g h : Nat → Int32} {n i : Nat} (hh : ∀ k, k < n → g k = h k) : told g n i = told h n i := by
  by_cases c : i ≤ n
  · have e := drun_congr (g := g) (h := h) (n - i) i (fun k hk => hh _ (by omega))
    have l := (drun_end (g := h) (n - i) i).1
    rw [told, told, e]
    exact nv_congr _ (fun k hk => hh _ (by omega))
  · rw [told, told, show n - i = 0 by omega]
    rfl
theorem cmpB_congr {g h : Nat → Int32} {n s : Nat} {e : En} (hh : ∀ k, k < n → g k = h k) (hs : s < n) : cmpB g n e s = cmpB h n e s := by
  rw [cmpB, cmpB, told_congr hh, hh s hs, hh (s - 1) (by omega)]
theorem cst_congr {g h : Nat → Int32} {n i : Nat} {e : En} (hh : ∀ k, k < n → g k = h k) (hi : i < n) (w : Int64 × Int64 × Int64) : cst g n e i w = cst h n e i w := by
  unfold cst
  rw [hh i hi, cmpB_congr hh hi]
theorem cw_congr {g h : Nat → Int32} {n q : Nat} {e : En} (hh : ∀ k, k < n → g k = h k) : ∀ d, q + d ≤ n → cw g n e q d = cw h n e q d := by
  intro d
  induction d with
  | zero => exact fun _ => rfl
  | succ d ih =>
    intro hd
    rw [cw, cw, ih (by omega), cst_congr hh (by omega)]
theorem txC_congr {g h : Nat → Int32} {n q : Nat} {R : List Mk} (hh : ∀ k, k < n → g k = h k) (ht : txC g n q R) : txC h n q R := by
  rcases ht with ht | ⟨h1, h2⟩
  · exact Or.inl ht
  · refine Or.inr ⟨h1, fun e => ?_⟩
    obtain ⟨b, b1, b2⟩ := h2 e
    refine ⟨b, b1, ?_⟩
    rw [← b2, cval, cval, cw_congr hh _ (by omega)]
abbrev FTextW : List (Nat × Option Nat) := [(24, some 1), (24, some 3), (51, some 43), (51, some 44), (51, some 45), (51, some 46), (51, some 47), (51, some 48), (51, some 49), (51, some 50), (51, some 53), (51, some 55), (86, none), (87, none), (88, none), (51, some 34), (51, some 35), (79, none), (80, none), (81, none), (82, none), (83, none), (84, none), (85, none)]
theorem op_text {Z : Shp} {M : Mem} (hZ : OKZ Z) (hF : Fix M) (hP : IPage M) (hI : ITexts Z M) : ∃ r Z1 M1 M2, fX11_text Z M 2 = some (r, Z1, M1) ∧ fX12_text Z1 M1 51 = some (r, M2) ∧ Ext Z Z1 ∧ IPage M2 ∧ ITexts Z1 M2 ∧ Wr Z1 FTextW [9, 102] [26] M M2 := by
  obtain ⟨n, hn, p1, p2, p3, p4⟩ := id hP
  obtain ⟨t, ht, t1, t2, t3, t4⟩ := id hI
  obtain ⟨k, Ms, hk, f1, f2, f3⟩ := faultOf_m hZ hF hn p2
  obtain ⟨x, hx, he⟩ : ∃ x, crs (rI M 78) k = some x ∧ (k = n ∨ fX2_step x (rI M 78 k) = some (-1)) := by
    rcases f3 with ⟨rfl, x, a1, a2⟩ | ⟨a0, x, a1, a2⟩
    · exact ⟨x, a1, Or.inl rfl⟩
    · exact ⟨x, a1, Or.inr a2⟩
  have hpc := page_c hZ hF hn p1 p3 hk hx he
  have hds : dis FScan [(51, some 34), (51, some 35)] = true := by decide
  have s34 : rI Ms 51 34 = nI n := by rw [f2.at hds (a := 51) (k := 34) (by simp) (by omega), p2]
  have s35 : rI Ms 51 35 = nI t := by rw [f2.at hds (a := 51) (k := 35) (by simp) (by omega), t2]
  have wS : Wr Z FTextW [9, 102] [26] M Ms := f2.mono (by decide) (by simp) (by simp)
  have kP : IPage Ms := hP.keep f2 (by decide)
  have kT : ITexts Z Ms := hI.keep (Ext_rf Z) f2 (by decide) (by decide) (by simp) (by simp) (by decide) (by decide)
  by_cases hy : k = n ∧ (¬ fX11_within x 3 6 = 0 ∨ ¬ fX11_within x 10 13 = 0)
  case neg =>
    rw [if_neg hy] at hpc
    refine ⟨-103, Z, M, Ms, by simp [fX11_text, tg_2 hZ, tg_3 hZ, tg_4 hZ, tg_5 hZ, tg_6 hZ, tg_7 hZ, tg_8 hZ, tg_24 hZ, tg_25 hZ, tg_26 hZ, tg_27 hZ, tg_28 hZ, tg_29 hZ, tg_30 hZ, tg_31 hZ, tg_32 hZ, tg_33 hZ, tg_34 hZ, tg_35 hZ, tg_36 hZ, tg_37 hZ, tg_38 hZ, tg_39 hZ, tg_40 hZ, tg_41 hZ, tg_42 hZ, tg_43 hZ, tg_44 hZ, tg_45 hZ, tg_46 hZ, tg_47 hZ, tg_48 hZ, tg_49 hZ, tg_50 hZ, fr_2_0 hF, fr_3_0 hF, fr_3_1 hF, fr_3_2 hF, fr_3_3 hF, fr_3_4 hF, fr_2_1 hF, fr_24_0 hF, fr_24_2 hF, fr_2_2 hF, fr_27_0 hF, fr_27_1 hF, fr_27_2 hF, fr_27_8 hF, fr_2_3 hF, fr_32_0 hF, fr_32_1 hF, fr_32_3 hF, fr_32_4 hF, fr_32_5 hF, fr_32_6 hF, fr_2_4 hF, fr_39_0 hF, fr_39_1 hF, fr_39_2 hF, fr_39_3 hF, fr_39_4 hF, fr_39_5 hF, fr_39_6 hF, fr_2_5 hF, fr_47_0 hF, fr_47_1 hF, fr_47_2 hF, hpc], ?_, Ext_rf Z, kP, kT, wS⟩
    have hv : (if nI k = rI Ms 51 34 then (if rI Ms 51 43 = 3 then some (1 : Int32) else if rI Ms 51 43 < 7 then some 0 else if rI Ms 51 44 = 0 then some 1 else some 0) else some 0) = some 0 := by
      rw [s34]
      by_cases c : k = n
      · subst c
        rw [if_pos rfl]
        rcases f3 with ⟨-, x', a1, a2⟩ | ⟨a0, -⟩
        · rw [hx] at a1
          cases a1
          refine txt_no hn a2 ?_ ?_
          · exact Classical.byContradiction fun h => hy ⟨rfl, Or.inl h⟩
          · exact Classical.byContradiction fun h => hy ⟨rfl, Or.inr h⟩
        · omega
      · rw [if_neg (fun h => c ((nI_eq (by omega) (by omega)).mp h))]
    unfold fX12_text
    rw [if_pos (tg_51 hZ), f1, Option.bind_some]
    dsimp only
    rw [hv, Option.bind_some, if_pos rfl]
  have hy0 := hy
  obtain ⟨hkn, hy⟩ := hy
  subst hkn
  rw [if_pos hy0] at hpc
  have hSI : SI Z M (rI M 78) k k Ms x := by
    rcases f3 with ⟨-, x', a1, a2⟩ | ⟨a0, -⟩
    · rw [hx] at a1
      cases a1
      exact a2
    · omega
  have hyes := txt_yes hZ hF hn hSI hy
  have k1 : ¬ (1 : Int32) = 0 := by decide
  by_cases c16 : t = 16
  · subst c16
    refine ⟨-104, Z, M, Ms, ?_, ?_, Ext_rf Z, kP, kT, wS⟩
    · simp [fX11_text, tg_2 hZ, tg_3 hZ, tg_4 hZ, tg_5 hZ, tg_6 hZ, tg_7 hZ, tg_8 hZ, tg_24 hZ, tg_25 hZ, tg_26 hZ, tg_27 hZ, tg_28 hZ, tg_29 hZ, tg_30 hZ, tg_31 hZ, tg_32 hZ, tg_33 hZ, tg_34 hZ, tg_35 hZ, tg_36 hZ, tg_37 hZ, tg_38 hZ, tg_39 hZ, tg_40 hZ, tg_41 hZ, tg_42 hZ, tg_43 hZ, tg_44 hZ, tg_45 hZ, tg_46 hZ, tg_47 hZ, tg_48 hZ, tg_49 hZ, tg_50 hZ, fr_2_0 hF, fr_3_0 hF, fr_3_1 hF, fr_3_2 hF, fr_3_3 hF, fr_3_4 hF, fr_2_1 hF, fr_24_0 hF, fr_24_2 hF, fr_2_2 hF, fr_27_0 hF, fr_27_1 hF, fr_27_2 hF, fr_27_8 hF, fr_2_3 hF, fr_32_0 hF, fr_32_1 hF, fr_32_3 hF, fr_32_4 hF, fr_32_5 hF, fr_32_6 hF, fr_2_4 hF, fr_39_0 hF, fr_39_1 hF, fr_39_2 hF, fr_39_3 hF, fr_39_4 hF, fr_39_5 hF, fr_39_6 hF, fr_2_5 hF, fr_47_0 hF, fr_47_1 hF, fr_47_2 hF, hpc, fX2_takeText, t1, show ¬ nI 16 < 16 by decide]
    · unfold fX12_text
      rw [if_pos (tg_51 hZ), f1, Option.bind_some]
      dsimp only
      rw [if_pos s34.symm, hyes.1, Option.bind_some, if_neg k1, s35, if_pos (by decide)]
  have ht16 : t < 16 := by omega
  have hn2 : 2 ≤ k := by
    obtain ⟨-, -, -, d, -, -, -, -, -, hN, -, h2, -⟩ := hyes
    omega
  obtain ⟨M1, g1, g2, g3, g4, g5, g6, g7, g8, g9, g10, g11, g12, g13, g14, g15, g16⟩ := take_c hZ hF hn hn2 ht16 p1 t1 (fun j => by rw [p3]; exact p4 j)
  have hl := len_ok hZ
  obtain ⟨a, ea⟩ : ∃ a, a = Z.length + 2 := ⟨_, rfl⟩
  obtain ⟨A, eA⟩ : ∃ A, A = Z.length + 3 := ⟨_, rfl⟩
  have hE3 : Ext Z (Z ++ [(9, 6)]) := Ext_app _ _
  have hE4 : Ext Z ((Z ++ [(9, 6)]) ++ [(102, k)]) := Ext_tr hE3 (Ext_app _ _)
  have ta : tg ((Z ++ [(9, 6)]) ++ [(102, k)]) a = (9, 6) := by rw [ea]; exact Ext_app _ _ _ _ _ (by omega) (tg_app_new _ _ _)
  have tA : tg ((Z ++ [(9, 6)]) ++ [(102, k)]) A = (102, k) := by
    have := tg_app_new (Z ++ [(9, 6)]) 102 k
    have hlA : (Z ++ [((9 : Nat), (6 : Nat))]).length + 2 = A := by rw [eA]; simp
    rw [hlA] at this
    exact this
  generalize hZ4 : (Z ++ [(9, 6)]) ++ [(102, k)] = Z4 at g1 g15 hE4 ta tA
  rw [← ea] at g2 g7 g8 g9 g10 g11 g12 g13
  rw [← eA] at g2 g6 g7 g8 g9 g12
  have hOZ4 : OKZ Z4 := Ext_tr hZ hE4
  have hF1 : Fix M1 := g15.fix hF (by decide)
  have old : ∀ b j, b < 110 → b ≠ 24 → rI M1 b j = rI M b j := fun b j h1 h2 => g2 b j (by omega) (by omega) h2
  have e78 : rI M1 78 = rI M 78 := funext fun j => old 78 j (by omega) (by omega)
  have q34 : rI M1 51 34 = nI k := by rw [old 51 34 (by omega) (by omega), p2]
  have q35 : rI M1 51 35 = nI t := by rw [old 51 35 (by omega) (by omega), t2]
  obtain ⟨k', Ms', hk', b1, b2, b3⟩ := faultOf_m hOZ4 hF1 hn q34
  rw [e78] at b3
  obtain ⟨hkk, hSI'⟩ : k' = k ∧ SI Z4 M1 (rI M 78) k k Ms' x := by
    rcases b3 with ⟨h0, x', a1, a2⟩ | ⟨a0, x', a1, a2⟩
    · rw [hx] at a1
      cases a1
      exact ⟨h0, a2⟩
    · exfalso
      have : crs (rI M 78) (k' + 1) = none := by rw [crs, a1, Option.bind_some, a2, Option.bind_some, if_pos rfl]
      have := crs_none this (k - (k' + 1))
      rw [show k' + 1 + (k - (k' + 1)) = k by omega, hx] at this
      cases this
  subst hkk
  rw [← e78] at hSI'
  obtain ⟨M2, R, d, m1, m2, m3, m4, m5, m6, m7, m8, m9, m10, m11, m12, m13, m14, m15, m16, m17, m18⟩ := text_m hOZ4 hF1 hn ht16 q34 q35 b1 b2 hSI' hy
  rw [e78] at m5 m6 m14 m15 m18
  have w2 : Wr Z4 FTextW [9, 102] [26] M M2 := (g15.mono (by decide) (by simp) (by simp)).tr (m2.mono (by decide) (by simp) (by simp))
  have hdP : dis FTxM [(24, none), (25, none), (78, none), (26, none)] = true := by decide
  have lA : ∀ j, j < k' → rI M1 A j = rI M 78 j := fun j hj => by rw [g6 j hj, p3]
  have hdr : drun (rI M1 A) 2 (k' - 2) = d := by
    refine drun_eq (by omega) (fun j hj => ?_) ?_
    · rw [lA _ (by omega)]
      exact m15 j hj
    · rcases m18 with h | h
      · left; omega
      · by_cases q : 2 + d = k'
        · left; omega
        · right
          rw [lA _ (by omega)]
          exact h
  have rA2 : rI M2 A = rI M1 A := funext fun j => m2.dyn (by decide) (by omega) (by simp) j
  have ra2 : ∀ j, rI M2 a j = rI M1 a j := fun j => m2.dyn (by decide) (by omega) (by simp) j
  have rR2 : ∀ b j, rR M2 b j = rR M1 b j := fun b j => m2.2 b j (by simp) (by simp)
  refine ⟨nI t, Z4, M1, M2, by simp [fX11_text, tg_2 hZ, tg_3 hZ, tg_4 hZ, tg_5 hZ, tg_6 hZ, tg_7 hZ, tg_8 hZ, tg_24 hZ, tg_25 hZ, tg_26 hZ, tg_27 hZ, tg_28 hZ, tg_29 hZ, tg_30 hZ, tg_31 hZ, tg_32 hZ, tg_33 hZ, tg_34 hZ, tg_35 hZ, tg_36 hZ, tg_37 hZ, tg_38 hZ, tg_39 hZ, tg_40 hZ, tg_41 hZ, tg_42 hZ, tg_43 hZ, tg_44 hZ, tg_45 hZ, tg_46 hZ, tg_47 hZ, tg_48 hZ, tg_49 hZ, tg_50 hZ, fr_2_0 hF, fr_3_0 hF, fr_3_1 hF, fr_3_2 hF, fr_3_3 hF, fr_3_4 hF, fr_2_1 hF, fr_24_0 hF, fr_24_2 hF, fr_2_2 hF, fr_27_0 hF, fr_27_1 hF, fr_27_2 hF, fr_27_8 hF, fr_2_3 hF, fr_32_0 hF, fr_32_1 hF, fr_32_3 hF, fr_32_4 hF, fr_32_5 hF, fr_32_6 hF, fr_2_4 hF, fr_39_0 hF, fr_39_1 hF, fr_39_2 hF, fr_39_3 hF, fr_39_4 hF, fr_39_5 hF, fr_39_6 hF, fr_2_5 hF, fr_47_0 hF, fr_47_1 hF, fr_47_2 hF, hpc, g1], m1, hE4, ?_, ?_, w2⟩
  · refine ⟨0, by omega, ?_, by rw [m3]; rfl, fun j => ?_, fun j => ?_⟩
    · rw [m2.row hdP (a := 24) (by simp) (by omega), g3]
      rfl
    · rw [m2.row hdP (a := 25) (by simp) (by omega), m2.row hdP (a := 78) (by simp) (by omega), old 25 j (by omega) (by omega), old 78 j (by omega) (by omega), p3]
    · rw [m2.row hdP (a := 78) (by simp) (by omega), old 78 j (by omega) (by omega)]
      exact p4 j
  · have hlt : ∀ x, x < t → rR M 26 x < a ∧ rR M (rR M 26 x) 0 < a := by
      intro x hx
      obtain ⟨⟨q1, q2⟩, -, -, -, -, -, n', q, R', -, ⟨b2', b3'⟩, -⟩ := t3 x hx
      rw [ea]
      exact ⟨tg_lt q2 (by omega), tg_lt b3' (by omega)⟩
    refine ⟨t + 1, by omega, ?_, m4, fun x hx => ?_, fun j i hji hi => ?_⟩
    · rw [m2.row hdP (a := 24) (by simp) (by omega), g4]
    · by_cases q : x = t
      · subst q
        have c26 : rR M2 26 x = a := by rw [rR2, g13]
        have c0 : rR M2 a 0 = A := by rw [rR2, g12]
        unfold txOk
        rw [c26, c0, ra2, ra2, ra2, ra2, ra2, rA2, g7, g8, g9, g10, g11, m5, m6, m7, m8, hdr, lA 0 (by omega), nv_congr d (fun j hj => lA (2 + j) (by omega))]
        have hb := nv_bd (g := rI M 78) (i := 2) d m16 m15
        have hp : (10 : Int) ^ d ≤ 10000 := by
          have : d = 0 ∨ d = 1 ∨ d = 2 ∨ d = 3 ∨ d = 4 := by omega
          rcases this with rfl | rfl | rfl | rfl | rfl <;> decide
        exact ⟨⟨by omega, ta⟩, rfl, rfl, rfl, rfl, ⟨hb.1, by omega⟩, k', d + 3, R, hn, ⟨by omega, tA⟩, rfl, by omega, by omega, m9, m10, m11, txC_congr (fun j hj => (lA j hj).symm) m14⟩
      · have hxt : x < t := by omega
        obtain ⟨z1, z2, z3, z4, z5⟩ := m12 x q
        obtain ⟨v1, v2⟩ := hlt x hxt
        have hx0 := t3 x hxt
        obtain ⟨⟨u1, -⟩, -, -, -, -, -, n', q', R', -, ⟨u2, -⟩, -⟩ := t3 x hxt
        refine hx0.keep hE4 (by rw [rR2, g14 x q]) (by rw [z1, old 79 x (by omega) (by omega)]) (by rw [z2, old 80 x (by omega) (by omega)]) (by rw [z3, old 81 x (by omega) (by omega)]) (by rw [z4, old 82 x (by omega) (by omega)]) (by rw [z5, old 83 x (by omega) (by omega)]) (fun j hj => by rw [(m13 (60 * x + j) (by omega)).1, old 84 _ (by omega) (by omega)]) (fun j hj => by rw [(m13 (60 * x + j) (by omega)).2, old 85 _ (by omega) (by omega)]) (fun j => ?_) (fun j => ?_) (fun j => ?_)
        · rw [m2.dyn (by decide) u1 (by simp), g2 _ j (by omega) (by omega) (by omega)]
        · rw [rR2]
          exact (g16 _ j (by omega) (by omega)).resolve_right (by omega)
        · rw [m2.dyn (by decide) u2 (by simp), g2 _ j (by omega) (by omega) (by omega)]
    · rw [rR2, rR2, g14 j (by omega)]
      by_cases q : i = t
      · subst q
        rw [g13]
        have := hlt j (by omega)
        omega
      · rw [g14 i q]
        exact t4 j i hji (by omega)
