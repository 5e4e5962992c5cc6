/-! hour, hours: the calls -/
theorem HS.cg {Z : Shp} {h : Nat} {C D C1 D1 : Mem} (hH : HS Z h C D) (hC : ∀ a k, (a ≤ 50 ∨ 110 ≤ a) → rI C1 a k = rI C a k ∧ rJ C1 a k = rJ C a k) (hR : ∀ k, rR C1 6 k = rR C 6 k ∧ rR C1 7 k = rR C 7 k ∧ rR C1 8 k = rR C 8 k) (hD : ∀ a k, 51 ≤ a → a ≤ 109 → rI D1 a k = rI D a k ∧ rJ D1 a k = rJ D a k) : HS Z h C1 D1 := by
  obtain ⟨h1, h0, hL, h6, ⟨s, hs0, hs6, hs1, hs2⟩, hh, hh1, hh2, ⟨nb, hnb, h5, hz5⟩, nt, π, hnt, h4, hπ, hk, hsum, hbd, hz4⟩ := hH
  have d66 : ∀ k, rI D1 66 k = rI D 66 k := fun k => (hD 66 k (by omega) (by omega)).1
  have d65 : ∀ k, rI D1 65 k = rI D 65 k := fun k => (hD 65 k (by omega) (by omega)).1
  refine ⟨h1.cg (fun a k v1 v2 => (hC a k (by omega)).1) (fun a k v1 v2 => (hD a k (by omega) (by omega)).1), ⟨?_, ?_⟩, hL.cg (fun a k v1 v2 _ => (hC a k (by omega)).1) (fun a k v1 v2 _ => (hD a k (by omega) (by omega)).1), h6.cg (fun a v1 v2 => (hC a 5 (by omega)).1) (fun k => (hD 60 k (by omega) (by omega)).1), ⟨s, hs0, hs6, ?_, ?_⟩, hh, ?_, ?_, ⟨nb, hnb, ?_, fun k hk' => ?_⟩, nt, π, hnt, ?_, fun i hi => ⟨(hπ i hi).1, ?_⟩, fun i j hij hj => ?_, ?_, fun k hk12 => ?_, fun k hk' => ?_⟩
  · rw [(hC 3 9 (by omega)).2, (hD 51 12 (by omega) (by omega)).2, h0.1]
  · rw [(hC 3 10 (by omega)).2, (hD 51 14 (by omega) (by omega)).2, h0.2]
  · rw [(hC 3 7 (by omega)).1, hs1]
  · rw [(hD 51 3 (by omega) (by omega)).1, hs2]
  · rw [(hC 3 8 (by omega)).1, hh1]
  · rw [(hD 51 11 (by omega) (by omega)).1, hh2]
  · exact h5.cg (fun a k v1 _ => (hC a k (by omega)).1) (hC 3 6 (by omega)).1 (fun k => (hR k).2.2) (fun a k v => (hD a k (by omega) (by omega)).1) (hD 51 21 (by omega) (by omega)).1
  · rw [(hD 75 k (by omega) (by omega)).1, (hD 100 k (by omega) (by omega)).1]
    exact hz5 k hk'
  · exact h4.cg (fun a k v1 _ => (hC a k (by omega)).1) (hC 3 5 (by omega)).1 (fun k => (hR k).1) (fun a k v1 v2 => (hD a k (by omega) (by omega)).1) (hD 51 15 (by omega) (by omega)).1
  · rw [(hR i).2.1, (hR (π i)).1]
    exact (hπ i hi).2
  · have := hk i j hij hj
    unfold rkLt at this ⊢
    rw [d65, d65]
    exact this
  · rw [(hD 51 13 (by omega) (by omega)).2, hsum]
    exact congrArg (fun f => sJ f 12) (funext fun k => (d66 k).symm)
  · rw [d66]
    exact hbd k hk12
  · rw [d66]
    exact hz4 k hk'
theorem HS_of {Z : Shp} {M : Mem} (hP : IPound M) (hLn : ILine M) (hK : ILock M) (hT : ITak Z M) (hO : ITook M) (hB : IBoat Z M) : ∃ h, HS Z h M M := by
  obtain ⟨⟨s, s0, s1, s2, s3⟩, ⟨h, hh, hh1, hh2⟩, l9, l10⟩ := hLn
  obtain ⟨nt, hnt, t1, t2, t3, t4, t5, π, t6, t7⟩ := hT
  obtain ⟨o1, h', hh', o2, o3⟩ := hO
  obtain ⟨nb, hnb, b1, b2', b3, b4, b5⟩ := hB
  have he : h' = h := (nI_eq (by omega) (by omega)).mp (o2.symm.trans hh2)
  subst he
  refine ⟨h', hP, ⟨l9, l10⟩, fun l hl => ?_, fun l hl => ?_, ⟨s, s0, s1, s2, s3⟩, hh, hh1, hh2, ⟨nb, hnb, ⟨b1, b2', b3, b4⟩, b5⟩, nt, π, hnt, ⟨t1, t2, t3, t4⟩, t6, t7, o1, o3, t5⟩
  · obtain ⟨k0, k1, k2, k3, k4, k5, k6, c1, c2, c3, c4, c5, c6, c7⟩ := hK l hl
    exact ⟨k0, k1, k2, k3, k4, k6, c1, c2, c3, c4, c5, c6⟩
  · exact (hK l hl).2.2.2.2.2.1
theorem of_HS {Z : Shp} {M : Mem} {h : Nat} (hH : HS Z h M M) (hh0 : 0 < h) : IPound M ∧ ILine M ∧ ILock M ∧ ITak Z M ∧ ITook M ∧ IBoat Z M := by
  obtain ⟨h1, h0, hL, h6, hs, hh, hh1, hh2, ⟨nb, hnb, ⟨n1, n2, n3, n4⟩, hz5⟩, nt, π, hnt, ⟨t1, t2, t3, t4⟩, hπ, hk, hsum, hbd, hz4⟩ := hH
  refine ⟨h1, ⟨hs, ⟨h, hh, hh1, hh2⟩, h0.1, h0.2⟩, fun l hl => ?_, ⟨nt, hnt, t1, t2, t3, t4, hz4, π, hπ, hk⟩, ⟨hsum, h, hh, hh2, hbd⟩, ⟨nb, hnb, n1, n2, n3, n4, hz5⟩⟩
  obtain ⟨k0, k1, k2, k3, k4, k6, c1, c2, c3, c4, c5, c6⟩ := hL l hl
  refine ⟨k0, k1, k2, k3, k4, h6 l hl, k6, c1, c2, c3, c4, c5, c6, fun e => ?_⟩
  rw [hh2] at e
  exact absurd e (nI_ne0 hh0 (by omega))
abbrev FHr : List (Nat × Option Nat) := [(9, none), (10, none), (11, none), (12, none), (13, none), (14, none), (15, none), (16, none), (17, none), (18, none), (19, none), (20, none), (21, none), (22, none), (23, none), (3, some 8), (3, some 9), (3, some 10), (52, none), (58, none), (59, none), (60, none), (61, none), (66, none), (73, none), (74, none), (75, none), (76, none), (77, none), (51, some 11), (51, some 12), (51, some 13), (51, some 14)]
theorem FcH_D {Z : Shp} {ts : List Nat} {C C1 : Mem} (w : Wr Z FcH ts [] C C1) : ∀ a k, 51 ≤ a → a ≤ 109 → rI C1 a k = rI C a k ∧ rJ C1 a k = rJ C a k := by
  intro a k h1 h2
  refine w.1 a k ?_ (by omega)
  rintro (e | e)
  · simp at e; omega
  · simp at e; omega
theorem FmH_C {Z : Shp} {D D1 : Mem} (w : Wr Z FmH [] [] D D1) : (∀ a k, (a ≤ 50 ∨ 110 ≤ a) → rI D1 a k = rI D a k ∧ rJ D1 a k = rJ D a k) ∧ ∀ a k, rR D1 a k = rR D a k := by
  refine ⟨fun a k h1 => w.1 a k ?_ (by simp), fun a k => w.2 a k (by simp) (by simp)⟩
  rintro (e | e)
  · simp at e; omega
  · simp at e; omega
theorem hours_sim {Z : Shp} {C D : Mem} (hZ : OKZ Z) (hFC : Fix C) (hFD : Fix D) {h n : Nat} (hn : h + n ≤ 600) (hH : HS Z h C D) {x : Int32} (hx0 : 0 ≤ x.toInt) (hx1 : x.toInt ≤ 50) : ∃ r C1 D1, loop (fun s6 : Int32 × Int32 × Mem => (if nI n ≤ s6.2.1 then some (Sum.inr (s6.1, s6.2.2)) else (if tg Z (rR s6.2.2 2 0) = (4, 11) then (Option.bind (fX3_goByAnHour Z s6.2.2 (rR s6.2.2 2 0) x) (fun v11 => (pu ((s6.1 + v11.1)) (fun z13 => some (Sum.inl (z13, (s6.2.1 + (1 : Int32)), v11.2)))))) else none))) ((0 : Int32), (0 : Int32), C) = some (r, C1) ∧ loop (fun s5 : Int32 × Int32 × Mem => (if nI n ≤ s5.2.1 then some (Sum.inr (s5.1, s5.2.2)) else (Option.bind (fX12_goHour Z s5.2.2 51 x) (fun v9 => (pu ((s5.1 + v9.1)) (fun z11 => some (Sum.inl (z11, (s5.2.1 + (1 : Int32)), v9.2)))))))) ((0 : Int32), (0 : Int32), D) = some (r, D1) ∧ HS Z (h + n) C1 D1 ∧ Wr Z FcH [8, 2] [] C C1 ∧ Wr Z FmH [] [] D D1 := by
  obtain ⟨r, r', q1, q2, q3, q4, q5, q6⟩ := loop_sim (f := fun s6 : Int32 × Int32 × Mem => (if nI n ≤ s6.2.1 then some (Sum.inr (s6.1, s6.2.2)) else (if tg Z (rR s6.2.2 2 0) = (4, 11) then (Option.bind (fX3_goByAnHour Z s6.2.2 (rR s6.2.2 2 0) x) (fun v11 => (pu ((s6.1 + v11.1)) (fun z13 => some (Sum.inl (z13, (s6.2.1 + (1 : Int32)), v11.2)))))) else none)))
    (g := fun s5 : Int32 × Int32 × Mem => (if nI n ≤ s5.2.1 then some (Sum.inr (s5.1, s5.2.2)) else (Option.bind (fX12_goHour Z s5.2.2 51 x) (fun v9 => (pu ((s5.1 + v9.1)) (fun z11 => some (Sum.inl (z11, (s5.2.1 + (1 : Int32)), v9.2))))))))
    (fun s t => s.1 = t.1 ∧ ∃ i, i ≤ n ∧ s.2.1 = nI i ∧ t.2.1 = nI i ∧ HS Z (h + i) s.2.2 t.2.2 ∧ Wr Z FcH [8, 2] [] C s.2.2 ∧ Wr Z FmH [] [] D t.2.2) (fun r r' => r.1 = r'.1 ∧ HS Z (h + n) r.2 r'.2 ∧ Wr Z FcH [8, 2] [] C r.2 ∧ Wr Z FmH [] [] D r'.2) (fun s => n - ix s.2.1) (by
    rintro ⟨a, s, C3⟩ ⟨b, t, D3⟩ ⟨e0, i, hi, e1, e2, hH3, wc, wd⟩
    dsimp only at e0 e1 e2 hH3 wc wd
    subst e0 e1 e2
    by_cases hin : i = n
    · subst hin
      exact Or.inr ⟨(a, C3), (a, D3), by simp, by simp, rfl, hH3, wc, wd⟩
    have hi : i < n := by omega
    have hle := nle hi (by omega)
    have hFC3 : Fix C3 := wc.fix hFC (by decide)
    have hFD3 : Fix D3 := wd.fix hFD (by decide)
    obtain ⟨r, C4, D4, g1, g2, g3, g4, g5⟩ := hour_sim hZ hFC3 hFD3 (by omega) hH3 hx0 hx1
    refine Or.inl ⟨(a + r, nI (i + 1), C4), (a + r, nI (i + 1), D4), ?_, ?_, ⟨rfl, i + 1, by omega, rfl, rfl, g3, wc.tr g4, wd.tr g5⟩, ?_⟩
    · simp [hle, fr_2_0 hFC3, tg_3 hZ, g1, pu, nI_succ]
    · simp [hle, g2, pu, nI_succ]
    · dsimp only
      rw [ix_nI (by omega), ix_nI (by omega)]
      omega) ((0 : Int32), (0 : Int32), C) ((0 : Int32), (0 : Int32), D) ⟨rfl, 0, by omega, rfl, rfl, hH, Wr.rf, Wr.rf⟩
  exact ⟨r.1, r.2, r'.2, by rw [q1], by rw [q2, q3], q4, q5, q6⟩
theorem op_hours {Z : Shp} {M : Mem} (hZ : OKZ Z) (hF : Fix M) (hP : IPound M) (hLn : ILine M) (hK : ILock M) (hT : ITak Z M) (hO : ITook M) (hB : IBoat Z M) (x1 x2 : Int32) : ∃ r M1 M2, fX11_hours Z M 2 x1 x2 = some (r, M1) ∧ fX12_hours Z M1 51 x1 x2 = some (r, M2) ∧ (IPound M2 ∧ ILine M2 ∧ ILock M2 ∧ ITak Z M2 ∧ ITook M2 ∧ IBoat Z M2) ∧ Wr Z FHr [8, 2] [] M M2 := by
  have hall : IPound M ∧ ILine M ∧ ILock M ∧ ITak Z M ∧ ITook M ∧ IBoat Z M := ⟨hP, hLn, hK, hT, hO, hB⟩
  by_cases c1 : fX11_within x1 1 100 = 0
  · exact ⟨-102, M, M, by simp [fX11_hours, c1], by simp [fX12_hours, in_m1_e, in_0_e, in_0_1, in_0_2, in_0_23, in_0_3, in_0_4, in_0_40, in_0_5, in_0_50, in_0_599, in_0_6, in_0_7, in_0_9, in_0_99, in_0_999, in_0_9999, in_0_99999, in_0_999999, in_1_100, in_1_200, in_1_6, in_1_9, in_1_999, in_10_17, in_10_200, in_48_57, in_6_17, in_e_99, in_e_9999, in_within, c1], hall, Wr.rf⟩
  by_cases c2 : fX11_within x2 0 50 = 0
  · exact ⟨-102, M, M, by simp [fX11_hours, c1, c2], by simp [fX12_hours, in_m1_e, in_0_e, in_0_1, in_0_2, in_0_23, in_0_3, in_0_4, in_0_40, in_0_5, in_0_50, in_0_599, in_0_6, in_0_7, in_0_9, in_0_99, in_0_999, in_0_9999, in_0_99999, in_0_999999, in_1_100, in_1_200, in_1_6, in_1_9, in_1_999, in_10_17, in_10_200, in_48_57, in_6_17, in_e_99, in_e_9999, in_within, c1, c2], hall, Wr.rf⟩
  have r1 := w_rng c1
  have r2 := w_rng c2
  rw [show (1 : Int32).toInt = 1 by decide, show (100 : Int32).toInt = 100 by decide] at r1
  rw [show (0 : Int32).toInt = 0 by decide, show (50 : Int32).toInt = 50 by decide] at r2
  obtain ⟨n, hn, rfl, en⟩ := rng_nI (x := x1) (by omega)
  obtain ⟨h, hH⟩ := HS_of hP hLn hK hT hO hB
  have hh1 : rI M 3 8 = nI h := hH.2.2.2.2.2.2.1
  have hh2 : rI M 51 11 = nI h := hH.2.2.2.2.2.2.2.1
  have hh : h ≤ 600 := hH.2.2.2.2.2.1
  have hle : nI h + nI n ≤ 600 ↔ h + n ≤ 600 := by
    rw [nI_add, show (600 : Int32) = nI 600 by decide]
    exact nI_leI (by omega) (by omega)
  by_cases c3 : h + n ≤ 600
  case neg =>
    refine ⟨-103, M, M, by simp [fX11_hours, c1, c2, tg_2 hZ, tg_3 hZ, tg_4 hZ, tg_5 hZ, tg_6 hZ, tg_7 hZ, tg_8 hZ, tg_24 hZ, tg_25 hZ, tg_26 hZ, tg_27 hZ, tg_28 hZ, tg_29 hZ, tg_30 hZ, tg_31 hZ, tg_32 hZ, tg_33 hZ, tg_34 hZ, tg_35 hZ, tg_36 hZ, tg_37 hZ, tg_38 hZ, tg_39 hZ, tg_40 hZ, tg_41 hZ, tg_42 hZ, tg_43 hZ, tg_44 hZ, tg_45 hZ, tg_46 hZ, tg_47 hZ, tg_48 hZ, tg_49 hZ, tg_50 hZ, fr_2_0 hF, fr_3_0 hF, fr_3_1 hF, fr_3_2 hF, fr_3_3 hF, fr_3_4 hF, fr_2_1 hF, fr_24_0 hF, fr_24_2 hF, fr_2_2 hF, fr_27_0 hF, fr_27_1 hF, fr_27_2 hF, fr_27_8 hF, fr_2_3 hF, fr_32_0 hF, fr_32_1 hF, fr_32_3 hF, fr_32_4 hF, fr_32_5 hF, fr_32_6 hF, fr_2_4 hF, fr_39_0 hF, fr_39_1 hF, fr_39_2 hF, fr_39_3 hF, fr_39_4 hF, fr_39_5 hF, fr_39_6 hF, fr_2_5 hF, fr_47_0 hF, fr_47_1 hF, fr_47_2 hF, hh1, hle, c3], by simp [fX12_hours, in_m1_e, in_0_e, in_0_1, in_0_2, in_0_23, in_0_3, in_0_4, in_0_40, in_0_5, in_0_50, in_0_599, in_0_6, in_0_7, in_0_9, in_0_99, in_0_999, in_0_9999, in_0_99999, in_0_999999, in_1_100, in_1_200, in_1_6, in_1_9, in_1_999, in_10_17, in_10_200, in_48_57, in_6_17, in_e_99, in_e_9999, in_within, c1, c2, tg_51 hZ, hh2, hle, c3], hall, Wr.rf⟩
  obtain ⟨r, Mc, D0, g1, -, -, g4, -⟩ := hours_sim hZ hF hF c3 hH (x := x2) (by omega) (by omega)
  have hFc : Fix Mc := g4.fix hF (by decide)
  have hH2 : HS Z h M Mc := hH.cg (fun _ _ _ => ⟨rfl, rfl⟩) (fun _ => ⟨rfl, rfl, rfl⟩) (FcH_D g4)
  obtain ⟨r', Mc', M2, k1, k2, k3, k4, k5⟩ := hours_sim hZ hF hFc c3 hH2 (x := x2) (by omega) (by omega)
  rw [g1] at k1
  cases k1
  obtain ⟨m1, m2⟩ := FmH_C k5
  have hH3 : HS Z (h + n) M2 M2 := k3.cg m1 (fun k => ⟨m2 6 k, m2 7 k, m2 8 k⟩) (fun _ _ _ _ => ⟨rfl, rfl⟩)
  refine ⟨r, Mc, M2, ?_, ?_, of_HS hH3 (by omega), (g4.mono (by decide) (by simp) (by simp)).tr (k5.mono (by decide) (by simp) (by simp))⟩
  · unfold fX11_hours
    rw [if_neg c1, if_neg c2, if_pos (tg_2 hZ), fr_2_0 hF, if_pos (tg_3 hZ), hh1, if_pos (hle.mpr c3)]
    exact g1
  · have hc2 : rI Mc 51 11 = nI h := by rw [(FcH_D g4 51 11 (by omega) (by omega)).1, hh2]
    unfold fX12_hours
    rw [in_1_100, in_0_50, if_neg c1, if_neg c2, if_pos (tg_51 hZ), hc2, if_pos (hle.mpr c3)]
    exact k2
theorem op_hour {Z : Shp} {M : Mem} (hZ : OKZ Z) (hF : Fix M) (hP : IPound M) (hLn : ILine M) (hK : ILock M) (hT : ITak Z M) (hO : ITook M) (hB : IBoat Z M) (x1 : Int32) : ∃ r M1 M2, fX11_hour Z M 2 x1 = some (r, M1) ∧ fX12_hour Z M1 51 x1 = some (r, M2) ∧ (IPound M2 ∧ ILine M2 ∧ ILock M2 ∧ ITak Z M2 ∧ ITook M2 ∧ IBoat Z M2) ∧ Wr Z FHr [8, 2] [] M M2 := by
  have hall : IPound M ∧ ILine M ∧ ILock M ∧ ITak Z M ∧ ITook M ∧ IBoat Z M := ⟨hP, hLn, hK, hT, hO, hB⟩
  have c1 : ¬ fX11_within (1 : Int32) 1 100 = 0 := by decide
  by_cases c2 : fX11_within x1 0 50 = 0
  · exact ⟨-102, M, M, by simp [fX11_hour, fX11_hours, tg_2 hZ, c1, c2], by simp [fX12_hour, in_m1_e, in_0_e, in_0_1, in_0_2, in_0_23, in_0_3, in_0_4, in_0_40, in_0_5, in_0_50, in_0_599, in_0_6, in_0_7, in_0_9, in_0_99, in_0_999, in_0_9999, in_0_99999, in_0_999999, in_1_100, in_1_200, in_1_6, in_1_9, in_1_999, in_10_17, in_10_200, in_48_57, in_6_17, in_e_99, in_e_9999, in_within, c2], hall, Wr.rf⟩
  have r2 := w_rng c2
  rw [show (0 : Int32).toInt = 0 by decide, show (50 : Int32).toInt = 50 by decide] at r2
  obtain ⟨h, hH⟩ := HS_of hP hLn hK hT hO hB
  have hh1 : rI M 3 8 = nI h := hH.2.2.2.2.2.2.1
  have hh2 : rI M 51 11 = nI h := hH.2.2.2.2.2.2.2.1
  have hh : h ≤ 600 := hH.2.2.2.2.2.1
  have hle : nI h + 1 ≤ 600 ↔ h + 1 ≤ 600 := by
    rw [nI_1, show (600 : Int32) = nI 600 by decide]
    exact nI_leI (by omega) (by omega)
  have heq : nI h = 600 ↔ h = 600 := by
    rw [show (600 : Int32) = nI 600 by decide]
    exact nI_eq (by omega) (by omega)
  by_cases c3 : h + 1 ≤ 600
  case neg =>
    have c4 := heq.mpr (by omega)
    refine ⟨-103, M, M, by simp [fX11_hour, fX11_hours, c1, c2, tg_2 hZ, tg_3 hZ, tg_4 hZ, tg_5 hZ, tg_6 hZ, tg_7 hZ, tg_8 hZ, tg_24 hZ, tg_25 hZ, tg_26 hZ, tg_27 hZ, tg_28 hZ, tg_29 hZ, tg_30 hZ, tg_31 hZ, tg_32 hZ, tg_33 hZ, tg_34 hZ, tg_35 hZ, tg_36 hZ, tg_37 hZ, tg_38 hZ, tg_39 hZ, tg_40 hZ, tg_41 hZ, tg_42 hZ, tg_43 hZ, tg_44 hZ, tg_45 hZ, tg_46 hZ, tg_47 hZ, tg_48 hZ, tg_49 hZ, tg_50 hZ, fr_2_0 hF, fr_3_0 hF, fr_3_1 hF, fr_3_2 hF, fr_3_3 hF, fr_3_4 hF, fr_2_1 hF, fr_24_0 hF, fr_24_2 hF, fr_2_2 hF, fr_27_0 hF, fr_27_1 hF, fr_27_2 hF, fr_27_8 hF, fr_2_3 hF, fr_32_0 hF, fr_32_1 hF, fr_32_3 hF, fr_32_4 hF, fr_32_5 hF, fr_32_6 hF, fr_2_4 hF, fr_39_0 hF, fr_39_1 hF, fr_39_2 hF, fr_39_3 hF, fr_39_4 hF, fr_39_5 hF, fr_39_6 hF, fr_2_5 hF, fr_47_0 hF, fr_47_1 hF, fr_47_2 hF, hh1, hle, c3], by simp [fX12_hour, in_m1_e, in_0_e, in_0_1, in_0_2, in_0_23, in_0_3, in_0_4, in_0_40, in_0_5, in_0_50, in_0_599, in_0_6, in_0_7, in_0_9, in_0_99, in_0_999, in_0_9999, in_0_99999, in_0_999999, in_1_100, in_1_200, in_1_6, in_1_9, in_1_999, in_10_17, in_10_200, in_48_57, in_6_17, in_e_99, in_e_9999, in_within, c2, tg_51 hZ, hh2, c4], hall, Wr.rf⟩
  have c4 := mt heq.mp (show ¬ h = 600 by omega)
  obtain ⟨r, Mc, D0, g1, -, -, g4, -⟩ := hour_sim hZ hF hF (by omega) hH (x := x1) (by omega) (by omega)
  have hFc : Fix Mc := g4.fix hF (by decide)
  have hH2 : HS Z h M Mc := hH.cg (fun _ _ _ => ⟨rfl, rfl⟩) (fun _ => ⟨rfl, rfl, rfl⟩) (FcH_D g4)
  obtain ⟨r', Mc', M2, k1, k2, k3, k4, k5⟩ := hour_sim hZ hF hFc (by omega) hH2 (x := x1) (by omega) (by omega)
  rw [g1] at k1
  cases k1
  obtain ⟨m1, m2⟩ := FmH_C k5
  have hH3 : HS Z (h + 1) M2 M2 := k3.cg m1 (fun k => ⟨m2 6 k, m2 7 k, m2 8 k⟩) (fun _ _ _ _ => ⟨rfl, rfl⟩)
  refine ⟨r, Mc, M2, ?_, ?_, of_HS hH3 (by omega), (g4.mono (by decide) (by simp) (by simp)).tr (k5.mono (by decide) (by simp) (by simp))⟩
  · have hz : ∀ y : Int32, 0 + y = y := fun y => by simp
    have hl : loop (fun s6 : Int32 × Int32 × Mem => (if (1 : Int32) ≤ s6.2.1 then some (Sum.inr (s6.1, s6.2.2)) else (if tg Z (rR s6.2.2 2 0) = (4, 11) then (Option.bind (fX3_goByAnHour Z s6.2.2 (rR s6.2.2 2 0) x1) (fun v11 => (pu ((s6.1 + v11.1)) (fun z13 => some (Sum.inl (z13, (s6.2.1 + (1 : Int32)), v11.2)))))) else none))) ((0 : Int32), (0 : Int32), M) = some (r, Mc) := by
      refine (loop_step (s1 := (r, (0 : Int32) + 1, Mc)) ?_).trans (loop_done ?_)
      · simp [show ¬ (1 : Int32) ≤ 0 by decide, fr_2_0 hF, tg_3 hZ, g1, pu]
      · simp [show (1 : Int32) ≤ 0 + 1 by decide]
    have hhs : fX11_hours Z M 2 1 x1 = some (r, Mc) := by
      unfold fX11_hours
      rw [if_neg c1, if_neg c2, if_pos (tg_2 hZ), fr_2_0 hF, if_pos (tg_3 hZ), hh1, if_pos (hle.mpr c3)]
      exact hl
    simp [fX11_hour, tg_2 hZ, hhs]
  · have hc2 : rI Mc 51 11 = nI h := by rw [(FcH_D g4 51 11 (by omega) (by omega)).1, hh2]
    simp [fX12_hour, in_m1_e, in_0_e, in_0_1, in_0_2, in_0_23, in_0_3, in_0_4, in_0_40, in_0_5, in_0_50, in_0_599, in_0_6, in_0_7, in_0_9, in_0_99, in_0_999, in_0_9999, in_0_99999, in_0_999999, in_1_100, in_1_200, in_1_6, in_1_9, in_1_999, in_10_17, in_10_200, in_48_57, in_6_17, in_e_99, in_e_9999, in_within, c2, tg_51 hZ, hc2, c4, k2]
