/-! an hour as a whole -/
theorem R5.cg {Z : Shp} {n : Nat} {C D C1 D1 : Mem} (h : R5 Z n C D) (hC : ∀ a k, 110 ≤ a → (tg Z a).1 = 2 → rI C1 a k = rI C a k) (h6 : rI C1 3 6 = rI C 3 6) (hR : ∀ k, rR C1 8 k = rR C 8 k) (hD : ∀ a k, ((67 ≤ a ∧ a ≤ 75) ∨ a = 100) → rI D1 a k = rI D a k) (h21 : rI D1 51 21 = rI D 51 21) : R5 Z n C1 D1 := by
  obtain ⟨n1, n2, n3, n4⟩ := h
  refine ⟨by rw [h6, n1], by rw [h21, n2], fun k hk => ?_, fun j k => by rw [hR, hR]; exact n4 j k⟩
  have hB := n3 k hk
  have F := fun x => hC (rR C 8 k) x hB.1.1 (by rw [hB.1.2])
  unfold b2 at hB ⊢
  rw [hR, F, F, F, F, F, F, F, F, F, F, hD 67 _ (by omega), hD 68 _ (by omega), hD 69 _ (by omega), hD 70 _ (by omega), hD 71 _ (by omega), hD 72 _ (by omega), hD 73 _ (by omega), hD 74 _ (by omega), hD 75 _ (by omega), hD 100 _ (by omega)]
  exact hB
theorem R4.cg {Z : Shp} {n : Nat} {C D C1 D1 : Mem} (h : R4 Z n C D) (hC : ∀ a k, 110 ≤ a → (tg Z a).1 = 8 → rI C1 a k = rI C a k) (h5 : rI C1 3 5 = rI C 3 5) (hR : ∀ k, rR C1 6 k = rR C 6 k) (hD : ∀ a k, 62 ≤ a → a ≤ 66 → rI D1 a k = rI D a k) (h15 : rI D1 51 15 = rI D 51 15) : R4 Z n C1 D1 := by
  obtain ⟨n1, n2, n3, n4⟩ := h
  refine ⟨by rw [h5, n1], by rw [h15, n2], fun k hk => ?_, fun j k => by rw [hR, hR]; exact n4 j k⟩
  have hB := n3 k hk
  have F := fun x => hC (rR C 6 k) x hB.1.1 (by rw [hB.1.2])
  unfold tk2 at hB ⊢
  rw [hR, F, F, F, F, F, hD 62 _ (by omega) (by omega), hD 63 _ (by omega) (by omega), hD 64 _ (by omega) (by omega), hD 65 _ (by omega) (by omega), hD 66 _ (by omega) (by omega)]
  exact hB
theorem R6.cg {C D C1 D1 : Mem} (h : R6 C D) (hC : ∀ a, 17 ≤ a → a ≤ 23 → rI C1 a 5 = rI C a 5) (hD : ∀ k, rI D1 60 k = rI D 60 k) : R6 C1 D1 := by
  intro l hl
  rw [hC _ (by omega) (by omega), hD, h l hl]
theorem RW.cg {D D1 : Mem} {h n : Nat} (hW : RW D h n) (hD : ∀ a k, (a = 74 ∨ a = 76 ∨ a = 77) → rI D1 a k = rI D a k) : RW D1 h n := by
  intro b hb
  unfold rdy
  rw [hD 74 _ (by omega), hD 76 _ (by omega), hD 77 _ (by omega)]
  exact hW b hb
theorem rdy_m {Z : Shp} {D : Mem} (hZ : OKZ Z) (hFD : Fix D) {h k : Nat} (hk : k < 12) (hh : h ≤ 600) (hh2 : rI D 51 11 = nI h) : ∃ v : Int32, fX12_isReady Z D 51 (nI k) = some v ∧ ((v = 1 ∧ rdy D h k) ∨ (v = 0 ∧ ¬ rdy D h k)) := by
  have hix : ix (nI k) = k := ix_nI (by omega)
  have a74 : aok Z 74 100 (nI k) := aok_nI (tg_74 hZ) (by omega) (by decide)
  by_cases c : rI D 74 k = -1
  · exact ⟨0, by simp [fX12_isReady, tg_51 hZ, fr_51_29 hFD, if_pos a74, hix, c], Or.inr ⟨rfl, fun e => e.1 c⟩⟩
  · have hlt : nI h < rI D 74 k ↔ ¬ (rI D 74 k).toInt ≤ (h : Int) := by
      rw [i32_lt, nI_toInt (by omega)]
      omega
    by_cases d : (rI D 74 k).toInt ≤ (h : Int)
    · have d2 : ¬ nI h < rI D 74 k := fun e => hlt.mp e d
      exact ⟨1, by simp [fX12_isReady, tg_51 hZ, fr_51_29 hFD, if_pos a74, hix, c, hh2, d2], Or.inl ⟨rfl, c, d⟩⟩
    · have d2 := hlt.mpr d
      exact ⟨0, by simp [fX12_isReady, tg_51 hZ, fr_51_29 hFD, if_pos a74, hix, c, hh2, d2], Or.inr ⟨rfl, fun e => d e.2⟩⟩
abbrev Ffl : List (Nat × Option Nat) := [(76, none), (77, none)]
theorem flags_m {Z : Shp} {D : Mem} (hZ : OKZ Z) (hFD : Fix D) {h n : Nat} (hn : n ≤ 12) (hh : h ≤ 600) (hh2 : rI D 51 11 = nI h) (h21 : rI D 51 21 = nI n) : ∃ D1, loop (fun s18 : Int32 × Mem => (if (rI s18.2 51 21) ≤ s18.1 then some (Sum.inr s18.2) else (if aok Z (rR s18.2 51 31) 101 s18.1 then (pu (wI s18.2 (rR s18.2 51 31) (ix s18.1) (0 : Int32)) (fun M23 => (Option.bind (fX12_isReady Z M23 51 s18.1) (fun v24 => (if aok Z (rR M23 51 32) 101 s18.1 then (if zb v24 then (pu (wI M23 (rR M23 51 32) (ix s18.1) v24) (fun M27 => some (Sum.inl ((s18.1 + (1 : Int32)), M27)))) else none) else none))))) else none))) ((0 : Int32), D) = some D1 ∧ Wr Z Ffl [] [] D D1 ∧ RW D1 h n := by
  have hd : dis Ffl [(51, none), (74, none)] = true := by decide
  refine loop_inv (fun s : Int32 × Mem => ∃ j, j ≤ n ∧ s.1 = nI j ∧ Wr Z Ffl [] [] D s.2 ∧ RW s.2 h j) (fun D1 => Wr Z Ffl [] [] D D1 ∧ RW D1 h n) (fun s => n - ix s.1) ?_ _ ⟨0, by omega, rfl, Wr.rf, fun b hb => absurd hb (by omega)⟩
  rintro ⟨s, D3⟩ ⟨j, hj, e, w, hW⟩
  dsimp only at e w hW
  subst e
  have hF3 : Fix D3 := w.fix hFD (by decide)
  have r21 : rI D3 51 21 = nI n := by rw [w.row hd (a := 51) (by simp) (by omega), h21]
  by_cases hjn : j = n
  · subst hjn
    exact Or.inr ⟨D3, by simp [r21], w, hW⟩
  have hj : j < n := by omega
  have hle := nle hj (by omega)
  have hix : ix (nI j) = j := ix_nI (by omega)
  have a76 : aok Z 76 101 (nI j) := aok_nI (tg_76 hZ) (by omega) (by decide)
  have a77 : aok Z 77 101 (nI j) := aok_nI (tg_77 hZ) (by omega) (by decide)
  have hmu : n - ix (nI (j + 1)) < n - ix (nI j) := by
    rw [ix_nI (by omega), ix_nI (by omega)]
    omega
  obtain ⟨v, v1, v2⟩ := rdy_m (D := wI D3 76 j 0) (k := j) hZ (hF3.wI _ _ _) (show j < 12 by omega) hh (by rw [rI_wI, if_neg (by omega), w.row hd (a := 51) (by simp) (by omega), hh2])
  have hz : zb v := by
    rcases v2 with ⟨rfl, -⟩ | ⟨rfl, -⟩ <;> simp [zb]
  refine Or.inl ⟨(nI (j + 1), wI (wI D3 76 j 0) 77 j v), ?_, ⟨j + 1, by omega, rfl, (w.sI (by simp [inF])).sI (by simp [inF]), fun b hb => ?_⟩, hmu⟩
  · simp [r21, hle, fr_51_31 hF3, fr_51_32 hF3, if_pos a76, if_pos a77, hix, pu, rR_wI, v1, hz, nI_succ]
  · have r74 : ∀ b, rI (wI (wI D3 76 j 0) 77 j v) 74 b = rI D3 74 b := fun b => by rw [rI_wI, if_neg (by omega), rI_wI, if_neg (by omega)]
    by_cases c : b = j
    · subst c
      have y76 : rI (wI (wI D3 76 b 0) 77 b v) 76 b = 0 := by rw [rI_wI, if_neg (by omega), rI_wI, if_pos ⟨rfl, rfl⟩]
      have y77 : rI (wI (wI D3 76 b 0) 77 b v) 77 b = v := by rw [rI_wI, if_pos ⟨rfl, rfl⟩]
      have e74 : rI (wI D3 76 b 0) 74 b = rI D3 74 b := by rw [rI_wI, if_neg (by omega)]
      unfold rdy at v2 ⊢
      rw [r74, y76, y77]
      rw [e74] at v2
      rcases v2 with ⟨rfl, v3⟩ | ⟨rfl, v3⟩
      · exact ⟨Or.inl rfl, Or.inr rfl, fun _ => ⟨rfl, rfl⟩, fun _ => v3⟩
      · exact ⟨Or.inl rfl, Or.inl rfl, fun h => absurd h v3, fun h => absurd h.1 (by decide)⟩
    · have y76 : rI (wI (wI D3 76 j 0) 77 j v) 76 b = rI D3 76 b := by rw [rI_wI, if_neg (by omega), rI_wI, if_neg (by omega)]
      have y77 : rI (wI (wI D3 76 j 0) 77 j v) 77 b = rI D3 77 b := by rw [rI_wI, if_neg (by omega), rI_wI, if_neg (by omega)]
      unfold rdy
      rw [r74, y76, y77]
      exact hW b (by omega)
theorem locks_sim {Z : Shp} {C D : Mem} (hZ : OKZ Z) (hFC : Fix C) (hFD : Fix D) {n h s : Nat} (hn : n ≤ 12) (hh : h ≤ 600) (hs : s ≤ 6) (hH : HL Z n h C D) (hh1 : rI C 3 8 = nI h) (hh2 : rI D 51 11 = nI h) (hs1 : rI C 3 7 = nI s) (hs2 : rI D 51 3 = nI s) : ∃ r C1 D1, loop (fun s17 : Int32 × Int32 × Mem => (if (7 : Int32) ≤ s17.2.1 then some (Sum.inr (s17.1, s17.2.2)) else (Option.bind (fX3_workLock Z s17.2.2 3 s17.2.1) (fun v21 => (if v21.1 = 0 then (pu ((s17.1 + (0 : Int32))) (fun z24 => some (Sum.inl (z24, (s17.2.1 + (1 : Int32)), v21.2)))) else (pu ((s17.1 + (1 : Int32))) (fun z25 => some (Sum.inl (z25, (s17.2.1 + (1 : Int32)), v21.2))))))))) ((0 : Int32), (0 : Int32), C) = some (r, C1) ∧ loop (fun s32 : Int32 × Int32 × Mem => (if (7 : Int32) ≤ s32.2.1 then some (Sum.inr (s32.1, s32.2.2)) else (Option.bind (fX12_goThrough Z s32.2.2 51 s32.2.1) (fun v36 => (pu ((s32.1 + v36.1)) (fun z38 => some (Sum.inl (z38, (s32.2.1 + (1 : Int32)), v36.2)))))))) ((0 : Int32), (0 : Int32), D) = some (r, D1) ∧ HL Z n h C1 D1 ∧ Wr Z FcG [2] [] C C1 ∧ Wr Z FmG [] [] D D1 ∧ rJ D1 51 13 = rJ D 51 13 := by
  have hdC : dis FcG [(3, some 7), (3, some 8)] = true := by decide
  have hdD : dis FmG [(51, some 3), (51, some 11)] = true := by decide
  obtain ⟨r, r', q1, q2, q3, q4, q5, q6, q7⟩ := loop_sim (f := fun s17 : Int32 × Int32 × Mem => (if (7 : Int32) ≤ s17.2.1 then some (Sum.inr (s17.1, s17.2.2)) else (Option.bind (fX3_workLock Z s17.2.2 3 s17.2.1) (fun v21 => (if v21.1 = 0 then (pu ((s17.1 + (0 : Int32))) (fun z24 => some (Sum.inl (z24, (s17.2.1 + (1 : Int32)), v21.2)))) else (pu ((s17.1 + (1 : Int32))) (fun z25 => some (Sum.inl (z25, (s17.2.1 + (1 : Int32)), v21.2)))))))))
    (g := fun s32 : Int32 × Int32 × Mem => (if (7 : Int32) ≤ s32.2.1 then some (Sum.inr (s32.1, s32.2.2)) else (Option.bind (fX12_goThrough Z s32.2.2 51 s32.2.1) (fun v36 => (pu ((s32.1 + v36.1)) (fun z38 => some (Sum.inl (z38, (s32.2.1 + (1 : Int32)), v36.2))))))))
    (fun s t => s.1 = t.1 ∧ (∃ i, i ≤ 7 ∧ s.2.1 = nI i ∧ t.2.1 = nI i) ∧ HL Z n h s.2.2 t.2.2 ∧ Wr Z FcG [2] [] C s.2.2 ∧ Wr Z FmG [] [] D t.2.2 ∧ rJ t.2.2 51 13 = rJ D 51 13) (fun r r' => r.1 = r'.1 ∧ HL Z n h r.2 r'.2 ∧ Wr Z FcG [2] [] C r.2 ∧ Wr Z FmG [] [] D r'.2 ∧ rJ r'.2 51 13 = rJ D 51 13) (fun s => 7 - ix s.2.1) (by
    rintro ⟨a, s, C3⟩ ⟨b, t, D3⟩ ⟨e0, ⟨i, hi, e1, e2⟩, hH3, wc, wd, e3⟩
    dsimp only at e0 e1 e2 hH3 wc wd e3
    subst e0 e1 e2
    by_cases h7 : i = 7
    · subst h7
      exact Or.inr ⟨(a, C3), (a, D3), by simp [show (7 : Int32) ≤ nI 7 by decide], by simp [show (7 : Int32) ≤ nI 7 by decide], rfl, hH3, wc, wd, e3⟩
    have hi : i < 7 := by omega
    have hle : ¬ (7 : Int32) ≤ nI i := nlit hi rfl (by decide)
    have hFC3 : Fix C3 := wc.fix hFC (by decide)
    have hFD3 : Fix D3 := wd.fix hFD (by decide)
    obtain ⟨r, C4, D4, g1, g2, g3, g4, g5, g6, g7⟩ := go_sim hZ hFC3 hFD3 hn hh hi hs hH3 (by rw [wc.at hdC (a := 3) (k := 8) (by simp) (by omega), hh1]) (by rw [wd.at hdD (a := 51) (k := 11) (by simp) (by omega), hh2]) (by rw [wc.at hdC (a := 3) (k := 7) (by simp) (by omega), hs1]) (by rw [wd.at hdD (a := 51) (k := 3) (by simp) (by omega), hs2])
    refine Or.inl ⟨(a + r, nI (i + 1), C4), (a + r, nI (i + 1), D4), ?_, ?_, ⟨rfl, ⟨i + 1, by omega, rfl, rfl⟩, g4, wc.tr g5, wd.tr g6, g7.trans e3⟩, ?_⟩
    · rcases g3 with rfl | rfl
      · simp [hle, g1, pu, nI_succ]
      · simp [hle, g1, pu, nI_succ]
    · simp [hle, g2, pu, nI_succ]
    · dsimp only
      rw [ix_nI (by omega), ix_nI (by omega)]
      omega) ((0 : Int32), (0 : Int32), C) ((0 : Int32), (0 : Int32), D) ⟨rfl, ⟨0, by omega, rfl, rfl⟩, hH, Wr.rf, Wr.rf, rfl⟩
  exact ⟨r.1, r.2, r'.2, by rw [q1], by rw [q2, q3], q4, q5, q6, q7⟩
abbrev FmQ : List (Nat × Option Nat) := [(75, none), (51, some 11)]
/-- who waits -/
theorem waiting_sim {Z : Shp} {C D : Mem} (hZ : OKZ Z) (hFC : Fix C) (hFD : Fix D) {n h : Nat} {r : Int32} (hn : n ≤ 12) (hh : h ≤ 600) (h5 : R5 Z n C D) (hW : RW D h n) (hh1 : rI C 3 8 = nI h) (hh2 : rI D 51 11 = nI h) (hz : ∀ k, n ≤ k → rI D 75 k = 0) : ∃ C1 D1, fX3_countWaiting Z C 3 = some C1 ∧ loop (fun s39 : Int32 × Mem => (if (rI s39.2 51 21) ≤ s39.1 then (pu (wI s39.2 51 11 ((rI s39.2 51 11) + (1 : Int32))) (fun M43 => some (Sum.inr (r, M43)))) else (if aok Z (rR s39.2 51 30) 100 s39.1 then (if aok Z (rR s39.2 51 32) 101 s39.1 then (if (rI s39.2 (rR s39.2 51 32) (ix s39.1)) = 0 then (pu (wI s39.2 (rR s39.2 51 30) (ix s39.1) ((rI s39.2 (rR s39.2 51 30) (ix s39.1)) + (0 : Int32))) (fun M47 => some (Sum.inl ((s39.1 + (1 : Int32)), M47)))) else (if aok Z (rR s39.2 51 31) 101 s39.1 then (if (rI s39.2 (rR s39.2 51 31) (ix s39.1)) = 0 then (pu (wI s39.2 (rR s39.2 51 30) (ix s39.1) ((rI s39.2 (rR s39.2 51 30) (ix s39.1)) + (1 : Int32))) (fun M50 => some (Sum.inl ((s39.1 + (1 : Int32)), M50)))) else (pu (wI s39.2 (rR s39.2 51 30) (ix s39.1) ((rI s39.2 (rR s39.2 51 30) (ix s39.1)) + (0 : Int32))) (fun M51 => some (Sum.inl ((s39.1 + (1 : Int32)), M51))))) else none)) else none) else none))) ((0 : Int32), D) = some (r, wI D1 51 11 (nI h + 1)) ∧ R5 Z n C1 D1 ∧ Wr Z [] [2] [] C C1 ∧ Wr Z [(75, none)] [] [] D D1 ∧ ∀ k, n ≤ k → rI D1 75 k = 0 := by
  have hd : dis [(75, none)] [(51, none), (74, none), (76, none), (77, none)] = true := by decide
  unfold fX3_countWaiting
  obtain ⟨C1, o, q1, q2, D1, q3, q4, q5, q6, q7⟩ := loop_sim (f := fun s1 : Int32 × Mem => (if tg Z 3 = (4, 11) then (if (rI s1.2 3 6) ≤ s1.1 then some (Sum.inr s1.2) else (if aok Z (rR s1.2 3 4) 113 s1.1 then (if tg Z (rR s1.2 (rR s1.2 3 4) (ix s1.1)) = (2, 10) then (Option.bind (fX1_isReady Z s1.2 (rR s1.2 (rR s1.2 3 4) (ix s1.1)) (rI s1.2 3 8)) (fun v8 => (if v8 = 0 then some (Sum.inl ((s1.1 + (1 : Int32)), s1.2)) else (pu (wI s1.2 (rR s1.2 (rR s1.2 3 4) (ix s1.1)) 8 ((rI s1.2 (rR s1.2 (rR s1.2 3 4) (ix s1.1)) 8) + (1 : Int32))) (fun M11 => some (Sum.inl ((s1.1 + (1 : Int32)), M11))))))) else none) else none)) else none))
    (g := fun s39 : Int32 × Mem => (if (rI s39.2 51 21) ≤ s39.1 then (pu (wI s39.2 51 11 ((rI s39.2 51 11) + (1 : Int32))) (fun M43 => some (Sum.inr (r, M43)))) else (if aok Z (rR s39.2 51 30) 100 s39.1 then (if aok Z (rR s39.2 51 32) 101 s39.1 then (if (rI s39.2 (rR s39.2 51 32) (ix s39.1)) = 0 then (pu (wI s39.2 (rR s39.2 51 30) (ix s39.1) ((rI s39.2 (rR s39.2 51 30) (ix s39.1)) + (0 : Int32))) (fun M47 => some (Sum.inl ((s39.1 + (1 : Int32)), M47)))) else (if aok Z (rR s39.2 51 31) 101 s39.1 then (if (rI s39.2 (rR s39.2 51 31) (ix s39.1)) = 0 then (pu (wI s39.2 (rR s39.2 51 30) (ix s39.1) ((rI s39.2 (rR s39.2 51 30) (ix s39.1)) + (1 : Int32))) (fun M50 => some (Sum.inl ((s39.1 + (1 : Int32)), M50)))) else (pu (wI s39.2 (rR s39.2 51 30) (ix s39.1) ((rI s39.2 (rR s39.2 51 30) (ix s39.1)) + (0 : Int32))) (fun M51 => some (Sum.inl ((s39.1 + (1 : Int32)), M51))))) else none)) else none) else none)))
    (fun s t => ∃ j, j ≤ n ∧ s.1 = nI j ∧ t.1 = nI j ∧ R5 Z n s.2 t.2 ∧ Wr Z [] [2] [] C s.2 ∧ Wr Z [(75, none)] [] [] D t.2 ∧ ∀ k, n ≤ k → rI t.2 75 k = 0) (fun C1 o => ∃ D1, o = (r, wI D1 51 11 (nI h + 1)) ∧ R5 Z n C1 D1 ∧ Wr Z [] [2] [] C C1 ∧ Wr Z [(75, none)] [] [] D D1 ∧ ∀ k, n ≤ k → rI D1 75 k = 0) (fun s => n - ix s.1) (by
    rintro ⟨s, C3⟩ ⟨t, D3⟩ ⟨j, hj, e1, e2, h53, wc, wd, hz3⟩
    dsimp only at e1 e2 h53 wc wd hz3
    subst e1 e2
    have hFC3 : Fix C3 := wc.fix hFC (by decide)
    have hFD3 : Fix D3 := wd.fix hFD (by decide)
    obtain ⟨n1, n2, n3, n4⟩ := id h53
    have c8 : rI C3 3 8 = nI h := by rw [(wc.1 3 8 (by simp [inF]) (by omega)).1, hh1]
    have d11 : rI D3 51 11 = nI h := by rw [wd.row hd (a := 51) (by simp) (by omega), hh2]
    by_cases hjn : j = n
    · subst hjn
      exact Or.inr ⟨C3, (r, wI D3 51 11 (nI h + 1)), by simp [tg_3 hZ, n1], by simp [n2, pu, d11], D3, rfl, h53, wc, wd, hz3⟩
    have hj : j < n := by omega
    have hle := nle hj (by omega)
    have hix : ix (nI j) = j := ix_nI (by omega)
    have hmu : n - ix (nI (j + 1)) < n - ix (nI j) := by
      rw [ix_nI (by omega), ix_nI (by omega)]
      omega
    have a8 : aok Z 8 113 (nI j) := aok_nI (tg_8 hZ) (by omega) (by decide)
    have a75 : aok Z 75 100 (nI j) := aok_nI (tg_75 hZ) (by omega) (by decide)
    have a76 : aok Z 76 101 (nI j) := aok_nI (tg_76 hZ) (by omega) (by decide)
    have a77 : aok Z 77 101 (nI j) := aok_nI (tg_77 hZ) (by omega) (by decide)
    have hB := n3 j hj
    obtain ⟨v, v1, -, v3⟩ := ready_sim (h := h) hZ hFD3 (show j < 12 by omega) hh hB d11
    have r76 := wd.row hd (a := 76) (by simp) (by omega) j
    have r77 := wd.row hd (a := 77) (by simp) (by omega) j
    have r74 := wd.row hd (a := 74) (by simp) (by omega) j
    obtain ⟨w1, w2, w3⟩ := hW j hj
    have hrd : rdy D3 h j ↔ rdy D h j := by
      unfold rdy
      rw [r74]
    have hadd : ∀ x : Int32, x + 0 = x := fun x => by simp
    have hwid : wI D3 75 j (rI D3 75 j) = D3 := by
      refine mem_ext (fun a k => ?_) (fun _ _ => rfl) (fun _ _ => rfl)
      rw [rI_wI]
      by_cases c : a = 75 ∧ k = j
      · rw [if_pos c, c.1, c.2]
      · rw [if_neg c]
    left
    rcases v3 with ⟨rfl, v4⟩ | ⟨rfl, v4⟩
    · obtain ⟨y1, y2⟩ := w3.mp (hrd.mp v4)
      have qB : (tg Z (rR C3 8 j)).1 ∈ [2] := by rw [hB.1.2]; simp
      refine ⟨(nI (j + 1), wI C3 (rR C3 8 j) 8 (rI C3 (rR C3 8 j) 8 + 1)), (nI (j + 1), wI D3 75 j (rI D3 75 j + 1)), ?_, ?_, ⟨j + 1, by omega, rfl, rfl, ⟨?_, ?_, fun b hb => ?_, n4⟩, wc.sD hB.1.1 qB, wd.sI (by simp [inF]), fun k hk => ?_⟩, hmu⟩
      · simp [tg_3 hZ, n1, hle, fr_3_4 hFC3, if_pos a8, hix, hB.1.2, c8, v1, pu, nI_succ]
      · simp [n2, hle, fr_51_30 hFD3, fr_51_31 hFD3, fr_51_32 hFD3, if_pos a75, if_pos a76, if_pos a77, hix, r76, r77, y1, y2, pu, nI_succ]
      · have := hB.1.1
        rw [rI_wI, if_neg (by omega), n1]
      · rw [rI_wI, if_neg (by omega), n2]
      · have hBb := n3 b hb
        have e8 := hB.2.2.2.2.2.2.2.2.2.1
        have hBb1 := hBb.1.1
        have F : ∀ x, x ≠ 8 → rI (wI C3 (rR C3 8 j) 8 (rI C3 (rR C3 8 j) 8 + 1)) (rR C3 8 b) x = rI C3 (rR C3 8 b) x := fun x hx => by rw [rI_wI, if_neg (by omega)]
        have G : ∀ a, a ≠ 75 → rI (wI D3 75 j (rI D3 75 j + 1)) a b = rI D3 a b := fun a ha => by rw [rI_wI, if_neg (by omega)]
        have F8 : rI (wI C3 (rR C3 8 j) 8 (rI C3 (rR C3 8 j) 8 + 1)) (rR C3 8 b) 8 = rI (wI D3 75 j (rI D3 75 j + 1)) 75 b := by
          by_cases c : b = j
          · subst c
            rw [rI_wI, if_pos ⟨rfl, rfl⟩, rI_wI, if_pos ⟨rfl, rfl⟩, e8]
          · have hne : rR C3 8 b ≠ rR C3 8 j := by
              rcases Nat.lt_or_ge b j with h2 | h2
              · exact n4 b j h2 hj
              · exact (n4 j b (by omega) hb).symm
            rw [rI_wI, if_neg (fun e => hne e.1), rI_wI, if_neg (fun e => c e.2)]
            exact hBb.2.2.2.2.2.2.2.2.2.1
        obtain ⟨z0, z1, z2, z3, z4, z5, z6, z7, z8, z9, z10, z11⟩ := hBb
        unfold b2
        rw [rR_wI, F 0 (by omega), F 1 (by omega), F 2 (by omega), F 3 (by omega), F 4 (by omega), F 5 (by omega), F 6 (by omega), F 7 (by omega), F8, F 9 (by omega), G 67 (by omega), G 68 (by omega), G 69 (by omega), G 70 (by omega), G 71 (by omega), G 72 (by omega), G 73 (by omega), G 74 (by omega), G 100 (by omega)]
        exact ⟨z0, z1, z2, z3, z4, z5, z6, z7, z8, rfl, z10, z11⟩
      · show rI (wI D3 75 j (rI D3 75 j + 1)) 75 k = 0
        rw [rI_wI, if_neg (by omega)]
        exact hz3 k hk
    · have hno : ¬ (rI D 77 j = 1 ∧ rI D 76 j = 0) := fun e => v4 (hrd.mpr (w3.mpr e))
      refine ⟨(nI (j + 1), C3), (nI (j + 1), D3), ?_, ?_, ⟨j + 1, by omega, rfl, rfl, h53, wc, wd, hz3⟩, hmu⟩
      · simp [tg_3 hZ, n1, hle, fr_3_4 hFC3, if_pos a8, hix, hB.1.2, c8, v1, nI_succ]
      · by_cases y1 : rI D 77 j = 0
        · simp [n2, hle, fr_51_30 hFD3, fr_51_32 hFD3, if_pos a75, if_pos a77, hix, r77, y1, pu, hwid, nI_succ]
        · have y2 : ¬ rI D 76 j = 0 := fun e => hno ⟨w2.resolve_left y1, e⟩
          simp [n2, hle, fr_51_30 hFD3, fr_51_31 hFD3, fr_51_32 hFD3, if_pos a75, if_pos a76, if_pos a77, hix, r76, r77, y1, y2, pu, hwid, nI_succ]) ((0 : Int32), C) ((0 : Int32), D) ⟨0, by omega, rfl, rfl, h5, Wr.rf, Wr.rf, hz⟩
  exact ⟨C1, D1, q1, by rw [q2, q3], q4, q5, q6, q7⟩
