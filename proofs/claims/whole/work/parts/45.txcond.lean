/-! texts: the condition is read -/
theorem st7 {dep : Nat} (hd : dep < 1000) (c : Int32) : fX2_step (nI (7 + 16 * dep)) c = some (fX2_stepAtFactor (nI (7 + 16 * dep)) c) := by
  have z := zmod (r := 7) (by omega) hd
  rw [show nI 7 = 7 from rfl] at z
  simp [fX2_step, pu, z]
theorem st8 {dep : Nat} (hd : dep < 1000) (c : Int32) : fX2_step (nI (8 + 16 * dep)) c = some (if fX8_isSign c = 0 then -1 else nI (9 + 16 * dep)) := by
  have z := zmod (r := 8) (by omega) hd
  rw [show nI 8 = 8 from rfl] at z
  have e : nI (8 + 16 * dep) - 8 + 9 = nI (9 + 16 * dep) := by
    rw [show (8 : Int32) = nI 8 from rfl, pk_sub (by omega), show (9 : Int32) = nI 9 from rfl, nI_add]
    congr 1
    omega
  by_cases h : fX8_isSign c = 0
  · simp [fX2_step, pu, z, h]
  · simp [fX2_step, pu, z, h, e]
theorem st9 {dep r : Nat} (hd : dep < 1000) (h1 : 9 ≤ r) (h2 : r ≤ 11) {c : Int32} (hc : ¬ fX2_isDigit c = 0) : fX2_step (nI (r + 16 * dep)) c = some (nI (r + 1 + 16 * dep)) := by
  have z := zmod (r := r) (by omega) hd
  have e : nI (r + 16 * dep) + 1 = nI (r + 1 + 16 * dep) := by
    rw [nI_1]
    congr 1
    omega
  have hr : r = 9 ∨ r = 10 ∨ r = 11 := by omega
  rcases hr with rfl | rfl | rfl
  · rw [show nI 9 = 9 from rfl] at z
    simp [fX2_step, pu, js, z, hc, e]
  · rw [show nI 10 = 10 from rfl] at z
    simp [fX2_step, pu, js, z, hc, e]
  · rw [show nI 11 = 11 from rfl] at z
    simp [fX2_step, pu, js, z, hc, e]
theorem st9n {dep : Nat} (hd : dep < 1000) {c : Int32} (hc : fX2_isDigit c = 0) : fX2_step (nI (9 + 16 * dep)) c = some (-1) := by
  have z := zmod (r := 9) (by omega) hd
  rw [show nI 9 = 9 from rfl] at z
  simp [fX2_step, pu, js, z, hc]
theorem stB {dep r : Nat} (hd : dep < 1000) (h1 : 10 ≤ r) (h2 : r ≤ 13) {c : Int32} (hc : fX2_isDigit c = 0 ∨ 12 ≤ r) : fX2_step (nI (r + 16 * dep)) c = some (fX2_stepBehindFactor (nI (16 * dep)) c) := by
  have z := zmod (r := r) (by omega) hd
  have e : nI (r + 16 * dep) - nI r = nI (16 * dep) := by
    rw [pk_sub (by omega)]
    congr 1
    omega
  have hr : r = 10 ∨ r = 11 ∨ r = 12 ∨ r = 13 := by omega
  rcases hr with rfl | rfl | rfl | rfl
  · rw [show nI 10 = 10 from rfl] at z e
    simp [fX2_step, pu, js, z, hc.resolve_right (by omega), e]
  · rw [show nI 11 = 11 from rfl] at z e
    simp [fX2_step, pu, js, z, hc.resolve_right (by omega), e]
  · rw [show nI 12 = 12 from rfl] at z e
    simp [fX2_step, pu, js, z, e]
  · rw [show nI 13 = 13 from rfl] at z e
    simp [fX2_step, pu, js, z, e]
theorem ne_cons {α : Type} {D : List α} {k : Nat} (h : D.length = k + 1) : ∃ f E, D = f :: E ∧ E.length = k := by
  cases D with
  | nil => cases h
  | cons f E => exact ⟨f, E, rfl, by simpa using h⟩
theorem cOf_len : ∀ D : List Fr, (cOf D).length = D.length := by
  intro D
  induction D with
  | nil => rfl
  | cons f D ih => simp [cOf, ih]
theorem hd_keep {g : Nat → Int32} {d : Nat} {M M1 : Mem} (hA : hdA g M) (hN : hdN g d M) (h6 : rI M1 51 46 = rI M 51 46) (h7 : rI M1 51 47 = rI M 51 47) : hdA g M1 ∧ hdN g d M1 := by
  unfold hdA hdN at *
  rw [h6, h7]
  exact ⟨hA, hN⟩
theorem si4 {Z : Shp} {M0 M : Mem} {g : Nat → Int32} {n i d dep : Nat} {W : List Nat} {R : List Mk} (hZ : OKZ Z) (hF : Fix M0) (hn : n ≤ 60) (hi : i < n) (hA : hdA g M) (hN : hdN g d M) (hq : g (2 + d) = 63) (hS : Sc Z M0 M W R) (h44 : rI M 51 44 = nI dep) (hdp : dep + (d + 3) ≤ i) (h43 : rI M 51 43 = 4) (hl : W.length + R.length + (d + 3) ≤ i) (hK : K4 g n (d + 3) i W R dep) : TStp Z M0 g n i M (nI (7 + 16 * dep)) := by
  have hF1 := hS.fix hF
  have h55 := hS.2.2.1
  have hix : ix (nI W.length) = W.length := ix_nI (by omega)
  have a88 : aok Z 88 100 (nI W.length) := aok_nI (tg_88 hZ) (by omega) (by decide)
  have hgo : ∀ r M1, fX12_goFactor Z M 51 (g i) = some (r, M1) → zb r → fX12_go Z M 51 (g i) = some (r, M1) := by
    intro r M1 h hz
    simp [fX12_go, tg_51 hZ, h43, h, hz]
  by_cases c1 : g i = 33
  · have hS2 := (hS.push (w := 15) (by omega)).st (k := 44) (nI dep) (by simp) (by omega) (by omega)
    obtain ⟨hA2, hN2⟩ := hd_keep (M1 := wI (wI (wI M 88 W.length (nI 15)) 51 55 (nI (W.length + 1))) 51 44 (nI dep)) hA hN (by simp [rI_wI]) (by simp [rI_wI])
    refine ⟨1, _, nI (7 + 16 * dep), hgo _ _ ?_ (by simp [zb]), ?_, hS2.1, Or.inr ⟨rfl, nm1 (by omega), Or.inr (Or.inr (Or.inr (Or.inr ⟨d, dep, 15 :: W, R, hA2, hN2, hq, hS2, by simp [rI_wI], by omega, Or.inl ⟨by simp [rI_wI, h43], rfl, by simp; omega, ?_⟩⟩)))⟩⟩
    · simp [fX12_goFactor, js, c1, tg_51 hZ, h55, fr_51_54 hF1, if_pos a88, hix, pu, rI_wI, h44, nI_succ W.length, show nI 15 = 15 from rfl]
    · rw [st7 (by omega), c1]
      rfl
    · intro e
      obtain ⟨D, k1, k2, k3, k4⟩ := hK e
      obtain ⟨f, E, rfl, hE⟩ := ne_cons k4
      refine ⟨(f.1 + 1, f.2.1, f.2.2) :: E, k1, ?_, ?_, by simpa using hE⟩
      · rw [k2]
        simp [wOf, List.replicate_succ]
      · rw [cw_s (by omega)]
        unfold cst
        rw [if_pos c1]
        have := wd_not k3
        simp only [cOf, od_s]
        exact this
  by_cases c2 : g i = 40
  · have hS2 := (hS.push (w := 18) (by omega)).st (k := 44) (nI (dep + 1)) (by simp) (by omega) (by omega)
    obtain ⟨hA2, hN2⟩ := hd_keep (M1 := wI (wI (wI M 88 W.length (nI 18)) 51 55 (nI (W.length + 1))) 51 44 (nI (dep + 1))) hA hN (by simp [rI_wI]) (by simp [rI_wI])
    refine ⟨1, _, nI (7 + 16 * (dep + 1)), hgo _ _ ?_ (by simp [zb]), ?_, hS2.1, Or.inr ⟨rfl, nm1 (by omega), Or.inr (Or.inr (Or.inr (Or.inr ⟨d, dep + 1, 18 :: W, R, hA2, hN2, hq, hS2, by simp [rI_wI], by omega, Or.inl ⟨by simp [rI_wI, h43], rfl, by simp; omega, ?_⟩⟩)))⟩⟩
    · simp [fX12_goFactor, js, c2, tg_51 hZ, h55, fr_51_54 hF1, if_pos a88, hix, pu, rI_wI, h44, nI_succ W.length, nI_succ dep, show nI 18 = 18 from rfl]
    · rw [st7 (by omega), c2]
      show some (nI (7 + 16 * dep) + 16) = _
      rw [show (16 : Int32) = nI 16 from rfl, nI_add]
      congr 1
    · intro e
      obtain ⟨D, k1, k2, k3, k4⟩ := hK e
      obtain ⟨f, E, rfl, hE⟩ := ne_cons k4
      refine ⟨(0, none, none) :: f :: E, k1, ?_, ?_, by simpa using hE⟩
      · rw [k2]
        rfl
      · rw [cw_s (by omega)]
        unfold cst
        rw [if_neg c1, if_pos c2]
        have := wd_open k3 (by rw [cOf_len, k4]; omega)
        exact this
  have hS2 := (hS.st (k := 49) (fX12_letterOf (g i)) (by simp) (by omega) (by omega)).st (k := 43) 5 (by simp) (by omega) (by omega)
  obtain ⟨hA2, hN2⟩ := hd_keep (M1 := wI (wI M 51 49 (fX12_letterOf (g i))) 51 43 5) hA hN (by simp [rI_wI]) (by simp [rI_wI])
  by_cases c3 : fX2_isName (g i) = 0
  · have c4 := name_no c3
    refine ⟨0, _, -1, hgo _ _ ?_ (by simp [zb]), ?_, hS2.1, Or.inl ⟨rfl, rfl⟩⟩
    · simp [fX12_goFactor, js, c1, c2, tg_51 hZ, pu, rI_wI, c4]
    · rw [st7 (by omega)]
      simp [fX2_stepAtFactor, c1, c2, c3]
  · obtain ⟨L, l1, l2, l3, l4, l5, l6, l7, l8⟩ := name_yes c3
    refine ⟨1, _, nI (8 + 16 * dep), hgo _ _ ?_ (by simp [zb]), ?_, hS2.1, Or.inr ⟨rfl, nm1 (by omega), Or.inr (Or.inr (Or.inr (Or.inr ⟨d, dep, W, R, hA2, hN2, hq, hS2, by simp [rI_wI, h44], by omega, Or.inr (Or.inl ⟨by simp [rI_wI], rfl, by omega, ?_, L, l1, by simp [rI_wI, l2], by simpa using l3⟩)⟩)))⟩⟩
    · have := nm1 (b := L) (by omega)
      simp [fX12_goFactor, js, c1, c2, tg_51 hZ, pu, rI_wI, l2, this]
    · have e : nI (7 + 16 * dep) - 7 + 8 = nI (8 + 16 * dep) := by
        rw [show (7 : Int32) = nI 7 from rfl, pk_sub (by omega), show (8 : Int32) = nI 8 from rfl, nI_add]
        congr 1
        omega
      rw [st7 (by omega)]
      simp [fX2_stepAtFactor, c1, c2, c3, e]
    · intro e
      obtain ⟨D, k1, k2, k3, k4⟩ := hK e
      refine ⟨D, k1, k2, ?_, k4⟩
      rw [cw_s (by omega), cst_0 c1 c2 l6 l7 l8]
      exact k3
theorem si5 {Z : Shp} {M0 M : Mem} {g : Nat → Int32} {n i d dep L : Nat} {W : List Nat} {R : List Mk} (hZ : OKZ Z) (hi : i < n) (hn : n ≤ 60) (hA : hdA g M) (hN : hdN g d M) (hq : g (2 + d) = 63) (hS : Sc Z M0 M W R) (h44 : rI M 51 44 = nI dep) (hdp : dep + (d + 3) ≤ i) (h43 : rI M 51 43 = 5) (hl : W.length + R.length + (d + 3) + 1 ≤ i) (hK : K4 g n (d + 3) i W R dep) (hL : L < 5) (h49 : rI M 51 49 = nI L) (hv : ∀ e : En, lval e (g (i - 1)) = e L) : TStp Z M0 g n i M (nI (8 + 16 * dep)) := by
  by_cases c : fX8_isSign (g i) = 0
  · have c0 : ¬ g i = 60 ∧ ¬ g i = 61 ∧ ¬ g i = 62 := by
      refine ⟨fun h => ?_, fun h => ?_, fun h => ?_⟩ <;> (rw [h] at c; exact absurd c (by decide))
    have hS2 := (hS.st (k := 50) 2 (by simp) (by omega) (by omega)).st (k := 43) 6 (by simp) (by omega) (by omega)
    refine ⟨0, _, -1, ?_, ?_, hS2.1, Or.inl ⟨rfl, rfl⟩⟩
    · simp [fX12_go, tg_51 hZ, h43, c0, pu]
    · rw [st8 (by omega), if_pos c]
  · obtain ⟨sg, s1, s2, s3, s4⟩ := sign_yes c
    have hS2 := (hS.st (k := 50) (nI sg) (by simp) (by omega) (by omega)).st (k := 43) 6 (by simp) (by omega) (by omega)
    obtain ⟨hA2, hN2⟩ := hd_keep (M1 := wI (wI M 51 50 (nI sg)) 51 43 6) hA hN (by simp [rI_wI]) (by simp [rI_wI])
    refine ⟨1, _, nI (9 + 16 * dep), ?_, ?_, hS2.1, Or.inr ⟨rfl, nm1 (by omega), Or.inr (Or.inr (Or.inr (Or.inr ⟨d, dep, W, R, hA2, hN2, hq, hS2, by simp [rI_wI, h44], by omega, Or.inr (Or.inr (Or.inl ⟨i, 0, L, sg, rfl, hl, Or.inl ⟨rfl, by simp [rI_wI], rfl⟩, fun k hk => absurd hk (by omega), ?_, hL, s1, by simp [rI_wI, h49], by simp [rI_wI], hv, fun e t => s3 e L t⟩))⟩)))⟩⟩
    · have hgo : fX12_go Z M 51 (g i) = Option.bind (if g i = 60 then some (0 : Int32) else if g i = 61 then some 1 else some 2) (fun v36 => if g i = 60 then some ((1 : Int32), wI (wI M 51 50 v36) 51 43 6) else if g i = 61 then some (1, wI (wI M 51 50 v36) 51 43 6) else if g i = 62 then some (1, wI (wI M 51 50 v36) 51 43 6) else some (0, wI (wI M 51 50 v36) 51 43 6)) := by
        simp [fX12_go, tg_51 hZ, h43, pu]
      rw [hgo, s2, Option.bind_some]
      rcases s4 with h | h | h
      · simp [h]
      · simp [h]
      · simp [h]
    · rw [st8 (by omega), if_neg c]
    · intro e
      obtain ⟨D, k1, k2, k3, k4⟩ := hK e
      obtain ⟨f, E, rfl, hE⟩ := ne_cons k4
      refine ⟨f :: E, k1, k2, ?_, k4⟩
      have c0 : ¬ g i = 33 ∧ ¬ g i = 40 ∧ ¬ g i = 41 ∧ ¬ g i = 124 := by
        rcases s4 with h | h | h <;> rw [h] <;> decide
      rw [show i + 1 + 0 = i + 1 from rfl, cw_s (by omega)]
      unfold cst
      rw [if_neg c0.1, if_neg c0.2.1, if_neg c0.2.2.1, if_neg c0.2.2.2, if_neg c]
      exact wd_fin k3 _
/-- behind a factor, whose number, if it has one, is laid -/
theorem behind {Z : Shp} {M0 M M1 : Mem} {g : Nat → Int32} {n i d dep : Nat} {W : List Nat} {R : List Mk} (hZ : OKZ Z) (hF : Fix M0) (hn : n ≤ 60) (hi : i < n) (hA : hdA g M) (hN : hdN g d M) (hq : g (2 + d) = 63) (hw : Wr Z FScan [] [] M0 M) (he : fX12_endNumber Z M 51 = some M1) (hfr : ∀ k, k ≠ 53 → rI M1 51 k = rI M 51 k) (hS : Sc Z M0 M1 W R) (h44 : rI M 51 44 = nI dep) (hdp : dep + (d + 3) ≤ i) (hl : W.length + R.length + (d + 3) ≤ i) (hK : K8 g n (d + 3) i W R dep) : ∃ r M2 x1, fX12_goBehind Z M 51 (g i) = some (r, M2) ∧ zb r ∧ fX2_stepBehindFactor (nI (16 * dep)) (g i) = x1 ∧ Wr Z FScan [] [] M0 M2 ∧ ((r = 0 ∧ x1 = -1) ∨ (r = 1 ∧ ¬ x1 = -1 ∧ SI Z M0 g n (i + 1) M2 x1)) := by
  by_cases c1 : g i = 38
  · obtain ⟨M2, g1, g2, g3, g4⟩ := gb_bar hZ hF he hS (by omega) (c := g i) (y := 16) (Or.inl ⟨c1, rfl⟩)
    obtain ⟨hA2, hN2⟩ := hd_keep (M1 := M2) hA hN (by rw [g4 46 (by omega) (by omega) (by omega), hfr 46 (by omega)]) (by rw [g4 47 (by omega) (by omega) (by omega), hfr 47 (by omega)])
    have hll := ld_len 16 W R
    refine ⟨1, M2, nI (7 + 16 * dep), g1, by simp [zb], ?_, g2.1, Or.inr ⟨rfl, nm1 (by omega), Or.inr (Or.inr (Or.inr (Or.inr ⟨d, dep, _, _, hA2, hN2, hq, g2, by rw [g4 44 (by omega) (by omega) (by omega), hfr 44 (by omega), h44], by omega, Or.inl ⟨g3, rfl, by simp; omega, ?_⟩⟩)))⟩⟩
    · rw [c1]
      show nI (16 * dep) + 7 = _
      rw [show (7 : Int32) = nI 7 from rfl, nI_add, Nat.add_comm]
    · intro e
      obtain ⟨D, v, k1, k2, k3, k4⟩ := hK e
      obtain ⟨f, E, rfl, hE⟩ := ne_cons k4
      subst k2
      obtain ⟨p1, p2⟩ := ld16 k1
      refine ⟨(0, some (f.2.1.getD true && (v != od f.1)), f.2.2) :: E, p2, ?_, ?_, by simpa using hE⟩
      · rw [p1]
        rfl
      · have hsg : fX8_isSign (g i) = 0 := by rw [c1]; decide
        rw [cw_s (by omega), cst_0 (by rw [c1]; decide) (by rw [c1]; decide) (by rw [c1]; decide) (by rw [c1]; decide) hsg]
        exact k3
  by_cases c2 : g i = 124
  · obtain ⟨M2, g1, g2, g3, g4⟩ := gb_bar hZ hF he hS (by omega) (c := g i) (y := 17) (Or.inr ⟨c2, rfl⟩)
    obtain ⟨hA2, hN2⟩ := hd_keep (M1 := M2) hA hN (by rw [g4 46 (by omega) (by omega) (by omega), hfr 46 (by omega)]) (by rw [g4 47 (by omega) (by omega) (by omega), hfr 47 (by omega)])
    have hll := ld_len 17 W R
    refine ⟨1, M2, nI (7 + 16 * dep), g1, by simp [zb], ?_, g2.1, Or.inr ⟨rfl, nm1 (by omega), Or.inr (Or.inr (Or.inr (Or.inr ⟨d, dep, _, _, hA2, hN2, hq, g2, by rw [g4 44 (by omega) (by omega) (by omega), hfr 44 (by omega), h44], by omega, Or.inl ⟨g3, rfl, by simp; omega, ?_⟩⟩)))⟩⟩
    · rw [c2]
      show nI (16 * dep) + 7 = _
      rw [show (7 : Int32) = nI 7 from rfl, nI_add, Nat.add_comm]
    · intro e
      obtain ⟨D, v, k1, k2, k3, k4⟩ := hK e
      obtain ⟨f, E, rfl, hE⟩ := ne_cons k4
      subst k2
      obtain ⟨p1, p2⟩ := ld17 k1
      refine ⟨(0, none, some (res v f)) :: E, p2, ?_, ?_, by simpa using hE⟩
      · rw [p1]
        rfl
      · rw [cw_s (by omega)]
        unfold cst
        rw [if_neg (by rw [c2]; decide), if_neg (by rw [c2]; decide), if_neg (by rw [c2]; decide), if_pos c2]
        exact wd_bar k3
  by_cases c3 : g i = 41
  · cases dep with
    | zero =>
      have h0 : rI M 51 44 = 0 := h44
      refine ⟨0, M, -1, gb_no hZ c1 c2 (fun _ => h0), by simp [zb], ?_, hw, Or.inl ⟨rfl, rfl⟩⟩
      rw [c3]
      decide
    | succ dep =>
      have hex : ∃ W1, (ld 17 W R).1 = 18 :: W1 ∧ ∀ e, ∃ D v, rpn e (ld 17 W R).2 = some (v :: sOf D) ∧ W1 = wOf D ∧ wd (cw g n e (d + 3) (i + 1 - (d + 3))) (aft v D) ∧ D.length = dep + 1 := by
        have key : ∀ e, ∃ D v, (ld 17 W R).1 = 18 :: wOf D ∧ rpn e (ld 17 W R).2 = some (v :: sOf D) ∧ wd (cw g n e (d + 3) (i + 1 - (d + 3))) (aft v D) ∧ D.length = dep + 1 := by
          intro e
          obtain ⟨D, v, k1, k2, k3, k4⟩ := hK e
          obtain ⟨f, E, rfl, hE⟩ := ne_cons k4
          obtain ⟨f2, E2, rfl, hE2⟩ := ne_cons hE
          subst k2
          obtain ⟨p1, p2⟩ := ld17 k1
          refine ⟨f2 :: E2, res v f, p1, p2, ?_, hE⟩
          rw [cw_s (by omega)]
          unfold cst
          rw [if_neg (by rw [c3]; decide), if_neg (by rw [c3]; decide), if_pos c3]
          have hval := wd_val k3
          have hres : (!decide (lg_cmp (((cw g n e (d + 3) (i - (d + 3))).1 ||| (cw g n e (d + 3) (i - (d + 3))).2.1) &&& 1) 0 = 0)) = res v f := by
            have hr : (f.2.2.getD false || (f.2.1.getD true && (v != od f.1))) = res v f := rfl
            by_cases q : lg_cmp (((cw g n e (d + 3) (i - (d + 3))).1 ||| (cw g n e (d + 3) (i - (d + 3))).2.1) &&& 1) 0 = 0
            · rw [decide_eq_true q, ← hr]
              exact (hval.mp q).symm
            · rw [decide_eq_false q, ← hr]
              have := mt hval.mpr q
              simp only [Bool.not_eq_false] at this
              exact this.symm
          rw [hres]
          exact wd_fin (wd_pop k3) _
        obtain ⟨D0, v0, q1, -⟩ := key (fun _ => 0)
        refine ⟨wOf D0, q1, fun e => ?_⟩
        obtain ⟨D, v, r1, r2, r3, r4⟩ := key e
        refine ⟨D, v, r2, ?_, r3, r4⟩
        rw [q1] at r1
        exact (List.cons.inj r1).2
      obtain ⟨W1, q1, q2⟩ := hex
      have hll := ld_len 17 W R
      rw [q1, List.length_cons] at hll
      obtain ⟨M2, g1, g2, g3, g4, g5⟩ := gb_close hZ hF he hS (by omega) (w := 18) (W1 := W1) (R1 := (ld 17 W R).2) (Prod.ext q1 rfl) (by omega) h44 (by rw [hfr 44 (by omega), h44])
      obtain ⟨hA2, hN2⟩ := hd_keep (M1 := M2) hA hN (by rw [g5 46 (by omega) (by omega) (by omega) (by omega), hfr 46 (by omega)]) (by rw [g5 47 (by omega) (by omega) (by omega) (by omega), hfr 47 (by omega)])
      refine ⟨1, M2, nI (13 + 16 * dep), by rw [c3]; exact g1, by simp [zb], ?_, g2.1, Or.inr ⟨rfl, nm1 (by omega), Or.inr (Or.inr (Or.inr (Or.inr ⟨d, dep, _, _, hA2, hN2, hq, g2, g4, by omega, Or.inr (Or.inr (Or.inr ⟨g3, rfl, by omega, q2⟩))⟩)))⟩⟩
      rw [c3]
      have h0 : ¬ nI (16 * (dep + 1)) ≤ 0 := nI_nle (by omega) (by omega)
      have e : nI (16 * (dep + 1)) - 16 + 13 = nI (13 + 16 * dep) := by
        rw [show (16 : Int32) = nI 16 from rfl, pk_sub (by omega), show (13 : Int32) = nI 13 from rfl, nI_add]
        congr 1
        omega
      simp [fX2_stepBehindFactor, h0, e]
  · refine ⟨0, M, -1, gb_no hZ c1 c2 (fun h => absurd h c3), by simp [zb], ?_, hw, Or.inl ⟨rfl, rfl⟩⟩
    simp [fX2_stepBehindFactor, c1, c2, c3]
theorem si8 {Z : Shp} {M0 M : Mem} {g : Nat → Int32} {n i d dep : Nat} {W : List Nat} {R : List Mk} (hZ : OKZ Z) (hF : Fix M0) (hn : n ≤ 60) (hi : i < n) (hA : hdA g M) (hN : hdN g d M) (hq : g (2 + d) = 63) (hS : Sc Z M0 M W R) (h44 : rI M 51 44 = nI dep) (hdp : dep + (d + 3) ≤ i) (h43 : rI M 51 43 = 8) (hl : W.length + R.length + (d + 3) ≤ i) (hK : K8 g n (d + 3) i W R dep) : TStp Z M0 g n i M (nI (13 + 16 * dep)) := by
  have h7 : ¬ rI M 51 43 = 7 := by rw [h43]; decide
  obtain ⟨r, M2, x1, a1, a2, a3, a4, a5⟩ := behind hZ hF hn hi hA hN hq hS.1 ((end_m hZ hF hS (by omega)).1 h7) (fun k _ => rfl) hS h44 hdp hl hK
  refine ⟨r, M2, x1, ?_, ?_, a4, a5⟩
  · simp [fX12_go, tg_51 hZ, h43, a1, a2]
  · rw [stB (by omega) (by omega) (by omega) (Or.inr (by omega)), a3]
theorem k68 {g : Nat → Int32} {n q i s c L sg dep : Nat} {W : List Nat} {R : List Mk} (hi : i = s + 1 + c) (hin : i ≤ n) (hs : 1 ≤ s) (hdig : ∀ k, k < c → ¬ fX2_isDigit (g (s + 1 + k)) = 0) (hend : i = n ∨ fX2_isDigit (g i) = 0) (hK : K6 g n q i s W R dep) (hL : ∀ e : En, lval e (g (s - 1)) = e L) (hs3 : ∀ (e : En) (t : Int32), mcmp e (3 * L + sg, t) = ccmp (e L) t (g s)) (hm : 3 * L + sg < 15) : K8 g n q i W ((3 * L + sg, nv g (s + 1) c) :: R) dep := by
  intro e
  obtain ⟨D, k1, k2, k3, k4⟩ := hK e
  refine ⟨D, mcmp e (3 * L + sg, nv g (s + 1) c), ?_, k2, ?_, k4⟩
  · rw [rpn, k1]
    simp [apm, hm]
  · have hd : drun g (s + 1) (n - (s + 1)) = c := drun_eq (by omega) hdig (by
      rcases hend with h | h
      · left; omega
      · right; rw [hi] at h; exact h)
    have : cmpB g n e s = mcmp e (3 * L + sg, nv g (s + 1) c) := by rw [hs3, cmpB, told, hd, hL]
    rw [← this]
    exact k3
theorem si67 {Z : Shp} {M0 M : Mem} {g : Nat → Int32} {n i d dep s c L sg : Nat} {x : Int32} {W : List Nat} {R : List Mk} (hZ : OKZ Z) (hF : Fix M0) (hn : n ≤ 60) (hi : i < n) (hA : hdA g M) (hN : hdN g d M) (hq : g (2 + d) = 63) (hS : Sc Z M0 M W R) (h44 : rI M 51 44 = nI dep) (hdp : dep + (d + 3) ≤ i) (hic : i = s + 1 + c) (hl : W.length + R.length + (d + 3) + 1 ≤ s) (hc : (c = 0 ∧ rI M 51 43 = 6 ∧ x = nI (9 + 16 * dep)) ∨ (1 ≤ c ∧ c ≤ 3 ∧ rI M 51 43 = 7 ∧ x = nI (9 + c + 16 * dep) ∧ rI M 51 45 = nI c ∧ rI M 51 48 = nv g (s + 1) c)) (hdig : ∀ k, k < c → ¬ fX2_isDigit (g (s + 1 + k)) = 0) (hK : K6 g n (d + 3) i s W R dep) (hL5 : L < 5) (hsg : sg < 3) (h49 : rI M 51 49 = nI L) (h50 : rI M 51 50 = nI sg) (hL : ∀ e : En, lval e (g (s - 1)) = e L) (hs3 : ∀ (e : En) (t : Int32), mcmp e (3 * L + sg, t) = ccmp (e L) t (g s)) : TStp Z M0 g n i M x := by
  have hdg1 : ∀ c : Int32, ¬ fX2_isDigit c = 0 → fX2_isDigit c = 1 := by
    intro c h
    unfold fX2_isDigit at h ⊢
    by_cases q1 : c < 48
    · rw [if_pos q1] at h; exact absurd rfl h
    by_cases q2 : 57 < c
    · rw [if_neg q1, if_pos q2] at h; exact absurd rfl h
    rw [if_neg q1, if_neg q2]
  have hK2 : ¬ fX2_isDigit (g i) = 0 → K6 g n (d + 3) (i + 1) s W R dep := by
    intro h e
    obtain ⟨D, k1, k2, k3, k4⟩ := hK e
    obtain ⟨d1, d2, d3, d4, d5, d6, d7⟩ := dig_ne h
    refine ⟨D, k1, k2, ?_, k4⟩
    rw [cw_s (by omega), cst_0 d1 d2 d3 d4 d7]
    exact k3
  have hdig2 : ¬ fX2_isDigit (g i) = 0 → ∀ k, k < c + 1 → ¬ fX2_isDigit (g (s + 1 + k)) = 0 := by
    intro h k hk
    by_cases e : k = c
    · subst e; rw [← hic]; exact h
    · exact hdig k (by omega)
  rcases hc with ⟨c0, h43, hx⟩ | ⟨c1, c2, h43, hx, h45, h48⟩
  · subst c0
    have hS2 := ((hS.st (k := 48) (g i - 48) (by simp) (by omega) (by omega)).st (k := 45) 1 (by simp) (by omega) (by omega)).st (k := 43) 7 (by simp) (by omega) (by omega)
    have hgo : fX12_go Z M 51 (g i) = some (fX2_isDigit (g i), wI (wI (wI M 51 48 (g i - 48)) 51 45 1) 51 43 7) := by
      simp [fX12_go, tg_51 hZ, h43, pu, dig_m]
    by_cases q : fX2_isDigit (g i) = 0
    · exact ⟨0, _, -1, by rw [hgo, q], by rw [hx, st9n (by omega) q], hS2.1, Or.inl ⟨rfl, rfl⟩⟩
    · obtain ⟨hA2, hN2⟩ := hd_keep (M1 := wI (wI (wI M 51 48 (g i - 48)) 51 45 1) 51 43 7) hA hN (by simp [rI_wI]) (by simp [rI_wI])
      refine ⟨1, _, nI (9 + 1 + 16 * dep), by rw [hgo, hdg1 _ q], by rw [hx, st9 (by omega) (by omega) (by omega) q], hS2.1, Or.inr ⟨rfl, nm1 (by omega), Or.inr (Or.inr (Or.inr (Or.inr ⟨d, dep, W, R, hA2, hN2, hq, hS2, by simp [rI_wI, h44], by omega, Or.inr (Or.inr (Or.inl ⟨s, 1, L, sg, by omega, hl, Or.inr ⟨by omega, by omega, by simp [rI_wI], rfl, by simp [rI_wI]; rfl, ?_⟩, hdig2 q, hK2 q, hL5, hsg, by simp [rI_wI, h49], by simp [rI_wI, h50], hL, hs3⟩))⟩)))⟩⟩
      rw [hic]
      simp [rI_wI, nv]
  · have hle3 : (3 : Int32) ≤ nI c ↔ 3 ≤ c := by
      rw [i32_le, nI_toInt (by omega), show (3 : Int32).toInt = 3 by decide]
      omega
    by_cases q : fX2_isDigit (g i) = 0 ∨ c = 3
    · by_cases q2 : fX2_isDigit (g i) = 0
      · obtain ⟨M1, e1, e2, e3⟩ := (end_m hZ hF hS (by omega)).2 L sg hL5 hsg h43 h49 h50
        rw [h48] at e2
        have hK8 := k68 hic (by omega) (by omega) hdig (Or.inr q2) hK hL hs3 (by omega)
        obtain ⟨r, M2, x1, a1, a2, a3, a4, a5⟩ := behind hZ hF hn hi hA hN hq hS.1 e1 e3 e2 h44 hdp (by simp; omega) hK8
        refine ⟨r, M2, x1, ?_, ?_, a4, a5⟩
        · simp [fX12_go, tg_51 hZ, h43, dig_m, q2, a1, a2]
        · rw [hx, stB (by omega) (by omega) (by omega) (Or.inl q2), a3]
      · have q3 : c = 3 := q.resolve_left q2
        have h3 := hle3.mpr (by omega)
        obtain ⟨d1, d2, d3, d4, d5, d6, d7⟩ := dig_ne q2
        have hb := gb_no (M := M) hZ d5 d4 (fun h => absurd h d3)
        refine ⟨0, M, -1, ?_, ?_, hS.1, Or.inl ⟨rfl, rfl⟩⟩
        · simp [fX12_go, tg_51 hZ, h43, dig_m, q2, h45, h3, hb, zb]
        · rw [hx, stB (by omega) (by omega) (by omega) (Or.inr (by omega))]
          simp [fX2_stepBehindFactor, d3, d4, d5]
    · have q1 : ¬ fX2_isDigit (g i) = 0 := fun h => q (Or.inl h)
      have q3 : ¬ c = 3 := fun h => q (Or.inr h)
      have h3 := mt hle3.mp (by omega)
      have hS2 := (hS.st (k := 48) (nv g (s + 1) (c + 1)) (by simp) (by omega) (by omega)).st (k := 45) (nI c + 1) (by simp) (by omega) (by omega)
      obtain ⟨hA2, hN2⟩ := hd_keep (M1 := wI (wI M 51 48 (nv g (s + 1) (c + 1))) 51 45 (nI c + 1)) hA hN (by simp [rI_wI]) (by simp [rI_wI])
      refine ⟨1, _, nI (9 + c + 1 + 16 * dep), ?_, by rw [hx, st9 (by omega) (by omega) (by omega) q1], hS2.1, Or.inr ⟨rfl, nm1 (by omega), Or.inr (Or.inr (Or.inr (Or.inr ⟨d, dep, W, R, hA2, hN2, hq, hS2, by simp [rI_wI, h44], by omega, Or.inr (Or.inr (Or.inl ⟨s, c + 1, L, sg, by omega, hl, Or.inr ⟨by omega, by omega, by simp [rI_wI, h43], rfl, by simp [rI_wI, nI_succ], by simp [rI_wI]⟩, hdig2 q1, hK2 q1, hL5, hsg, by simp [rI_wI, h49], by simp [rI_wI, h50], hL, hs3⟩))⟩)))⟩⟩
      have := sc_s g (s + 1) c
      rw [← hic] at this
      simp [fX12_go, tg_51 hZ, h43, dig_m, q1, h45, h3, h48, this, pu, rI_wI]
theorem si_all {Z : Shp} {M0 M : Mem} {g : Nat → Int32} {n i : Nat} {x : Int32} (hZ : OKZ Z) (hF : Fix M0) (hn : n ≤ 60) (hi : i < n) (h : SI Z M0 g n i M x) : TStp Z M0 g n i M x := by
  rcases h with ⟨rfl, h1, rfl, h2, h3⟩ | ⟨rfl, h1, rfl, h2, h3, h4⟩ | ⟨rfl, h1, rfl, h2, h3, h4⟩ | ⟨d, rfl, h1, rfl, h2, h3, h4, h5, h6⟩ | ⟨d, dep, W, R, hA, hN, hq, hS, h44, hdp, hc⟩
  · exact si0 hZ h1 h2 h3
  · exact si1 hZ h1 h2 h3 h4
  · exact si2 hZ h1 h2 h3 h4
  · exact si3 hZ h1 h2 h3 h4 h5 h6
  · rcases hc with ⟨h1, rfl, h2, h3⟩ | ⟨h1, rfl, h2, h3, L, h4, h5, h6⟩ | ⟨s, c, L, sg, h1, h2, h3, h4, h5, h6, h7, h8, h9, h10, h11⟩ | ⟨h1, rfl, h2, h3⟩
    · exact si4 hZ hF hn hi hA hN hq hS h44 hdp h1 h2 h3
    · exact si5 hZ hi hn hA hN hq hS h44 hdp h1 h2 h3 h4 h5 h6
    · exact si67 hZ hF hn hi hA hN hq hS h44 hdp h1 h2 h3 h4 h5 h6 h7 h8 h9 h10 h11
    · exact si8 hZ hF hn hi hA hN hq hS h44 hdp h1 h2 h3
