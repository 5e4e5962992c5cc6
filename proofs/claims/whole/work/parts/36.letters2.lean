/-! letters: the page -/
theorem mS_ok (y : Int64) : ∀ i, i ≤ 8 → (mS y i).2 = 0 ∨ ((mS y i).2 = 1 ∧ ∃ c, c ≤ i ∧ (mS y i).1 = nI c ∧ ∀ k, k < c → 1 ≤ (lt8 y k).toInt ∧ (lt8 y k).toInt ≤ 126) := by
  intro i
  induction i with
  | zero => exact fun _ => Or.inr ⟨rfl, 0, by omega, rfl, fun k hk => absurd hk (by omega)⟩
  | succ i ih =>
    intro hi
    have m0 : (0 : Int32).toInt = 0 := by decide
    have m6 : (126 : Int32).toInt = 126 := by decide
    have k0 : ¬ (1 : Int32) = 0 := by decide
    rcases ih (by omega) with h | ⟨h, c, hc, h1, h2⟩
    · exact Or.inl (by simp [mS, h])
    · have hb := lt8_bd y i
      by_cases d1 : 126 < lt8 y i
      · exact Or.inl (by simp [mS, h, d1])
      by_cases d2 : lt8 y i = 0
      · exact Or.inr ⟨by simp [mS, h, d2], c, by omega, by simp [mS, d2, h1], h2⟩
      have hz : ¬ lt8 y i ≤ 0 := by
        rw [i32_le, m0]
        rw [i32_eq, m0] at d2
        omega
      by_cases d3 : c = i
      · subst d3
        refine Or.inr ⟨by simp [mS, h, d1, d2, h1], c + 1, by omega, by simp [mS, hz, h1, nI_succ], fun k hk => ?_⟩
        by_cases e : k = c
        · subst e
          rw [i32_lt, m6] at d1
          rw [i32_eq, m0] at d2
          omega
        · exact h2 k (by omega)
      · have hce : ¬ nI c = nI i := fun e => d3 ((nI_eq (by omega) (by omega)).mp e)
        exact Or.inl (by simp [mS, h, d1, d2, h1, hce])
def wrP (M : Mem) (a b k : Nat) (y : Int64) (n : Nat) : Nat → Mem
  | 0 => M
  | j + 1 => wI (wI (wrP M a b k y n j) a (n + j) (lt8 y j)) b k (nI (n + j) + 1)
theorem rR_wrP (M : Mem) (a b k : Nat) (y : Int64) (n j a' k' : Nat) : rR (wrP M a b k y n j) a' k' = rR M a' k' := by
  induction j with
  | zero => rfl
  | succ j ih => rw [wrP, rR_wI, rR_wI, ih]
theorem rI_wrP {M : Mem} {a b k n : Nat} {y : Int64} (hab : a ≠ b) (h : rI M b k = nI n) (j a' k' : Nat) : rI (wrP M a b k y n j) a' k' = if a' = b ∧ k' = k then nI (n + j) else if a' = a ∧ n ≤ k' ∧ k' < n + j then lt8 y (k' - n) else rI M a' k' := by
  induction j with
  | zero =>
    by_cases c : a' = b ∧ k' = k
    · rw [if_pos c, c.1, c.2]; exact h
    · rw [if_neg c, if_neg (by omega)]; rfl
  | succ j ih =>
    rw [wrP, rI_wI, rI_wI, ih]
    by_cases c : a' = b ∧ k' = k
    · rw [if_pos c, if_pos c, ← nI_succ]; rfl
    · rw [if_neg c, if_neg c, if_neg c]
      by_cases d : a' = a ∧ k' = n + j
      · rw [if_pos d, if_pos (by omega), d.2, show n + j - n = j by omega]
      · rw [if_neg d]
        by_cases e : a' = a ∧ n ≤ k' ∧ k' < n + j
        · rw [if_pos e, if_pos (by omega)]
        · rw [if_neg e, if_neg (by omega)]
theorem Wr.wp {Z : Shp} {L : List (Nat × Option Nat)} {ts LR : List Nat} {M M1 : Mem} {a b k n : Nat} {y : Int64} (h : Wr Z L ts LR M M1) (hm : (a, none) ∈ L) (hk : (b, some k) ∈ L) (j : Nat) : Wr Z L ts LR M (wrP M1 a b k y n j) := by
  induction j with
  | zero => exact h
  | succ j ih => exact (ih.sI (Or.inl hm)).sI (Or.inr hk)
theorem b8_id {x : Int32} (h0 : 0 ≤ x.toInt) (h1 : x.toInt ≤ 127) : x.toInt8.toInt32 = x := by
  rw [i32_eq, Int8.toInt_toInt32, Int32.toInt_toInt8, Int.bmod_def]
  omega
theorem scan_m {Z : Shp} (M1 : Mem) (y : Int64) : fX12_letters Z M1 51 y = (if (mS y 8).2 = 0 then some ((-102 : Int32), M1) else (if tg Z 51 = (13, 86) then (if ((rI M1 51 34) + (mS y 8).1) ≤ (60 : Int32) then (loop (fun s23 : Int32 × Mem => (if (mS y 8).1 ≤ s23.1 then some (Sum.inr ((rI s23.2 51 34), s23.2)) else (if aok Z (rR s23.2 51 33) 100 (rI s23.2 51 34) then (pu (wI s23.2 (rR s23.2 51 33) (ix (rI s23.2 51 34)) ((((y.toUInt64 >>> (((8 : Int32) * s23.1).toInt64.toUInt64 &&& Int64.toUInt64 63)).toInt64) &&& (255 : Int64)).toInt32)) (fun M28 => (pu (wI M28 51 34 ((rI M28 51 34) + (1 : Int32))) (fun M29 => some (Sum.inl ((s23.1 + (1 : Int32)), M29)))))) else none))) ((0 : Int32), M1)) else some ((-104 : Int32), M1)) else none)) := by
  unfold fX12_letters
  refine bindL (loop_for (s0 := ((0 : Int32), (1 : Int32), y, (0 : Int32))) (fun i => ((mS y i).1, (mS y i).2, shY y i, nI i)) 8 (r := ((mS y 8).1, (mS y 8).2)) rfl (fun i hi => ?_) (by simp [show (8 : Int32) ≤ nI 8 by decide])) (by dsimp only)
  have hle := nle hi (by decide)
  rw [show nI 8 = 8 by decide] at hle
  dsimp only
  rw [if_neg hle]
  simp only [pu, lt8_shY hi]
  by_cases d0 : (mS y i).2 = 0
  · by_cases d4 : lt8 y i ≤ 0
    · simp [mS, shY, d0, d4, nI_succ]
    · simp [mS, shY, d0, d4, nI_succ]
  by_cases d1 : 126 < lt8 y i
  · by_cases d4 : lt8 y i ≤ 0
    · simp [mS, shY, d0, d1, d4, nI_succ]
    · simp [mS, shY, d0, d1, d4, nI_succ]
  by_cases d2 : lt8 y i = 0
  · simp [mS, shY, d0, d2, nI_succ]
  by_cases d3 : (mS y i).1 = nI i
  · by_cases d4 : lt8 y i ≤ 0
    · simp [mS, shY, d0, d1, d2, d3, d4, nI_succ]
    · simp [mS, shY, d0, d1, d2, d3, d4, nI_succ]
  · by_cases d4 : lt8 y i ≤ 0
    · simp [mS, shY, d0, d1, d2, d3, d4, nI_succ]
    · simp [mS, shY, d0, d1, d2, d3, d4, nI_succ]
theorem op_letters {Z : Shp} {M : Mem} (hZ : OKZ Z) (hF : Fix M) (hI : IPage M) (y : Int64) : ∃ r M1 M2, fX11_letters Z M 2 y = some (r, M1) ∧ fX12_letters Z M1 51 y = some (r, M2) ∧ IPage M2 ∧ Wr Z FPage [] [] M M2 := by
  obtain ⟨n, hn, h1, h2, h3, h4⟩ := id hI
  rcases mS_ok y 8 (by omega) with e | ⟨e, c, hc, e1, e2⟩
  · refine ⟨-102, M, M, ?_, ?_, hI, Wr.rf⟩
    · simp [fX11_letters, scan_c, e, show ¬ (0 : Int32) ≤ -1 by decide]
    · rw [scan_m, if_pos e]
  have k0 : ¬ (1 : Int32) = 0 := by decide
  have hc0 : 0 ≤ nI c := nI_pos' (by omega)
  have hs : nI n + nI c ≤ 60 ↔ n + c ≤ 60 := by
    rw [nI_add, show (60 : Int32) = nI 60 by decide]
    exact nI_leI (by omega) (by omega)
  by_cases d : n + c ≤ 60
  case neg =>
    refine ⟨-104, M, M, ?_, ?_, hI, Wr.rf⟩
    · simp [fX11_letters, scan_c, e, e1, hc0, tg_2 hZ, tg_3 hZ, tg_4 hZ, tg_5 hZ, tg_6 hZ, tg_7 hZ, tg_8 hZ, tg_24 hZ, tg_25 hZ, tg_26 hZ, tg_27 hZ, tg_28 hZ, tg_29 hZ, tg_30 hZ, tg_31 hZ, tg_32 hZ, tg_33 hZ, tg_34 hZ, tg_35 hZ, tg_36 hZ, tg_37 hZ, tg_38 hZ, tg_39 hZ, tg_40 hZ, tg_41 hZ, tg_42 hZ, tg_43 hZ, tg_44 hZ, tg_45 hZ, tg_46 hZ, tg_47 hZ, tg_48 hZ, tg_49 hZ, tg_50 hZ, fr_2_0 hF, fr_3_0 hF, fr_3_1 hF, fr_3_2 hF, fr_3_3 hF, fr_3_4 hF, fr_2_1 hF, fr_24_0 hF, fr_24_2 hF, fr_2_2 hF, fr_27_0 hF, fr_27_1 hF, fr_27_2 hF, fr_27_8 hF, fr_2_3 hF, fr_32_0 hF, fr_32_1 hF, fr_32_3 hF, fr_32_4 hF, fr_32_5 hF, fr_32_6 hF, fr_2_4 hF, fr_39_0 hF, fr_39_1 hF, fr_39_2 hF, fr_39_3 hF, fr_39_4 hF, fr_39_5 hF, fr_39_6 hF, fr_2_5 hF, fr_47_0 hF, fr_47_1 hF, fr_47_2 hF, h1, hs, d]
    · rw [scan_m, if_neg (by rw [e]; exact k0), if_pos (tg_51 hZ), if_neg (by rw [h2, e1, hs]; exact d)]
  have hF1 : Fix (wrP M 25 24 1 y n c) := (Wr.wp (Z := Z) (L := FPage) (ts := []) (LR := []) Wr.rf (by simp) (by simp) c).fix hF (by decide)
  refine ⟨nI (n + c), wrP M 25 24 1 y n c, wrP (wrP M 25 24 1 y n c) 78 51 34 y n c, ?_, ?_, ?_, ?_⟩
  · have hw : fX2_write Z M 24 y (nI c) = some (wrP M 25 24 1 y n c) := by
      unfold fX2_write
      refine loop_for (fun j => (nI j, wrP M 25 24 1 y n j)) c rfl (fun j hj => ?_) (by simp)
      have hle := nle hj (by omega)
      have a25 : aok Z 25 102 (nI (n + j)) := aok_nI (tg_25 hZ) (by omega) (by decide)
      have h60 : ¬ 60 ≤ nI (n + j) := by
        rw [show (60 : Int32) = nI 60 by decide]
        exact nI_ge (by omega) (by decide)
      have hix : ix (nI (n + j)) = n + j := ix_nI (by omega)
      have hv := e2 j hj
      have hb : (lt8 y j).toInt8.toInt32 = lt8 y j := b8_id (by omega) (by omega)
      have hr : rI (wrP M 25 24 1 y n j) 24 1 = nI (n + j) := by rw [rI_wrP (by decide) h1]; simp
      have hr0 : rR (wrP M 25 24 1 y n j) 24 0 = 25 := by rw [rR_wrP]; exact fr_24_0 hF
      simp [hle, tg_24 hZ, hr, h60, hr0, if_pos a25, hix, letter_c (show j < 8 by omega), hb, pu, wrP, rI_wI, nI_succ]
    have hr : rI (wrP M 25 24 1 y n c) 24 1 = nI (n + c) := by rw [rI_wrP (by decide) h1]; simp
    have hr0 : rR (wrP M 25 24 1 y n c) 2 1 = 24 := by rw [rR_wrP]; exact fr_2_1 hF
    simp [fX11_letters, scan_c, e, e1, hc0, tg_2 hZ, tg_3 hZ, tg_4 hZ, tg_5 hZ, tg_6 hZ, tg_7 hZ, tg_8 hZ, tg_24 hZ, tg_25 hZ, tg_26 hZ, tg_27 hZ, tg_28 hZ, tg_29 hZ, tg_30 hZ, tg_31 hZ, tg_32 hZ, tg_33 hZ, tg_34 hZ, tg_35 hZ, tg_36 hZ, tg_37 hZ, tg_38 hZ, tg_39 hZ, tg_40 hZ, tg_41 hZ, tg_42 hZ, tg_43 hZ, tg_44 hZ, tg_45 hZ, tg_46 hZ, tg_47 hZ, tg_48 hZ, tg_49 hZ, tg_50 hZ, fr_2_0 hF, fr_3_0 hF, fr_3_1 hF, fr_3_2 hF, fr_3_3 hF, fr_3_4 hF, fr_2_1 hF, fr_24_0 hF, fr_24_2 hF, fr_2_2 hF, fr_27_0 hF, fr_27_1 hF, fr_27_2 hF, fr_27_8 hF, fr_2_3 hF, fr_32_0 hF, fr_32_1 hF, fr_32_3 hF, fr_32_4 hF, fr_32_5 hF, fr_32_6 hF, fr_2_4 hF, fr_39_0 hF, fr_39_1 hF, fr_39_2 hF, fr_39_3 hF, fr_39_4 hF, fr_39_5 hF, fr_39_6 hF, fr_2_5 hF, fr_47_0 hF, fr_47_1 hF, fr_47_2 hF, h1, hs, d, hw, hr, hr0]
  · have g2 : rI (wrP M 25 24 1 y n c) 51 34 = nI n := by rw [rI_wrP (by decide) h1]; simp [h2]
    rw [scan_m, if_neg (by rw [e]; exact k0), if_pos (tg_51 hZ), if_pos (by rw [g2, e1, hs]; exact d), e1]
    refine loop_for (fun j => (nI j, wrP (wrP M 25 24 1 y n c) 78 51 34 y n j)) c rfl (fun j hj => ?_) ?_
    · have hle := nle hj (by omega)
      have a78 : aok Z 78 100 (nI (n + j)) := aok_nI (tg_78 hZ) (by omega) (by decide)
      have hix : ix (nI (n + j)) = n + j := ix_nI (by omega)
      have hr : rI (wrP (wrP M 25 24 1 y n c) 78 51 34 y n j) 51 34 = nI (n + j) := by rw [rI_wrP (by decide) g2]; simp
      have hr0 : rR (wrP (wrP M 25 24 1 y n c) 78 51 34 y n j) 51 33 = 78 := by rw [rR_wrP]; exact fr_51_33 hF1
      have hl : (((y.toUInt64 >>> (((8 : Int32) * nI j).toInt64.toUInt64 &&& Int64.toUInt64 63)).toInt64) &&& (255 : Int64)).toInt32 = lt8 y j := by
        rw [lt8_m, sh_i (show j < 8 by omega)]
        rfl
      dsimp only
      rw [if_neg hle, hr0, hr, if_pos a78, hix, hl]
      simp [pu, wrP, rI_wI, hr, nI_succ]
    · have hr : rI (wrP (wrP M 25 24 1 y n c) 78 51 34 y n c) 51 34 = nI (n + c) := by rw [rI_wrP (by decide) g2]; simp
      simp [hr]
  · have g2 : rI (wrP M 25 24 1 y n c) 51 34 = nI n := by rw [rI_wrP (by decide) h1]; simp [h2]
    refine ⟨n + c, d, ?_, ?_, fun k => ?_, fun k => ?_⟩
    · simp [rI_wrP (show 78 ≠ 51 by decide) g2, rI_wrP (show 25 ≠ 24 by decide) h1]
    · simp [rI_wrP (show 78 ≠ 51 by decide) g2]
    · simp [rI_wrP (show 78 ≠ 51 by decide) g2, rI_wrP (show 25 ≠ 24 by decide) h1, h3]
    · by_cases q : n ≤ k ∧ k < n + c
      · have := e2 (k - n) (by omega)
        simp [rI_wrP (show 78 ≠ 51 by decide) g2, q]
        omega
      · simp only [rI_wrP (show 78 ≠ 51 by decide) g2, rI_wrP (show 25 ≠ 24 by decide) h1]
        rw [if_neg (by omega), if_neg (by omega), if_neg (by omega), if_neg (by omega)]
        exact h4 k
  · exact (Wr.rf.wp (by simp) (by simp) c).wp (by simp) (by simp) c
