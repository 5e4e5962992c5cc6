/-! find: the search -/
theorem turn_c {Z : Shp} {M M1 : Mem} (hZ : OKZ Z) (hF : Fix M) (hB : IBanks M) (w : Wr Z FFd [] [] M M1) {n : Nat} (hn : n ≤ 10) (h1 : rI M 32 2 = nI n) {j : Nat} (hj : j < 1023) (hl : ∀ p, p < 8 → (rI M1 38 p).toInt = lz M p (bj j) n) : ∃ M2, fX0_turnTo Z M1 32 (nI (j + 1)) = some M2 ∧ Wr Z [(38, none)] [] [] M1 M2 ∧ ∀ p, p < 8 → (rI M2 38 p).toInt = lz M p (bj (j + 1)) n := by
  have hF1 : Fix M1 := w.fix hF (by decide)
  obtain ⟨n', hn', h1', -, e33, e34, hv, -⟩ := hB
  have hnn : n' = n := (nI_eq (by omega) (by omega)).mp (h1'.symm.trans h1)
  subst hnn
  have hd : dis FFd FBk2 = true := by decide
  have hd2 : dis [(38, none)] FBk2 = true := by decide
  have hv2 : ∀ k, k < n' → 1 ≤ (rI M 96 k).toInt ∧ (rI M 96 k).toInt ≤ 999 := fun k hk => (hv k hk).2
  unfold fX0_turnTo
  simp only [pu]
  refine loop_inv (fun s => ∃ i, i ≤ n' ∧ s.1 = nI i ∧ Wr Z [(38, none)] [] [] M1 s.2 ∧ ∀ p, p < 8 → (rI s.2 38 p).toInt = lz M p (fun k => if k < i then bj (j + 1) k else bj j k) n') (fun M2 => Wr Z [(38, none)] [] [] M1 M2 ∧ ∀ p, p < 8 → (rI M2 38 p).toInt = lz M p (bj (j + 1)) n') (fun s => n' - ix s.1) ?_ _ ⟨0, by omega, rfl, Wr.rf, fun p hp => by simpa using hl p hp⟩
  rintro ⟨t, M3⟩ ⟨i, hi, e, w3, hl3⟩
  dsimp only at e w3 hl3
  subst e
  have hF3 : Fix M3 := w3.fix hF1 (by decide)
  have r2 : rI M3 32 2 = nI n' := by rw [w3.at hd2 (a := 32) (k := 2) (by simp) (by omega), w.at hd (a := 32) (k := 2) (by simp) (by omega), h1]
  by_cases hin : i = n'
  · subst hin
    refine Or.inr ⟨M3, by simp [tg_32 hZ, r2], w3, fun p hp => ?_⟩
    rw [hl3 p hp]
    exact lz_congr _ (fun k hk => by simp [hk])
  have hin : i < n' := by omega
  have hle := nle hin (by omega)
  have hix : ix (nI i) = i := ix_nI (by omega)
  have hix1 : ix (nI (i + 1)) = i + 1 := ix_nI (by omega)
  obtain ⟨x1, x2⟩ := fd_x j hj i (by omega)
  by_cases c : (j + 1) / 2 ^ i = j / 2 ^ i
  · have c2 := x1.mpr c
    refine Or.inr ⟨M3, by simp [tg_32 hZ, r2, hle, c2], w3, fun p hp => ?_⟩
    rw [hl3 p hp]
    refine lz_congr _ (fun k hk => ?_)
    by_cases q : k < i
    · simp [q]
    · simp [q, bj, div_up c (show i ≤ k by omega)]
  have c2 := mt x1.mp c
  have x3 := x2.resolve_left c
  obtain ⟨⟨p0, hp0, f0⟩, f1, f2⟩ := hv i hin
  have r33 : rI M3 33 i = nI p0 := by rw [w3.row hd2 (a := 33) (by simp) (by omega), w.row hd (a := 33) (by simp) (by omega), e33, f0]
  have r34 : rI M3 34 i = rI M 96 i := by rw [w3.row hd2 (a := 34) (by simp) (by omega), w.row hd (a := 34) (by simp) (by omega), e34]
  have a33 : aok Z 33 100 (nI i) := aok_nI (tg_33 hZ) (by omega) (by decide)
  have a34 : aok Z 34 100 (nI i) := aok_nI (tg_34 hZ) (by omega) (by decide)
  have a38 : aok Z 38 100 (nI p0) := aok_nI (tg_38 hZ) (by omega) (by decide)
  have hixp : ix (nI p0) = p0 := ix_nI (by omega)
  have hb := fd_bt (j + 1) (by omega) i (by omega)
  have hmu : n' - ix (nI (i + 1)) < n' - ix (nI i) := by
    rw [hix, hix1]
    omega
  have hag : ∀ k, k ≠ i → (if k < i then bj (j + 1) k else bj j k) = (if k < i + 1 then bj (j + 1) k else bj j k) := by
    intro k hk
    by_cases q : k < i
    · rw [if_pos q, if_pos (by omega)]
    · rw [if_neg q, if_neg (by omega)]
  have hfb : ∀ p, 0 ≤ lz M p (fun k => if k < i then bj (j + 1) k else bj j k) n' ∧ lz M p (fun k => if k < i then bj (j + 1) k else bj j k) n' ≤ 999 * (n' : Int) := fun p => lz_bd hv2 n' (Nat.le_refl _)
  left
  by_cases d : (j + 1) / 2 ^ i % 2 = 1
  · rw [d] at hb
    have d0 : ¬ fX11_hasBit (nI (j + 1)) (nI i) = 0 := by
      rw [hasBit_bt]
      unfold bt
      rw [hb]
      decide
    have d1 := x3.mp d
    refine ⟨(nI (i + 1), wI M3 38 p0 (rI M3 38 p0 + rI M 96 i)), ?_, ⟨i + 1, by omega, rfl, w3.sI (by simp [inF]), fun p hp => ?_⟩, hmu⟩
    · simp [tg_32 hZ, r2, hle, c2, tg_2 hZ, tg_3 hZ, tg_4 hZ, tg_5 hZ, tg_6 hZ, tg_7 hZ, tg_8 hZ, tg_24 hZ, tg_25 hZ, tg_26 hZ, tg_27 hZ, tg_28 hZ, tg_29 hZ, tg_30 hZ, tg_31 hZ, tg_32 hZ, tg_33 hZ, tg_34 hZ, tg_35 hZ, tg_36 hZ, tg_37 hZ, tg_38 hZ, tg_39 hZ, tg_40 hZ, tg_41 hZ, tg_42 hZ, tg_43 hZ, tg_44 hZ, tg_45 hZ, tg_46 hZ, tg_47 hZ, tg_48 hZ, tg_49 hZ, tg_50 hZ, fr_2_0 hF3, fr_3_0 hF3, fr_3_1 hF3, fr_3_2 hF3, fr_3_3 hF3, fr_3_4 hF3, fr_2_1 hF3, fr_24_0 hF3, fr_24_2 hF3, fr_2_2 hF3, fr_27_0 hF3, fr_27_1 hF3, fr_27_2 hF3, fr_27_8 hF3, fr_2_3 hF3, fr_32_0 hF3, fr_32_1 hF3, fr_32_3 hF3, fr_32_4 hF3, fr_32_5 hF3, fr_32_6 hF3, fr_2_4 hF3, fr_39_0 hF3, fr_39_1 hF3, fr_39_2 hF3, fr_39_3 hF3, fr_39_4 hF3, fr_39_5 hF3, fr_39_6 hF3, fr_2_5 hF3, fr_47_0 hF3, fr_47_1 hF3, fr_47_2 hF3, if_pos a33, if_pos a34, hix, r33, r34, if_pos a38, hixp, d0, nI_succ i]
    · have hf := lz_flip (M := M) (p := p) hag (by simp [bj, d1]) (by simp [bj, d]) n' hin
      have hfp := hfb p
      rw [hf]
      by_cases q : p = p0
      · subst q
        have h3 := hl3 p hp
        simp only [rI_wI, and_self, if_true, f0]
        rw [addI (by omega) (by omega), h3]
      · have q2 : ¬ rI M 95 i = nI p := by
          rw [f0]
          exact fun h => q ((nI_eq (by omega) (by omega)).mp h).symm
        rw [if_neg q2, rI_wI, if_neg (fun h => q h.2), hl3 p hp]
        omega
  · have d2 : (j + 1) / 2 ^ i % 2 = 0 := by omega
    rw [d2] at hb
    have d0 : fX11_hasBit (nI (j + 1)) (nI i) = 0 := by
      rw [hasBit_bt]
      unfold bt
      rw [hb]
      decide
    have d1 : j / 2 ^ i % 2 = 1 := by
      have := mt x3.mpr d
      omega
    refine ⟨(nI (i + 1), wI M3 38 p0 (rI M3 38 p0 + (-rI M 96 i))), ?_, ⟨i + 1, by omega, rfl, w3.sI (by simp [inF]), fun p hp => ?_⟩, hmu⟩
    · simp [tg_32 hZ, r2, hle, c2, tg_2 hZ, tg_3 hZ, tg_4 hZ, tg_5 hZ, tg_6 hZ, tg_7 hZ, tg_8 hZ, tg_24 hZ, tg_25 hZ, tg_26 hZ, tg_27 hZ, tg_28 hZ, tg_29 hZ, tg_30 hZ, tg_31 hZ, tg_32 hZ, tg_33 hZ, tg_34 hZ, tg_35 hZ, tg_36 hZ, tg_37 hZ, tg_38 hZ, tg_39 hZ, tg_40 hZ, tg_41 hZ, tg_42 hZ, tg_43 hZ, tg_44 hZ, tg_45 hZ, tg_46 hZ, tg_47 hZ, tg_48 hZ, tg_49 hZ, tg_50 hZ, fr_2_0 hF3, fr_3_0 hF3, fr_3_1 hF3, fr_3_2 hF3, fr_3_3 hF3, fr_3_4 hF3, fr_2_1 hF3, fr_24_0 hF3, fr_24_2 hF3, fr_2_2 hF3, fr_27_0 hF3, fr_27_1 hF3, fr_27_2 hF3, fr_27_8 hF3, fr_2_3 hF3, fr_32_0 hF3, fr_32_1 hF3, fr_32_3 hF3, fr_32_4 hF3, fr_32_5 hF3, fr_32_6 hF3, fr_2_4 hF3, fr_39_0 hF3, fr_39_1 hF3, fr_39_2 hF3, fr_39_3 hF3, fr_39_4 hF3, fr_39_5 hF3, fr_39_6 hF3, fr_2_5 hF3, fr_47_0 hF3, fr_47_1 hF3, fr_47_2 hF3, if_pos a33, if_pos a34, hix, r33, r34, if_pos a38, hixp, d0, nI_succ i]
    · have hf := lz_flip (M := M) (p := p) (f := fun k => if k < i + 1 then bj (j + 1) k else bj j k) (g := fun k => if k < i then bj (j + 1) k else bj j k) (fun k hk => (hag k hk).symm) (by simp [bj, d2]) (by simp [bj, d1]) n' hin
      have hfp := hfb p
      by_cases q : p = p0
      · subst q
        have h3 := hl3 p hp
        have hn := negI (b := rI M 96 i) (by omega)
        simp only [f0, if_true] at hf
        simp only [rI_wI, and_self, if_true]
        rw [addI (by omega) (by omega), h3, hn]
        omega
      · have q2 : ¬ rI M 95 i = nI p := by
          rw [f0]
          exact fun h => q ((nI_eq (by omega) (by omega)).mp h).symm
        rw [if_neg q2] at hf
        rw [rI_wI, if_neg (fun h => q h.2), hl3 p hp]
        omega
def fdS (M : Mem) (n : Nat) : Nat → Int32 × Int32
  | 0 => (-1, 0)
  | j + 1 => if exB M (bj j) n 8 = true then (if (fdS M n j).1 = -1 then (nI j, 0) else if fJ6_bitCount_0f7a4 (fdS M n j).1 ≤ fJ6_bitCount_0f7a4 (nI j) then (if fJ6_bitCount_0f7a4 (nI j) = fJ6_bitCount_0f7a4 (fdS M n j).1 then ((fdS M n j).1, (fdS M n j).2 + 1) else ((fdS M n j).1, (fdS M n j).2 + 0)) else (nI j, 0)) else fdS M n j
theorem fdS_mem {M M1 : Mem} (h1 : ∀ k, rI M1 95 k = rI M 95 k) (h2 : ∀ k, rI M1 96 k = rI M 96 k) (h3 : ∀ k, rI M1 97 k = rI M 97 k) (h4 : ∀ k, rI M1 98 k = rI M 98 k) (n : Nat) : ∀ j, fdS M1 n j = fdS M n j := by
  have he : ∀ f i, exB M1 f n i = exB M f n i := by
    intro f i
    induction i with
    | zero => rfl
    | succ i ih => rw [exB, exB, ih, okB, okB, lz_mem h1 h2, h3, h4]
  intro j
  induction j with
  | zero => rfl
  | succ j ih => rw [fdS, fdS, ih, he]
theorem fdS_or (M : Mem) (n : Nat) : ∀ j, (fdS M n j).1 = -1 ∨ ∃ b, b < j ∧ (fdS M n j).1 = nI b := by
  intro j
  induction j with
  | zero => exact Or.inl rfl
  | succ j ih =>
    have ih2 : (fdS M n j).1 = -1 ∨ ∃ b, b < j + 1 ∧ (fdS M n j).1 = nI b := ih.imp_right (fun ⟨b, h, e⟩ => ⟨b, by omega, e⟩)
    rw [fdS]
    split
    · split
      · exact Or.inr ⟨j, by omega, rfl⟩
      · split
        · split
          · exact ih2
          · exact ih2
        · exact Or.inr ⟨j, by omega, rfl⟩
    · exact ih2
theorem nm1 {b : Nat} (h : b < 2 ^ 31) : ¬ nI b = -1 := fun e => by
  have := nI_toInt h
  rw [e] at this
  have m : (-1 : Int32).toInt = -1 := by decide
  omega
theorem find_m {Z : Shp} {M : Mem} (hZ : OKZ Z) (hF : Fix M) {n : Nat} (hn : n ≤ 10) (h2 : rI M 51 66 = nI n) (hv : ∀ k, k < n → (∃ p, p < 8 ∧ rI M 95 k = nI p) ∧ 1 ≤ (rI M 96 k).toInt ∧ (rI M 96 k).toInt ≤ 999) (hr : ∀ p, p < 8 → rI M 97 p = -1 ∨ (0 ≤ (rI M 97 p).toInt ∧ (rI M 97 p).toInt ≤ 9999 ∧ 0 ≤ (rI M 98 p).toInt ∧ (rI M 98 p).toInt ≤ 99)) (x1 : Int32) (c1 : ¬ fX11_within x1 0 1 = 0) : fX12_find Z M 51 x1 = some (if x1 = 0 then (fdS M n (2 ^ n)).1 else if (fdS M n (2 ^ n)).1 = -1 then (fdS M n (2 ^ n)).1 else (fdS M n (2 ^ n)).2) := by
  obtain ⟨s1, s2, s3⟩ := fd_sh n (by omega)
  unfold fX12_find
  rw [in_0_1, if_neg c1]
  refine bindL (loop_for (s0 := ((-1 : Int32), (0 : Int32), (0 : Int32))) (fun j => ((fdS M n j).1, (fdS M n j).2, nI j)) (2 ^ n) (r := ((fdS M n (2 ^ n)).1, (fdS M n (2 ^ n)).2)) rfl (fun j hj => ?_) (by simp [tg_51 hZ, tg_52 hZ, tg_53 hZ, tg_54 hZ, tg_55 hZ, tg_56 hZ, tg_57 hZ, tg_58 hZ, tg_59 hZ, tg_60 hZ, tg_61 hZ, tg_62 hZ, tg_63 hZ, tg_64 hZ, tg_65 hZ, tg_66 hZ, tg_67 hZ, tg_68 hZ, tg_69 hZ, tg_70 hZ, tg_71 hZ, tg_72 hZ, tg_73 hZ, tg_74 hZ, tg_75 hZ, tg_76 hZ, tg_77 hZ, tg_78 hZ, tg_79 hZ, tg_80 hZ, tg_81 hZ, tg_82 hZ, tg_83 hZ, tg_84 hZ, tg_85 hZ, tg_86 hZ, tg_87 hZ, tg_88 hZ, tg_89 hZ, tg_90 hZ, tg_91 hZ, tg_92 hZ, tg_93 hZ, tg_94 hZ, tg_95 hZ, tg_96 hZ, tg_97 hZ, tg_98 hZ, tg_99 hZ, tg_100 hZ, tg_101 hZ, tg_102 hZ, tg_103 hZ, tg_104 hZ, tg_105 hZ, tg_106 hZ, tg_107 hZ, tg_108 hZ, tg_109 hZ, fr_51_0 hF, fr_51_1 hF, fr_51_2 hF, fr_51_4 hF, fr_51_5 hF, fr_51_6 hF, fr_51_7 hF, fr_51_8 hF, fr_51_9 hF, fr_51_10 hF, fr_51_16 hF, fr_51_17 hF, fr_51_18 hF, fr_51_19 hF, fr_51_20 hF, fr_51_22 hF, fr_51_23 hF, fr_51_24 hF, fr_51_25 hF, fr_51_26 hF, fr_51_27 hF, fr_51_28 hF, fr_51_29 hF, fr_51_30 hF, fr_51_31 hF, fr_51_32 hF, fr_51_33 hF, fr_51_36 hF, fr_51_37 hF, fr_51_38 hF, fr_51_39 hF, fr_51_40 hF, fr_51_41 hF, fr_51_42 hF, fr_51_51 hF, fr_51_52 hF, fr_51_54 hF, fr_51_56 hF, fr_51_58 hF, fr_51_59 hF, fr_51_60 hF, fr_51_62 hF, fr_51_63 hF, fr_51_67 hF, fr_51_68 hF, fr_51_69 hF, fr_51_70 hF, fr_51_71 hF, fr_51_72 hF, fr_51_73 hF, fr_51_74 hF, fr_51_76 hF, fr_51_77 hF, fr_51_78 hF, fr_51_79 hF, fr_51_82 hF, fr_51_83 hF, fr_51_84 hF, h2, s1])) ?_
  · have hle : ¬ nI (2 ^ n) ≤ nI j := nle hj (by omega)
    have hj4 : j < 1024 := by omega
    have hx := exp_m hZ hF hn h2 hv hr hj4
    have k1 : ¬ (1 : Int32) = 0 := by decide
    have bj2 := bitsOf_m hj4
    by_cases c : exB M (bj j) n 8 = true
    · rw [if_pos c] at hx
      rcases fdS_or M n j with e | ⟨b, hb, e⟩
      · simp [tg_51 hZ, tg_52 hZ, tg_53 hZ, tg_54 hZ, tg_55 hZ, tg_56 hZ, tg_57 hZ, tg_58 hZ, tg_59 hZ, tg_60 hZ, tg_61 hZ, tg_62 hZ, tg_63 hZ, tg_64 hZ, tg_65 hZ, tg_66 hZ, tg_67 hZ, tg_68 hZ, tg_69 hZ, tg_70 hZ, tg_71 hZ, tg_72 hZ, tg_73 hZ, tg_74 hZ, tg_75 hZ, tg_76 hZ, tg_77 hZ, tg_78 hZ, tg_79 hZ, tg_80 hZ, tg_81 hZ, tg_82 hZ, tg_83 hZ, tg_84 hZ, tg_85 hZ, tg_86 hZ, tg_87 hZ, tg_88 hZ, tg_89 hZ, tg_90 hZ, tg_91 hZ, tg_92 hZ, tg_93 hZ, tg_94 hZ, tg_95 hZ, tg_96 hZ, tg_97 hZ, tg_98 hZ, tg_99 hZ, tg_100 hZ, tg_101 hZ, tg_102 hZ, tg_103 hZ, tg_104 hZ, tg_105 hZ, tg_106 hZ, tg_107 hZ, tg_108 hZ, tg_109 hZ, fr_51_0 hF, fr_51_1 hF, fr_51_2 hF, fr_51_4 hF, fr_51_5 hF, fr_51_6 hF, fr_51_7 hF, fr_51_8 hF, fr_51_9 hF, fr_51_10 hF, fr_51_16 hF, fr_51_17 hF, fr_51_18 hF, fr_51_19 hF, fr_51_20 hF, fr_51_22 hF, fr_51_23 hF, fr_51_24 hF, fr_51_25 hF, fr_51_26 hF, fr_51_27 hF, fr_51_28 hF, fr_51_29 hF, fr_51_30 hF, fr_51_31 hF, fr_51_32 hF, fr_51_33 hF, fr_51_36 hF, fr_51_37 hF, fr_51_38 hF, fr_51_39 hF, fr_51_40 hF, fr_51_41 hF, fr_51_42 hF, fr_51_51 hF, fr_51_52 hF, fr_51_54 hF, fr_51_56 hF, fr_51_58 hF, fr_51_59 hF, fr_51_60 hF, fr_51_62 hF, fr_51_63 hF, fr_51_67 hF, fr_51_68 hF, fr_51_69 hF, fr_51_70 hF, fr_51_71 hF, fr_51_72 hF, fr_51_73 hF, fr_51_74 hF, fr_51_76 hF, fr_51_77 hF, fr_51_78 hF, fr_51_79 hF, fr_51_82 hF, fr_51_83 hF, fr_51_84 hF, h2, s1, hle, hx, e, fdS, c, nI_succ]
      · have bb2 := bitsOf_m (j := b) (by omega)
        have e2 := nm1 (b := b) (by omega)
        by_cases q : fJ6_bitCount_0f7a4 (nI b) ≤ fJ6_bitCount_0f7a4 (nI j)
        · by_cases q2 : fJ6_bitCount_0f7a4 (nI j) = fJ6_bitCount_0f7a4 (nI b)
          · simp [tg_51 hZ, tg_52 hZ, tg_53 hZ, tg_54 hZ, tg_55 hZ, tg_56 hZ, tg_57 hZ, tg_58 hZ, tg_59 hZ, tg_60 hZ, tg_61 hZ, tg_62 hZ, tg_63 hZ, tg_64 hZ, tg_65 hZ, tg_66 hZ, tg_67 hZ, tg_68 hZ, tg_69 hZ, tg_70 hZ, tg_71 hZ, tg_72 hZ, tg_73 hZ, tg_74 hZ, tg_75 hZ, tg_76 hZ, tg_77 hZ, tg_78 hZ, tg_79 hZ, tg_80 hZ, tg_81 hZ, tg_82 hZ, tg_83 hZ, tg_84 hZ, tg_85 hZ, tg_86 hZ, tg_87 hZ, tg_88 hZ, tg_89 hZ, tg_90 hZ, tg_91 hZ, tg_92 hZ, tg_93 hZ, tg_94 hZ, tg_95 hZ, tg_96 hZ, tg_97 hZ, tg_98 hZ, tg_99 hZ, tg_100 hZ, tg_101 hZ, tg_102 hZ, tg_103 hZ, tg_104 hZ, tg_105 hZ, tg_106 hZ, tg_107 hZ, tg_108 hZ, tg_109 hZ, fr_51_0 hF, fr_51_1 hF, fr_51_2 hF, fr_51_4 hF, fr_51_5 hF, fr_51_6 hF, fr_51_7 hF, fr_51_8 hF, fr_51_9 hF, fr_51_10 hF, fr_51_16 hF, fr_51_17 hF, fr_51_18 hF, fr_51_19 hF, fr_51_20 hF, fr_51_22 hF, fr_51_23 hF, fr_51_24 hF, fr_51_25 hF, fr_51_26 hF, fr_51_27 hF, fr_51_28 hF, fr_51_29 hF, fr_51_30 hF, fr_51_31 hF, fr_51_32 hF, fr_51_33 hF, fr_51_36 hF, fr_51_37 hF, fr_51_38 hF, fr_51_39 hF, fr_51_40 hF, fr_51_41 hF, fr_51_42 hF, fr_51_51 hF, fr_51_52 hF, fr_51_54 hF, fr_51_56 hF, fr_51_58 hF, fr_51_59 hF, fr_51_60 hF, fr_51_62 hF, fr_51_63 hF, fr_51_67 hF, fr_51_68 hF, fr_51_69 hF, fr_51_70 hF, fr_51_71 hF, fr_51_72 hF, fr_51_73 hF, fr_51_74 hF, fr_51_76 hF, fr_51_77 hF, fr_51_78 hF, fr_51_79 hF, fr_51_82 hF, fr_51_83 hF, fr_51_84 hF, h2, s1, hle, hx, e, e2, bj2, bb2, fdS, c, q2, pu, nI_succ]
          · simp [tg_51 hZ, tg_52 hZ, tg_53 hZ, tg_54 hZ, tg_55 hZ, tg_56 hZ, tg_57 hZ, tg_58 hZ, tg_59 hZ, tg_60 hZ, tg_61 hZ, tg_62 hZ, tg_63 hZ, tg_64 hZ, tg_65 hZ, tg_66 hZ, tg_67 hZ, tg_68 hZ, tg_69 hZ, tg_70 hZ, tg_71 hZ, tg_72 hZ, tg_73 hZ, tg_74 hZ, tg_75 hZ, tg_76 hZ, tg_77 hZ, tg_78 hZ, tg_79 hZ, tg_80 hZ, tg_81 hZ, tg_82 hZ, tg_83 hZ, tg_84 hZ, tg_85 hZ, tg_86 hZ, tg_87 hZ, tg_88 hZ, tg_89 hZ, tg_90 hZ, tg_91 hZ, tg_92 hZ, tg_93 hZ, tg_94 hZ, tg_95 hZ, tg_96 hZ, tg_97 hZ, tg_98 hZ, tg_99 hZ, tg_100 hZ, tg_101 hZ, tg_102 hZ, tg_103 hZ, tg_104 hZ, tg_105 hZ, tg_106 hZ, tg_107 hZ, tg_108 hZ, tg_109 hZ, fr_51_0 hF, fr_51_1 hF, fr_51_2 hF, fr_51_4 hF, fr_51_5 hF, fr_51_6 hF, fr_51_7 hF, fr_51_8 hF, fr_51_9 hF, fr_51_10 hF, fr_51_16 hF, fr_51_17 hF, fr_51_18 hF, fr_51_19 hF, fr_51_20 hF, fr_51_22 hF, fr_51_23 hF, fr_51_24 hF, fr_51_25 hF, fr_51_26 hF, fr_51_27 hF, fr_51_28 hF, fr_51_29 hF, fr_51_30 hF, fr_51_31 hF, fr_51_32 hF, fr_51_33 hF, fr_51_36 hF, fr_51_37 hF, fr_51_38 hF, fr_51_39 hF, fr_51_40 hF, fr_51_41 hF, fr_51_42 hF, fr_51_51 hF, fr_51_52 hF, fr_51_54 hF, fr_51_56 hF, fr_51_58 hF, fr_51_59 hF, fr_51_60 hF, fr_51_62 hF, fr_51_63 hF, fr_51_67 hF, fr_51_68 hF, fr_51_69 hF, fr_51_70 hF, fr_51_71 hF, fr_51_72 hF, fr_51_73 hF, fr_51_74 hF, fr_51_76 hF, fr_51_77 hF, fr_51_78 hF, fr_51_79 hF, fr_51_82 hF, fr_51_83 hF, fr_51_84 hF, h2, s1, hle, hx, e, e2, bj2, bb2, fdS, c, q, q2, pu, nI_succ]
        · simp [tg_51 hZ, tg_52 hZ, tg_53 hZ, tg_54 hZ, tg_55 hZ, tg_56 hZ, tg_57 hZ, tg_58 hZ, tg_59 hZ, tg_60 hZ, tg_61 hZ, tg_62 hZ, tg_63 hZ, tg_64 hZ, tg_65 hZ, tg_66 hZ, tg_67 hZ, tg_68 hZ, tg_69 hZ, tg_70 hZ, tg_71 hZ, tg_72 hZ, tg_73 hZ, tg_74 hZ, tg_75 hZ, tg_76 hZ, tg_77 hZ, tg_78 hZ, tg_79 hZ, tg_80 hZ, tg_81 hZ, tg_82 hZ, tg_83 hZ, tg_84 hZ, tg_85 hZ, tg_86 hZ, tg_87 hZ, tg_88 hZ, tg_89 hZ, tg_90 hZ, tg_91 hZ, tg_92 hZ, tg_93 hZ, tg_94 hZ, tg_95 hZ, tg_96 hZ, tg_97 hZ, tg_98 hZ, tg_99 hZ, tg_100 hZ, tg_101 hZ, tg_102 hZ, tg_103 hZ, tg_104 hZ, tg_105 hZ, tg_106 hZ, tg_107 hZ, tg_108 hZ, tg_109 hZ, fr_51_0 hF, fr_51_1 hF, fr_51_2 hF, fr_51_4 hF, fr_51_5 hF, fr_51_6 hF, fr_51_7 hF, fr_51_8 hF, fr_51_9 hF, fr_51_10 hF, fr_51_16 hF, fr_51_17 hF, fr_51_18 hF, fr_51_19 hF, fr_51_20 hF, fr_51_22 hF, fr_51_23 hF, fr_51_24 hF, fr_51_25 hF, fr_51_26 hF, fr_51_27 hF, fr_51_28 hF, fr_51_29 hF, fr_51_30 hF, fr_51_31 hF, fr_51_32 hF, fr_51_33 hF, fr_51_36 hF, fr_51_37 hF, fr_51_38 hF, fr_51_39 hF, fr_51_40 hF, fr_51_41 hF, fr_51_42 hF, fr_51_51 hF, fr_51_52 hF, fr_51_54 hF, fr_51_56 hF, fr_51_58 hF, fr_51_59 hF, fr_51_60 hF, fr_51_62 hF, fr_51_63 hF, fr_51_67 hF, fr_51_68 hF, fr_51_69 hF, fr_51_70 hF, fr_51_71 hF, fr_51_72 hF, fr_51_73 hF, fr_51_74 hF, fr_51_76 hF, fr_51_77 hF, fr_51_78 hF, fr_51_79 hF, fr_51_82 hF, fr_51_83 hF, fr_51_84 hF, h2, s1, hle, hx, e, e2, bj2, bb2, fdS, c, q, pu, nI_succ]
    · rw [if_neg c] at hx
      simp [tg_51 hZ, tg_52 hZ, tg_53 hZ, tg_54 hZ, tg_55 hZ, tg_56 hZ, tg_57 hZ, tg_58 hZ, tg_59 hZ, tg_60 hZ, tg_61 hZ, tg_62 hZ, tg_63 hZ, tg_64 hZ, tg_65 hZ, tg_66 hZ, tg_67 hZ, tg_68 hZ, tg_69 hZ, tg_70 hZ, tg_71 hZ, tg_72 hZ, tg_73 hZ, tg_74 hZ, tg_75 hZ, tg_76 hZ, tg_77 hZ, tg_78 hZ, tg_79 hZ, tg_80 hZ, tg_81 hZ, tg_82 hZ, tg_83 hZ, tg_84 hZ, tg_85 hZ, tg_86 hZ, tg_87 hZ, tg_88 hZ, tg_89 hZ, tg_90 hZ, tg_91 hZ, tg_92 hZ, tg_93 hZ, tg_94 hZ, tg_95 hZ, tg_96 hZ, tg_97 hZ, tg_98 hZ, tg_99 hZ, tg_100 hZ, tg_101 hZ, tg_102 hZ, tg_103 hZ, tg_104 hZ, tg_105 hZ, tg_106 hZ, tg_107 hZ, tg_108 hZ, tg_109 hZ, fr_51_0 hF, fr_51_1 hF, fr_51_2 hF, fr_51_4 hF, fr_51_5 hF, fr_51_6 hF, fr_51_7 hF, fr_51_8 hF, fr_51_9 hF, fr_51_10 hF, fr_51_16 hF, fr_51_17 hF, fr_51_18 hF, fr_51_19 hF, fr_51_20 hF, fr_51_22 hF, fr_51_23 hF, fr_51_24 hF, fr_51_25 hF, fr_51_26 hF, fr_51_27 hF, fr_51_28 hF, fr_51_29 hF, fr_51_30 hF, fr_51_31 hF, fr_51_32 hF, fr_51_33 hF, fr_51_36 hF, fr_51_37 hF, fr_51_38 hF, fr_51_39 hF, fr_51_40 hF, fr_51_41 hF, fr_51_42 hF, fr_51_51 hF, fr_51_52 hF, fr_51_54 hF, fr_51_56 hF, fr_51_58 hF, fr_51_59 hF, fr_51_60 hF, fr_51_62 hF, fr_51_63 hF, fr_51_67 hF, fr_51_68 hF, fr_51_69 hF, fr_51_70 hF, fr_51_71 hF, fr_51_72 hF, fr_51_73 hF, fr_51_74 hF, fr_51_76 hF, fr_51_77 hF, fr_51_78 hF, fr_51_79 hF, fr_51_82 hF, fr_51_83 hF, fr_51_84 hF, h2, s1, hle, hx, fdS, c, nI_succ]
  · by_cases q : x1 = 0
    · simp [q]
    · by_cases q2 : (fdS M n (2 ^ n)).1 = -1
      · simp [q, q2]
      · simp [q, q2]
theorem fill_c {Z : Shp} {a m : Nat} (ha : tg Z a = (100, m)) (hm : m < 2 ^ 31) (M : Mem) (v : Int32) : fJ7_fill_53178 Z M a v = some (stN a v M m) := by
  unfold fJ7_fill_53178
  simp only [ha, pu, if_true]
  refine loop_for (fun i => (nI i, stN a v M i)) m rfl (fun i hi => ?_) (by simp)
  have hle := nle hi hm
  have ak : aok Z a 100 (nI i) := aok_nI ha hi hm
  have hix : ix (nI i) = i := ix_nI (by omega)
  simp [hle, if_pos ak, hix, stN, nI_succ]
def fdZ (M : Mem) (n j : Nat) : Int32 := if (fdS M n j).1 = -1 then nI (n + 1) else fJ6_bitCount_0f7a4 (fdS M n j).1
theorem search_c {Z : Shp} {M : Mem} (hZ : OKZ Z) (hF : Fix M) (hB : IBanks M) {n : Nat} (hn : n ≤ 10) (h1 : rI M 32 2 = nI n) : ∃ M1, fX0_search Z M 32 = some M1 ∧ Wr Z FFd [] [] M M1 ∧ rI M1 32 7 = (fdS M n (2 ^ n)).1 ∧ rI M1 32 8 = (fdS M n (2 ^ n)).2 := by
  obtain ⟨s1, s2, s3⟩ := fd_sh n (by omega)
  have hB0 := hB
  obtain ⟨n', hn', h1', -, e33, e34, hv, -⟩ := hB
  have hnn : n' = n := (nI_eq (by omega) (by omega)).mp (h1'.symm.trans h1)
  subst hnn
  have hv2 : ∀ k, k < n' → 1 ≤ (rI M 96 k).toInt ∧ (rI M 96 k).toInt ≤ 999 := fun k hk => (hv k hk).2
  have hd : dis FFd FBk2 = true := by decide
  unfold fX0_search
  rw [if_pos (tg_32 hZ)]
  simp only [pu]
  have hfr : rR (wI (wI M 32 7 (-1)) 32 8 0) 32 6 = 38 := by simp [rR_wI, fr_32_6 hF]
  rw [hfr, fill_c (tg_38 hZ) (by decide)]
  have hz : rI (wI (wI M 32 7 (-1)) 32 8 0) 32 2 + 1 = nI (n' + 1) := by simp [rI_wI, h1, nI_succ]
  rw [hz, Option.bind_some]
  refine loop_inv (fun s => ∃ j, j ≤ 2 ^ n' ∧ s.1 = fdZ M n' j ∧ s.2.1 = nI j ∧ Wr Z FFd [] [] M s.2.2 ∧ rI s.2.2 32 7 = (fdS M n' j).1 ∧ rI s.2.2 32 8 = (fdS M n' j).2 ∧ ∀ p, p < 8 → (rI s.2.2 38 p).toInt = lz M p (bj (j - 1)) n') (fun M1 => Wr Z FFd [] [] M M1 ∧ rI M1 32 7 = (fdS M n' (2 ^ n')).1 ∧ rI M1 32 8 = (fdS M n' (2 ^ n')).2) (fun s => 2 ^ n' - ix s.2.1) ?_ _ ⟨0, by omega, by simp [fdZ, fdS], rfl, ?_, ?_, ?_, ?_⟩
  · rintro ⟨sz, t, M3⟩ ⟨j, hj, e1, e2, w3, e7, e8, hl⟩
    dsimp only at e1 e2 w3 e7 e8 hl
    subst e1 e2
    have hF3 : Fix M3 := w3.fix hF (by decide)
    have r2 : rI M3 32 2 = nI n' := by rw [w3.at hd (a := 32) (k := 2) (by simp) (by omega), h1]
    by_cases hj2 : j = 2 ^ n'
    · refine Or.inr ⟨M3, by simp [r2, s1, hj2], w3, ?_, ?_⟩
      · rw [e7, hj2]
      · rw [e8, hj2]
    have hj2 : j < 2 ^ n' := by omega
    have hle : ¬ nI (2 ^ n') ≤ nI j := nle hj2 (by omega)
    have hix : ix (nI j) = j := ix_nI (by omega)
    have hix1 : ix (nI (j + 1)) = j + 1 := ix_nI (by omega)
    have hmu : 2 ^ n' - ix (nI (j + 1)) < 2 ^ n' - ix (nI j) := by
      rw [hix, hix1]
      omega
    obtain ⟨M4, t1, t2, t3⟩ : ∃ M4, (if nI j ≤ 0 then some M3 else (Option.bind (fX0_turnTo Z M3 32 (nI j)) (fun v15 => some v15))) = some M4 ∧ Wr Z [(38, none)] [] [] M3 M4 ∧ ∀ p, p < 8 → (rI M4 38 p).toInt = lz M p (bj j) n' := by
      by_cases j0 : j = 0
      · subst j0
        exact ⟨M3, by simp [show nI 0 ≤ 0 by decide], Wr.rf, hl⟩
      · obtain ⟨i, rfl⟩ : ∃ i, j = i + 1 := ⟨j - 1, by omega⟩
        obtain ⟨M4, t1, t2, t3⟩ := turn_c hZ hF hB0 w3 hn h1 (j := i) (by omega) (by simpa using hl)
        refine ⟨M4, ?_, t2, t3⟩
        rw [if_neg (nI_nle (by omega) (by omega)), t1]
        rfl
    have w4 : Wr Z FFd [] [] M M4 := w3.tr (t2.mono (by simp) (by simp) (by simp))
    have hd7 : dis [(38, none)] [(32, some 7), (32, some 8)] = true := by decide
    have f7 : rI M4 32 7 = (fdS M n' j).1 := by rw [t2.at hd7 (a := 32) (k := 7) (by simp) (by omega), e7]
    have f8 : rI M4 32 8 = (fdS M n' j).2 := by rw [t2.at hd7 (a := 32) (k := 8) (by simp) (by omega), e8]
    have hx := exp_c hZ hF hB0 w4 hn hv2 t3
    have hbl := fd_le n' (by omega) j hj2
    have hsz : (fdS M n' j).1 = -1 → fJ6_bitCount_0f7a4 (nI j) < fdZ M n' j := by
      intro h
      rw [fdZ, if_pos h, i32_lt, nI_toInt (by omega)]
      rw [i32_le, nI_toInt (by omega)] at hbl
      omega
    have k1 : ¬ (1 : Int32) = 0 := by decide
    left
    dsimp only
    rw [r2, s1, if_neg hle, t1, Option.bind_some, hx]
    by_cases c : fdZ M n' j < fJ6_bitCount_0f7a4 (nI j)
    · refine ⟨(fdZ M n' j, nI (j + 1), M4), by simp [c, nI_succ], ⟨j + 1, by omega, ?_, rfl, w4, ?_, ?_, t3⟩, hmu⟩
      all_goals
        have hne : ¬ (fdS M n' j).1 = -1 := fun h => by
          have := hsz h
          rw [i32_lt] at this c
          omega
        rw [fdZ, if_neg hne] at c
        have c2 : fJ6_bitCount_0f7a4 (fdS M n' j).1 ≤ fJ6_bitCount_0f7a4 (nI j) := by
          rw [i32_lt] at c
          rw [i32_le]
          omega
        have c3 : ¬ fJ6_bitCount_0f7a4 (nI j) = fJ6_bitCount_0f7a4 (fdS M n' j).1 := fun h => by
          rw [i32_lt, h] at c
          omega
        have hs : fdS M n' (j + 1) = fdS M n' j := by
          rw [fdS]
          by_cases q : exB M (bj j) n' 8 = true
          · rw [if_pos q, if_neg hne, if_pos c2, if_neg c3]
            simp
          · rw [if_neg q]
      · rw [fdZ, fdZ, hs]
      · dsimp only; rw [hs]; exact f7
      · dsimp only; rw [hs]; exact f8
    by_cases q : exB M (bj j) n' 8 = true
    case neg =>
      have hs : fdS M n' (j + 1) = fdS M n' j := by rw [fdS, if_neg q]
      refine ⟨(fdZ M n' j, nI (j + 1), M4), by simp [c, q, nI_succ], ⟨j + 1, by omega, ?_, rfl, w4, ?_, ?_, t3⟩, hmu⟩
      · rw [fdZ, fdZ, hs]
      · dsimp only; rw [hs]; exact f7
      · dsimp only; rw [hs]; exact f8
    by_cases d : fJ6_bitCount_0f7a4 (nI j) = fdZ M n' j
    · have hne : ¬ (fdS M n' j).1 = -1 := fun h => by
        have := hsz h
        rw [← d, i32_lt] at this
        omega
      have d2 : fJ6_bitCount_0f7a4 (nI j) = fJ6_bitCount_0f7a4 (fdS M n' j).1 := by
        rw [fdZ, if_neg hne] at d
        exact d
      have d3 : fJ6_bitCount_0f7a4 (fdS M n' j).1 ≤ fJ6_bitCount_0f7a4 (nI j) := by
        rw [d2, i32_le]
        omega
      have hs : fdS M n' (j + 1) = ((fdS M n' j).1, (fdS M n' j).2 + 1) := by rw [fdS, if_pos q, if_neg hne, if_pos d3, if_pos d2]
      refine ⟨(fdZ M n' j, nI (j + 1), wI (wI M4 32 8 ((fdS M n' j).2 + 1)) 32 7 (fdS M n' j).1), ?_, ⟨j + 1, by omega, ?_, rfl, (w4.sI (by simp [inF])).sI (by simp [inF]), ?_, ?_, ?_⟩, hmu⟩
      · simp only [if_neg c, q, if_true, Option.bind_some, if_neg k1, d, f8]
        simp [rI_wI, f7, nI_succ]
      · rw [fdZ, fdZ, hs]
      · rw [hs]; simp [rI_wI]
      · rw [hs]; simp [rI_wI]
      · intro p hp
        simp only [rI_wI, show ¬ (38 : Nat) = 32 by decide, false_and, if_false]
        exact t3 p hp
    · have hs : fdS M n' (j + 1) = (nI j, 0) := by
        rw [fdS, if_pos q]
        by_cases hne : (fdS M n' j).1 = -1
        · rw [if_pos hne]
        · rw [if_neg hne, if_neg]
          rw [fdZ, if_neg hne] at c d
          rw [i32_lt] at c
          rw [i32_eq] at d
          rw [i32_le]
          omega
      refine ⟨(fJ6_bitCount_0f7a4 (nI j), nI (j + 1), wI (wI M4 32 8 0) 32 7 (nI j)), ?_, ⟨j + 1, by omega, ?_, rfl, (w4.sI (by simp [inF])).sI (by simp [inF]), ?_, ?_, ?_⟩, hmu⟩
      · simp [c, q, d, nI_succ]
      · rw [fdZ, hs, if_neg]
        exact nm1 (by omega)
      · rw [hs]; simp [rI_wI]
      · rw [hs]; simp [rI_wI]
      · intro p hp
        simp only [rI_wI, show ¬ (38 : Nat) = 32 by decide, false_and, if_false]
        exact t3 p hp
  · exact ((Wr.rf.sI (by simp [inF])).sI (by simp [inF])).st (by simp) 8
  · simp [rI_stN, rI_wI, fdS]
  · simp [rI_stN, rI_wI, fdS]
  · intro p hp
    rw [lz_0 (fun k => by simp [bj])]
    simp [rI_stN, hp]
theorem op_find {Z : Shp} {M : Mem} (hZ : OKZ Z) (hF : Fix M) (hB : IBanks M) (x1 : Int32) : ∃ r M1, fX11_find Z M 2 x1 = some (r, M1) ∧ fX12_find Z M1 51 x1 = some r ∧ IBanks M1 ∧ Wr Z FFd [] [] M M1 := by
  by_cases c1 : fX11_within x1 0 1 = 0
  · exact ⟨-102, M, by simp [fX11_find, c1], by simp [fX12_find, in_m1_e, in_0_e, in_0_1, in_0_2, in_0_23, in_0_3, in_0_4, in_0_40, in_0_5, in_0_50, in_0_599, in_0_6, in_0_7, in_0_9, in_0_99, in_0_999, in_0_9999, in_0_99999, in_0_999999, in_1_100, in_1_200, in_1_6, in_1_9, in_1_999, in_10_17, in_10_200, in_48_57, in_6_17, in_e_99, in_e_9999, in_within, c1], hB, Wr.rf⟩
  obtain ⟨n, hn, h1, h2, e33, e34, hv, hr⟩ := id hB
  obtain ⟨M1, q1, w, q2, q3⟩ := search_c hZ hF hB hn h1
  have hd : dis FFd FBk2 = true := by decide
  have hF1 : Fix M1 := w.fix hF (by decide)
  have hB1 : IBanks M1 := hB.kp w hd
  have r95 := fun k => w.row hd (a := 95) (by simp) (by omega) k
  have r96 := fun k => w.row hd (a := 96) (by simp) (by omega) k
  have r97 := fun k => w.row hd (a := 97) (by simp) (by omega) k
  have r98 := fun k => w.row hd (a := 98) (by simp) (by omega) k
  have hm := find_m hZ hF1 hn (by rw [w.at hd (a := 51) (k := 66) (by simp) (by omega), h2]) (fun k hk => by rw [r95, r96]; exact hv k hk) (fun p hp => by
    rw [r97, r98]
    rcases hr p hp with ⟨g1, g2⟩ | ⟨g1, g2, g3, g4⟩
    · exact Or.inl g2
    · exact Or.inr g4) x1 c1
  refine ⟨_, M1, ?_, hm, hB1, w⟩
  rw [fdS_mem r95 r96 r97 r98]
  by_cases q : x1 = 0
  · subst q
    simp [fX11_find, c1, tg_2 hZ, tg_3 hZ, tg_4 hZ, tg_5 hZ, tg_6 hZ, tg_7 hZ, tg_8 hZ, tg_24 hZ, tg_25 hZ, tg_26 hZ, tg_27 hZ, tg_28 hZ, tg_29 hZ, tg_30 hZ, tg_31 hZ, tg_32 hZ, tg_33 hZ, tg_34 hZ, tg_35 hZ, tg_36 hZ, tg_37 hZ, tg_38 hZ, tg_39 hZ, tg_40 hZ, tg_41 hZ, tg_42 hZ, tg_43 hZ, tg_44 hZ, tg_45 hZ, tg_46 hZ, tg_47 hZ, tg_48 hZ, tg_49 hZ, tg_50 hZ, fr_2_0 hF, fr_3_0 hF, fr_3_1 hF, fr_3_2 hF, fr_3_3 hF, fr_3_4 hF, fr_2_1 hF, fr_24_0 hF, fr_24_2 hF, fr_2_2 hF, fr_27_0 hF, fr_27_1 hF, fr_27_2 hF, fr_27_8 hF, fr_2_3 hF, fr_32_0 hF, fr_32_1 hF, fr_32_3 hF, fr_32_4 hF, fr_32_5 hF, fr_32_6 hF, fr_2_4 hF, fr_39_0 hF, fr_39_1 hF, fr_39_2 hF, fr_39_3 hF, fr_39_4 hF, fr_39_5 hF, fr_39_6 hF, fr_2_5 hF, fr_47_0 hF, fr_47_1 hF, fr_47_2 hF, q1, fr_2_3 hF1, q2]
  · by_cases q4 : (fdS M n (2 ^ n)).1 = -1
    · simp [fX11_find, c1, tg_2 hZ, tg_3 hZ, tg_4 hZ, tg_5 hZ, tg_6 hZ, tg_7 hZ, tg_8 hZ, tg_24 hZ, tg_25 hZ, tg_26 hZ, tg_27 hZ, tg_28 hZ, tg_29 hZ, tg_30 hZ, tg_31 hZ, tg_32 hZ, tg_33 hZ, tg_34 hZ, tg_35 hZ, tg_36 hZ, tg_37 hZ, tg_38 hZ, tg_39 hZ, tg_40 hZ, tg_41 hZ, tg_42 hZ, tg_43 hZ, tg_44 hZ, tg_45 hZ, tg_46 hZ, tg_47 hZ, tg_48 hZ, tg_49 hZ, tg_50 hZ, fr_2_0 hF, fr_3_0 hF, fr_3_1 hF, fr_3_2 hF, fr_3_3 hF, fr_3_4 hF, fr_2_1 hF, fr_24_0 hF, fr_24_2 hF, fr_2_2 hF, fr_27_0 hF, fr_27_1 hF, fr_27_2 hF, fr_27_8 hF, fr_2_3 hF, fr_32_0 hF, fr_32_1 hF, fr_32_3 hF, fr_32_4 hF, fr_32_5 hF, fr_32_6 hF, fr_2_4 hF, fr_39_0 hF, fr_39_1 hF, fr_39_2 hF, fr_39_3 hF, fr_39_4 hF, fr_39_5 hF, fr_39_6 hF, fr_2_5 hF, fr_47_0 hF, fr_47_1 hF, fr_47_2 hF, q1, q, fr_2_3 hF1, q2, q3, q4]
    · simp [fX11_find, c1, tg_2 hZ, tg_3 hZ, tg_4 hZ, tg_5 hZ, tg_6 hZ, tg_7 hZ, tg_8 hZ, tg_24 hZ, tg_25 hZ, tg_26 hZ, tg_27 hZ, tg_28 hZ, tg_29 hZ, tg_30 hZ, tg_31 hZ, tg_32 hZ, tg_33 hZ, tg_34 hZ, tg_35 hZ, tg_36 hZ, tg_37 hZ, tg_38 hZ, tg_39 hZ, tg_40 hZ, tg_41 hZ, tg_42 hZ, tg_43 hZ, tg_44 hZ, tg_45 hZ, tg_46 hZ, tg_47 hZ, tg_48 hZ, tg_49 hZ, tg_50 hZ, fr_2_0 hF, fr_3_0 hF, fr_3_1 hF, fr_3_2 hF, fr_3_3 hF, fr_3_4 hF, fr_2_1 hF, fr_24_0 hF, fr_24_2 hF, fr_2_2 hF, fr_27_0 hF, fr_27_1 hF, fr_27_2 hF, fr_27_8 hF, fr_2_3 hF, fr_32_0 hF, fr_32_1 hF, fr_32_3 hF, fr_32_4 hF, fr_32_5 hF, fr_32_6 hF, fr_2_4 hF, fr_39_0 hF, fr_39_1 hF, fr_39_2 hF, fr_39_3 hF, fr_39_4 hF, fr_39_5 hF, fr_39_6 hF, fr_2_5 hF, fr_47_0 hF, fr_47_1 hF, fr_47_2 hF, q1, q, fr_2_3 hF1, q2, q3, q4]
