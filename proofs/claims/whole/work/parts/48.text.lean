/-! text -/
def cpT (M : Mem) (t : Nat) : Nat → Mem
  | 0 => M
  | j + 1 => wI (wI (cpT M t j) 84 (60 * t + j) (rI M 86 j)) 85 (60 * t + j) (rI M 87 j)
theorem rR_cpT (M : Mem) (t a k : Nat) : ∀ j, rR (cpT M t j) a k = rR M a k := by
  intro j
  induction j with
  | zero => rfl
  | succ j ih => rw [cpT, rR_wI, rR_wI, ih]
theorem rI_cpT (M : Mem) (t a k : Nat) : ∀ j, rI (cpT M t j) a k = if a = 84 ∧ 60 * t ≤ k ∧ k < 60 * t + j then rI M 86 (k - 60 * t) else if a = 85 ∧ 60 * t ≤ k ∧ k < 60 * t + j then rI M 87 (k - 60 * t) else rI M a k := by
  intro j
  induction j with
  | zero => rw [if_neg (by omega), if_neg (by omega)]; rfl
  | succ j ih =>
    rw [cpT, rI_wI, rI_wI, ih]
    by_cases c : a = 85 ∧ k = 60 * t + j
    · rw [if_pos c, if_neg (by omega), if_pos (by omega), show k - 60 * t = j by omega]
    · rw [if_neg c]
      by_cases d : a = 84 ∧ k = 60 * t + j
      · rw [if_pos d, if_pos (by omega), show k - 60 * t = j by omega]
      · rw [if_neg d]
        by_cases e : a = 84 ∧ 60 * t ≤ k ∧ k < 60 * t + j
        · rw [if_pos e, if_pos (by omega)]
        · rw [if_neg e]
          by_cases f : a = 85 ∧ 60 * t ≤ k ∧ k < 60 * t + j
          · rw [if_pos f, if_neg (by omega), if_pos (by omega)]
          · rw [if_neg f, if_neg (by omega), if_neg (by omega)]
theorem Wr.cpt {Z : Shp} {L : List (Nat × Option Nat)} {ts LR : List Nat} {M M1 : Mem} {t : Nat} (h : Wr Z L ts LR M M1) (hm : (84, none) ∈ L) (hm2 : (85, none) ∈ L) (j : Nat) : Wr Z L ts LR M (cpT M1 t j) := by
  induction j with
  | zero => exact h
  | succ j ih => exact (ih.sI (Or.inl hm)).sI (Or.inl hm2)
abbrev FTxM : List (Nat × Option Nat) := [(51, some 43), (51, some 44), (51, some 45), (51, some 46), (51, some 47), (51, some 48), (51, some 49), (51, some 50), (51, some 53), (51, some 55), (86, none), (87, none), (88, none), (51, some 34), (51, some 35), (79, none), (80, none), (81, none), (82, none), (83, none), (84, none), (85, none)]
theorem text_m {Z : Shp} {M Ms : Mem} (hZ : OKZ Z) (hF : Fix M) {n t : Nat} {x : Int32} (hn : n ≤ 60) (ht : t < 16) (h34 : rI M 51 34 = nI n) (h35 : rI M 51 35 = nI t) (hf : fX12_faultOf Z M 51 = some (nI n, Ms)) (hw : Wr Z FScan [] [] M Ms) (hSI : SI Z M (rI M 78) n n Ms x) (hy : ¬ fX11_within x 3 6 = 0 ∨ ¬ fX11_within x 10 13 = 0) : ∃ M2 R d, fX12_text Z M 51 = some (nI t, M2) ∧ Wr Z FTxM [] [] M M2 ∧ rI M2 51 34 = 0 ∧ rI M2 51 35 = nI (t + 1) ∧ rI M2 79 t = (if rI M 78 0 = 67 then 1 else 0) ∧ rI M2 80 t = nv (rI M 78) 2 d ∧ rI M2 81 t = 0 ∧ rI M2 82 t = 99 ∧ rI M2 83 t = nI R.length ∧ R.length ≤ 60 ∧ TS M2 t R ∧ (∀ y, y ≠ t → rI M2 79 y = rI M 79 y ∧ rI M2 80 y = rI M 80 y ∧ rI M2 81 y = rI M 81 y ∧ rI M2 82 y = rI M 82 y ∧ rI M2 83 y = rI M 83 y) ∧ (∀ k, k < 60 * t → rI M2 84 k = rI M 84 k ∧ rI M2 85 k = rI M 85 k) ∧ txC (rI M 78) n (d + 3) R ∧ (∀ k, k < d → ¬ fX2_isDigit (rI M 78 (2 + k)) = 0) ∧ d ≤ 4 ∧ 2 + d ≤ n ∧ (2 + d = n ∨ fX2_isDigit (rI M 78 (2 + d)) = 0) := by
  obtain ⟨hv, Me, Mb, d, R, e1, e2, hS, hA, hN, hRl, hd1, hd2, hC⟩ := txt_yes hZ hF hn hSI hy
  obtain ⟨b1, b2, b3, b4, b5⟩ := hS
  have hFb : Fix Mb := b1.fix hF (by decide)
  have hdS : dis FScan [(51, some 34), (51, some 35), (79, none), (80, none), (81, none), (82, none), (83, none), (84, none), (85, none)] = true := by decide
  have s34 : rI Ms 51 34 = nI n := by rw [hw.at hdS (a := 51) (k := 34) (by simp) (by omega), h34]
  have s35 : rI Ms 51 35 = nI t := by rw [hw.at hdS (a := 51) (k := 35) (by simp) (by omega), h35]
  have p35 : rI Mb 51 35 = nI t := by rw [b1.at hdS (a := 51) (k := 35) (by simp) (by omega), h35]
  have n16 : ¬ nI t = 16 := fun h => by
    have := (nI_eq (a := t) (b := 16) (by omega) (by omega)).mp h
    omega
  have hix : ix (nI t) = t := ix_nI (by omega)
  have a79 : aok Z 79 100 (nI t) := aok_nI (tg_79 hZ) (by omega) (by decide)
  have a80 : aok Z 80 100 (nI t) := aok_nI (tg_80 hZ) (by omega) (by decide)
  have a81 : aok Z 81 100 (nI t) := aok_nI (tg_81 hZ) (by omega) (by decide)
  have a82 : aok Z 82 100 (nI t) := aok_nI (tg_82 hZ) (by omega) (by decide)
  have a83 : aok Z 83 100 (nI t) := aok_nI (tg_83 hZ) (by omega) (by decide)
  obtain ⟨Mc, ec⟩ : ∃ Mc, Mc = wI (wI (wI (wI (wI Mb 79 t (rI Mb 51 46)) 80 t (rI Mb 51 47)) 81 t 0) 82 t 99) 83 t (nI R.length) := ⟨_, rfl⟩
  have wc : Wr Z FTxM [] [] M Mc := by
    rw [ec]
    exact (((((b1.mono (L1 := FTxM) (by decide) (by simp) (by simp)).sI (by simp [inF])).sI (by simp [inF])).sI (by simp [inF])).sI (by simp [inF])).sI (by simp [inF])
  have hFc : Fix Mc := wc.fix hF (by decide)
  have c35 : rI Mc 51 35 = nI t := by simp [ec, rI_wI, p35]
  have c53 : rI Mc 51 53 = nI R.length := by simp [ec, rI_wI, b2]
  refine ⟨wI (wI (cpT Mc t R.length) 51 35 (nI t + 1)) 51 34 0, R, d, ?_, ?_, ?_, ?_, ?_, ?_, ?_, ?_, ?_, hRl, ?_, ?_, ?_, hC, hN.2.1, hN.2.2.2, hd1, hd2⟩
  · unfold fX12_text
    rw [if_pos (tg_51 hZ), hf, Option.bind_some]
    dsimp only
    rw [if_pos s34.symm, hv, Option.bind_some, if_neg (by decide), s35, if_neg n16, e1, Option.bind_some, e2, Option.bind_some]
    simp only [pu, rI_wI, rR_wI, p35, b2, fr_51_36 hFb, fr_51_37 hFb, fr_51_38 hFb, fr_51_39 hFb, fr_51_40 hFb, if_pos a79, if_pos a80, if_pos a81, if_pos a82, if_pos a83, hix, show ∀ x : Prop, ((51 : Nat) = 79 ∧ x) = False from fun x => by simp, show ∀ x : Prop, ((51 : Nat) = 80 ∧ x) = False from fun x => by simp, show ∀ x : Prop, ((51 : Nat) = 81 ∧ x) = False from fun x => by simp, show ∀ x : Prop, ((51 : Nat) = 82 ∧ x) = False from fun x => by simp, if_false]
    rw [← ec]
    refine bindL (v := cpT Mc t R.length) (loop_for (fun j => (nI j, cpT Mc t j)) R.length rfl (fun j hj => ?_) ?_) ?_
    · have hle := nle hj (by omega)
      have hixj : ix (nI j) = j := ix_nI (by omega)
      have a86 : aok Z 86 100 (nI j) := aok_nI (tg_86 hZ) (by omega) (by decide)
      have a87 : aok Z 87 100 (nI j) := aok_nI (tg_87 hZ) (by omega) (by decide)
      have e60 : (60 : Int32) * nI t + nI j = nI (60 * t + j) := by
        rw [show (60 : Int32) = nI 60 from rfl, pk_mul, nI_add]
      have a84 : aok Z 84 100 (nI (60 * t + j)) := aok_nI (tg_84 hZ) (by omega) (by decide)
      have a85 : aok Z 85 100 (nI (60 * t + j)) := aok_nI (tg_85 hZ) (by omega) (by decide)
      have hixt : ix (nI (60 * t + j)) = 60 * t + j := ix_nI (by omega)
      have t53 : rI (cpT Mc t j) 51 53 = nI R.length := by rw [rI_cpT, if_neg (by omega), if_neg (by omega), c53]
      have t35 : rI (cpT Mc t j) 51 35 = nI t := by rw [rI_cpT, if_neg (by omega), if_neg (by omega), c35]
      have t86 : rI (cpT Mc t j) 86 j = rI Mc 86 j := by rw [rI_cpT, if_neg (by omega), if_neg (by omega)]
      have t87 : rI (cpT Mc t j) 87 j = rI Mc 87 j := by rw [rI_cpT, if_neg (by omega), if_neg (by omega)]
      simp only [rR_wI, rR_cpT, t53, if_neg hle, fr_51_51 hFc, fr_51_52 hFc, fr_51_41 hFc, fr_51_42 hFc, if_pos a86, if_pos a87, t35, e60, if_pos a84, hixt, hixj, t86, rI_wI, show ∀ x : Prop, ((51 : Nat) = 84 ∧ x) = False from fun x => by simp, show ∀ x : Prop, ((87 : Nat) = 84 ∧ x) = False from fun x => by simp, if_false, if_pos a85, t87, cpT]
      rw [nI_1]
    · have t53 : rI (cpT Mc t R.length) 51 53 = nI R.length := by rw [rI_cpT, if_neg (by omega), if_neg (by omega), c53]
      simp [t53]
    · have t35 : rI (cpT Mc t R.length) 51 35 = nI t := by rw [rI_cpT, if_neg (by omega), if_neg (by omega), c35]
      simp [t35, rI_wI]
  · exact ((wc.cpt (by simp) (by simp) R.length).sI (by simp [inF])).sI (by simp [inF])
  · simp [rI_wI]
  · simp [rI_wI, nI_succ]
  · simp [rI_wI, rI_cpT, ec]
    exact hA
  · simp [rI_wI, rI_cpT, ec]
    exact hN.1
  · simp [rI_wI, rI_cpT, ec]
  · simp [rI_wI, rI_cpT, ec]
  · simp [rI_wI, rI_cpT, ec]
  · refine TS_RS (M := Mc) R (fun k hk => ⟨?_, ?_⟩) (RS_eq R (fun k _ => ⟨by simp [ec, rI_wI], by simp [ec, rI_wI]⟩) b5)
    · rw [rI_wI, if_neg (by omega), rI_wI, if_neg (by omega), rI_cpT, if_pos (by omega), show 60 * t + k - 60 * t = k by omega]
    · rw [rI_wI, if_neg (by omega), rI_wI, if_neg (by omega), rI_cpT, if_neg (by omega), if_pos (by omega), show 60 * t + k - 60 * t = k by omega]
  · intro y hy
    have q79 := b1.row hdS (a := 79) (by simp) (by omega) y
    have q80 := b1.row hdS (a := 80) (by simp) (by omega) y
    have q81 := b1.row hdS (a := 81) (by simp) (by omega) y
    have q82 := b1.row hdS (a := 82) (by simp) (by omega) y
    have q83 := b1.row hdS (a := 83) (by simp) (by omega) y
    simp [rI_wI, rI_cpT, ec, hy, q79, q80, q81, q82, q83]
  · intro k hk
    have q84 := b1.row hdS (a := 84) (by simp) (by omega) k
    have q85 := b1.row hdS (a := 85) (by simp) (by omega) k
    constructor
    · rw [rI_wI, if_neg (by omega), rI_wI, if_neg (by omega), rI_cpT, if_neg (by omega), if_neg (by omega)]
      simp [ec, rI_wI, q84]
    · rw [rI_wI, if_neg (by omega), rI_wI, if_neg (by omega), rI_cpT, if_neg (by omega), if_neg (by omega)]
      simp [ec, rI_wI, q85]
/-- the class takes a text from its page -/
theorem take_c {Z : Shp} {M : Mem} (hZ : OKZ Z) (hF : Fix M) {n t : Nat} (hn : n ≤ 60) (hn2 : 2 ≤ n) (ht : t < 16) (h1 : rI M 24 1 = nI n) (h3 : rI M 24 3 = nI t) (hb : ∀ k, 0 ≤ (rI M 25 k).toInt ∧ (rI M 25 k).toInt ≤ 126) : ∃ M1, fX2_takeText Z M 24 = some (nI t, (Z ++ [(9, 6)]) ++ [(102, n)], M1) ∧ (∀ b k, b ≠ Z.length + 2 → b ≠ Z.length + 3 → b ≠ 24 → rI M1 b k = rI M b k) ∧ rI M1 24 1 = 0 ∧ rI M1 24 3 = nI (t + 1) ∧ (∀ k, k ≠ 1 → k ≠ 3 → rI M1 24 k = rI M 24 k) ∧ (∀ k, k < n → rI M1 (Z.length + 3) k = rI M 25 k) ∧ rI M1 (Z.length + 2) 1 = (if rI M1 (Z.length + 3) 0 = 67 then 1 else 0) ∧ rI M1 (Z.length + 2) 2 = nv (rI M1 (Z.length + 3)) 2 (drun (rI M1 (Z.length + 3)) 2 (n - 2)) ∧ rI M1 (Z.length + 2) 3 = nI (drun (rI M1 (Z.length + 3)) 2 (n - 2) + 3) ∧ rI M1 (Z.length + 2) 4 = 0 ∧ rI M1 (Z.length + 2) 5 = 99 ∧ rR M1 (Z.length + 2) 0 = Z.length + 3 ∧ rR M1 26 t = Z.length + 2 ∧ (∀ k, k ≠ t → rR M1 26 k = rR M 26 k) ∧ Wr ((Z ++ [(9, 6)]) ++ [(102, n)]) [(24, some 1), (24, some 3)] [9, 102] [26] M M1 ∧ ∀ b k, b ≠ Z.length + 2 → b ≠ 26 → rR M1 b k = rR M b k ∨ b = Z.length + 3 := by
  have hl := len_ok hZ
  obtain ⟨a, ea⟩ : ∃ a, a = Z.length + 2 := ⟨_, rfl⟩
  obtain ⟨A, eA⟩ : ∃ A, A = Z.length + 3 := ⟨_, rfl⟩
  obtain ⟨Z3, eZ3⟩ : ∃ Z3, Z3 = Z ++ [(9, 6)] := ⟨_, rfl⟩
  obtain ⟨Z4, eZ4⟩ : ∃ Z4, Z4 = Z3 ++ [(102, n)] := ⟨_, rfl⟩
  have hE3 : Ext Z Z3 := by rw [eZ3]; exact Ext_app _ _
  have hE4 : Ext Z3 Z4 := by rw [eZ4]; exact Ext_app _ _
  have hZ3 : OKZ Z3 := Ext_tr hZ hE3
  have hZ4 : OKZ Z4 := Ext_tr hZ3 hE4
  have ta3 : tg Z3 a = (9, 6) := by rw [eZ3, ea]; exact tg_app_new _ _ _
  have ta : tg Z4 a = (9, 6) := hE4 _ _ _ (by omega) ta3
  have hlA : Z3.length + 2 = A := by rw [eZ3, eA]; simp
  have tA : tg Z4 A = (102, n) := by rw [eZ4, ← hlA]; exact tg_app_new _ _ _
  have haA : A ≠ a := by omega
  have h110 : 110 ≤ a := by omega
  have h110A : 110 ≤ A := by omega
  have hcp : fJ7_copyOf_9075b Z3 (nw M a) 25 (nI n) = some (A, Z4, cpB (nw (nw M a) A) 25 A n) := by
    unfold fJ7_copyOf_9075b
    rw [hlA, ix_nI (show n < 2 ^ 31 by omega), ← eZ4, if_pos]
    rw [tg_25 hZ3]
    refine ⟨⟨⟨rfl, by omega⟩, fun j hj => ?_⟩, nI_pos (by omega), hn⟩
    have := hb j
    rw [rI_nw, if_neg (by omega)]
    exact b8_id (by omega) (by omega)
  obtain ⟨Mc, ec⟩ : ∃ Mc, Mc = cpB (nw (nw M a) A) 25 A n := ⟨_, rfl⟩
  have hMcA : ∀ k, k < n → rI Mc A k = rI M 25 k := by
    intro k hk
    simp [ec, rI_cpB, rI_nw, hk, show ¬ 25 = A by omega, show ¬ 25 = a by omega]
  have hin := init_c (M := Mc) ta tA hn hn2 haA
  obtain ⟨Mi, ei⟩ : ∃ Mi, Mi = wI (wI (wI (wR (wI Mc a 5 99) a 0 A) a 1 (if rI Mc A 0 = 67 then 1 else 0)) a 2 (nv (rI Mc A) 2 (drun (rI Mc A) 2 (n - 2)))) a 3 (nI (2 + drun (rI Mc A) 2 (n - 2)) + 1) := ⟨_, rfl⟩
  rw [← ei] at hin
  have hlt : nI t < 16 := nI_lt ht (by decide)
  have hix : ix (nI t) = t := ix_nI (by omega)
  have a26 : aok Z4 26 114 (nI t) := aok_nI (tg_26 hZ4) (by omega) (by decide)
  have m24 : ∀ k, rI (nw M a) 24 k = rI M 24 k := fun k => by rw [rI_nw, if_neg (by omega)]
  have r24 : ∀ k, rR (nw M a) 24 k = rR M 24 k := fun k => by rw [rR_nw, if_neg (by omega)]
  have i24 : ∀ k, rI Mi 24 k = rI M 24 k := fun k => by simp [ei, ec, rI_wI, rI_wR, rI_cpB, rI_nw, show ¬ 24 = a by omega, show ¬ 24 = A by omega]
  obtain ⟨M1, e1⟩ : ∃ M1, M1 = wI (wI (wR Mi 26 t a) 24 1 0) 24 3 (nI t + 1) := ⟨_, rfl⟩
  have rMA : rI M1 A = rI Mc A := by
    funext k
    simp [e1, ei, rI_wI, rI_wR, haA, show ¬ A = 24 by omega]
  rw [← ea, ← eA, ← eZ3, ← eZ4]
  refine ⟨M1, ?_, fun b k h1 h2 h3 => ?_, by simp [e1, rI_wI], by simp [e1, rI_wI, nI_succ], fun k h1 h2 => ?_, fun k hk => ?_, ?_, ?_, ?_, ?_, ?_, ?_, ?_, fun k hk => ?_, ?_, fun b k q1 q2 => ?_⟩
  · unfold fX2_takeText
    simp only [if_pos (tg_24 hZ), h3, if_pos hlt, pu, pu2, ← ea, ← eZ3]
    rw [r24, fr_24_0 hF, m24, h1, hcp, Option.bind_some]
    dsimp only
    rw [if_pos ta, ← ec, hin, Option.bind_some, fr_24_2 hF, if_pos a26, if_pos (tg_24 hZ4), hix]
    simp [rI_wI, rI_wR, i24, h3, e1]
  · simp [e1, ei, ec, rI_wI, rI_wR, rI_cpB, rI_nw, h1, h2, h3]
  · simp only [e1, rI_wI]
    rw [if_neg (by omega), if_neg (by omega), rI_wR]
    exact i24 k
  · rw [rMA]
    exact hMcA k hk
  · rw [rMA]
    simp [e1, ei, rI_wI, rI_wR, show ¬ a = 24 by omega]
  · rw [rMA]
    simp [e1, ei, rI_wI, rI_wR, show ¬ a = 24 by omega]
  · rw [rMA, show drun (rI Mc A) 2 (n - 2) + 3 = (2 + drun (rI Mc A) 2 (n - 2)) + 1 by omega, nI_succ]
    simp [e1, ei, rI_wI, rI_wR, show ¬ a = 24 by omega]
  · simp [e1, ei, ec, rI_wI, rI_wR, rI_cpB, rI_nw, show ¬ a = 24 by omega, Ne.symm haA]
  · simp [e1, ei, rI_wI, rI_wR, show ¬ a = 24 by omega]
  · simp [e1, ei, rR_wI, rR_wR, show ¬ a = 26 by omega]
  · simp [e1, rR_wI, rR_wR]
  · simp [e1, ei, ec, rR_wI, rR_wR, rR_cpB, rR_nw, hk, show ¬ 26 = a by omega, show ¬ 26 = A by omega]
  · have q : (tg Z4 a).1 ∈ [9, 102] := by rw [ta]; simp
    have qA : (tg Z4 A).1 ∈ [9, 102] := by rw [tA]; simp
    have w1 : Wr Z4 [(24, some 1), (24, some 3)] [9, 102] [26] M (nw (nw M a) A) := (Wr.rf.nw h110 q).nw h110A qA
    have w2 : Wr Z4 [(24, some 1), (24, some 3)] [9, 102] [26] M Mc := by
      rw [ec]
      refine ⟨fun b k c1 c2 => ?_, fun b k c1 c2 => ?_⟩
      · rw [rI_cpB, rJ_cpB, if_neg]
        · exact w1.1 b k c1 c2
        · rintro ⟨rfl, -⟩
          exact c2 ⟨h110A, qA⟩
      · rw [rR_cpB]
        exact w1.2 b k c1 c2
    have w3 : Wr Z4 [(24, some 1), (24, some 3)] [9, 102] [26] M (wR (wI Mc a 5 99) a 0 A) := by
      refine ⟨(w2.sD h110 q).1, fun b k c1 c2 => ?_⟩
      rw [rR_wR, if_neg]
      · exact (w2.sD h110 q).2 b k c1 c2
      · rintro ⟨rfl, -⟩
        exact c2 ⟨h110, q⟩
    rw [e1, ei]
    exact ((((((w3.sD h110 q).sD h110 q).sD h110 q).sR (by simp)).sI (by simp [inF])).sI (by simp [inF]))
  · by_cases q3 : b = A
    · exact Or.inr q3
    · left
      simp [e1, ei, ec, rR_wI, rR_wR, rR_cpB, rR_nw, q1, q2, q3]
