/-! hour, hours -/
def HS (Z : Shp) (h : Nat) (C D : Mem) : Prop := R1 C D ∧ R0 C D ∧ R2 C D ∧ R6 C D ∧ (∃ s, 1 ≤ s ∧ s ≤ 6 ∧ rI C 3 7 = nI s ∧ rI D 51 3 = nI s) ∧ h ≤ 600 ∧ rI C 3 8 = nI h ∧ rI D 51 11 = nI h ∧ (∃ n, n ≤ 12 ∧ R5 Z n C D ∧ ∀ k, n ≤ k → rI D 75 k = 0 ∧ rI D 100 k = 0) ∧ ∃ (n : Nat) (π : Nat → Nat), n ≤ 12 ∧ R4 Z n C D ∧ (∀ i, i < n → π i < n ∧ rR C 7 i = rR C 6 (π i)) ∧ (∀ i j, i < j → j < n → rkLt D (π i) (π j)) ∧ rJ D 51 13 = sJ (fun k => rI D 66 k) 12 ∧ (∀ k, k < 12 → -400 * (h : Int) ≤ (rI D 66 k).toInt ∧ (rI D 66 k).toInt ≤ 400 * (h : Int)) ∧ ∀ k, n ≤ k → rI D 66 k = 0
abbrev FcH : List (Nat × Option Nat) := [(9, none), (10, none), (11, none), (12, none), (13, none), (14, none), (15, none), (16, none), (17, none), (18, none), (19, none), (20, none), (21, none), (22, none), (23, none), (3, some 8), (3, some 9), (3, some 10)]
abbrev FmH : List (Nat × Option Nat) := [(52, none), (58, none), (59, none), (60, none), (61, none), (66, none), (73, none), (74, none), (75, none), (76, none), (77, none), (51, some 11), (51, some 12), (51, some 13), (51, some 14)]
theorem in_p {a : Nat} (h1 : 9 ≤ a) (h2 : a ≤ 16) : (a, (none : Option Nat)) ∈ [(9, none), (10, none), (11, none), (12, none), (13, none), (14, none), (15, none), (16, none)] := by
  have : a = 9 ∨ a = 10 ∨ a = 11 ∨ a = 12 ∨ a = 13 ∨ a = 14 ∨ a = 15 ∨ a = 16 := by omega
  rcases this with rfl | rfl | rfl | rfl | rfl | rfl | rfl | rfl <;> simp
theorem in_l {a : Nat} (h1 : 17 ≤ a) (h2 : a ≤ 23) : (a, (none : Option Nat)) ∈ [(17, none), (18, none), (19, none), (20, none), (21, none), (22, none), (23, none)] := by
  have : a = 17 ∨ a = 18 ∨ a = 19 ∨ a = 20 ∨ a = 21 ∨ a = 22 ∨ a = 23 := by omega
  rcases this with rfl | rfl | rfl | rfl | rfl | rfl | rfl <;> simp
theorem in_r {a : Nat} (h : 55 ≤ a) (h2 : a ≤ 61) : (a, (none : Option Nat)) ∈ [(55, none), (56, none), (57, none), (58, none), (59, none), (60, none), (61, none)] := by
  have : a = 55 ∨ a = 56 ∨ a = 57 ∨ a = 58 ∨ a = 59 ∨ a = 60 ∨ a = 61 := by omega
  rcases this with rfl | rfl | rfl | rfl | rfl | rfl | rfl <;> simp
theorem in_t {a : Nat} (h : 62 ≤ a) (h2 : a ≤ 66) : (a, (none : Option Nat)) ∈ [(62, none), (63, none), (64, none), (65, none), (66, none)] := by
  have : a = 62 ∨ a = 63 ∨ a = 64 ∨ a = 65 ∨ a = 66 := by omega
  rcases this with rfl | rfl | rfl | rfl | rfl <;> simp
theorem in_b {a : Nat} (h : (67 ≤ a ∧ a ≤ 75) ∨ a = 100) : (a, (none : Option Nat)) ∈ [(67, none), (68, none), (69, none), (70, none), (71, none), (72, none), (73, none), (74, none), (75, none), (100, none)] := by
  have : a = 67 ∨ a = 68 ∨ a = 69 ∨ a = 70 ∨ a = 71 ∨ a = 72 ∨ a = 73 ∨ a = 74 ∨ a = 75 ∨ a = 100 := by omega
  rcases this with rfl | rfl | rfl | rfl | rfl | rfl | rfl | rfl | rfl | rfl <;> simp
theorem in_w5 {a : Nat} (h : 52 ≤ a) (h2 : a ≤ 54) : (a, (none : Option Nat)) ∈ [(52, none), (53, none), (54, none)] := by
  have : a = 52 ∨ a = 53 ∨ a = 54 := by omega
  rcases this with rfl | rfl | rfl <;> simp
theorem hour_sim {Z : Shp} {C D : Mem} (hZ : OKZ Z) (hFC : Fix C) (hFD : Fix D) {h : Nat} (hh6 : h < 600) (hH : HS Z h C D) {x : Int32} (hx0 : 0 ≤ x.toInt) (hx1 : x.toInt ≤ 50) : ∃ r C1 D1, fX3_goByAnHour Z C 3 x = some (r, C1) ∧ fX12_goHour Z D 51 x = some (r, D1) ∧ HS Z (h + 1) C1 D1 ∧ Wr Z FcH [8, 2] [] C C1 ∧ Wr Z FmH [] [] D D1 := by
  obtain ⟨h1, h0, hL, h6, ⟨s, hs0, hs6, hs1, hs2⟩, hh, hh1, hh2, ⟨nb, hnb, h5, hz5⟩, nt, π, hnt, h4, hπ, hk, hsum, hbd, hz4⟩ := hH
  -- rain
  obtain ⟨C1, D1, a1, a2, a3, a4, a5, a6⟩ := rain_sim hZ hFC hFD hx0 hx1 h1 h0
  have hFC1 : Fix C1 := a5.fix hFC (by decide)
  have hFD1 : Fix D1 := a6.fix hFD (by decide)
  have rC1 : ∀ a k, rR C1 a k = rR C a k := fun a k => a5.2 a k (by simp) (by simp)
  have hL1 : R2 C1 D1 := hL.cg (fun a k v1 v2 _ => a5.row (F := [(17, none), (18, none), (19, none), (20, none), (21, none), (22, none), (23, none)]) (by decide) (in_l v1 v2) (by omega) k) (fun a k v1 v2 _ => a6.row (F := [(55, none), (56, none), (57, none), (58, none), (59, none), (60, none), (61, none)]) (by decide) (in_r v1 v2) (by omega) k)
  have h61 : R6 C1 D1 := h6.cg (fun a v1 v2 => a5.row (F := [(17, none), (18, none), (19, none), (20, none), (21, none), (22, none), (23, none)]) (by decide) (in_l v1 v2) (by omega) 5) (fun k => a6.row (F := [(60, none)]) (by decide) (by simp) (by omega) k)
  have h51 : R5 Z nb C1 D1 := h5.cg (fun a k v1 v2 => a5.dyn (by decide) v1 (by simp) k) (a5.at (F := [(3, some 6)]) (by decide) (by simp) (by omega)) (rC1 8) (fun a k v => a6.row (F := [(67, none), (68, none), (69, none), (70, none), (71, none), (72, none), (73, none), (74, none), (75, none), (100, none)]) (by decide) (in_b v) (by omega) k) (a6.at (F := [(51, some 21)]) (by decide) (by simp) (by omega))
  have h41 : R4 Z nt C1 D1 := h4.cg (fun a k v1 v2 => a5.dyn (by decide) v1 (by simp) k) (a5.at (F := [(3, some 5)]) (by decide) (by simp) (by omega)) (rC1 6) (fun a k v1 v2 => a6.row (F := [(62, none), (63, none), (64, none), (65, none), (66, none)]) (by decide) (in_t v1 v2) (by omega) k) (a6.at (F := [(51, some 15)]) (by decide) (by simp) (by omega))
  have e66 : ∀ k, rI D1 66 k = rI D 66 k := fun k => a6.row (F := [(66, none)]) (by decide) (by simp) (by omega) k
  have e65 : ∀ k, rI D1 65 k = rI D 65 k := fun k => a6.row (F := [(65, none)]) (by decide) (by simp) (by omega) k
  -- takers
  obtain ⟨C2, D2, b1, b2', b3, b4, b5, b6, b7, b8, b9, b10⟩ := takeAll_sim (π := π) hZ hFC1 hFD1 hnt hh a3 a4 h41 (by rw [a5.at (F := [(3, some 8)]) (by decide) (by simp) (by omega), hh1]) (by rw [a6.at (F := [(51, some 11)]) (by decide) (by simp) (by omega), hh2]) (fun i hi => ⟨(hπ i hi).1, by rw [rC1, rC1]; exact (hπ i hi).2⟩) (fun i j hij hj => by
    have := hk i j hij hj
    unfold rkLt at this ⊢
    rw [e65, e65]
    exact this) (by rw [a6.atJ (F := [(51, some 13)]) (by decide) (by simp) (by omega), hsum]; exact congrArg (fun f => sJ f 12) (funext fun k => (e66 k).symm)) (fun k hk12 => by rw [e66]; exact hbd k hk12) (fun k hk' => by rw [e66]; exact hz4 k hk')
  have hFC2 : Fix C2 := b6.fix hFC1 (by decide)
  have hFD2 : Fix D2 := b7.fix hFD1 (by decide)
  have rC2 : ∀ a k, a < 110 → rR C2 a k = rR C a k := fun a k ha => by rw [b6.2 a k (by simp) (by omega), rC1]
  have hL2 : R2 C2 D2 := hL1.cg (fun a k v1 v2 _ => b6.row (F := [(17, none), (18, none), (19, none), (20, none), (21, none), (22, none), (23, none)]) (by decide) (in_l v1 v2) (by omega) k) (fun a k v1 v2 _ => b7.row (F := [(55, none), (56, none), (57, none), (58, none), (59, none), (60, none), (61, none)]) (by decide) (in_r v1 v2) (by omega) k)
  have h62 : R6 C2 D2 := h61.cg (fun a v1 v2 => b6.row (F := [(17, none), (18, none), (19, none), (20, none), (21, none), (22, none), (23, none)]) (by decide) (in_l v1 v2) (by omega) 5) (fun k => b7.row (F := [(60, none)]) (by decide) (by simp) (by omega) k)
  have h52 : R5 Z nb C2 D2 := h51.cg (fun a k v1 v2 => b6.dyn (by decide) v1 (by rw [v2]; simp) k) (b6.at (F := [(3, some 6)]) (by decide) (by simp) (by omega)) (fun k => by rw [rC2 8 k (by omega), rC1]) (fun a k v => b7.row (F := [(67, none), (68, none), (69, none), (70, none), (71, none), (72, none), (73, none), (74, none), (75, none), (100, none)]) (by decide) (in_b v) (by omega) k) (b7.at (F := [(51, some 21)]) (by decide) (by simp) (by omega))
  have d11 : rI D2 51 11 = nI h := by rw [b7.at (F := [(51, some 11)]) (by decide) (by simp) (by omega), a6.at (F := [(51, some 11)]) (by decide) (by simp) (by omega), hh2]
  have d3 : rI D2 51 3 = nI s := by rw [b7.at (F := [(51, some 3)]) (by decide) (by simp) (by omega), a6.at (F := [(51, some 3)]) (by decide) (by simp) (by omega), hs2]
  have c8 : rI C2 3 8 = nI h := by rw [b6.at (F := [(3, some 8)]) (by decide) (by simp) (by omega), a5.at (F := [(3, some 8)]) (by decide) (by simp) (by omega), hh1]
  have c7 : rI C2 3 7 = nI s := by rw [b6.at (F := [(3, some 7)]) (by decide) (by simp) (by omega), a5.at (F := [(3, some 7)]) (by decide) (by simp) (by omega), hs1]
  -- flags
  obtain ⟨D3, f1, f2, f3⟩ := flags_m hZ hFD2 hnb hh d11 h52.2.1
  have hFD3 : Fix D3 := f2.fix hFD2 (by decide)
  have fr : ∀ a k, a ≠ 76 → a ≠ 77 → a < 110 → rI D3 a k = rI D2 a k := by
    intro a k v1 v2 v3
    refine (f2.1 a k ?_ (by omega)).1
    rintro (e | e)
    · simp at e; omega
    · simp at e
  have hH3 : HL Z nb h C2 D3 := by
    refine ⟨b3.cg (fun _ _ _ _ => rfl) (fun a k v1 v2 => fr a k (by omega) (by omega) (by omega)), ?_, hL2.cg (fun _ _ _ _ _ => rfl) (fun a k v1 v2 _ => fr a k (by omega) (by omega) (by omega)), h62.cg (fun _ _ _ => rfl) (fun k => fr 60 k (by omega) (by omega) (by omega)), h52.cg (fun _ _ _ _ => rfl) rfl (fun _ => rfl) (fun a k v => fr a k (by omega) (by omega) (by omega)) (fr 51 21 (by omega) (by omega) (by omega)), f3⟩
    refine ⟨?_, ?_⟩
    · rw [f2.atJ (F := [(51, some 12)]) (by decide) (by simp) (by omega)]
      exact b4.1
    · rw [f2.atJ (F := [(51, some 14)]) (by decide) (by simp) (by omega)]
      exact b4.2
  -- locks
  obtain ⟨r, C4, D4, g1, g2, g3, g4, g5, g6⟩ := locks_sim hZ hFC2 hFD3 hnb hh hs6 hH3 c8 (by rw [fr 51 11 (by omega) (by omega) (by omega), d11]) c7 (by rw [fr 51 3 (by omega) (by omega) (by omega), d3])
  obtain ⟨i1, i0, i2, i6, i5, iW⟩ := g3
  have hFC4 : Fix C4 := g4.fix hFC2 (by decide)
  have hFD4 : Fix D4 := g5.fix hFD3 (by decide)
  have e75 : ∀ k, rI D4 75 k = rI D 75 k := fun k => by rw [g5.row (F := [(75, none)]) (by decide) (by simp) (by omega), fr 75 k (by omega) (by omega) (by omega), b7.row (F := [(75, none)]) (by decide) (by simp) (by omega), a6.row (F := [(75, none)]) (by decide) (by simp) (by omega)]
  have d411 : rI D4 51 11 = nI h := by rw [g5.at (F := [(51, some 11)]) (by decide) (by simp) (by omega), fr 51 11 (by omega) (by omega) (by omega), d11]
  have c48 : rI C4 3 8 = nI h := by rw [g4.at (F := [(3, some 8)]) (by decide) (by simp) (by omega), c8]
  -- waiting
  obtain ⟨C5, D5, w1, w2, w3, w4, w5, w6⟩ := waiting_sim (r := r) hZ hFC4 hFD4 hnb hh i5 iW c48 d411 (fun k hk' => by rw [e75]; exact (hz5 k hk').1)
  have hFC5 : Fix C5 := w4.fix hFC4 (by decide)
  have cc : ∀ a k, a < 110 → rI C5 a k = rI C4 a k := fun a k ha => (w4.1 a k (by simp [inF]) (by omega)).1
  have dd : ∀ a k, a ≠ 75 → a < 110 → rI D5 a k = rI D4 a k := by
    intro a k v1 v2
    refine (w5.1 a k ?_ (by omega)).1
    rintro (e | e)
    · simp at e; omega
    · simp at e
  have jD5 : ∀ k, rJ D5 51 k = rJ D4 51 k := by
    intro k
    refine (w5.1 51 k ?_ (by omega)).2
    rintro (e | e)
    · simp at e
    · simp at e
  have rC5 : ∀ k, (rR C5 6 k = rR C 6 k ∧ rR C5 7 k = rR C 7 k) ∧ rR C5 8 k = rR C4 8 k := by
    intro k
    refine ⟨⟨?_, ?_⟩, w4.2 8 k (by simp) (by omega)⟩
    · rw [w4.2 6 k (by simp) (by omega), g4.2 6 k (by simp) (by omega), rC2 6 k (by omega)]
    · rw [w4.2 7 k (by simp) (by omega), g4.2 7 k (by simp) (by omega), rC2 7 k (by omega)]
  obtain ⟨C6, eC⟩ : ∃ C6, C6 = wI C5 3 8 (nI h + 1) := ⟨_, rfl⟩
  obtain ⟨D6, eD⟩ : ∃ D6, D6 = wI D5 51 11 (nI h + 1) := ⟨_, rfl⟩
  have rC6 : ∀ a k, ¬ (a = 3 ∧ k = 8) → rI C6 a k = rI C5 a k := fun a k ha => by rw [eC, rI_wI, if_neg ha]
  have rD6 : ∀ a k, ¬ (a = 51 ∧ k = 11) → rI D6 a k = rI D5 a k := fun a k ha => by rw [eD, rI_wI, if_neg ha]
  have e66' : ∀ k, rI D6 66 k = rI D2 66 k := fun k => by rw [rD6 66 k (by omega), dd 66 k (by omega) (by omega), g5.row (F := [(66, none)]) (by decide) (by simp) (by omega), fr 66 k (by omega) (by omega) (by omega)]
  have e65' : ∀ k, rI D6 65 k = rI D 65 k := fun k => by rw [rD6 65 k (by omega), dd 65 k (by omega) (by omega), g5.row (F := [(65, none)]) (by decide) (by simp) (by omega), fr 65 k (by omega) (by omega) (by omega), b7.row (F := [(65, none)]) (by decide) (by simp) (by omega), e65]
  refine ⟨r, C6, D6, ?_, ?_, ⟨?_, ?_, ?_, ?_, ⟨s, hs0, hs6, ?_, ?_⟩, by omega, ?_, ?_, ⟨nb, hnb, ?_, fun k hk' => ⟨?_, ?_⟩⟩, nt, π, hnt, ?_, fun i hi => ⟨(hπ i hi).1, ?_⟩, fun i j hij hj => ?_, ?_, fun k hk12 => ?_, fun k hk' => ?_⟩, ?_, ?_⟩
  · unfold fX3_goByAnHour
    rw [if_pos (tg_3 hZ), a1, Option.bind_some, b1, Option.bind_some, g1, Option.bind_some, w1, Option.bind_some]
    simp only [pu]
    rw [cc 3 8 (by omega), c48, eC]
  · unfold fX12_goHour
    rw [a2, Option.bind_some, if_pos (tg_51 hZ), b2', Option.bind_some, f1, Option.bind_some, g2, Option.bind_some, eD]
    exact w2
  · exact i1.cg (fun a k v1 v2 => by rw [rC6 a k (by omega), cc a k (by omega)]) (fun a k v1 v2 => by rw [rD6 a k (by omega), dd a k (by omega) (by omega)])
  · refine ⟨?_, ?_⟩
    · rw [eC, rJ_wI, eD, rJ_wI, jD5, (w4.1 3 9 (by simp [inF]) (by omega)).2, i0.1]
    · rw [eC, rJ_wI, eD, rJ_wI, jD5, (w4.1 3 10 (by simp [inF]) (by omega)).2, i0.2]
  · exact i2.cg (fun a k v1 v2 _ => by rw [rC6 a k (by omega), cc a k (by omega)]) (fun a k v1 v2 _ => by rw [rD6 a k (by omega), dd a k (by omega) (by omega)])
  · exact i6.cg (fun a v1 v2 => by rw [rC6 a 5 (by omega), cc a 5 (by omega)]) (fun k => by rw [rD6 60 k (by omega), dd 60 k (by omega) (by omega)])
  · rw [rC6 3 7 (by omega), cc 3 7 (by omega), g4.at (F := [(3, some 7)]) (by decide) (by simp) (by omega), c7]
  · rw [rD6 51 3 (by omega), dd 51 3 (by omega) (by omega), g5.at (F := [(51, some 3)]) (by decide) (by simp) (by omega), fr 51 3 (by omega) (by omega) (by omega), d3]
  · rw [eC, rI_wI, if_pos ⟨rfl, rfl⟩, nI_1]
  · rw [eD, rI_wI, if_pos ⟨rfl, rfl⟩, nI_1]
  · exact w3.cg (fun a k v1 v2 => rC6 a k (by omega)) (rC6 3 6 (by omega)) (fun k => by rw [eC, rR_wI]) (fun a k v => rD6 a k (by omega)) (rD6 51 21 (by omega))
  · rw [rD6 75 k (by omega)]
    exact w6 k hk'
  · rw [rD6 100 k (by omega), dd 100 k (by omega) (by omega), g5.row (F := [(100, none)]) (by decide) (by simp) (by omega), fr 100 k (by omega) (by omega) (by omega), b7.row (F := [(100, none)]) (by decide) (by simp) (by omega), a6.row (F := [(100, none)]) (by decide) (by simp) (by omega)]
    exact (hz5 k hk').2
  · refine b5.cg (fun a k v1 v2 => ?_) ?_ (fun k => ?_) (fun a k v1 v2 => ?_) ?_
    · rw [rC6 a k (by omega), (w4.1 a k (by simp [inF]) (by rw [v2]; simp)).1, g4.dyn (by decide) v1 (by rw [v2]; simp)]
    · rw [rC6 3 5 (by omega), cc 3 5 (by omega), g4.at (F := [(3, some 5)]) (by decide) (by simp) (by omega)]
    · rw [eC, rR_wI, w4.2 6 k (by simp) (by omega), g4.2 6 k (by simp) (by omega)]
    · rw [rD6 a k (by omega), dd a k (by omega) (by omega), g5.row (F := [(62, none), (63, none), (64, none), (65, none), (66, none)]) (by decide) (in_t v1 v2) (by omega), fr a k (by omega) (by omega) (by omega)]
    · rw [rD6 51 15 (by omega), dd 51 15 (by omega) (by omega), g5.at (F := [(51, some 15)]) (by decide) (by simp) (by omega), fr 51 15 (by omega) (by omega) (by omega)]
  · rw [eC, rR_wI, rR_wI, (rC5 i).1.2, (rC5 (π i)).1.1]
    exact (hπ i hi).2
  · have := hk i j hij hj
    unfold rkLt at this ⊢
    rw [e65', e65']
    exact this
  · rw [eD, rJ_wI, jD5, g6, f2.atJ (F := [(51, some 13)]) (by decide) (by simp) (by omega), b8, ← eD]
    exact congrArg (fun f => sJ f 12) (funext fun k => (e66' k).symm)
  · rw [e66']
    have := b9 k hk12
    omega
  · rw [e66']
    exact b10 k hk'
  · rw [eC]
    exact (((((a5.mono (L1 := FcH) (ts1 := [8, 2]) (LR1 := []) (by decide) (by simp) (by simp)).tr (b6.mono (by decide) (by simp) (by simp))).tr (g4.mono (by decide) (by simp) (by simp))).tr (w4.mono (by simp) (by simp) (by simp))).sI (by simp [inF]))
  · rw [eD]
    exact ((((((a6.mono (L1 := FmH) (ts1 := []) (LR1 := []) (by decide) (by simp) (by simp)).tr (b7.mono (by decide) (by simp) (by simp))).tr (f2.mono (by decide) (by simp) (by simp))).tr (g5.mono (by decide) (by simp) (by simp))).tr (w5.mono (by decide) (by simp) (by simp))).sI (by simp [inF]))
