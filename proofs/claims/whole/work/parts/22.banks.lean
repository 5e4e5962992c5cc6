/-! pure: what a call writes -/
def inF (L : List (Nat × Option Nat)) (a k : Nat) : Prop := (a, none) ∈ L ∨ (a, some k) ∈ L
/-- from M to M1 nothing changes but numbers in L, numbers of made cells of the tags ts, references in LR -/
def Wr (Z : Shp) (L : List (Nat × Option Nat)) (ts LR : List Nat) (M M1 : Mem) : Prop := (∀ a k, ¬ inF L a k → ¬ (110 ≤ a ∧ (tg Z a).1 ∈ ts) → rI M1 a k = rI M a k ∧ rJ M1 a k = rJ M a k) ∧ ∀ a k, a ∉ LR → ¬ (110 ≤ a ∧ (tg Z a).1 ∈ ts) → rR M1 a k = rR M a k
theorem Wr.rf {Z : Shp} {L : List (Nat × Option Nat)} {ts LR : List Nat} {M : Mem} : Wr Z L ts LR M M := ⟨fun _ _ _ _ => ⟨rfl, rfl⟩, fun _ _ _ _ => rfl⟩
theorem Wr.tr {Z : Shp} {L : List (Nat × Option Nat)} {ts LR : List Nat} {M M1 M2 : Mem} (h : Wr Z L ts LR M M1) (h2 : Wr Z L ts LR M1 M2) : Wr Z L ts LR M M2 :=
  ⟨fun a k h3 h4 => ⟨(h2.1 a k h3 h4).1.trans (h.1 a k h3 h4).1, (h2.1 a k h3 h4).2.trans (h.1 a k h3 h4).2⟩, fun a k h3 h4 => (h2.2 a k h3 h4).trans (h.2 a k h3 h4)⟩
theorem Wr.mono {Z : Shp} {L L1 : List (Nat × Option Nat)} {ts ts1 LR LR1 : List Nat} {M M1 : Mem} (h : Wr Z L ts LR M M1) (hL : ∀ q ∈ L, q ∈ L1) (ht : ∀ q ∈ ts, q ∈ ts1) (hR : ∀ q ∈ LR, q ∈ LR1) : Wr Z L1 ts1 LR1 M M1 :=
  ⟨fun a k h1 h2 => h.1 a k (fun h3 => h1 (h3.elim (fun h4 => Or.inl (hL _ h4)) (fun h4 => Or.inr (hL _ h4)))) (fun h3 => h2 ⟨h3.1, ht _ h3.2⟩), fun a k h1 h2 => h.2 a k (fun h3 => h1 (hR _ h3)) (fun h3 => h2 ⟨h3.1, ht _ h3.2⟩)⟩
theorem Wr.sI {Z : Shp} {L : List (Nat × Option Nat)} {ts LR : List Nat} {M M1 : Mem} {a k : Nat} {v : Int32} (h : Wr Z L ts LR M M1) (hm : inF L a k) : Wr Z L ts LR M (wI M1 a k v) := by
  refine ⟨fun a' k' h1 h2 => ?_, h.2⟩
  rw [rI_wI, rJ_wI, if_neg]
  · exact h.1 a' k' h1 h2
  · rintro ⟨rfl, rfl⟩; exact h1 hm
theorem Wr.sJ {Z : Shp} {L : List (Nat × Option Nat)} {ts LR : List Nat} {M M1 : Mem} {a k : Nat} {v : Int64} (h : Wr Z L ts LR M M1) (hm : inF L a k) : Wr Z L ts LR M (wJ M1 a k v) := by
  refine ⟨fun a' k' h1 h2 => ?_, h.2⟩
  rw [rJ_wJ, rI_wJ, if_neg]
  · exact h.1 a' k' h1 h2
  · rintro ⟨rfl, rfl⟩; exact h1 hm
theorem Wr.sD {Z : Shp} {L : List (Nat × Option Nat)} {ts LR : List Nat} {M M1 : Mem} {a k : Nat} {v : Int32} (h : Wr Z L ts LR M M1) (h0 : 110 ≤ a) (hm : (tg Z a).1 ∈ ts) : Wr Z L ts LR M (wI M1 a k v) := by
  refine ⟨fun a' k' h1 h2 => ?_, h.2⟩
  rw [rI_wI, rJ_wI, if_neg]
  · exact h.1 a' k' h1 h2
  · rintro ⟨rfl, rfl⟩; exact h2 ⟨h0, hm⟩
theorem Wr.sR {Z : Shp} {L : List (Nat × Option Nat)} {ts LR : List Nat} {M M1 : Mem} {a k v : Nat} (h : Wr Z L ts LR M M1) (hm : a ∈ LR) : Wr Z L ts LR M (wR M1 a k v) := by
  refine ⟨h.1, fun a' k' h1 h2 => ?_⟩
  rw [rR_wR, if_neg]
  · exact h.2 a' k' h1 h2
  · rintro ⟨rfl, rfl⟩; exact h1 hm
/-- two lists of places have nothing in common -/
def dis (L F : List (Nat × Option Nat)) : Bool := L.all (fun p => F.all (fun q => !(p.1 == q.1) || (match p.2, q.2 with
  | some x, some y => !(x == y)
  | _, _ => false)))
theorem dis_n {L F : List (Nat × Option Nat)} (h : dis L F = true) {a : Nat} (ha : (a, none) ∈ F) (k : Nat) : ¬ inF L a k := by
  rintro (h1 | h1)
  · have := List.all_eq_true.mp (List.all_eq_true.mp h _ h1) _ ha
    simp at this
  · have := List.all_eq_true.mp (List.all_eq_true.mp h _ h1) _ ha
    simp at this
theorem dis_s {L F : List (Nat × Option Nat)} (h : dis L F = true) {a k : Nat} (ha : (a, some k) ∈ F) : ¬ inF L a k := by
  rintro (h1 | h1)
  · have := List.all_eq_true.mp (List.all_eq_true.mp h _ h1) _ ha
    simp at this
  · have := List.all_eq_true.mp (List.all_eq_true.mp h _ h1) _ ha
    simp at this
/-- a row, or one place, of the fixed cells that a call leaves alone -/
theorem Wr.row {Z : Shp} {L F : List (Nat × Option Nat)} {ts LR : List Nat} {M M1 : Mem} (h : Wr Z L ts LR M M1) (hd : dis L F = true) {a : Nat} (ha : (a, none) ∈ F) (hl : a < 110) (k : Nat) : rI M1 a k = rI M a k := (h.1 a k (dis_n hd ha k) (fun h => by omega)).1
theorem Wr.at {Z : Shp} {L F : List (Nat × Option Nat)} {ts LR : List Nat} {M M1 : Mem} (h : Wr Z L ts LR M M1) (hd : dis L F = true) {a k : Nat} (ha : (a, some k) ∈ F) (hl : a < 110) : rI M1 a k = rI M a k := (h.1 a k (dis_s hd ha) (fun h => by omega)).1
theorem Wr.atJ {Z : Shp} {L F : List (Nat × Option Nat)} {ts LR : List Nat} {M M1 : Mem} (h : Wr Z L ts LR M M1) (hd : dis L F = true) {a k : Nat} (ha : (a, some k) ∈ F) (hl : a < 110) : rJ M1 a k = rJ M a k := (h.1 a k (dis_s hd ha) (fun h => by omega)).2
theorem Wr.dyn {Z : Shp} {L : List (Nat × Option Nat)} {ts LR : List Nat} {M M1 : Mem} (h : Wr Z L ts LR M M1) (hL : L.all (fun p => decide (p.1 < 110)) = true) {a : Nat} (ha : 110 ≤ a) (ht : (tg Z a).1 ∉ ts) (k : Nat) : rI M1 a k = rI M a k := by
  refine (h.1 a k ?_ (fun h => ht h.2)).1
  rintro (h1 | h1)
  · have := List.all_eq_true.mp hL _ h1
    simp at this
    omega
  · have := List.all_eq_true.mp hL _ h1
    simp at this
    omega
theorem FRl_lt : FRl.all (fun p => decide (p.1 < 110)) = true := by decide
theorem Wr.nw {Z : Shp} {L : List (Nat × Option Nat)} {ts LR : List Nat} {M M1 : Mem} {a : Nat} (h : Wr Z L ts LR M M1) (h0 : 110 ≤ a) (hm : (tg Z a).1 ∈ ts) : Wr Z L ts LR M (nw M1 a) := by
  refine ⟨fun a' k' h1 h2 => ?_, fun a' k' h1 h2 => ?_⟩
  · rw [rI_nw, rJ_nw, if_neg, if_neg]
    · exact h.1 a' k' h1 h2
    · rintro rfl; exact h2 ⟨h0, hm⟩
    · rintro rfl; exact h2 ⟨h0, hm⟩
  · rw [rR_nw, if_neg]
    · exact h.2 a' k' h1 h2
    · rintro rfl; exact h2 ⟨h0, hm⟩
theorem Wr.rowR {Z : Shp} {L : List (Nat × Option Nat)} {ts LR : List Nat} {M M1 : Mem} (h : Wr Z L ts LR M M1) {a : Nat} (ha : a < 110) (hR : LR.contains a = false) (k : Nat) : rR M1 a k = rR M a k := by
  refine h.2 a k (fun h1 => ?_) (fun h1 => by omega)
  rw [List.contains_iff_mem.mpr h1] at hR
  exact absurd hR (by decide)
theorem Wr.dynR {Z : Shp} {L : List (Nat × Option Nat)} {ts LR : List Nat} {M M1 : Mem} (h : Wr Z L ts LR M M1) {a : Nat} (ha : a ∉ LR) (ht : (tg Z a).1 ∉ ts) (k : Nat) : rR M1 a k = rR M a k := h.2 a k ha (fun h1 => ht h1.2)
theorem Wr.fix {Z : Shp} {L : List (Nat × Option Nat)} {ts LR : List Nat} {M M1 : Mem} (h : Wr Z L ts LR M M1) (hF : Fix M) (hR : FRl.all (fun p => !(LR.contains p.1)) = true) : Fix M1 := fun p hp => by
  rw [h.2]
  · exact hF p hp
  · intro h1
    have := List.all_eq_true.mp hR p hp
    simp at this
    exact this h1
  · intro h1
    have := List.all_eq_true.mp FRl_lt p hp
    simp at this
    omega
/-- a number in a range, as a natural one -/
theorem wN {x : Int32} {n : Nat} (hn : n < 2 ^ 31) (h : ¬ fX11_within x 0 (nI n) = 0) : ∃ p, p ≤ n ∧ x = nI p := by
  rw [w_iff] at h
  have h2 : 0 ≤ x ∧ x ≤ nI n := Classical.not_not.mp h
  obtain ⟨j, hj, rfl⟩ := nI_of (x := x) (fun h3 => by
    rw [i32_lt] at h3
    have h4 := (i32_le _ _).mp h2.1
    omega)
  exact ⟨j, (nI_leI hj hn).mp h2.2, rfl⟩
theorem w_rng {x a b : Int32} (h : ¬ fX11_within x a b = 0) : a.toInt ≤ x.toInt ∧ x.toInt ≤ b.toInt := by
  rw [w_iff] at h
  have h2 : a ≤ x ∧ x ≤ b := Classical.not_not.mp h
  exact ⟨(i32_le _ _).mp h2.1, (i32_le _ _).mp h2.2⟩
theorem w_of {x a b : Int32} (h1 : a.toInt ≤ x.toInt) (h2 : x.toInt ≤ b.toInt) : ¬ fX11_within x a b = 0 := by
  rw [w_iff]
  exact fun h => h ⟨(i32_le _ _).mpr h1, (i32_le _ _).mpr h2⟩
/-! banks -/
def IBanks (M : Mem) : Prop := ∃ n : Nat, n ≤ 10 ∧ rI M 32 2 = nI n ∧ rI M 51 66 = nI n ∧ (∀ k, rI M 33 k = rI M 95 k) ∧ (∀ k, rI M 34 k = rI M 96 k) ∧ (∀ k, k < n → (∃ p, p < 8 ∧ rI M 95 k = nI p) ∧ 1 ≤ (rI M 96 k).toInt ∧ (rI M 96 k).toInt ≤ 999) ∧
  ∀ p, p < 8 → (rI M 35 p = 0 ∧ rI M 97 p = -1) ∨ (rI M 35 p = 1 ∧ rI M 36 p = rI M 97 p ∧ rI M 37 p = rI M 98 p ∧ 0 ≤ (rI M 97 p).toInt ∧ (rI M 97 p).toInt ≤ 9999 ∧ 0 ≤ (rI M 98 p).toInt ∧ (rI M 98 p).toInt ≤ 99)
abbrev FBk : List (Nat × Option Nat) := [(32, none), (33, none), (34, none), (35, none), (36, none), (37, none), (38, none), (51, some 66), (95, none), (96, none), (97, none), (98, none)]
theorem IBanks.keep {Z : Shp} {L : List (Nat × Option Nat)} {ts LR : List Nat} {M M1 : Mem} (h : IBanks M) (w : Wr Z L ts LR M M1) (hd : dis L FBk = true) : IBanks M1 := by
  unfold IBanks at h ⊢
  simp only [w.row hd (a := 33) (by simp) (by omega), w.row hd (a := 34) (by simp) (by omega), w.row hd (a := 35) (by simp) (by omega), w.row hd (a := 36) (by simp) (by omega), w.row hd (a := 37) (by simp) (by omega), w.row hd (a := 95) (by simp) (by omega), w.row hd (a := 96) (by simp) (by omega), w.row hd (a := 97) (by simp) (by omega), w.row hd (a := 98) (by simp) (by omega), w.row hd (a := 32) (by simp) (by omega), w.at hd (a := 51) (k := 66) (by simp) (by omega)]
  exact h
theorem op_bank {Z : Shp} {M : Mem} (hZ : OKZ Z) (hF : Fix M) (hB : IBanks M) (x1 x2 : Int32) : ∃ r M1 M2, fX11_bank Z M 2 x1 x2 = some (r, M1) ∧ fX12_bank Z M1 51 x1 x2 = some (r, M2) ∧ IBanks M2 ∧ Wr Z FBk [] [] M M2 := by
  have hB0 := hB
  obtain ⟨n, hn, h1, h2, h33, h34, hv, hr⟩ := hB
  by_cases c1 : fX11_within x1 0 7 = 0
  · refine ⟨-101, M, M, ?_, ?_, hB0, Wr.rf⟩
    · simp [fX11_bank, fX3_poundNumbered, c1, tg_2 hZ, fr_2_0 hF, tg_3 hZ]
    · simp [fX12_bank, fX12_isPound, in_0_7, c1]
  · obtain ⟨p, hp, rfl⟩ := wN (n := 7) (by decide) c1
    have hq : rR M 4 (ix (nI p)) = 9 + p := by rw [ix_nI (by omega)]; exact fr_p hF (by omega)
    have ha : aok Z 4 110 (nI p) := aok_nI (tg_4 hZ) (by omega) (by decide)
    by_cases c2 : fX11_within x2 1 999 = 0
    · refine ⟨-102, M, M, ?_, ?_, hB0, Wr.rf⟩
      · simp [fX11_bank, fX3_poundNumbered, c1, c2, tg_2 hZ, fr_2_0 hF, tg_3 hZ, fr_3_0 hF, hq, if_pos ha]
      · simp [fX12_bank, fX12_isPound, in_0_7, in_1_999, c1, c2]
    · by_cases c3 : n = 10
      · subst c3
        refine ⟨-104, M, M, ?_, ?_, hB0, Wr.rf⟩
        · simp [fX11_bank, fX3_poundNumbered, fX0_add, c1, c2, tg_2 hZ, fr_2_0 hF, tg_3 hZ, fr_3_0 hF, fr_2_3 hF, tg_32 hZ, hq, if_pos ha, h1, show ¬ nI 10 < 10 by decide]
        · simp [fX12_bank, fX12_isPound, in_0_7, in_1_999, c1, c2, tg_51 hZ, h2, show nI 10 = 10 by decide]
      · have hn9 : n < 10 := by omega
        have hlt : nI n < 10 := nI_lt hn9 (by decide)
        have hne : ¬ nI n = 10 := fun h => c3 ((nI_eq (by omega) (by decide)).mp h)
        have a33 : aok Z 33 100 (nI n) := aok_nI (tg_33 hZ) hn9 (by decide)
        have a34 : aok Z 34 100 (nI n) := aok_nI (tg_34 hZ) hn9 (by decide)
        have a95 : aok Z 95 100 (nI n) := aok_nI (tg_95 hZ) hn9 (by decide)
        have a96 : aok Z 96 100 (nI n) := aok_nI (tg_96 hZ) hn9 (by decide)
        have hix : ix (nI n) = n := ix_nI (by omega)
        refine ⟨nI n, wI (wI (wI M 33 n (nI p)) 34 n x2) 32 2 (nI n + 1), wI (wI (wI (wI (wI (wI M 33 n (nI p)) 34 n x2) 32 2 (nI n + 1)) 95 n (nI p)) 96 n x2) 51 66 (nI n + 1), ?_, ?_, ?_, ?_⟩
        · simp [fX11_bank, fX3_poundNumbered, fX0_add, c1, c2, tg_2 hZ, fr_2_0 hF, tg_3 hZ, fr_3_0 hF, fr_2_3 hF, tg_32 hZ, hq, if_pos ha, h1, hlt, fr_32_0 hF, fr_32_1 hF, if_pos a33, if_pos a34, pu, rI_wI, rR_wI, hix]
        · simp [fX12_bank, fX12_isPound, in_0_7, in_1_999, c1, c2, tg_51 hZ, h2, hne, fr_51_67 hF, fr_51_68 hF, if_pos a95, if_pos a96, pu, rI_wI, rR_wI, hix]
        · refine ⟨n + 1, by omega, ?_, ?_, ?_, ?_, ?_, ?_⟩
          · simp [rI_wI, nI_succ]
          · simp [rI_wI, nI_succ]
          · intro k
            simp [rI_wI, h33]
          · intro k
            simp [rI_wI, h34]
          · intro k hk
            have hx2 := w_rng c2
            by_cases hkn : k = n
            · subst hkn
              simp [rI_wI]
              exact ⟨⟨p, by omega, rfl⟩, hx2⟩
            · simp [rI_wI, hkn]
              exact hv k (by omega)
          · intro p hp
            simp [rI_wI]
            exact hr p hp
        · exact (((((Wr.rf.sI (by simp [inF])).sI (by simp [inF])).sI (by simp [inF])).sI (by simp [inF])).sI (by simp [inF])).sI (by simp [inF])
