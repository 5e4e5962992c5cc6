/-! an hour: water -/
theorem wI_wI (M : Mem) (a k : Nat) (v w : Int32) : wI (wI M a k v) a k w = wI M a k w := by
  refine mem_ext (fun b j => ?_) (fun b j => rfl) (fun b j => rfl)
  simp only [rI_wI]
  by_cases c : b = a ∧ j = k
  · rw [if_pos c, if_pos c]
  · rw [if_neg c, if_neg c, if_neg c]
theorem Fix.wI {M : Mem} (h : Fix M) (a k : Nat) (v : Int32) : Fix (wI M a k v) := fun p hp => by rw [rR_wI]; exact h p hp
theorem Fix.wJ {M : Mem} (h : Fix M) (a k : Nat) (v : Int64) : Fix (wJ M a k v) := fun p hp => by rw [rR_wJ]; exact h p hp
/-- what goes over, what stays -/
def po (w f v : Int32) : Int32 := if w + v ≤ f then 0 else w + v - f
def pw (w f v : Int32) : Int32 := w + v - po w f v
theorem po_mx {w f v : Int32} (h1 : 0 ≤ (w + v).toInt) (h3 : 0 ≤ f.toInt) : mxI 0 (w + v - f) = po w f v := by
  have m0 : (0 : Int32).toInt = 0 := by decide
  have h2 := Int32.toInt_lt (w + v)
  have h4 := Int32.toInt_lt f
  have hs := subI (a := w + v) (b := f) (by omega) (by omega)
  unfold mxI po
  by_cases c : w + v ≤ f
  · rw [if_pos c, if_neg]
    rw [i32_le] at c
    rw [i32_lt, hs, m0]
    omega
  · rw [if_neg c]
    rw [i32_le] at c
    by_cases d : 0 < w + v - f
    · rw [if_pos d]
    · exfalso
      rw [i32_lt, hs, m0] at d
      omega
theorem pw_bd {w f v : Int32} (h1 : 0 ≤ (w + v).toInt) (h3 : 0 ≤ f.toInt) : 0 ≤ (pw w f v).toInt ∧ (pw w f v).toInt ≤ f.toInt := by
  have h2 := Int32.toInt_lt (w + v)
  have h4 := Int32.toInt_lt f
  have m0 : (0 : Int32).toInt = 0 := by decide
  have hs := subI (a := w + v) (b := f) (by omega) (by omega)
  unfold pw po
  by_cases c : w + v ≤ f
  · rw [if_pos c]
    rw [i32_le] at c
    rw [subI (by omega) (by omega), m0]
    omega
  · rw [if_neg c]
    rw [i32_le] at c
    rw [subI (by omega) (by omega), hs]
    omega
theorem pour_m {Z : Shp} {D : Mem} (hZ : OKZ Z) (hF : Fix D) {p : Nat} (hp : p < 8) (v : Int32) : fX12_pour Z D 51 (nI p) v = some (wJ (wI D 52 p (pw (rI D 52 p) (rI D 53 p) v)) 51 14 (rJ D 51 14 + (po (rI D 52 p) (rI D 53 p) v).toInt64)) := by
  have hix : ix (nI p) = p := ix_nI (by omega)
  have a52 : aok Z 52 100 (nI p) := aok_nI (tg_52 hZ) (by omega) (by decide)
  have a53 : aok Z 53 100 (nI p) := aok_nI (tg_53 hZ) (by omega) (by decide)
  unfold fX12_pour
  by_cases c : rI D 52 p + v ≤ rI D 53 p
  · simp [tg_51 hZ, fr_51_0 hF, fr_51_1 hF, if_pos a52, if_pos a53, hix, pu, rI_wI, rJ_wI, rR_wI, rI_wJ, rJ_wJ, rR_wJ, rI_wR, rJ_wR, rR_wR, c, po, pw, wI_wI]
  · simp [tg_51 hZ, fr_51_0 hF, fr_51_1 hF, if_pos a52, if_pos a53, hix, pu, rI_wI, rJ_wI, rR_wI, rI_wJ, rJ_wJ, rR_wJ, rI_wR, rJ_wR, rR_wR, c, po, pw, wI_wI]
/-- pounds of the class in C, of the model in D -/
def R1 (C D : Mem) : Prop := ∀ p, p < 8 → rI C (9 + p) 0 = rI D 52 p ∧ rI C (9 + p) 1 = rI D 53 p ∧ rI C (9 + p) 2 = rI D 54 p ∧ (0 ≤ (rI D 52 p).toInt ∧ (rI D 52 p).toInt ≤ (rI D 53 p).toInt) ∧ (100 ≤ (rI D 53 p).toInt ∧ (rI D 53 p).toInt ≤ 9999) ∧ 0 ≤ (rI D 54 p).toInt ∧ (rI D 54 p).toInt ≤ 9999
theorem R1.cg {C D C1 D1 : Mem} (h : R1 C D) (hC : ∀ a k, 9 ≤ a → a ≤ 16 → rI C1 a k = rI C a k) (hD : ∀ a k, 52 ≤ a → a ≤ 54 → rI D1 a k = rI D a k) : R1 C1 D1 := by
  intro p hp
  have := h p hp
  rw [hC _ _ (by omega) (by omega), hC _ _ (by omega) (by omega), hC _ _ (by omega) (by omega), hD _ _ (by omega) (by omega), hD _ _ (by omega) (by omega), hD _ _ (by omega) (by omega)]
  exact this
theorem R1.set {C D : Mem} (h : R1 C D) {p : Nat} (hp : p < 8) {w : Int32} (h0 : 0 ≤ w.toInt) (h1 : w.toInt ≤ (rI D 53 p).toInt) : R1 (wI C (9 + p) 0 w) (wI D 52 p w) := by
  intro q hq
  obtain ⟨e1, e2, e3, b1, b2, b3⟩ := h q hq
  by_cases c : q = p
  · subst c
    simp [rI_wI, e2, e3]
    exact ⟨⟨h0, h1⟩, b2, b3⟩
  · simp [rI_wI, c, e1, e2, e3]
    exact ⟨b1, b2, b3⟩
/-- what runs of rain, what is lost -/
def R0 (C D : Mem) : Prop := rJ C 3 9 = rJ D 51 12 ∧ rJ C 3 10 = rJ D 51 14
abbrev FcW : List (Nat × Option Nat) := [(9, none), (10, none), (11, none), (12, none), (13, none), (14, none), (15, none), (16, none), (3, some 9), (3, some 10)]
abbrev FmW : List (Nat × Option Nat) := [(52, none), (51, some 12), (51, some 14)]
theorem mem_pw {p : Nat} (hp : p < 8) : (9 + p, none) ∈ FcW := match p, hp with
  | 0, _ => by simp
  | 1, _ => by simp
  | 2, _ => by simp
  | 3, _ => by simp
  | 4, _ => by simp
  | 5, _ => by simp
  | 6, _ => by simp
  | 7, _ => by simp
  | _ + 8, h => absurd h (by omega)
theorem spill_c {Z : Shp} {C : Mem} (hZ : OKZ Z) {p : Nat} (hp : p < 8) {w v f : Int32} (hw : rI C (9 + p) 0 = w + v) (hf : rI C (9 + p) 1 = f) (h1 : 0 ≤ (w + v).toInt) (h3 : 0 ≤ f.toInt) : fX6_spill Z C (9 + p) = some (po w f v, wI C (9 + p) 0 (pw w f v)) := by
  simp [fX6_spill, tg_p hZ hp, pu, hw, hf, po_mx h1 h3, pw]
theorem rain_sim {Z : Shp} {C D : Mem} (hZ : OKZ Z) (hFC : Fix C) (hFD : Fix D) {x : Int32} (hx0 : 0 ≤ x.toInt) (hx1 : x.toInt ≤ 50) (h1 : R1 C D) (h0 : R0 C D) : ∃ C1 D1, fX3_rainOn Z C 3 x = some C1 ∧ loop (fun s4 : Int32 × Mem => (if (8 : Int32) ≤ s4.1 then some (Sum.inr s4.2) else (if tg Z 51 = (13, 86) then (pu (wJ s4.2 51 12 ((rJ s4.2 51 12) + (x.toInt64))) (fun M9 => (Option.bind (fX12_pour Z M9 51 s4.1 x) (fun v10 => some (Sum.inl ((s4.1 + (1 : Int32)), v10)))))) else none))) ((0 : Int32), D) = some D1 ∧ R1 C1 D1 ∧ R0 C1 D1 ∧ Wr Z FcW [] [] C C1 ∧ Wr Z FmW [] [] D D1 := by
  unfold fX3_rainOn
  refine loop_sim (fun (s t : Int32 × Mem) => ∃ i, i ≤ 8 ∧ s.1 = nI i ∧ t.1 = nI i ∧ R1 s.2 t.2 ∧ R0 s.2 t.2 ∧ Wr Z FcW [] [] C s.2 ∧ Wr Z FmW [] [] D t.2) (fun C1 D1 => R1 C1 D1 ∧ R0 C1 D1 ∧ Wr Z FcW [] [] C C1 ∧ Wr Z FmW [] [] D D1) (fun s => 8 - ix s.1) ?_ _ _ ⟨0, by omega, rfl, rfl, h1, h0, Wr.rf, Wr.rf⟩
  rintro ⟨s, C3⟩ ⟨t, D3⟩ ⟨i, hi, e1, e2, r1, r0, wc, wd⟩
  dsimp only at e1 e2 r1 r0 wc wd
  subst e1 e2
  have hFC3 : Fix C3 := wc.fix hFC (by decide)
  have hFD3 : Fix D3 := wd.fix hFD (by decide)
  by_cases h8 : i = 8
  · subst h8
    exact Or.inr ⟨C3, D3, by simp [show (8 : Int32) ≤ nI 8 by decide], by simp [show (8 : Int32) ≤ nI 8 by decide], r1, r0, wc, wd⟩
  have hi : i < 8 := by omega
  have hix : ix (nI i) = i := ix_nI (by omega)
  have hmu : 8 - ix (nI (i + 1)) < 8 - ix (nI i) := by
    rw [ix_nI (by omega), ix_nI (by omega)]
    omega
  have a4 : aok Z 4 110 (nI i) := aok_nI (tg_4 hZ) (by omega) (by decide)
  obtain ⟨p1, p2, p3, b1, b2, b3⟩ := r1 i hi
  have hs := addI (a := rI D3 52 i) (b := x) (by omega) (by omega)
  have hb := pw_bd (w := rI D3 52 i) (f := rI D3 53 i) (v := x) (by omega) (by omega)
  obtain ⟨z1, z2⟩ := r0
  have hsp := spill_c (C := wI C3 (9 + i) 0 (rI D3 52 i + x)) (w := rI D3 52 i) (v := x) (f := rI D3 53 i) hZ hi (by simp [rI_wI]) (by simp [rI_wI, p2]) (by omega) (by omega)
  left
  refine ⟨(nI (i + 1), wJ (wJ (wI C3 (9 + i) 0 (pw (rI D3 52 i) (rI D3 53 i) x)) 3 10 (rJ D3 51 14 + (po (rI D3 52 i) (rI D3 53 i) x).toInt64)) 3 9 (rJ D3 51 12 + x.toInt64)), (nI (i + 1), wJ (wI (wJ D3 51 12 (rJ D3 51 12 + x.toInt64)) 52 i (pw (rI D3 52 i) (rI D3 53 i) x)) 51 14 (rJ D3 51 14 + (po (rI D3 52 i) (rI D3 53 i) x).toInt64)), ?_, ?_, ⟨i + 1, by omega, rfl, rfl, ?_, ?_, ?_, ?_⟩, hmu⟩
  · simp [n8 hi, tg_3 hZ, fr_3_0 hFC3, if_pos a4, hix, fr_p hFC3 hi, tg_p hZ hi, pu, rI_wI, rJ_wI, rR_wI, rI_wJ, rJ_wJ, rR_wJ, rI_wR, rJ_wR, rR_wR, p1, hsp, wI_wI, z1, z2, nI_succ]
  · have hpm := pour_m (D := wJ D3 51 12 (rJ D3 51 12 + x.toInt64)) (p := i) hZ (hFD3.wJ _ _ _) hi x
    simp only [rI_wI, rJ_wI, rR_wI, rI_wJ, rJ_wJ, rR_wJ, rI_wR, rJ_wR, rR_wR] at hpm
    simp [n8 hi, tg_51 hZ, pu, hpm, nI_succ]
  · exact (r1.set hi hb.1 hb.2).cg (fun _ _ _ _ => by simp only [rI_wJ]) (fun _ _ _ _ => by simp only [rI_wJ, rI_wI])
  · refine ⟨?_, ?_⟩
    · rw [rJ_wJ, if_pos ⟨rfl, rfl⟩, rJ_wJ, if_neg (by omega), rJ_wI, rJ_wJ, if_pos ⟨rfl, rfl⟩]
    · rw [rJ_wJ, if_neg (by omega), rJ_wJ, if_pos ⟨rfl, rfl⟩, rJ_wJ, if_pos ⟨rfl, rfl⟩]
  · exact ((wc.sI (Or.inl (mem_pw hi))).sJ (by simp [inF])).sJ (by simp [inF])
  · exact ((wd.sJ (by simp [inF])).sI (by simp [inF])).sJ (by simp [inF])
