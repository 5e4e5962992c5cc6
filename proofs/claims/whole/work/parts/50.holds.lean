/-! texts: the model says whether a condition holds -/
def enM (M : Mem) (b : Nat) (x : Int32) : En := fun k => match k with
  | 0 => rI M 69 b
  | 1 => 5 * (abI (rI M 68 b - rI M 67 b) + 1)
  | 2 => rI M 71 b
  | 3 => rI M 72 b
  | _ => x
def bI (b : Bool) : Int32 := if b = true then 1 else 0
def SS (M : Mem) : List Bool → Prop
  | [] => True
  | b :: T => rI M 89 T.length = bI b ∧ SS M T
theorem SS_eq {M M1 : Mem} : ∀ S, (∀ k, k < S.length → rI M1 89 k = rI M 89 k) → SS M S → SS M1 S := by
  intro S
  induction S with
  | nil => exact fun _ _ => trivial
  | cons b S ih =>
    intro h h1
    exact ⟨by rw [h _ (by simp)]; exact h1.1, ih (fun k hk => h k (by simp; omega)) h1.2⟩
theorem SS_put {M : Mem} {S : List Bool} (h : SS M S) (b : Bool) : SS (wI M 89 S.length (bI b)) (b :: S) := by
  refine ⟨by simp [rI_wI], SS_eq S (fun k hk => ?_) h⟩
  rw [rI_wI, if_neg (by omega)]
theorem rpn_suf {e : En} {Q : List Mk} : ∀ P S, rpn e (P ++ Q) = some S → ∃ S1, rpn e Q = some S1 := by
  intro P
  induction P with
  | nil => exact fun S h => ⟨S, h⟩
  | cons m P ih =>
    intro S h
    rw [List.cons_append, rpn] at h
    cases hp : rpn e (P ++ Q) with
    | none => rw [hp] at h; cases h
    | some S1 => exact ih S1 hp
theorem TS_suf {M : Mem} {x : Nat} {Q : List Mk} : ∀ P, TS M x (P ++ Q) → TS M x Q := by
  intro P
  induction P with
  | nil => exact fun h => h
  | cons m P ih => exact fun h => ih h.2.2.2
theorem snoc_of {α : Type} : ∀ P : List α, P ≠ [] → ∃ P1 m, P = P1 ++ [m] := by
  intro P
  induction P with
  | nil => exact fun h => absurd rfl h
  | cons a P ih =>
    intro _
    by_cases c : P = []
    · subst c
      exact ⟨[], a, rfl⟩
    · obtain ⟨P1, m, e⟩ := ih c
      exact ⟨a :: P1, m, by rw [e]; rfl⟩
theorem bindI {σ τ β : Type} {f : σ → Option (σ ⊕ τ)} {s : σ} {k : τ → Option β} {G : Option β → Prop} (I : σ → Prop) (R : τ → Prop) (μ : σ → Nat) (h : ∀ s, I s → (∃ s1, f s = some (Sum.inl s1) ∧ I s1 ∧ μ s1 < μ s) ∨ (∃ r, f s = some (Sum.inr r) ∧ R r)) (hs : I s) (hk : ∀ r, R r → G (k r)) : G (Option.bind (loop f s) k) := by
  obtain ⟨r, h1, h2⟩ := loop_inv I R μ h s hs
  rw [h1, Option.bind_some]
  exact hk r h2
theorem bI0 (b : Bool) : bI b = 0 ↔ b = false := by cases b <;> decide
theorem holds_m {Z : Shp} {M : Mem} (hZ : OKZ Z) (hF : Fix M) {x b : Nat} {y : Int32} {R : List Mk} {v : Bool} (hx : x < 16) (hb : b < 12) (hl : rI M 83 x = nI R.length) (hR : R.length ≤ 60) (hT : TS M x R) (hv : (R = [] ∧ v = true) ∨ rpn (enM M b y) R = some [v]) : ∃ M1, fX12_holdsFor Z M 51 (nI x) (nI b) y = some (bI v, M1) ∧ Wr Z [(89, none)] [] [] M M1 := by
  obtain ⟨SR, hSR, hfin⟩ : ∃ SR, rpn (enM M b y) R = some SR ∧ ((SR = [] ∧ v = true) ∨ SR = [v]) := by
    rcases hv with ⟨h1, h2⟩ | h
    · exact ⟨[], by rw [h1]; rfl, Or.inl ⟨rfl, h2⟩⟩
    · exact ⟨[v], h, Or.inr rfl⟩
  have hixx : ix (nI x) = x := ix_nI (by omega)
  have hixb : ix (nI b) = b := ix_nI (by omega)
  have a83 : aok Z 83 100 (nI x) := aok_nI (tg_83 hZ) (by omega) (by decide)
  have a69 : aok Z 69 100 (nI b) := aok_nI (tg_69 hZ) (by omega) (by decide)
  have a71 : aok Z 71 100 (nI b) := aok_nI (tg_71 hZ) (by omega) (by decide)
  have a72 : aok Z 72 100 (nI b) := aok_nI (tg_72 hZ) (by omega) (by decide)
  have hd : dis [(89, none)] [(51, none), (67, none), (68, none), (69, none), (71, none), (72, none), (83, none), (84, none), (85, none)] = true := by decide
  unfold fX12_holdsFor
  refine bindI (G := fun o => ∃ M1, o = some (bI v, M1) ∧ Wr Z [(89, none)] [] [] M M1) (fun s : Int32 × Int32 × Mem => ∃ P Q S, R = P ++ Q ∧ s.2.1 = nI Q.length ∧ rpn (enM M b y) Q = some S ∧ s.1 = nI S.length ∧ S.length ≤ Q.length ∧ SS s.2.2 S ∧ Wr Z [(89, none)] [] [] M s.2.2) (fun r : Int32 × Mem => r.1 = nI SR.length ∧ SR.length ≤ 60 ∧ SS r.2 SR ∧ Wr Z [(89, none)] [] [] M r.2) (fun s => R.length - ix s.2.1) ?_ ⟨R, [], [], by simp, rfl, rfl, rfl, by simp, trivial, Wr.rf⟩ ?_
  · rintro ⟨u, w, M3⟩ ⟨P, Q, S, eR, e1, hQ, e2, hSQ, hS, wM⟩
    dsimp only at e1 e2 hS wM
    subst e1 e2
    have hF3 : Fix M3 := wM.fix hF (by decide)
    have hlen : R.length = P.length + Q.length := by rw [eR]; simp
    have r83 : rI M3 83 x = nI R.length := by rw [wM.row hd (a := 83) (by simp) (by omega), hl]
    by_cases hP : P = []
    · subst hP
      rw [List.nil_append] at eR
      subst eR
      rw [hSR] at hQ
      cases hQ
      refine Or.inr ⟨(nI SR.length, M3), ?_, rfl, by omega, hS, wM⟩
      simp [tg_51 hZ, fr_51_40 hF3, if_pos a83, hixx, r83]
    obtain ⟨P1, m, rfl⟩ := snoc_of P hP
    have hlen2 : R.length = P1.length + 1 + Q.length := by rw [hlen]; simp
    have eR2 : R = P1 ++ (m :: Q) := by rw [eR]; simp
    obtain ⟨S1, hS1⟩ := rpn_suf (Q := m :: Q) P1 SR (by rw [← eR2]; exact hSR)
    have hTm := TS_suf (Q := m :: Q) P1 (by rw [← eR2]; exact hT)
    obtain ⟨t1, t2, t3, -⟩ := hTm
    have hap : apm (enM M b y) m S = some S1 := by
      rw [rpn, hQ] at hS1
      exact hS1
    have r84 : rI M3 84 (60 * x + Q.length) = nI m.1 := by rw [wM.row hd (a := 84) (by simp) (by omega), t1]
    have r85 : rI M3 85 (60 * x + Q.length) = m.2 := by rw [wM.row hd (a := 85) (by simp) (by omega), t2]
    have e60 : (60 : Int32) * nI x + nI Q.length = nI (60 * x + Q.length) := by
      rw [show (60 : Int32) = nI 60 from rfl, pk_mul, nI_add]
    have a84 : aok Z 84 100 (nI (60 * x + Q.length)) := aok_nI (tg_84 hZ) (by omega) (by decide)
    have a85 : aok Z 85 100 (nI (60 * x + Q.length)) := aok_nI (tg_85 hZ) (by omega) (by decide)
    have hixq : ix (nI (60 * x + Q.length)) = 60 * x + Q.length := ix_nI (by omega)
    have hle := nle (show Q.length < R.length by omega) (by omega)
    have hmu : R.length - ix (nI (Q.length + 1)) < R.length - ix (nI Q.length) := by
      rw [ix_nI (by omega), ix_nI (by omega)]
      omega
    left
    by_cases c15 : m.1 < 15
    · have hs1 : S1 = mcmp (enM M b y) m :: S := by
        unfold apm at hap
        rw [if_pos c15] at hap
        cases hap
        rfl
      have aS : aok Z 89 101 (nI S.length) := aok_nI (tg_89 hZ) (by omega) (by decide)
      have hixS : ix (nI S.length) = S.length := ix_nI (by omega)
      have n15 : ¬ (15 : Int32) ≤ nI m.1 := by
        rw [i32_le, nI_toInt (by omega), show (15 : Int32).toInt = 15 by decide]
        omega
      have hdv := pk_div (a := m.1) (d := 3) (by omega) (by omega) (by omega)
      have hrm := pk_rem (a := m.1) (d := 3) (by omega) (by omega) (by omega)
      rw [show nI 3 = 3 from rfl] at hdv hrm
      rw [hdv] at hrm
      have hval : (if nI (m.1 / 3) = 0 then (if aok Z 69 100 (nI b) then some (rI M3 69 (ix (nI b))) else none) else (if nI (m.1 / 3) = 1 then (Option.bind (fX12_milesOf Z M3 51 (nI b)) (fun v40 => some v40)) else (if nI (m.1 / 3) = 2 then (if aok Z 71 100 (nI b) then some (rI M3 71 (ix (nI b))) else none) else (if nI (m.1 / 3) = 3 then (if aok Z 72 100 (nI b) then some (rI M3 72 (ix (nI b))) else none) else some y)))) = some (enM M b y (m.1 / 3)) := by
        have h5 : m.1 / 3 = 0 ∨ m.1 / 3 = 1 ∨ m.1 / 3 = 2 ∨ m.1 / 3 = 3 ∨ m.1 / 3 = 4 := by omega
        have f67 := wM.row hd (a := 67) (by simp) (by omega) b
        have f68 := wM.row hd (a := 68) (by simp) (by omega) b
        have f69 := wM.row hd (a := 69) (by simp) (by omega) b
        have f71 := wM.row hd (a := 71) (by simp) (by omega) b
        have f72 := wM.row hd (a := 72) (by simp) (by omega) b
        rcases h5 with h | h | h | h | h
        · rw [h, if_pos (by decide), if_pos a69, hixb, f69]; rfl
        · rw [h, if_neg (by decide), if_pos (by decide), miles_m hZ hF3 hb, f67, f68]; rfl
        · rw [h, if_neg (by decide), if_neg (by decide), if_pos (by decide), if_pos a71, hixb, f71]; rfl
        · rw [h, if_neg (by decide), if_neg (by decide), if_neg (by decide), if_pos (by decide), if_pos a72, hixb, f72]; rfl
        · rw [h, if_neg (by decide), if_neg (by decide), if_neg (by decide), if_neg (by decide)]; rfl
      refine ⟨(nI (S.length + 1), nI (Q.length + 1), wI M3 89 S.length (bI (mcmp (enM M b y) m))), ?_, ⟨P1, m :: Q, S1, eR2, rfl, hS1, by rw [hs1]; rfl, by rw [hs1]; simp; omega, by rw [hs1]; exact SS_put hS _, wM.sI (by simp [inF])⟩, hmu⟩
      simp only [pu, if_pos (tg_51 hZ), fr_51_40 hF3, if_pos a83, hixx, r83, if_neg hle, fr_51_41 hF3, e60, if_pos a84, hixq, r84, if_neg n15, hdv, fr_51_24 hF3, fr_51_26 hF3, fr_51_27 hF3, hval, Option.bind_some, fr_51_42 hF3, if_pos a85, r85, hrm, fr_51_56 hF3, if_pos aS, hixS, nI_1]
      unfold mcmp
      have h3 : m.1 % 3 = 0 ∨ m.1 % 3 = 1 ∨ m.1 % 3 = 2 := by omega
      rcases h3 with h | h | h
      · rw [h]
        by_cases c : m.2 ≤ enM M b y (m.1 / 3)
        · simp [c, show nI 0 = 0 from rfl, bI, show ¬ enM M b y (m.1 / 3) < m.2 by rw [i32_lt]; rw [i32_le] at c; omega]
        · simp [c, show nI 0 = 0 from rfl, bI, show enM M b y (m.1 / 3) < m.2 by rw [i32_lt]; rw [i32_le] at c; omega]
      · rw [h]
        by_cases c : enM M b y (m.1 / 3) = m.2
        · simp [c, show ¬ nI 1 = 0 by decide, show nI 1 = 1 from rfl, bI]
        · simp [c, show ¬ nI 1 = 0 by decide, show nI 1 = 1 from rfl, bI]
      · rw [h]
        by_cases c : enM M b y (m.1 / 3) ≤ m.2
        · simp [c, show ¬ nI 2 = 0 by decide, show ¬ nI 2 = 1 by decide, bI, show ¬ m.2 < enM M b y (m.1 / 3) by rw [i32_lt]; rw [i32_le] at c; omega]
        · simp [c, show ¬ nI 2 = 0 by decide, show ¬ nI 2 = 1 by decide, bI, show m.2 < enM M b y (m.1 / 3) by rw [i32_lt]; rw [i32_le] at c; omega]
    have n15 : (15 : Int32) ≤ nI m.1 := by
      rw [i32_le, nI_toInt (by omega), show (15 : Int32).toInt = 15 by decide]
      omega
    by_cases d15 : m.1 = 15
    · unfold apm at hap
      rw [if_neg c15, if_pos d15] at hap
      cases S with
      | nil => cases hap
      | cons p T =>
        cases hap
        have aT : aok Z 89 101 (nI T.length) := aok_nI (tg_89 hZ) (by simp at hSQ; omega) (by decide)
        have hixT : ix (nI T.length) = T.length := ix_nI (by simp at hSQ; omega)
        have hp : nI (T.length + 1) - 1 = nI T.length := nI_pred _
        have hv0 := hS.1
        refine ⟨(nI (T.length + 1), nI (Q.length + 1), wI M3 89 T.length (bI (!p))), ?_, ⟨P1, m :: Q, (!p) :: T, eR2, rfl, hS1, rfl, by simp at hSQ ⊢; omega, SS_put hS.2 _, wM.sI (by simp [inF])⟩, hmu⟩
        simp only [pu, List.length_cons, if_pos (tg_51 hZ), fr_51_40 hF3, if_pos a83, hixx, r83, if_neg hle, fr_51_41 hF3, e60, if_pos a84, hixq, r84, if_pos n15, d15, show nI 15 = 15 from rfl, if_true, fr_51_56 hF3, hp, if_pos aT, hixT, hv0, nI_1]
        cases p <;> simp [bI]
    · have e15 : ¬ nI m.1 = 15 := fun h => d15 ((nI_eq (a := m.1) (b := 15) (by omega) (by omega)).mp h)
      unfold apm at hap
      rw [if_neg c15, if_neg d15] at hap
      match S, hap, hS, hSQ, hQ with
      | [], hap, _, _, _ => cases hap
      | [_], hap, _, _, _ => cases hap
      | p :: a :: T, hap, hS, hSQ, hQ =>
        have hS1e : S1 = (if m.1 = 16 then a && p else a || p) :: T := by
          cases hap
          rfl
        have hl2 : T.length + 1 + 1 ≤ Q.length := by simpa using hSQ
        have aT : aok Z 89 101 (nI T.length) := aok_nI (tg_89 hZ) (by omega) (by decide)
        have aT1 : aok Z 89 101 (nI (T.length + 1)) := aok_nI (tg_89 hZ) (by omega) (by decide)
        have hixT : ix (nI T.length) = T.length := ix_nI (by omega)
        have hixT1 : ix (nI (T.length + 1)) = T.length + 1 := ix_nI (by omega)
        have hm1 : nI (T.length + 1 + 1) + (-1) = nI (T.length + 1) := pk_m1 _
        have hp : nI (T.length + 1) - 1 = nI T.length := nI_pred _
        have v1 : rI M3 89 (T.length + 1) = bI p := hS.1
        have v2 : rI M3 89 T.length = bI a := hS.2.1
        refine ⟨(nI (T.length + 1), nI (Q.length + 1), wI M3 89 T.length (bI (if m.1 = 16 then a && p else a || p))), ?_, ⟨P1, m :: Q, S1, eR2, rfl, hS1, by rw [hS1e]; rfl, by rw [hS1e]; simp; omega, by rw [hS1e]; exact SS_put hS.2.2 _, wM.sI (by simp [inF])⟩, hmu⟩
        by_cases d16 : m.1 = 16
        · simp only [pu, List.length_cons, if_pos (tg_51 hZ), fr_51_40 hF3, if_pos a83, hixx, r83, if_neg hle, fr_51_41 hF3, e60, if_pos a84, hixq, r84, if_pos n15, if_neg e15, d16, show nI 16 = 16 from rfl, show ¬ (16 : Int32) = 15 by decide, show (15 : Int32) ≤ 16 by decide, if_true, if_false, fr_51_56 hF3, hm1, hp, if_pos aT, if_pos aT1, hixT, hixT1, v1, v2, nI_1]
          cases p <;> cases a <;> simp [bI]
        · have e16 : ¬ nI m.1 = 16 := fun h => d16 ((nI_eq (a := m.1) (b := 16) (by omega) (by omega)).mp h)
          simp only [pu, List.length_cons, if_pos (tg_51 hZ), fr_51_40 hF3, if_pos a83, hixx, r83, if_neg hle, fr_51_41 hF3, e60, if_pos a84, hixq, r84, if_pos n15, if_neg e15, if_neg e16, if_neg d16, fr_51_56 hF3, hm1, hp, if_pos aT, if_pos aT1, hixT, hixT1, v1, v2, nI_1]
          cases p <;> cases a <;> simp [bI]
  · rintro ⟨u, M3⟩ ⟨e1, e2, hS, wM⟩
    dsimp only at e1 hS wM
    subst e1
    have hF3 : Fix M3 := wM.fix hF (by decide)
    refine ⟨M3, ?_, wM⟩
    rcases hfin with ⟨rfl, rfl⟩ | rfl
    · simp [show nI 0 = 0 from rfl, bI]
    · have a0 : aok Z 89 101 0 := aok_nI (k := 0) (tg_89 hZ) (by omega) (by decide)
      have v1 : rI M3 89 0 = bI v := hS.1
      simp only [List.length_cons, List.length_nil, show ¬ nI (0 + 1) = 0 by decide, if_false, if_pos (tg_51 hZ), fr_51_56 hF3, if_pos a0, show ix (0 : Int32) = 0 by decide, v1]
      cases v <;> simp [bI]
