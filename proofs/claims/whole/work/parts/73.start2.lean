theorem start_law {β : Type} (f : Nat → Nat → Shp → Mem → Option β) : pu2 ([] ++ [(12, 6)]) (nw (mk []) (([] : Shp).length + 2)) (fun Z1 M2 => (Option.bind (fX11_init Z1 M2 (([] : Shp).length + 2)) (fun v5 => (pu ((([] : Shp).length + 2)) (fun a7 => (pu2 (v5.1 ++ [(13, 86)]) (nw v5.2 (v5.1.length + 2)) (fun Z8 M9 => (Option.bind (fX12_init Z8 M9 (v5.1.length + 2)) (fun v12 => (pu ((v5.1.length + 2)) (fun a14 => f a7 a14 v12.1 v12.2))))))))))) = f 2 51 zE (mk wE) := by
  rw [show ([] : Shp).length + 2 = 2 from rfl, al (show [] ++ [(12, 6)] = sz0 from rfl) (show wqn 2 :: [] = sw1 from rfl), startC, Option.bind_some]
  dsimp only [pu]
  rw [zl48, al zq49 (show wqn 51 :: sw130 = sw131 from rfl), startM, Option.bind_some]
theorem rI_mk {a : Nat} (k : Nat) : ∀ ws : List Wq, ws.all (fun w => decide (¬ (w.1 = 1 ∧ w.2.1 = a))) = true → rI (mk ws) a k = 0 := by
  intro ws
  induction ws with
  | nil => exact fun _ => rfl
  | cons w ws ih =>
    intro h
    rw [List.all_cons, Bool.and_eq_true] at h
    have h1 := of_decide_eq_true h.1
    have h2 := ih h.2
    unfold mk
    by_cases c : w.1 = 0
    · rw [if_pos c, rI_nw]
      by_cases d : a = w.2.1
      · rw [if_pos d]
      · rw [if_neg d, h2]
    · rw [if_neg c]
      by_cases d : w.1 = 1
      · rw [if_pos d, rI_wI, if_neg (fun e => h1 ⟨d, e.1.symm⟩), h2]
      · rw [if_neg d, rI_wR, h2]
theorem rJ_mk (a k : Nat) : ∀ ws : List Wq, rJ (mk ws) a k = 0 := by
  intro ws
  induction ws with
  | nil => rfl
  | cons w ws ih =>
    unfold mk
    by_cases c : w.1 = 0
    · rw [if_pos c, rJ_nw, ih]
      by_cases d : a = w.2.1
      · rw [if_pos d]
      · rw [if_neg d]
    · rw [if_neg c]
      by_cases d : w.1 = 1
      · rw [if_pos d, rJ_wI, ih]
      · rw [if_neg d, rJ_wR, ih]
theorem s_Z : zE = Z0 := by decide +kernel
theorem s_F : Fix (mk wE) := by
  have key : FRl.all (fun p => decide (rR (mk wE) p.1 p.2.1 = p.2.2)) = true := by decide +kernel
  exact fun p hp => of_decide_eq_true (List.all_eq_true.mp key p hp)
theorem s_no : [25, 28, 29, 30, 33, 34, 35, 40, 41, 42, 43, 44, 45, 46, 48, 49, 50, 56, 57, 58, 59, 60, 61, 66, 75, 78, 90, 91, 92, 95, 96, 99, 100, 101, 102, 103, 104, 105, 106, 107, 108, 109].all (fun a => wE.all (fun w => decide (¬ (w.1 = 1 ∧ w.2.1 = a)))) = true := by decide +kernel
theorem s_0 {a : Nat} (h : a ∈ [25, 28, 29, 30, 33, 34, 35, 40, 41, 42, 43, 44, 45, 46, 48, 49, 50, 56, 57, 58, 59, 60, 61, 66, 75, 78, 90, 91, 92, 95, 96, 99, 100, 101, 102, 103, 104, 105, 106, 107, 108, 109]) (k : Nat) : rI (mk wE) a k = 0 := rI_mk k wE (List.all_eq_true.mp s_no a h)
theorem s_P : IPound (mk wE) := by
  have key : ∀ p, p < 8 → rI (mk wE) (9 + p) 0 = rI (mk wE) 52 p ∧ rI (mk wE) (9 + p) 1 = rI (mk wE) 53 p ∧ rI (mk wE) (9 + p) 2 = rI (mk wE) 54 p ∧ (0 ≤ (rI (mk wE) 52 p).toInt ∧ (rI (mk wE) 52 p).toInt ≤ (rI (mk wE) 53 p).toInt) ∧ (100 ≤ (rI (mk wE) 53 p).toInt ∧ (rI (mk wE) 53 p).toInt ≤ 9999) ∧ 0 ≤ (rI (mk wE) 54 p).toInt ∧ (rI (mk wE) 54 p).toInt ≤ 9999 := by decide +kernel
  exact key
theorem s_K : ILock (mk wE) := by
  have key : ∀ l, l < 7 → rI (mk wE) (17 + l) 0 = rI (mk wE) 55 l ∧ rI (mk wE) (17 + l) 1 = rI (mk wE) 56 l ∧ rI (mk wE) (17 + l) 2 = rI (mk wE) 57 l ∧ rI (mk wE) (17 + l) 3 = rI (mk wE) 58 l ∧ rI (mk wE) (17 + l) 4 = rI (mk wE) 59 l ∧ rI (mk wE) (17 + l) 5 = rI (mk wE) 60 l ∧ rI (mk wE) (17 + l) 6 = rI (mk wE) 61 l ∧ (10 ≤ (rI (mk wE) 55 l).toInt ∧ (rI (mk wE) 55 l).toInt ≤ 200) ∧ (rI (mk wE) 56 l = 0 ∨ rI (mk wE) 56 l = 1) ∧ (0 ≤ (rI (mk wE) 57 l).toInt ∧ (rI (mk wE) 57 l).toInt ≤ 2) ∧ (rI (mk wE) 58 l = 0 ∨ rI (mk wE) 58 l = 1) ∧ (0 ≤ (rI (mk wE) 59 l).toInt ∧ 2 * (rI (mk wE) 59 l).toInt ≤ (rI (mk wE) 55 l).toInt) ∧ (rI (mk wE) 56 l = 0 → rI (mk wE) 59 l = 0) ∧ (rI (mk wE) 51 11 = 0 → rI (mk wE) 59 l = 0) := by decide +kernel
  exact key
theorem s_L : ILine (mk wE) := ⟨⟨3, by omega, by omega, by decide +kernel, by decide +kernel⟩, ⟨0, by omega, by decide +kernel, by decide +kernel⟩, by rw [rJ_mk, rJ_mk], by rw [rJ_mk, rJ_mk]⟩
theorem s_T (Z : Shp) : ITak Z (mk wE) := ⟨0, by omega, by decide +kernel, by decide +kernel, fun k hk => absurd hk (by omega), fun j k _ hk => absurd hk (by omega), fun k _ => s_0 (by simp) k, id, fun i hi => absurd hi (by omega), fun i j _ hj => absurd hj (by omega)⟩
theorem s_O : ITook (mk wE) := by
  refine ⟨?_, 0, by omega, by decide +kernel, fun k _ => ?_⟩
  · rw [rJ_mk]
    decide +kernel
  · rw [s_0 (by simp) k, show (0 : Int32).toInt = 0 by decide]
    omega
theorem s_B (Z : Shp) : IBoat Z (mk wE) := ⟨0, by omega, by decide +kernel, by decide +kernel, fun k hk => absurd hk (by omega), fun j k _ hk => absurd hk (by omega), fun k _ => ⟨s_0 (by simp) k, s_0 (by simp) k⟩⟩
theorem s_Pg : IPage (mk wE) := by
  refine ⟨0, by omega, by decide +kernel, by decide +kernel, fun k => ?_, fun k => ?_⟩
  · rw [s_0 (by simp) k, s_0 (by simp) k]
  · rw [s_0 (by simp) k]
    decide
theorem s_X (Z : Shp) : ITexts Z (mk wE) := ⟨0, by omega, by decide +kernel, by decide +kernel, fun x hx => absurd hx (by omega), fun j k _ hk => absurd hk (by omega)⟩
theorem s_C : ICome (mk wE) := by
  refine ⟨0, by omega, by decide +kernel, by decide +kernel, fun k => ?_, fun k => ?_, fun k => ?_, fun k hk => absurd hk (by omega)⟩
  all_goals rw [s_0 (by simp) k, s_0 (by simp) k]
theorem s_S (Z : Shp) : ISolved Z (mk wE) := ⟨Or.inl (by decide +kernel), ⟨0, by omega, by decide +kernel, by decide +kernel⟩, Or.inl (by decide +kernel)⟩
theorem s_Bk : IBanks (mk wE) := by
  have key : ∀ p, p < 8 → (rI (mk wE) 35 p = 0 ∧ rI (mk wE) 97 p = -1) := by decide +kernel
  refine ⟨0, by omega, by decide +kernel, by decide +kernel, fun k => ?_, fun k => ?_, fun k hk => absurd hk (by omega), fun p hp => Or.inl (key p hp)⟩
  all_goals rw [s_0 (by simp) k, s_0 (by simp) k]
theorem s_Ow : IOwed (mk wE) := by
  refine ⟨fun k => ?_, fun k => ?_⟩
  · rw [s_0 (by simp) k, s_0 (by simp) k]
  · rw [s_0 (by simp) k]
    decide
theorem s_D : IDebt (mk wE) := by
  refine ⟨fun k => ?_, fun k => ?_⟩
  · rw [s_0 (by simp) k, s_0 (by simp) k]
  · rw [s_0 (by simp) k]
    decide
theorem s_R : IRate (mk wE) := ⟨by decide +kernel, by decide +kernel, by decide +kernel⟩
theorem s_Sh : IShare (mk wE) := by
  refine ⟨0, by omega, by decide +kernel, by decide +kernel, fun k => ?_, fun k => ?_, fun k => ?_, fun k => ?_, fun k => ?_, fun k => ?_, fun k hk => absurd hk (by omega), fun j k _ hk => absurd hk (by omega)⟩
  case refine_6 =>
    rw [s_0 (by simp) k]
    decide
  all_goals rw [s_0 (by simp) k, s_0 (by simp) k]
theorem s_W : IWorks (mk wE) := by
  refine ⟨0, by omega, by decide +kernel, by decide +kernel, fun k => ?_, fun k => ?_, fun k => ?_, fun k hk => absurd hk (by omega)⟩
  all_goals rw [s_0 (by simp) k, s_0 (by simp) k]
