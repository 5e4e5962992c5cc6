/-! abstract values, memory, shape; what the heap holds -/
abbrev AV : Type := Int32 ⊕ Int64 ⊕ Nat
abbrev vi (x : Int32) : AV := Sum.inl x
abbrev vj (x : Int64) : AV := Sum.inr (Sum.inl x)
abbrev vr (a : Nat) : AV := Sum.inr (Sum.inr a)
abbrev BB : Type := Nat × Nat
/-- an address by its number: 0 null, 1 the script, then the cells made, in their order -/
def rv (B : BB) (a : Nat) : Value := match a with
  | 0 => .null
  | 1 => .ref B.1
  | k + 2 => .ref (B.2 + k)
def rn (B : BB) (a : Nat) : Option Nat := match a with
  | 0 => none
  | 1 => some B.1
  | k + 2 => some (B.2 + k)
def ev (B : BB) (v : AV) : Value := match v with
  | .inl x => .int x
  | .inr (.inl x) => .long x
  | .inr (.inr a) => rv B a
def ct (v : AV) : Nat := match v with
  | .inr (.inl _) => 2
  | _ => 1
def ev2 (B : BB) (q : Nat × AV) : Nat × Value := (q.1, ev B q.2)
theorem rv_rn (B : BB) (a : Nat) : va_rf (rn B a) = rv B a := match a with
  | 0 => rfl
  | 1 => rfl
  | _ + 2 => rfl
theorem rv_or (B : BB) (a : Nat) : rv B a = .null ∨ ∃ q, rv B a = .ref q := match a with
  | 0 => Or.inl rfl
  | 1 => Or.inr ⟨_, rfl⟩
  | _ + 2 => Or.inr ⟨_, rfl⟩
theorem rv_pos (B : BB) {a : Nat} (h : ¬ a = 0) : ∃ q, rv B a = .ref q := match a, h with
  | 0, h => absurd rfl h
  | 1, _ => ⟨_, rfl⟩
  | _ + 2, _ => ⟨_, rfl⟩
theorem ev_cat (B : BB) (v : AV) : (ev B v).category = ct v := by
  rcases v with x | x | a
  · rfl
  · rfl
  · match a with
    | 0 => rfl
    | 1 => rfl
    | _ + 2 => rfl
abbrev Mem : Type := (Nat → Nat → Int32) × (Nat → Nat → Int64) × (Nat → Nat → Nat)
def rI (M : Mem) (a k : Nat) : Int32 := M.1 a k
def rJ (M : Mem) (a k : Nat) : Int64 := M.2.1 a k
def rR (M : Mem) (a k : Nat) : Nat := M.2.2 a k
def wI (M : Mem) (a k : Nat) (v : Int32) : Mem := (fun a' k' => if a' = a ∧ k' = k then v else M.1 a' k', M.2)
def wJ (M : Mem) (a k : Nat) (v : Int64) : Mem := (M.1, fun a' k' => if a' = a ∧ k' = k then v else M.2.1 a' k', M.2.2)
def wR (M : Mem) (a k : Nat) (v : Nat) : Mem := (M.1, M.2.1, fun a' k' => if a' = a ∧ k' = k then v else M.2.2 a' k')
theorem rI_wI (M : Mem) (a k : Nat) (v : Int32) (a' k' : Nat) : rI (wI M a k v) a' k' = if a' = a ∧ k' = k then v else rI M a' k' := rfl
theorem rJ_wI (M : Mem) (a k : Nat) (v : Int32) (a' k' : Nat) : rJ (wI M a k v) a' k' = rJ M a' k' := rfl
theorem rR_wI (M : Mem) (a k : Nat) (v : Int32) (a' k' : Nat) : rR (wI M a k v) a' k' = rR M a' k' := rfl
theorem rI_wJ (M : Mem) (a k : Nat) (v : Int64) (a' k' : Nat) : rI (wJ M a k v) a' k' = rI M a' k' := rfl
theorem rJ_wJ (M : Mem) (a k : Nat) (v : Int64) (a' k' : Nat) : rJ (wJ M a k v) a' k' = if a' = a ∧ k' = k then v else rJ M a' k' := rfl
theorem rR_wJ (M : Mem) (a k : Nat) (v : Int64) (a' k' : Nat) : rR (wJ M a k v) a' k' = rR M a' k' := rfl
theorem rI_wR (M : Mem) (a k v a' k' : Nat) : rI (wR M a k v) a' k' = rI M a' k' := rfl
theorem rJ_wR (M : Mem) (a k v a' k' : Nat) : rJ (wR M a k v) a' k' = rJ M a' k' := rfl
theorem rR_wR (M : Mem) (a k v a' k' : Nat) : rR (wR M a k v) a' k' = if a' = a ∧ k' = k then v else rR M a' k' := rfl
abbrev Shp : Type := List (Nat × Nat)
/-- tag and length of a cell by its number -/
def tg (Z : Shp) (a : Nat) : Nat × Nat := match a with
  | k + 2 => Z.getD k (0, 0)
  | _ => (0, 0)
/-- field types by class number -/
def tyC (ci : Nat) : Nat → FieldType := match ci with
  | 0 => tyX0
  | 1 => tyX1
  | 2 => tyX2
  | 3 => tyX3
  | 4 => tyX4
  | 5 => tyX5
  | 6 => tyX6
  | 7 => tyX7
  | 8 => tyX8
  | 9 => tyX9
  | 10 => tyX10
  | 11 => tyX11
  | _ => tyX12
def trC (ci : Nat) : u_T := match ci with
  | 0 => TX0
  | 1 => TX1
  | 2 => TX2
  | 3 => TX3
  | 4 => TX4
  | 5 => TX5
  | 6 => TX6
  | 7 => TX7
  | 8 => TX8
  | 9 => TX9
  | 10 => TX10
  | 11 => TX11
  | _ => TX12
def nmC (ci : Nat) : String := match ci with
  | 0 => RX0
  | 1 => RX1
  | 2 => RX2
  | 3 => RX3
  | 4 => RX4
  | 5 => RX5
  | 6 => RX6
  | 7 => RX7
  | 8 => RX8
  | 9 => RX9
  | 10 => RX10
  | 11 => RX11
  | _ => RX12
def szC (ci : Nat) : Nat := match ci with
  | 0 => 9
  | 1 => 10
  | 2 => 4
  | 3 => 11
  | 4 => 7
  | 5 => 9
  | 6 => 3
  | 7 => 5
  | 8 => 6
  | 9 => 10
  | 10 => 4
  | 11 => 6
  | _ => 86
theorem vw_at : ∀ ci, ci < 13 → vwCl[ci]? = some (nmC ci, trC ci, szC ci) := fun ci h => match ci, h with
  | 0, _ => rfl
  | 1, _ => rfl
  | 2, _ => rfl
  | 3, _ => rfl
  | 4, _ => rfl
  | 5, _ => rfl
  | 6, _ => rfl
  | 7, _ => rfl
  | 8, _ => rfl
  | 9, _ => rfl
  | 10, _ => rfl
  | 11, _ => rfl
  | 12, _ => rfl
  | _ + 13, h => absurd h (by omega)
theorem in_lay {C : String} {T : u_T} {N : Nat} (h : ∀ k, k < N → u_lay C T k ∈ lw_gd) : ∀ w ∈ u_ws C T N, w ∈ lw_gd := fun w hw => by
  obtain ⟨k, hk, rfl⟩ := List.mem_map.mp hw
  exact h k (List.mem_range.mp hk)
theorem inw0 : ∀ w ∈ u_ws RX0 TX0 9, w ∈ lw_gd := in_lay (fun k h => match k, h with
  | 0, _ => gd (hcw1_10 _ (List.mem_of_getElem? (i := 15) rfl)) rfl
  | 1, _ => gd (hcw1_10 _ (List.mem_of_getElem? (i := 17) rfl)) rfl
  | 2, _ => gd (hcw1_10 _ (List.mem_of_getElem? (i := 19) rfl)) rfl
  | 3, _ => gd (hcw1_11 _ (List.mem_of_getElem? (i := 1) rfl)) rfl
  | 4, _ => gd (hcw1_11 _ (List.mem_of_getElem? (i := 3) rfl)) rfl
  | 5, _ => gd (hcw1_11 _ (List.mem_of_getElem? (i := 5) rfl)) rfl
  | 6, _ => gd (hcw1_11 _ (List.mem_of_getElem? (i := 7) rfl)) rfl
  | 7, _ => gd (hcw1_11 _ (List.mem_of_getElem? (i := 9) rfl)) rfl
  | 8, _ => gd (hcw1_11 _ (List.mem_of_getElem? (i := 11) rfl)) rfl
  | _ + 9, h => absurd h (by omega))
theorem inw1 : ∀ w ∈ u_ws RX1 TX1 10, w ∈ lw_gd := in_lay (fun k h => match k, h with
  | 0, _ => gd (hcw2_11 _ (List.mem_of_getElem? (i := 1) rfl)) rfl
  | 1, _ => gd (hcw2_11 _ (List.mem_of_getElem? (i := 3) rfl)) rfl
  | 2, _ => gd (hcw2_11 _ (List.mem_of_getElem? (i := 5) rfl)) rfl
  | 3, _ => gd (hcw2_11 _ (List.mem_of_getElem? (i := 7) rfl)) rfl
  | 4, _ => gd (hcw2_11 _ (List.mem_of_getElem? (i := 9) rfl)) rfl
  | 5, _ => gd (hcw2_11 _ (List.mem_of_getElem? (i := 11) rfl)) rfl
  | 6, _ => gd (hcw2_11 _ (List.mem_of_getElem? (i := 13) rfl)) rfl
  | 7, _ => gd (hcw2_11 _ (List.mem_of_getElem? (i := 15) rfl)) rfl
  | 8, _ => gd (hcw2_11 _ (List.mem_of_getElem? (i := 17) rfl)) rfl
  | 9, _ => gd (hcw2_11 _ (List.mem_of_getElem? (i := 19) rfl)) rfl
  | _ + 10, h => absurd h (by omega))
theorem inw2 : ∀ w ∈ u_ws RX2 TX2 4, w ∈ lw_gd := in_lay (fun k h => match k, h with
  | 0, _ => gd (hcw1_7 _ (List.mem_of_getElem? (i := 5) rfl)) rfl
  | 1, _ => gd (hcw1_7 _ (List.mem_of_getElem? (i := 7) rfl)) rfl
  | 2, _ => gd (hcw1_7 _ (List.mem_of_getElem? (i := 9) rfl)) rfl
  | 3, _ => gd (hcw1_7 _ (List.mem_of_getElem? (i := 11) rfl)) rfl
  | _ + 4, h => absurd h (by omega))
theorem inw3 : ∀ w ∈ u_ws RX3 TX3 11, w ∈ lw_gd := in_lay (fun k h => match k, h with
  | 0, _ => gd (hcw1_5 _ (List.mem_of_getElem? (i := 8) rfl)) rfl
  | 1, _ => gd (hcw1_5 _ (List.mem_of_getElem? (i := 10) rfl)) rfl
  | 2, _ => gd (hcw1_5 _ (List.mem_of_getElem? (i := 12) rfl)) rfl
  | 3, _ => gd (hcw1_5 _ (List.mem_of_getElem? (i := 14) rfl)) rfl
  | 4, _ => gd (hcw1_5 _ (List.mem_of_getElem? (i := 16) rfl)) rfl
  | 5, _ => gd (hcw1_5 _ (List.mem_of_getElem? (i := 18) rfl)) rfl
  | 6, _ => gd (hcw1_6 _ (List.mem_of_getElem? (i := 0) rfl)) rfl
  | 7, _ => gd (hcw1_6 _ (List.mem_of_getElem? (i := 2) rfl)) rfl
  | 8, _ => gd (hcw1_6 _ (List.mem_of_getElem? (i := 4) rfl)) rfl
  | 9, _ => gd (hcw1_6 _ (List.mem_of_getElem? (i := 6) rfl)) rfl
  | 10, _ => gd (hcw1_6 _ (List.mem_of_getElem? (i := 8) rfl)) rfl
  | _ + 11, h => absurd h (by omega))
theorem inw4 : ∀ w ∈ u_ws RX4 TX4 7, w ∈ lw_gd := in_lay (fun k h => match k, h with
  | 0, _ => gd (hcw1_3 _ (List.mem_of_getElem? (i := 14) rfl)) rfl
  | 1, _ => gd (hcw1_3 _ (List.mem_of_getElem? (i := 16) rfl)) rfl
  | 2, _ => gd (hcw1_3 _ (List.mem_of_getElem? (i := 18) rfl)) rfl
  | 3, _ => gd (hcw1_4 _ (List.mem_of_getElem? (i := 0) rfl)) rfl
  | 4, _ => gd (hcw1_4 _ (List.mem_of_getElem? (i := 2) rfl)) rfl
  | 5, _ => gd (hcw1_4 _ (List.mem_of_getElem? (i := 4) rfl)) rfl
  | 6, _ => gd (hcw1_4 _ (List.mem_of_getElem? (i := 6) rfl)) rfl
  | _ + 7, h => absurd h (by omega))
theorem inw5 : ∀ w ∈ u_ws RX5 TX5 9, w ∈ lw_gd := in_lay (fun k h => match k, h with
  | 0, _ => gd (hcw2_0 _ (List.mem_of_getElem? (i := 13) rfl)) rfl
  | 1, _ => gd (hcw2_0 _ (List.mem_of_getElem? (i := 15) rfl)) rfl
  | 2, _ => gd (hcw2_0 _ (List.mem_of_getElem? (i := 17) rfl)) rfl
  | 3, _ => gd (hcw2_0 _ (List.mem_of_getElem? (i := 19) rfl)) rfl
  | 4, _ => gd (hcw2_1 _ (List.mem_of_getElem? (i := 1) rfl)) rfl
  | 5, _ => gd (hcw2_1 _ (List.mem_of_getElem? (i := 3) rfl)) rfl
  | 6, _ => gd (hcw2_1 _ (List.mem_of_getElem? (i := 5) rfl)) rfl
  | 7, _ => gd (hcw2_1 _ (List.mem_of_getElem? (i := 7) rfl)) rfl
  | 8, _ => gd (hcw2_1 _ (List.mem_of_getElem? (i := 9) rfl)) rfl
  | _ + 9, h => absurd h (by omega))
theorem inw6 : ∀ w ∈ u_ws RX6 TX6 3, w ∈ lw_gd := in_lay (fun k h => match k, h with
  | 0, _ => gd (hcw1_2 _ (List.mem_of_getElem? (i := 13) rfl)) rfl
  | 1, _ => gd (hcw1_2 _ (List.mem_of_getElem? (i := 15) rfl)) rfl
  | 2, _ => gd (hcw1_2 _ (List.mem_of_getElem? (i := 17) rfl)) rfl
  | _ + 3, h => absurd h (by omega))
theorem inw7 : ∀ w ∈ u_ws RX7 TX7 5, w ∈ lw_gd := in_lay (fun k h => match k, h with
  | 0, _ => gd (hcw2_7 _ (List.mem_of_getElem? (i := 4) rfl)) rfl
  | 1, _ => gd (hcw2_7 _ (List.mem_of_getElem? (i := 6) rfl)) rfl
  | 2, _ => gd (hcw2_7 _ (List.mem_of_getElem? (i := 8) rfl)) rfl
  | 3, _ => gd (hcw2_7 _ (List.mem_of_getElem? (i := 10) rfl)) rfl
  | 4, _ => gd (hcw2_7 _ (List.mem_of_getElem? (i := 12) rfl)) rfl
  | _ + 5, h => absurd h (by omega))
theorem inw8 : ∀ w ∈ u_ws RX8 TX8 6, w ∈ lw_gd := in_lay (fun k h => match k, h with
  | 0, _ => gd (hcw3_11 _ (List.mem_of_getElem? (i := 15) rfl)) rfl
  | 1, _ => gd (hcw3_11 _ (List.mem_of_getElem? (i := 17) rfl)) rfl
  | 2, _ => gd (hcw3_11 _ (List.mem_of_getElem? (i := 19) rfl)) rfl
  | 3, _ => gd (hcw4_0 _ (List.mem_of_getElem? (i := 1) rfl)) rfl
  | 4, _ => gd (hcw4_0 _ (List.mem_of_getElem? (i := 3) rfl)) rfl
  | 5, _ => gd (hcw4_0 _ (List.mem_of_getElem? (i := 5) rfl)) rfl
  | _ + 6, h => absurd h (by omega))
theorem inw9 : ∀ w ∈ u_ws RX9 TX9 10, w ∈ lw_gd := in_lay (fun k h => match k, h with
  | 0, _ => gd (hcw1_8 _ (List.mem_of_getElem? (i := 14) rfl)) rfl
  | 1, _ => gd (hcw1_8 _ (List.mem_of_getElem? (i := 16) rfl)) rfl
  | 2, _ => gd (hcw1_8 _ (List.mem_of_getElem? (i := 18) rfl)) rfl
  | 3, _ => gd (hcw1_9 _ (List.mem_of_getElem? (i := 0) rfl)) rfl
  | 4, _ => gd (hcw1_9 _ (List.mem_of_getElem? (i := 2) rfl)) rfl
  | 5, _ => gd (hcw1_9 _ (List.mem_of_getElem? (i := 4) rfl)) rfl
  | 6, _ => gd (hcw1_9 _ (List.mem_of_getElem? (i := 6) rfl)) rfl
  | 7, _ => gd (hcw1_9 _ (List.mem_of_getElem? (i := 8) rfl)) rfl
  | 8, _ => gd (hcw1_9 _ (List.mem_of_getElem? (i := 10) rfl)) rfl
  | 9, _ => gd (hcw1_9 _ (List.mem_of_getElem? (i := 12) rfl)) rfl
  | _ + 10, h => absurd h (by omega))
theorem inw10 : ∀ w ∈ u_ws RX10 TX10 4, w ∈ lw_gd := in_lay (fun k h => match k, h with
  | 0, _ => gd (hcw2_2 _ (List.mem_of_getElem? (i := 3) rfl)) rfl
  | 1, _ => gd (hcw2_2 _ (List.mem_of_getElem? (i := 5) rfl)) rfl
  | 2, _ => gd (hcw2_2 _ (List.mem_of_getElem? (i := 7) rfl)) rfl
  | 3, _ => gd (hcw2_2 _ (List.mem_of_getElem? (i := 9) rfl)) rfl
  | _ + 4, h => absurd h (by omega))
theorem inw11 : ∀ w ∈ u_ws RX11 TX11 6, w ∈ lw_gd := in_lay (fun k h => match k, h with
  | 0, _ => gd (hcw2_2 _ (List.mem_of_getElem? (i := 18) rfl)) rfl
  | 1, _ => gd (hcw2_3 _ (List.mem_of_getElem? (i := 0) rfl)) rfl
  | 2, _ => gd (hcw2_3 _ (List.mem_of_getElem? (i := 2) rfl)) rfl
  | 3, _ => gd (hcw2_3 _ (List.mem_of_getElem? (i := 4) rfl)) rfl
  | 4, _ => gd (hcw2_3 _ (List.mem_of_getElem? (i := 6) rfl)) rfl
  | 5, _ => gd (hcw2_3 _ (List.mem_of_getElem? (i := 8) rfl)) rfl
  | _ + 6, h => absurd h (by omega))
theorem inw12 : ∀ w ∈ u_ws RX12 TX12 86, w ∈ lw_gd := in_lay (fun k h => match k, h with
  | 0, _ => gd (hcw6_2 _ (List.mem_of_getElem? (i := 1) rfl)) rfl
  | 1, _ => gd (hcw6_2 _ (List.mem_of_getElem? (i := 3) rfl)) rfl
  | 2, _ => gd (hcw6_2 _ (List.mem_of_getElem? (i := 5) rfl)) rfl
  | 3, _ => gd (hcw6_2 _ (List.mem_of_getElem? (i := 7) rfl)) rfl
  | 4, _ => gd (hcw6_2 _ (List.mem_of_getElem? (i := 9) rfl)) rfl
  | 5, _ => gd (hcw6_2 _ (List.mem_of_getElem? (i := 11) rfl)) rfl
  | 6, _ => gd (hcw6_2 _ (List.mem_of_getElem? (i := 13) rfl)) rfl
  | 7, _ => gd (hcw6_2 _ (List.mem_of_getElem? (i := 15) rfl)) rfl
  | 8, _ => gd (hcw6_2 _ (List.mem_of_getElem? (i := 17) rfl)) rfl
  | 9, _ => gd (hcw6_2 _ (List.mem_of_getElem? (i := 19) rfl)) rfl
  | 10, _ => gd (hcw6_3 _ (List.mem_of_getElem? (i := 1) rfl)) rfl
  | 11, _ => gd (hcw6_3 _ (List.mem_of_getElem? (i := 3) rfl)) rfl
  | 12, _ => gd (hcw6_3 _ (List.mem_of_getElem? (i := 5) rfl)) rfl
  | 13, _ => gd (hcw6_3 _ (List.mem_of_getElem? (i := 7) rfl)) rfl
  | 14, _ => gd (hcw6_3 _ (List.mem_of_getElem? (i := 9) rfl)) rfl
  | 15, _ => gd (hcw6_3 _ (List.mem_of_getElem? (i := 11) rfl)) rfl
  | 16, _ => gd (hcw6_3 _ (List.mem_of_getElem? (i := 13) rfl)) rfl
  | 17, _ => gd (hcw6_3 _ (List.mem_of_getElem? (i := 15) rfl)) rfl
  | 18, _ => gd (hcw6_3 _ (List.mem_of_getElem? (i := 17) rfl)) rfl
  | 19, _ => gd (hcw6_3 _ (List.mem_of_getElem? (i := 19) rfl)) rfl
  | 20, _ => gd (hcw6_4 _ (List.mem_of_getElem? (i := 1) rfl)) rfl
  | 21, _ => gd (hcw6_4 _ (List.mem_of_getElem? (i := 3) rfl)) rfl
  | 22, _ => gd (hcw6_4 _ (List.mem_of_getElem? (i := 5) rfl)) rfl
  | 23, _ => gd (hcw6_4 _ (List.mem_of_getElem? (i := 7) rfl)) rfl
  | 24, _ => gd (hcw6_4 _ (List.mem_of_getElem? (i := 9) rfl)) rfl
  | 25, _ => gd (hcw6_4 _ (List.mem_of_getElem? (i := 11) rfl)) rfl
  | 26, _ => gd (hcw6_4 _ (List.mem_of_getElem? (i := 13) rfl)) rfl
  | 27, _ => gd (hcw6_4 _ (List.mem_of_getElem? (i := 15) rfl)) rfl
  | 28, _ => gd (hcw6_4 _ (List.mem_of_getElem? (i := 17) rfl)) rfl
  | 29, _ => gd (hcw6_4 _ (List.mem_of_getElem? (i := 19) rfl)) rfl
  | 30, _ => gd (hcw6_5 _ (List.mem_of_getElem? (i := 1) rfl)) rfl
  | 31, _ => gd (hcw6_5 _ (List.mem_of_getElem? (i := 3) rfl)) rfl
  | 32, _ => gd (hcw6_5 _ (List.mem_of_getElem? (i := 5) rfl)) rfl
  | 33, _ => gd (hcw6_5 _ (List.mem_of_getElem? (i := 7) rfl)) rfl
  | 34, _ => gd (hcw6_5 _ (List.mem_of_getElem? (i := 9) rfl)) rfl
  | 35, _ => gd (hcw6_5 _ (List.mem_of_getElem? (i := 11) rfl)) rfl
  | 36, _ => gd (hcw6_5 _ (List.mem_of_getElem? (i := 13) rfl)) rfl
  | 37, _ => gd (hcw6_5 _ (List.mem_of_getElem? (i := 15) rfl)) rfl
  | 38, _ => gd (hcw6_5 _ (List.mem_of_getElem? (i := 17) rfl)) rfl
  | 39, _ => gd (hcw6_5 _ (List.mem_of_getElem? (i := 19) rfl)) rfl
  | 40, _ => gd (hcw6_6 _ (List.mem_of_getElem? (i := 1) rfl)) rfl
  | 41, _ => gd (hcw6_6 _ (List.mem_of_getElem? (i := 3) rfl)) rfl
  | 42, _ => gd (hcw6_6 _ (List.mem_of_getElem? (i := 5) rfl)) rfl
  | 43, _ => gd (hcw6_6 _ (List.mem_of_getElem? (i := 7) rfl)) rfl
  | 44, _ => gd (hcw6_6 _ (List.mem_of_getElem? (i := 9) rfl)) rfl
  | 45, _ => gd (hcw6_6 _ (List.mem_of_getElem? (i := 11) rfl)) rfl
  | 46, _ => gd (hcw6_6 _ (List.mem_of_getElem? (i := 13) rfl)) rfl
  | 47, _ => gd (hcw6_6 _ (List.mem_of_getElem? (i := 15) rfl)) rfl
  | 48, _ => gd (hcw6_6 _ (List.mem_of_getElem? (i := 17) rfl)) rfl
  | 49, _ => gd (hcw6_6 _ (List.mem_of_getElem? (i := 19) rfl)) rfl
  | 50, _ => gd (hcw6_7 _ (List.mem_of_getElem? (i := 1) rfl)) rfl
  | 51, _ => gd (hcw6_7 _ (List.mem_of_getElem? (i := 3) rfl)) rfl
  | 52, _ => gd (hcw6_7 _ (List.mem_of_getElem? (i := 5) rfl)) rfl
  | 53, _ => gd (hcw6_7 _ (List.mem_of_getElem? (i := 7) rfl)) rfl
  | 54, _ => gd (hcw6_7 _ (List.mem_of_getElem? (i := 9) rfl)) rfl
  | 55, _ => gd (hcw6_7 _ (List.mem_of_getElem? (i := 11) rfl)) rfl
  | 56, _ => gd (hcw6_7 _ (List.mem_of_getElem? (i := 13) rfl)) rfl
  | 57, _ => gd (hcw6_7 _ (List.mem_of_getElem? (i := 15) rfl)) rfl
  | 58, _ => gd (hcw6_7 _ (List.mem_of_getElem? (i := 17) rfl)) rfl
  | 59, _ => gd (hcw6_7 _ (List.mem_of_getElem? (i := 19) rfl)) rfl
  | 60, _ => gd (hcw6_8 _ (List.mem_of_getElem? (i := 1) rfl)) rfl
  | 61, _ => gd (hcw6_8 _ (List.mem_of_getElem? (i := 3) rfl)) rfl
  | 62, _ => gd (hcw6_8 _ (List.mem_of_getElem? (i := 5) rfl)) rfl
  | 63, _ => gd (hcw6_8 _ (List.mem_of_getElem? (i := 7) rfl)) rfl
  | 64, _ => gd (hcw6_8 _ (List.mem_of_getElem? (i := 9) rfl)) rfl
  | 65, _ => gd (hcw6_8 _ (List.mem_of_getElem? (i := 11) rfl)) rfl
  | 66, _ => gd (hcw6_8 _ (List.mem_of_getElem? (i := 13) rfl)) rfl
  | 67, _ => gd (hcw6_8 _ (List.mem_of_getElem? (i := 15) rfl)) rfl
  | 68, _ => gd (hcw6_8 _ (List.mem_of_getElem? (i := 17) rfl)) rfl
  | 69, _ => gd (hcw6_8 _ (List.mem_of_getElem? (i := 19) rfl)) rfl
  | 70, _ => gd (hcw6_9 _ (List.mem_of_getElem? (i := 1) rfl)) rfl
  | 71, _ => gd (hcw6_9 _ (List.mem_of_getElem? (i := 3) rfl)) rfl
  | 72, _ => gd (hcw6_9 _ (List.mem_of_getElem? (i := 5) rfl)) rfl
  | 73, _ => gd (hcw6_9 _ (List.mem_of_getElem? (i := 7) rfl)) rfl
  | 74, _ => gd (hcw6_9 _ (List.mem_of_getElem? (i := 9) rfl)) rfl
  | 75, _ => gd (hcw6_9 _ (List.mem_of_getElem? (i := 11) rfl)) rfl
  | 76, _ => gd (hcw6_9 _ (List.mem_of_getElem? (i := 13) rfl)) rfl
  | 77, _ => gd (hcw6_9 _ (List.mem_of_getElem? (i := 15) rfl)) rfl
  | 78, _ => gd (hcw6_9 _ (List.mem_of_getElem? (i := 17) rfl)) rfl
  | 79, _ => gd (hcw6_9 _ (List.mem_of_getElem? (i := 19) rfl)) rfl
  | 80, _ => gd (hcw6_10 _ (List.mem_of_getElem? (i := 1) rfl)) rfl
  | 81, _ => gd (hcw6_10 _ (List.mem_of_getElem? (i := 3) rfl)) rfl
  | 82, _ => gd (hcw6_10 _ (List.mem_of_getElem? (i := 5) rfl)) rfl
  | 83, _ => gd (hcw6_10 _ (List.mem_of_getElem? (i := 7) rfl)) rfl
  | 84, _ => gd (hcw6_10 _ (List.mem_of_getElem? (i := 9) rfl)) rfl
  | 85, _ => gd (hcw6_10 _ (List.mem_of_getElem? (i := 11) rfl)) rfl
  | _ + 86, h => absurd h (by omega))
theorem inC : ∀ ci, ci < 13 → ∀ w ∈ u_ws (nmC ci) (trC ci) (szC ci), w ∈ lw_gd := fun ci h => match ci, h with
  | 0, _ => inw0
  | 1, _ => inw1
  | 2, _ => inw2
  | 3, _ => inw3
  | 4, _ => inw4
  | 5, _ => inw5
  | 6, _ => inw6
  | 7, _ => inw7
  | 8, _ => inw8
  | 9, _ => inw9
  | 10, _ => inw10
  | 11, _ => inw11
  | 12, _ => inw12
  | _ + 13, h => absurd h (by omega)
theorem tyOk : ∀ ci, ci < 13 → ∀ k, k < szC ci → parseFieldDescriptor (trC ci k).2.2.1 = some (tyC ci k) := fun ci h => match ci, h with
  | 0, _ => tyX0_ok
  | 1, _ => tyX1_ok
  | 2, _ => tyX2_ok
  | 3, _ => tyX3_ok
  | 4, _ => tyX4_ok
  | 5, _ => tyX5_ok
  | 6, _ => tyX6_ok
  | 7, _ => tyX7_ok
  | 8, _ => tyX8_ok
  | 9, _ => tyX9_ok
  | 10, _ => tyX10_ok
  | 11, _ => tyX11_ok
  | 12, _ => tyX12_ok
  | _ + 13, h => absurd h (by omega)
theorem nmOk : ∀ ci, ci < 13 → ∀ a, a < szC ci → ∀ b, b < szC ci → a ≠ b → (trC ci a).2.1 ≠ (trC ci b).2.1 := fun ci h => match ci, h with
  | 0, _ => nmX0
  | 1, _ => nmX1
  | 2, _ => nmX2
  | 3, _ => nmX3
  | 4, _ => nmX4
  | 5, _ => nmX5
  | 6, _ => nmX6
  | 7, _ => nmX7
  | 8, _ => nmX8
  | 9, _ => nmX9
  | 10, _ => nmX10
  | 11, _ => nmX11
  | 12, _ => nmX12
  | _ + 13, h => absurd h (by omega)
def isRf (ty : FieldType) : Bool := match ty with
  | .object _ => true
  | .array _ => true
  | _ => false
def isJ (ty : FieldType) : Bool := match ty with
  | .long => true
  | _ => false
/-- what a field holds -/
def fv (B : BB) (M : Mem) (a k : Nat) (ty : FieldType) : Value := if isRf ty then rv B (rR M a k) else if isJ ty then .long (rJ M a k) else .int (rI M a k)
/-- a cell: tags 1 to 13 objects of the classes 0 to 12; 100 to 102 arrays of int, boolean, byte; 110 on arrays of references -/
def ent (cA : Nat → ClassId) (B : BB) (M : Mem) (a t n : Nat) : va_E :=
  if t < 100 then .inr (t - 1, (List.range n).map (fun k => fv B M a k (tyC (t - 1) k)))
  else if t < 110 then .inl (cA t, n, .inl (rI M a))
  else .inl (cA t, n, .inr (.inr (.inr (.inr (fun j => rn B (rR M a j))))))
def allW (cA : Nat → ClassId) (B : BB) (Z : Shp) (M : Mem) : va_W := Z.mapIdx (fun k q => (B.2 + k, ent cA B M (k + 2) q.1 q.2))
theorem allW_at (cA : Nat → ClassId) (B : BB) (Z : Shp) (M : Mem) (k : Nat) : (allW cA B Z M)[k]? = (Z[k]?).map (fun q => (B.2 + k, ent cA B M (k + 2) q.1 q.2)) := by
  unfold allW
  rw [List.getElem?_mapIdx]
theorem allW_len (cA : Nat → ClassId) (B : BB) (Z : Shp) (M : Mem) : (allW cA B Z M).length = Z.length := by
  unfold allW
  rw [List.length_mapIdx]
theorem allW_D (cA : Nat → ClassId) (B : BB) (Z : Shp) (M : Mem) : va_D (fun q => B.2 ≤ q) (allW cA B Z M) := by
  refine ⟨fun i j p q hi hj h => ?_, fun k q hk => ?_⟩
  · rw [allW_at] at hi hj
    obtain ⟨x, -, rfl⟩ := Option.map_eq_some_iff.mp hi
    obtain ⟨y, -, rfl⟩ := Option.map_eq_some_iff.mp hj
    dsimp only at h
    omega
  · rw [allW_at] at hk
    obtain ⟨x, -, rfl⟩ := Option.map_eq_some_iff.mp hk
    dsimp only
    omega
theorem tg_some {Z : Shp} {a t n : Nat} (h : tg Z a = (t, n)) (ht : 0 < t) : ∃ k, a = k + 2 ∧ Z[k]? = some (t, n) := by
  match a, h with
  | 0, h => rw [tg] at h; cases h; exact absurd ht (Nat.lt_irrefl 0)
            intro k hk; cases hk
  | 1, h => rw [tg] at h; cases h; exact absurd ht (Nat.lt_irrefl 0)
            intro k hk; cases hk
  | k + 2, h =>
    refine ⟨k, rfl, ?_⟩
    have h1 : Z.getD k (0, 0) = (t, n) := h
    rw [List.getD_eq_getElem?_getD] at h1
    cases hz : Z[k]? with
    | none => rw [hz] at h1; cases h1; exact absurd ht (Nat.lt_irrefl 0)
    | some q => rw [hz] at h1; exact congrArg some h1
/-- one cell anew, the others as they were -/
theorem allW_set {cA : Nat → ClassId} {B : BB} {Z : Shp} {M M' : Mem} {k t n : Nat} (hk : Z[k]? = some (t, n)) {e : va_E} (he : e = ent cA B M' (k + 2) t n) (ho : ∀ j t' n', j ≠ k → Z[j]? = some (t', n') → ent cA B M (j + 2) t' n' = ent cA B M' (j + 2) t' n') :
    (allW cA B Z M).set k (B.2 + k, e) = allW cA B Z M' := by
  apply List.ext_getElem?
  intro j
  have hl : k < (allW cA B Z M).length := by
    have h1 : k < Z.length := (List.getElem?_eq_some_iff.mp hk).1
    unfold allW
    rw [List.length_mapIdx]
    exact h1
  by_cases hj : j = k
  · subst hj
    rw [List.getElem?_set_self hl, allW_at, hk, he]
    rfl
  · rw [List.getElem?_set_ne (Ne.symm hj), allW_at, allW_at]
    cases hz : Z[j]? with
    | none => rfl
    | some q => simp only [Option.map_some]; rw [ho j q.1 q.2 hj (by rw [hz])]
theorem ent_wI {cA : Nat → ClassId} {B : BB} {M : Mem} {a k : Nat} {v : Int32} {a' t n : Nat} (h : a' ≠ a) : ent cA B M a' t n = ent cA B (wI M a k v) a' t n := by
  have h1 : ∀ j, rI (wI M a k v) a' j = rI M a' j := fun j => by rw [rI_wI, if_neg (fun q => h q.1)]
  have h2 : rI (wI M a k v) a' = rI M a' := funext h1
  unfold ent fv
  simp only [h2, rJ_wI, rR_wI]
theorem ent_wJ {cA : Nat → ClassId} {B : BB} {M : Mem} {a k : Nat} {v : Int64} {a' t n : Nat} (h : a' ≠ a) : ent cA B M a' t n = ent cA B (wJ M a k v) a' t n := by
  have h1 : ∀ j, rJ (wJ M a k v) a' j = rJ M a' j := fun j => by rw [rJ_wJ, if_neg (fun q => h q.1)]
  have h2 : rI (wJ M a k v) a' = rI M a' := rfl
  unfold ent fv
  simp only [h1, h2, rR_wJ]
theorem ent_wR {cA : Nat → ClassId} {B : BB} {M : Mem} {a k v a' t n : Nat} (h : a' ≠ a) : ent cA B M a' t n = ent cA B (wR M a k v) a' t n := by
  have h1 : ∀ j, rR (wR M a k v) a' j = rR M a' j := fun j => by rw [rR_wR, if_neg (fun q => h q.1)]
  have h2 : rI (wR M a k v) a' = rI M a' := rfl
  unfold ent fv
  simp only [h1, h2, rJ_wR]
/-- the array classes -/
abbrev tysOf (cA : Nat → ClassId) : List (ClassId × FieldType) := [(cA 100, .int), (cA 101, .boolean), (cA 102, .byte), (cA 110, .object "CanalCompany$Pound"), (cA 111, .object "CanalCompany$Lock"), (cA 112, .object "CanalCompany$Taker"), (cA 113, .object "CanalCompany$Boat"), (cA 114, .object "CanalCompany$Text")]
def Rel (D : va_G) (cA : Nat → ClassId) (B : BB) (Z : Shp) (M : Mem) (H : Heap) : Prop := H.size = B.2 + Z.length ∧ va_P D vwCl (allW cA B Z M) H
abbrev KK (D : va_G) (cA : Nat → ClassId) (U : State) : Prop := va_K D vwCl (tysOf cA) U ∧ ∀ w ∈ lw_bad, va_Nw w U
theorem bad_mv {s U : State} {w : Cond} (hw : wBad w = true) (hW : s.WarmedH U.vm) (h : va_Nw w s) : va_Nw w U := by
  cases w with
  | methodLinkNest a i x h0 => exact va_Nw.warmM hW h
  | arrayOver t => cases t with
    | object C => exact va_AO.moved hW.alike h
    | _ => exact absurd (show false = true from hw) (by decide)
  | castable a b => exact va_Nw.warmC hW h
  | _ => exact absurd (show false = true from hw) (by decide)
theorem bad_same {s U : State} {w : Cond} (hw : wBad w = true) (hv : s.vm = U.vm) (h : va_Nw w s) : va_Nw w U := by
  cases w with
  | methodLinkNest a i x h0 => exact va_Nw.same rfl hv h
  | arrayOver t => cases t with
    | object C => exact va_AO.moved (by rw [hv]; exact Vm.Alike.refl U.vm) h
    | _ => exact absurd (show false = true from hw) (by decide)
  | castable a b => exact va_Nw.same rfl hv h
  | _ => exact absurd (show false = true from hw) (by decide)
theorem bad_of {s : State} {A : Array Value} {w : Cond} (hw : wBad w = true) (h : w.before A s = true) : va_Nw w s := by
  cases w with
  | methodLinkNest a i x h0 => exact va_Nw.of rfl h
  | arrayOver t => cases t with
    | object C => exact va_AO.of h
    | _ => exact absurd (show false = true from hw) (by decide)
  | castable a b => exact va_Nw.of rfl h
  | _ => exact absurd (show false = true from hw) (by decide)
theorem KK.mv {D : va_G} {cA : Nat → ClassId} {s U : State} (hW : s.WarmedH U.vm) (h : KK D cA s) : KK D cA U := ⟨va_K.moved hW.alike h.1, fun w hw => bad_mv (List.mem_filter.mp hw).2 hW (h.2 w hw)⟩
theorem KK.same {D : va_G} {cA : Nat → ClassId} {s U : State} (hv : s.vm = U.vm) (h : KK D cA s) : KK D cA U := ⟨va_K.moved (by rw [hv]; exact Vm.Alike.refl U.vm) h.1, fun w hw => bad_same (List.mem_filter.mp hw).2 hv (h.2 w hw)⟩
/-- a method: name, bytes, locals, answer, frames, locals' room, cells, slots -/
abbrev MD : Type := MethodName × ByteArray × Nat × Option FieldType × Nat × Nat × Nat × Nat
abbrev yN (Y : MD) : MethodName := Y.1
abbrev yC (Y : MD) : ByteArray := Y.2.1
abbrev yL (Y : MD) : Nat := Y.2.2.1
abbrev yR (Y : MD) : Option FieldType := Y.2.2.2.1
abbrev yF (Y : MD) : Nat := Y.2.2.2.2.1
abbrev yO (Y : MD) : Nat := Y.2.2.2.2.2.1
abbrev yK (Y : MD) : Nat := Y.2.2.2.2.2.2.1
abbrev yS (Y : MD) : Nat := Y.2.2.2.2.2.2.2
abbrev yM (Y : MD) : Room := { frames := yF Y, cells := yK Y, slots := yS Y, locals := yO Y }
/-- what a method leaves: its answer, the shape, the memory -/
abbrev Res : Type := Option AV × Shp × Mem
/-- the walk's setting: p l e s m args below meth c D cA B Q -/
abbrev DX : Type := Program × Launch × Env × State × MethodId × Array Value × List Frame × Method × Code × va_G × (Nat → ClassId) × BB × (Res → State → Prop)
def Cx (Y : MD) (X : DX) : Prop := match X with
  | (p, _, _, s, m, args, _, meth, c, D, cA, B, _) => CallFix p m c (yC Y) (yL Y) s args lw_gd (yN Y).cls ∧ KK D cA s ∧ B.2 ≤ s.heap.size ∧ meth.locks = false ∧ meth.sig.returnType = yR Y ∧ ((yN Y).name = "<init>" → meth.name = "<init>")
/-- the machine, at pc with the locals L and the stack st over the memory M, does what the program says -/
def Ref (Y : MD) (X : DX) (k n : Nat) (Z : Shp) (M : Mem) (pc : Nat) (L : List (Nat × AV)) (st : List AV) (P : Option Res) : Prop := match X with
  | (p, l, e, s, m, args, below, meth, c, D, cA, B, Q) => ∀ y, P = some y → ∀ (H : Heap) (locs : List Loc) (ls : Array Slot), Rel D cA B Z M H → va_S (fun q => B.2 ≤ q) s.heap H locs → lv_has ls (yL Y) (L.map (ev2 B)) →
    W p l e (yM Y) s m args below meth c H locs k n (Q y) (F0 m pc ls (st.map (ev B)))
/-- the end of an ordinary method -/
def QM (D : va_G) (cA : Nat → ClassId) (B : BB) (y : Res) : Array Value → State → Outcome → State → Prop := fun _ st o t =>
  o = .returned (y.1.map (ev B)) ∧ Rel D cA B y.2.1 y.2.2 t.heap ∧ va_F (fun q => B.2 ≤ q) st t
def Cm (Y : MD) (X : DX) : Prop := Cx Y X ∧ match X with
  | (_, _, _, s, _, args, below, _, _, D, cA, B, Q) => ∀ y, Q y = MQ below (QM D cA B y) args s (yK Y) (yS Y) (fun q => B.2 ≤ q)
/-- a method's contract: from these arguments and this memory it comes to that -/
def Ct (l : Launch) (Y : MD) (As : List AV) (Z : Shp) (M : Mem) (y : Res) : Prop := ∀ (D : va_G) (cA : Nat → ClassId) (B : BB),
  Met l (yN Y) (.code (yN Y) (yC Y) (yL Y) (yR Y) :: lw_gd) (yM Y) (va_Pc (As.map (ev B)) (fun U => Rel D cA B Z M U.heap ∧ KK D cA U)) (QM D cA B y) (yK Y) (yS Y) (fun q => B.2 ≤ q)
def pu {α β : Type} (x : α) (f : α → β) : β := f x
