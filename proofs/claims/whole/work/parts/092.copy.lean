/-! Arrays.copyOf of bytes -/
/-- the first n places of a into b -/
def cpB (M : Mem) (a b n : Nat) : Mem := (fun a' k' => if a' = b ∧ k' < n then M.1 a k' else M.1 a' k', M.2)
theorem rI_cpB (M : Mem) (a b n a' k' : Nat) : rI (cpB M a b n) a' k' = if a' = b ∧ k' < n then rI M a k' else rI M a' k' := rfl
theorem rJ_cpB (M : Mem) (a b n a' k' : Nat) : rJ (cpB M a b n) a' k' = rJ M a' k' := rfl
theorem rR_cpB (M : Mem) (a b n a' k' : Nat) : rR (cpB M a b n) a' k' = rR M a' k' := rfl
def fJ7_copyOf_9075b (Z : Shp) (M : Mem) (a0 : Nat) (x1 : Int32) : Option (Nat × Shp × Mem) := if ((tg Z a0).1 = 102 ∧ (tg Z a0).2 ≤ 60) ∧ ¬ x1 < 0 ∧ ix x1 ≤ (tg Z a0).2 then some (Z.length + 2, Z ++ [(102, ix x1)], cpB (nw M (Z.length + 2)) a0 (Z.length + 2) (ix x1)) else none
def mJ7_copyOf_9075b : MD := (yJ7_copyOf_9075b, cJ7_copyOf_9075b, 3, (some (.array .byte)), 1, 60, 1, 60)
theorem ccJ7_copyOf_9075b : Cc mJ7_copyOf_9075b 2 := ⟨gd (hcw1_0 _ (List.mem_of_getElem? (i := 15) rfl)) rfl, gd (hcw3_10 _ (List.mem_of_getElem? (i := 7) rfl)) rfl, by decide +kernel, by decide +kernel, by decide +kernel⟩
theorem stJ7_copyOf_9075b : Cond.static (yN mJ7_copyOf_9075b) ∈ lw_gd := gd (hcw3_10 _ (List.mem_of_getElem? (i := 6) rfl)) rfl
theorem kJ7_copyOf_9075b (l : Launch) (Z : Shp) (M : Mem) (a0 : Nat) (x1 : Int32) (r : Nat × Shp × Mem) (h : fJ7_copyOf_9075b Z M a0 x1 = some r) : Ct l mJ7_copyOf_9075b [vr a0, vi x1] Z M (some (vr r.1), r.2.1, r.2.2) := sorry
