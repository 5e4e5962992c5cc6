/-! abstract values, memory, shape; what the heap holds -/
abbrev AV : Type := Int32 ⊕ Int64 ⊕ Nat
abbrev vi (x : Int32) : AV := Sum.inl x
abbrev vj (x : Int64) : AV := Sum.inr (Sum.inl x)
abbrev vr (a : Nat) : AV := Sum.inr (Sum.inr a)
abbrev BB : Type := Nat × Nat
/-- an address by its number: 0 null, 1 the script, then the cells made, in their order -/
def rv (B : BB) (a : Nat) : Value := match a with
  | 0 => .null
  | 1 => .ref B.1
  | k + 2 => .ref (B.2 + k)
def rn (B : BB) (a : Nat) : Option Nat := match a with
  | 0 => none
  | 1 => some B.1
  | k + 2 => some (B.2 + k)
def ev (B : BB) (v : AV) : Value := match v with
  | .inl x => .int x
  | .inr (.inl x) => .long x
  | .inr (.inr a) => rv B a
def ct (v : AV) : Nat := match v with
  | .inr (.inl _) => 2
  | _ => 1
def ev2 (B : BB) (q : Nat × AV) : Nat × Value := (q.1, ev B q.2)
theorem rv_rn (B : BB) (a : Nat) : va_rf (rn B a) = rv B a := match a with
  | 0 => rfl
  | 1 => rfl
  | _ + 2 => rfl
theorem rv_or (B : BB) (a : Nat) : rv B a = .null ∨ ∃ q, rv B a = .ref q := match a with
  | 0 => Or.inl rfl
  | 1 => Or.inr ⟨_, rfl⟩
  | _ + 2 => Or.inr ⟨_, rfl⟩
theorem rv_pos (B : BB) {a : Nat} (h : ¬ a = 0) : ∃ q, rv B a = .ref q := match a, h with
  | 0, h => absurd rfl h
  | 1, _ => ⟨_, rfl⟩
  | _ + 2, _ => ⟨_, rfl⟩
theorem ev_cat (B : BB) (v : AV) : (ev B v).category = ct v := by
  rcases v with x | x | a
  · rfl
  · rfl
  · match a with
    | 0 => rfl
    | 1 => rfl
    | _ + 2 => rfl
abbrev Mem : Type := (Nat → Nat → Int32) × (Nat → Nat → Int64) × (Nat → Nat → Nat)
def rI (M : Mem) (a k : Nat) : Int32 := M.1 a k
def rJ (M : Mem) (a k : Nat) : Int64 := M.2.1 a k
def rR (M : Mem) (a k : Nat) : Nat := M.2.2 a k
def wI (M : Mem) (a k : Nat) (v : Int32) : Mem := (fun a' k' => if a' = a ∧ k' = k then v else M.1 a' k', M.2)
def wJ (M : Mem) (a k : Nat) (v : Int64) : Mem := (M.1, fun a' k' => if a' = a ∧ k' = k then v else M.2.1 a' k', M.2.2)
def wR (M : Mem) (a k : Nat) (v : Nat) : Mem := (M.1, M.2.1, fun a' k' => if a' = a ∧ k' = k then v else M.2.2 a' k')
theorem rI_wI (M : Mem) (a k : Nat) (v : Int32) (a' k' : Nat) : rI (wI M a k v) a' k' = if a' = a ∧ k' = k then v else rI M a' k' := rfl
theorem rJ_wI (M : Mem) (a k : Nat) (v : Int32) (a' k' : Nat) : rJ (wI M a k v) a' k' = rJ M a' k' := rfl
theorem rR_wI (M : Mem) (a k : Nat) (v : Int32) (a' k' : Nat) : rR (wI M a k v) a' k' = rR M a' k' := rfl
theorem rI_wJ (M : Mem) (a k : Nat) (v : Int64) (a' k' : Nat) : rI (wJ M a k v) a' k' = rI M a' k' := rfl
theorem rJ_wJ (M : Mem) (a k : Nat) (v : Int64) (a' k' : Nat) : rJ (wJ M a k v) a' k' = if a' = a ∧ k' = k then v else rJ M a' k' := rfl
theorem rR_wJ (M : Mem) (a k : Nat) (v : Int64) (a' k' : Nat) : rR (wJ M a k v) a' k' = rR M a' k' := rfl
theorem rI_wR (M : Mem) (a k v a' k' : Nat) : rI (wR M a k v) a' k' = rI M a' k' := rfl
theorem rJ_wR (M : Mem) (a k v a' k' : Nat) : rJ (wR M a k v) a' k' = rJ M a' k' := rfl
theorem rR_wR (M : Mem) (a k v a' k' : Nat) : rR (wR M a k v) a' k' = if a' = a ∧ k' = k then v else rR M a' k' := rfl
abbrev Shp : Type := List (Nat × Nat)
/-- tag and length of a cell by its number -/
def tg (Z : Shp) (a : Nat) : Nat × Nat := match a with
  | k + 2 => Z.getD k (0, 0)
  | _ => (0, 0)
/-- field types by class number -/
def tyC (ci : Nat) : Nat → FieldType := match ci with
  | 0 => tyX0
  | 1 => tyX1
  | 2 => tyX2
  | 3 => tyX3
  | 4 => tyX4
  | 5 => tyX5
  | 6 => tyX6
  | 7 => tyX7
  | 8 => tyX8
  | 9 => tyX9
  | 10 => tyX10
  | 11 => tyX11
  | _ => tyX12
def trC (ci : Nat) : u_T := match ci with
  | 0 => TX0
  | 1 => TX1
  | 2 => TX2
  | 3 => TX3
  | 4 => TX4
  | 5 => TX5
  | 6 => TX6
  | 7 => TX7
  | 8 => TX8
  | 9 => TX9
  | 10 => TX10
  | 11 => TX11
  | _ => TX12
def nmC (ci : Nat) : String := match ci with
  | 0 => RX0
  | 1 => RX1
  | 2 => RX2
  | 3 => RX3
  | 4 => RX4
  | 5 => RX5
  | 6 => RX6
  | 7 => RX7
  | 8 => RX8
  | 9 => RX9
  | 10 => RX10
  | 11 => RX11
  | _ => RX12
def szC (ci : Nat) : Nat := match ci with
  | 0 => 9
  | 1 => 10
  | 2 => 4
  | 3 => 11
  | 4 => 7
  | 5 => 9
  | 6 => 3
  | 7 => 5
  | 8 => 6
  | 9 => 10
  | 10 => 4
  | 11 => 6
  | _ => 86
theorem vw_at : ∀ ci, ci < 13 → vwCl[ci]? = some (nmC ci, trC ci, szC ci) := fun ci h => match ci, h with
  | 0, _ => rfl
  | 1, _ => rfl
  | 2, _ => rfl
  | 3, _ => rfl
  | 4, _ => rfl
  | 5, _ => rfl
  | 6, _ => rfl
  | 7, _ => rfl
  | 8, _ => rfl
  | 9, _ => rfl
  | 10, _ => rfl
  | 11, _ => rfl
  | 12, _ => rfl
  | _ + 13, h => absurd h (by omega)
theorem inw0 : ∀ w ∈ u_ws RX0 TX0 9, w ∈ lw_tbl := by decide +kernel
theorem inw1 : ∀ w ∈ u_ws RX1 TX1 10, w ∈ lw_tbl := by decide +kernel
theorem inw2 : ∀ w ∈ u_ws RX2 TX2 4, w ∈ lw_tbl := by decide +kernel
theorem inw3 : ∀ w ∈ u_ws RX3 TX3 11, w ∈ lw_tbl := by decide +kernel
theorem inw4 : ∀ w ∈ u_ws RX4 TX4 7, w ∈ lw_tbl := by decide +kernel
theorem inw5 : ∀ w ∈ u_ws RX5 TX5 9, w ∈ lw_tbl := by decide +kernel
theorem inw6 : ∀ w ∈ u_ws RX6 TX6 3, w ∈ lw_tbl := by decide +kernel
theorem inw7 : ∀ w ∈ u_ws RX7 TX7 5, w ∈ lw_tbl := by decide +kernel
theorem inw8 : ∀ w ∈ u_ws RX8 TX8 6, w ∈ lw_tbl := by decide +kernel
theorem inw9 : ∀ w ∈ u_ws RX9 TX9 10, w ∈ lw_tbl := by decide +kernel
theorem inw10 : ∀ w ∈ u_ws RX10 TX10 4, w ∈ lw_tbl := by decide +kernel
theorem inw11 : ∀ w ∈ u_ws RX11 TX11 6, w ∈ lw_tbl := by decide +kernel
theorem inw12 : ∀ w ∈ u_ws RX12 TX12 86, w ∈ lw_tbl := by decide +kernel
theorem inC : ∀ ci, ci < 13 → ∀ w ∈ u_ws (nmC ci) (trC ci) (szC ci), w ∈ lw_tbl := fun ci h => match ci, h with
  | 0, _ => inw0
  | 1, _ => inw1
  | 2, _ => inw2
  | 3, _ => inw3
  | 4, _ => inw4
  | 5, _ => inw5
  | 6, _ => inw6
  | 7, _ => inw7
  | 8, _ => inw8
  | 9, _ => inw9
  | 10, _ => inw10
  | 11, _ => inw11
  | 12, _ => inw12
  | _ + 13, h => absurd h (by omega)
theorem tyOk : ∀ ci, ci < 13 → ∀ k, k < szC ci → parseFieldDescriptor (trC ci k).2.2.1 = some (tyC ci k) := fun ci h => match ci, h with
  | 0, _ => tyX0_ok
  | 1, _ => tyX1_ok
  | 2, _ => tyX2_ok
  | 3, _ => tyX3_ok
  | 4, _ => tyX4_ok
  | 5, _ => tyX5_ok
  | 6, _ => tyX6_ok
  | 7, _ => tyX7_ok
  | 8, _ => tyX8_ok
  | 9, _ => tyX9_ok
  | 10, _ => tyX10_ok
  | 11, _ => tyX11_ok
  | 12, _ => tyX12_ok
  | _ + 13, h => absurd h (by omega)
theorem nmOk : ∀ ci, ci < 13 → ∀ a, a < szC ci → ∀ b, b < szC ci → a ≠ b → (trC ci a).2.1 ≠ (trC ci b).2.1 := fun ci h => match ci, h with
  | 0, _ => nmX0
  | 1, _ => nmX1
  | 2, _ => nmX2
  | 3, _ => nmX3
  | 4, _ => nmX4
  | 5, _ => nmX5
  | 6, _ => nmX6
  | 7, _ => nmX7
  | 8, _ => nmX8
  | 9, _ => nmX9
  | 10, _ => nmX10
  | 11, _ => nmX11
  | 12, _ => nmX12
  | _ + 13, h => absurd h (by omega)
def isRf (ty : FieldType) : Bool := match ty with
  | .object _ => true
  | .array _ => true
  | _ => false
def isJ (ty : FieldType) : Bool := match ty with
  | .long => true
  | _ => false
/-- what a field holds -/
def fv (B : BB) (M : Mem) (a k : Nat) (ty : FieldType) : Value := if isRf ty then rv B (rR M a k) else if isJ ty then .long (rJ M a k) else .int (rI M a k)
/-- a cell: tags 1 to 13 objects of the classes 0 to 12; 100 to 102 arrays of int, boolean, byte; 110 on arrays of references -/
def ent (cA : Nat → ClassId) (B : BB) (M : Mem) (a t n : Nat) : va_E :=
  if t < 100 then .inr (t - 1, (List.range n).map (fun k => fv B M a k (tyC (t - 1) k)))
  else if t < 110 then .inl (cA t, n, .inl (rI M a))
  else .inl (cA t, n, .inr (.inr (.inr (.inr (fun j => rn B (rR M a j))))))
def allW (cA : Nat → ClassId) (B : BB) (Z : Shp) (M : Mem) : va_W := Z.mapIdx (fun k q => (B.2 + k, ent cA B M (k + 2) q.1 q.2))
theorem allW_at (cA : Nat → ClassId) (B : BB) (Z : Shp) (M : Mem) (k : Nat) : (allW cA B Z M)[k]? = (Z[k]?).map (fun q => (B.2 + k, ent cA B M (k + 2) q.1 q.2)) := by
  unfold allW
  rw [List.getElem?_mapIdx]
theorem allW_len (cA : Nat → ClassId) (B : BB) (Z : Shp) (M : Mem) : (allW cA B Z M).length = Z.length := by
  unfold allW
  rw [List.length_mapIdx]
theorem allW_D (cA : Nat → ClassId) (B : BB) (Z : Shp) (M : Mem) : va_D (fun q => B.2 ≤ q) (allW cA B Z M) := by
  refine ⟨fun i j p q hi hj h => ?_, fun k q hk => ?_⟩
  · rw [allW_at] at hi hj
    obtain ⟨x, -, rfl⟩ := Option.map_eq_some_iff.mp hi
    obtain ⟨y, -, rfl⟩ := Option.map_eq_some_iff.mp hj
    dsimp only at h
    omega
  · rw [allW_at] at hk
    obtain ⟨x, -, rfl⟩ := Option.map_eq_some_iff.mp hk
    dsimp only
    omega
theorem tg_some {Z : Shp} {a t n : Nat} (h : tg Z a = (t, n)) (ht : 0 < t) : ∃ k, a = k + 2 ∧ Z[k]? = some (t, n) := by
  match a, h with
  | 0, h => rw [tg] at h; cases h; exact absurd ht (Nat.lt_irrefl 0)
            intro k hk; cases hk
  | 1, h => rw [tg] at h; cases h; exact absurd ht (Nat.lt_irrefl 0)
            intro k hk; cases hk
  | k + 2, h =>
    refine ⟨k, rfl, ?_⟩
    have h1 : Z.getD k (0, 0) = (t, n) := h
    rw [List.getD_eq_getElem?_getD] at h1
    cases hz : Z[k]? with
    | none => rw [hz] at h1; cases h1; exact absurd ht (Nat.lt_irrefl 0)
    | some q => rw [hz] at h1; exact congrArg some h1
/-- one cell anew, the others as they were -/
theorem allW_set {cA : Nat → ClassId} {B : BB} {Z : Shp} {M M' : Mem} {k t n : Nat} (hk : Z[k]? = some (t, n)) {e : va_E} (he : e = ent cA B M' (k + 2) t n) (ho : ∀ j t' n', j ≠ k → Z[j]? = some (t', n') → ent cA B M (j + 2) t' n' = ent cA B M' (j + 2) t' n') :
    (allW cA B Z M).set k (B.2 + k, e) = allW cA B Z M' := by
  apply List.ext_getElem?
  intro j
  have hl : k < (allW cA B Z M).length := by
    have h1 : k < Z.length := (List.getElem?_eq_some_iff.mp hk).1
    unfold allW
    rw [List.length_mapIdx]
    exact h1
  by_cases hj : j = k
  · subst hj
    rw [List.getElem?_set_self hl, allW_at, hk, he]
    rfl
  · rw [List.getElem?_set_ne (Ne.symm hj), allW_at, allW_at]
    cases hz : Z[j]? with
    | none => rfl
    | some q => simp only [Option.map_some]; rw [ho j q.1 q.2 hj (by rw [hz])]
theorem ent_wI {cA : Nat → ClassId} {B : BB} {M : Mem} {a k : Nat} {v : Int32} {a' t n : Nat} (h : a' ≠ a) : ent cA B M a' t n = ent cA B (wI M a k v) a' t n := by
  have h1 : ∀ j, rI (wI M a k v) a' j = rI M a' j := fun j => by rw [rI_wI, if_neg (fun q => h q.1)]
  have h2 : rI (wI M a k v) a' = rI M a' := funext h1
  unfold ent fv
  simp only [h2, rJ_wI, rR_wI]
theorem ent_wJ {cA : Nat → ClassId} {B : BB} {M : Mem} {a k : Nat} {v : Int64} {a' t n : Nat} (h : a' ≠ a) : ent cA B M a' t n = ent cA B (wJ M a k v) a' t n := by
  have h1 : ∀ j, rJ (wJ M a k v) a' j = rJ M a' j := fun j => by rw [rJ_wJ, if_neg (fun q => h q.1)]
  have h2 : rI (wJ M a k v) a' = rI M a' := rfl
  unfold ent fv
  simp only [h1, h2, rR_wJ]
theorem ent_wR {cA : Nat → ClassId} {B : BB} {M : Mem} {a k v a' t n : Nat} (h : a' ≠ a) : ent cA B M a' t n = ent cA B (wR M a k v) a' t n := by
  have h1 : ∀ j, rR (wR M a k v) a' j = rR M a' j := fun j => by rw [rR_wR, if_neg (fun q => h q.1)]
  have h2 : rI (wR M a k v) a' = rI M a' := rfl
  unfold ent fv
  simp only [h1, h2, rJ_wR]
/-- the array classes -/
abbrev tysOf (cA : Nat → ClassId) : List (ClassId × FieldType) := [(cA 100, .int), (cA 101, .boolean), (cA 102, .byte), (cA 110, .object "CanalCompany$Pound"), (cA 111, .object "CanalCompany$Lock"), (cA 112, .object "CanalCompany$Taker"), (cA 113, .object "CanalCompany$Boat"), (cA 114, .object "CanalCompany$Text")]
def Rel (D : va_G) (cA : Nat → ClassId) (B : BB) (Z : Shp) (M : Mem) (H : Heap) : Prop := H.size = B.2 + Z.length ∧ va_P D vwCl (allW cA B Z M) H
abbrev KK (D : va_G) (cA : Nat → ClassId) (U : State) : Prop := va_K D vwCl (tysOf cA) U
/-- a method: name, bytes, locals, answer, frames, locals' room, cells, slots -/
abbrev MD : Type := MethodName × ByteArray × Nat × Option FieldType × Nat × Nat × Nat × Nat
abbrev yN (Y : MD) : MethodName := Y.1
abbrev yC (Y : MD) : ByteArray := Y.2.1
abbrev yL (Y : MD) : Nat := Y.2.2.1
abbrev yR (Y : MD) : Option FieldType := Y.2.2.2.1
abbrev yF (Y : MD) : Nat := Y.2.2.2.2.1
abbrev yO (Y : MD) : Nat := Y.2.2.2.2.2.1
abbrev yK (Y : MD) : Nat := Y.2.2.2.2.2.2.1
abbrev yS (Y : MD) : Nat := Y.2.2.2.2.2.2.2
abbrev yM (Y : MD) : Room := { frames := yF Y, cells := yK Y, slots := yS Y, locals := yO Y }
/-- what a method leaves: its answer, the shape, the memory -/
abbrev Res : Type := Option AV × Shp × Mem
/-- the walk's setting: p l e s m args below meth c D cA B Q -/
abbrev DX : Type := Program × Launch × Env × State × MethodId × Array Value × List Frame × Method × Code × va_G × (Nat → ClassId) × BB × (Res → State → Prop)
def Cx (Y : MD) (X : DX) : Prop := match X with
  | (p, _, _, s, m, args, _, meth, c, D, cA, B, _) => CallFix p m c (yC Y) (yL Y) s args lw_tbl (yN Y).cls ∧ KK D cA s ∧ B.2 ≤ s.heap.size ∧ meth.locks = false ∧ meth.sig.returnType = yR Y ∧ meth.name = (yN Y).name
/-- the machine, at pc with the locals L and the stack st over the memory M, does what the program says -/
def Ref (Y : MD) (X : DX) (k n : Nat) (Z : Shp) (M : Mem) (pc : Nat) (L : List (Nat × AV)) (st : List AV) (P : Option Res) : Prop := match X with
  | (p, l, e, s, m, args, below, meth, c, D, cA, B, Q) => ∀ y, P = some y → ∀ (H : Heap) (locs : List Loc) (ls : Array Slot), Rel D cA B Z M H → va_S (fun q => B.2 ≤ q) s.heap H locs → lv_has ls (yL Y) (L.map (ev2 B)) →
    W p l e (yM Y) s m args below meth c H locs k n (Q y) (F0 m pc ls (st.map (ev B)))
/-- the end of an ordinary method -/
def QM (D : va_G) (cA : Nat → ClassId) (B : BB) (y : Res) : Array Value → State → Outcome → State → Prop := fun _ st o t =>
  o = .returned (y.1.map (ev B)) ∧ Rel D cA B y.2.1 y.2.2 t.heap ∧ va_F (fun q => B.2 ≤ q) st t
def Cm (Y : MD) (X : DX) : Prop := Cx Y X ∧ match X with
  | (_, _, _, s, _, args, below, _, _, D, cA, B, Q) => ∀ y, Q y = MQ below (QM D cA B y) args s (yK Y) (yS Y) (fun q => B.2 ≤ q)
/-- a method's contract: from these arguments and this memory it comes to that -/
def Ct (l : Launch) (Y : MD) (As : List AV) (Z : Shp) (M : Mem) (y : Res) : Prop := ∀ (D : va_G) (cA : Nat → ClassId) (B : BB),
  Met l (yN Y) (.code (yN Y) (yC Y) (yL Y) (yR Y) :: lw_tbl) (yM Y) (va_Pc (As.map (ev B)) (fun U => Rel D cA B Z M U.heap ∧ KK D cA U)) (QM D cA B y) (yK Y) (yS Y) (fun q => B.2 ≤ q)
def pu {α β : Type} (x : α) (f : α → β) : β := f x
