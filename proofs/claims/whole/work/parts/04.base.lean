/-! abstract values, memory, shape; what the heap holds -/
abbrev AV : Type := Int32 ⊕ Int64 ⊕ Nat
abbrev vi (x : Int32) : AV := Sum.inl x
abbrev vj (x : Int64) : AV := Sum.inr (Sum.inl x)
abbrev vr (a : Nat) : AV := Sum.inr (Sum.inr a)
def rv (b a : Nat) : Value := match a with
  | 0 => .null
  | k + 1 => .ref (b + k)
def rn (b a : Nat) : Option Nat := match a with
  | 0 => none
  | k + 1 => some (b + k)
def ev (b : Nat) (v : AV) : Value := match v with
  | .inl x => .int x
  | .inr (.inl x) => .long x
  | .inr (.inr a) => rv b a
def ct (v : AV) : Nat := match v with
  | .inr (.inl _) => 2
  | _ => 1
def ev2 (b : Nat) (q : Nat × AV) : Nat × Value := (q.1, ev b q.2)
theorem rv_rn (b a : Nat) : va_rf (rn b a) = rv b a := by cases a <;> rfl
theorem ev_cat (b : Nat) (v : AV) : (ev b v).category = ct v := by
  rcases v with x | x | a
  · rfl
  · rfl
  · cases a <;> rfl
abbrev Mem : Type := (Nat → Nat → Int32) × (Nat → Nat → Int64) × (Nat → Nat → Nat)
def rI (M : Mem) (a k : Nat) : Int32 := M.1 a k
def rJ (M : Mem) (a k : Nat) : Int64 := M.2.1 a k
def rR (M : Mem) (a k : Nat) : Nat := M.2.2 a k
def wI (M : Mem) (a k : Nat) (v : Int32) : Mem := (fun a' k' => if a' = a ∧ k' = k then v else M.1 a' k', M.2)
def wJ (M : Mem) (a k : Nat) (v : Int64) : Mem := (M.1, fun a' k' => if a' = a ∧ k' = k then v else M.2.1 a' k', M.2.2)
def wR (M : Mem) (a k : Nat) (v : Nat) : Mem := (M.1, M.2.1, fun a' k' => if a' = a ∧ k' = k then v else M.2.2 a' k')
theorem rI_wI (M : Mem) (a k : Nat) (v : Int32) (a' k' : Nat) : rI (wI M a k v) a' k' = if a' = a ∧ k' = k then v else rI M a' k' := rfl
theorem rJ_wI (M : Mem) (a k : Nat) (v : Int32) (a' k' : Nat) : rJ (wI M a k v) a' k' = rJ M a' k' := rfl
theorem rR_wI (M : Mem) (a k : Nat) (v : Int32) (a' k' : Nat) : rR (wI M a k v) a' k' = rR M a' k' := rfl
theorem rI_wJ (M : Mem) (a k : Nat) (v : Int64) (a' k' : Nat) : rI (wJ M a k v) a' k' = rI M a' k' := rfl
theorem rJ_wJ (M : Mem) (a k : Nat) (v : Int64) (a' k' : Nat) : rJ (wJ M a k v) a' k' = if a' = a ∧ k' = k then v else rJ M a' k' := rfl
theorem rR_wJ (M : Mem) (a k : Nat) (v : Int64) (a' k' : Nat) : rR (wJ M a k v) a' k' = rR M a' k' := rfl
theorem rI_wR (M : Mem) (a k v a' k' : Nat) : rI (wR M a k v) a' k' = rI M a' k' := rfl
theorem rJ_wR (M : Mem) (a k v a' k' : Nat) : rJ (wR M a k v) a' k' = rJ M a' k' := rfl
theorem rR_wR (M : Mem) (a k v a' k' : Nat) : rR (wR M a k v) a' k' = if a' = a ∧ k' = k then v else rR M a' k' := rfl
abbrev Shp : Type := List (Nat × Nat)
/-- tag and length of a cell by its number (0: null) -/
def tg (Z : Shp) (a : Nat) : Nat × Nat := match a with
  | 0 => (0, 0)
  | k + 1 => Z.getD k (0, 0)
/-- field types by class number -/
def tyC (ci : Nat) : Nat → FieldType := match ci with
  | 0 => tyX0
  | 1 => tyX1
  | 2 => tyX2
  | 3 => tyX3
  | 4 => tyX4
  | 5 => tyX5
  | 6 => tyX6
  | 7 => tyX7
  | 8 => tyX8
  | 9 => tyX9
  | 10 => tyX10
  | 11 => tyX11
  | _ => tyX12
def isRf (ty : FieldType) : Bool := match ty with
  | .object _ => true
  | .array _ => true
  | _ => false
def isJ (ty : FieldType) : Bool := match ty with
  | .long => true
  | _ => false
/-- what a field holds -/
def fv (b : Nat) (M : Mem) (a k : Nat) (ty : FieldType) : Value := if isRf ty then rv b (rR M a k) else if isJ ty then .long (rJ M a k) else .int (rI M a k)
/-- a cell: tags 1 to 13 objects of the classes 0 to 12; 100 to 102 arrays of int, boolean, byte; 110 on arrays of references -/
def ent (cA : Nat → ClassId) (b : Nat) (M : Mem) (a t n : Nat) : va_E :=
  if t < 100 then .inr (t - 1, (List.range n).map (fun k => fv b M a k (tyC (t - 1) k)))
  else if t < 110 then .inl (cA t, n, .inl (rI M a))
  else .inl (cA t, n, .inr (.inr (.inr (.inr (fun j => rn b (rR M a j))))))
def allW (cA : Nat → ClassId) (b : Nat) (Z : Shp) (M : Mem) : va_W := Z.mapIdx (fun k q => (b + k, ent cA b M (k + 1) q.1 q.2))
theorem allW_at (cA : Nat → ClassId) (b : Nat) (Z : Shp) (M : Mem) (k : Nat) : (allW cA b Z M)[k]? = (Z[k]?).map (fun q => (b + k, ent cA b M (k + 1) q.1 q.2)) := by
  unfold allW
  rw [List.getElem?_mapIdx]
theorem allW_D (cA : Nat → ClassId) (b : Nat) (Z : Shp) (M : Mem) : va_D (fun q => b ≤ q) (allW cA b Z M) := by
  refine ⟨fun i j p q hi hj h => ?_, fun k q hk => ?_⟩
  · rw [allW_at] at hi hj
    obtain ⟨x, -, rfl⟩ := Option.map_eq_some_iff.mp hi
    obtain ⟨y, -, rfl⟩ := Option.map_eq_some_iff.mp hj
    dsimp only at h
    omega
  · rw [allW_at] at hk
    obtain ⟨x, -, rfl⟩ := Option.map_eq_some_iff.mp hk
    dsimp only
    omega
theorem tg_some {Z : Shp} {a t n : Nat} (h : tg Z a = (t, n)) (ht : 0 < t) : ∃ k, a = k + 1 ∧ Z[k]? = some (t, n) := by
  cases a with
  | zero => rw [tg] at h; cases h; exact absurd ht (Nat.lt_irrefl 0)
  | succ k =>
    refine ⟨k, rfl, ?_⟩
    have h1 : Z.getD k (0, 0) = (t, n) := h
    rw [List.getD_eq_getElem?_getD] at h1
    cases hz : Z[k]? with
    | none => rw [hz] at h1; cases h1; exact absurd ht (Nat.lt_irrefl 0)
    | some q => rw [hz] at h1; exact congrArg some h1
/-- one cell anew, the others as they were -/
theorem allW_set {cA : Nat → ClassId} {b : Nat} {Z : Shp} {M M' : Mem} {k t n : Nat} (hk : Z[k]? = some (t, n)) {e : va_E} (he : e = ent cA b M' (k + 1) t n) (ho : ∀ j t' n', j ≠ k → Z[j]? = some (t', n') → ent cA b M (j + 1) t' n' = ent cA b M' (j + 1) t' n') :
    (allW cA b Z M).set k (b + k, e) = allW cA b Z M' := by
  apply List.ext_getElem?
  intro j
  have hl : k < (allW cA b Z M).length := by
    have h1 : k < Z.length := (List.getElem?_eq_some_iff.mp hk).1
    unfold allW
    rw [List.length_mapIdx]
    exact h1
  by_cases hj : j = k
  · subst hj
    rw [List.getElem?_set_self hl, allW_at, hk, he]
    rfl
  · rw [List.getElem?_set_ne (Ne.symm hj), allW_at, allW_at]
    cases hz : Z[j]? with
    | none => rfl
    | some q => simp only [Option.map_some]; rw [ho j q.1 q.2 hj (by rw [hz])]
theorem ent_wI {cA : Nat → ClassId} {b : Nat} {M : Mem} {a k : Nat} {v : Int32} {a' t n : Nat} (h : a' ≠ a) : ent cA b M a' t n = ent cA b (wI M a k v) a' t n := by
  have h1 : ∀ j, rI (wI M a k v) a' j = rI M a' j := fun j => by rw [rI_wI, if_neg (fun q => h q.1)]
  have h2 : rI (wI M a k v) a' = rI M a' := funext h1
  unfold ent fv
  simp only [h2, rJ_wI, rR_wI]
theorem ent_wJ {cA : Nat → ClassId} {b : Nat} {M : Mem} {a k : Nat} {v : Int64} {a' t n : Nat} (h : a' ≠ a) : ent cA b M a' t n = ent cA b (wJ M a k v) a' t n := by
  have h1 : ∀ j, rJ (wJ M a k v) a' j = rJ M a' j := fun j => by rw [rJ_wJ, if_neg (fun q => h q.1)]
  have h2 : rI (wJ M a k v) a' = rI M a' := rfl
  unfold ent fv
  simp only [h1, h2, rR_wJ]
theorem ent_wR {cA : Nat → ClassId} {b : Nat} {M : Mem} {a k v a' t n : Nat} (h : a' ≠ a) : ent cA b M a' t n = ent cA b (wR M a k v) a' t n := by
  have h1 : ∀ j, rR (wR M a k v) a' j = rR M a' j := fun j => by rw [rR_wR, if_neg (fun q => h q.1)]
  have h2 : rI (wR M a k v) a' = rI M a' := rfl
  unfold ent fv
  simp only [h1, h2, rJ_wR]
/-- the array classes -/
abbrev tysOf (cA : Nat → ClassId) : List (ClassId × FieldType) := [(cA 100, .int), (cA 101, .boolean), (cA 102, .byte), (cA 110, .object "CanalCompany$Pound"), (cA 111, .object "CanalCompany$Lock"), (cA 112, .object "CanalCompany$Taker"), (cA 113, .object "CanalCompany$Boat"), (cA 114, .object "CanalCompany$Text")]
def Rel (D : va_G) (cA : Nat → ClassId) (b : Nat) (Z : Shp) (M : Mem) (H : Heap) : Prop := H.size = b + Z.length ∧ va_P D vwCl (allW cA b Z M) H
abbrev KK (D : va_G) (cA : Nat → ClassId) (U : State) : Prop := va_K D vwCl (tysOf cA) U
/-- the walk's setting in one bundle: p l e R s m args below meth c own cc nL D cA b -/
abbrev CxT : Type := Program × Launch × Env × Room × State × MethodId × Array Value × List Frame × Method × Code × String × ByteArray × Nat × va_G × (Nat → ClassId) × Nat
abbrev xP (X : CxT) := X.1
abbrev xL (X : CxT) := X.2.1
abbrev xE (X : CxT) := X.2.2.1
abbrev xRm (X : CxT) := X.2.2.2.1
abbrev xS (X : CxT) := X.2.2.2.2.1
abbrev xM (X : CxT) := X.2.2.2.2.2.1
abbrev xA (X : CxT) := X.2.2.2.2.2.2.1
abbrev xB (X : CxT) := X.2.2.2.2.2.2.2.1
abbrev xMe (X : CxT) := X.2.2.2.2.2.2.2.2.1
abbrev xC (X : CxT) := X.2.2.2.2.2.2.2.2.2.1
abbrev xOw (X : CxT) := X.2.2.2.2.2.2.2.2.2.2.1
abbrev xCc (X : CxT) := X.2.2.2.2.2.2.2.2.2.2.2.1
abbrev xN (X : CxT) := X.2.2.2.2.2.2.2.2.2.2.2.2.1
abbrev xD (X : CxT) := X.2.2.2.2.2.2.2.2.2.2.2.2.2.1
abbrev xK (X : CxT) := X.2.2.2.2.2.2.2.2.2.2.2.2.2.2.1
abbrev xb (X : CxT) := X.2.2.2.2.2.2.2.2.2.2.2.2.2.2.2
def Cx (X : CxT) : Prop := CallFix (xP X) (xM X) (xC X) (xCc X) (xN X) (xS X) (xA X) lw_tbl (xOw X) ∧ KK (xD X) (xK X) (xS X) ∧ xb X ≤ (xS X).heap.size ∧ (xMe X).locks = false
/-- the machine, at pc with the locals L and the stack st over the memory M, does what the program says -/
def Ref {ρ : Type} (X : CxT) (Q : ρ → State → Prop) (k n : Nat) (Z : Shp) (M : Mem) (pc : Nat) (L : List (Nat × AV)) (st : List AV) (prog : Option ρ) : Prop :=
  ∀ y, prog = some y → ∀ (H : Heap) (locs : List Loc) (ls : Array Slot), Rel (xD X) (xK X) (xb X) Z M H → va_S (fun q => xb X ≤ q) (xS X).heap H locs → lv_has ls (xN X) (L.map (ev2 (xb X))) →
    W (xP X) (xL X) (xE X) (xRm X) (xS X) (xM X) (xA X) (xB X) (xMe X) (xC X) H locs k n (Q y) (F0 (xM X) pc ls (st.map (ev (xb X))))
