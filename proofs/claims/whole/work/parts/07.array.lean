/-! rows: arrays, new cells -/
abbrev ix (i : Int32) : Nat := i.toNatClampNeg
/-- an array's place: the tag of the cell, the index within its length -/
abbrev aok (Z : Shp) (a t : Nat) (i : Int32) : Prop := (tg Z a).1 = t ∧ 0 ≤ i.toInt ∧ i.toInt < ((tg Z a).2 : Int)
theorem aok_some {Z : Shp} {a t : Nat} {i : Int32} (h : aok Z a t i) (ht : 0 < t) : ∃ j nn, a = j + 2 ∧ Z[j]? = some (t, nn) ∧ vp_in i nn := by
  obtain ⟨h1, h2, h3⟩ := h
  obtain ⟨j, hj, hz⟩ := tg_some (Z := Z) (a := a) (t := t) (n := (tg Z a).2) (by rw [← h1]) ht
  exact ⟨j, _, hj, hz, vp_in_iff.mpr ⟨h2, h3⟩⟩
theorem allW_arI {cA : Nat → ClassId} {B : BB} {Z : Shp} {M : Mem} {k t nn : Nat} (h1 : 100 ≤ t) (h2 : t < 110) (hz : Z[k]? = some (t, nn)) : (allW cA B Z M)[k]? = some (B.2 + k, .inl (cA t, nn, .inl (rI M (k + 2)))) := by
  rw [allW_at, hz]
  show some (B.2 + k, ent cA B M (k + 2) t nn) = _
  unfold ent
  rw [if_neg (by omega), if_pos h2]
theorem allW_arR {cA : Nat → ClassId} {B : BB} {Z : Shp} {M : Mem} {k t nn : Nat} (h1 : 110 ≤ t) (hz : Z[k]? = some (t, nn)) : (allW cA B Z M)[k]? = some (B.2 + k, .inl (cA t, nn, .inr (.inr (.inr (.inr (fun j => rn B (rR M (k + 2) j))))))) := by
  rw [allW_at, hz]
  show some (B.2 + k, ent cA B M (k + 2) t nn) = _
  unfold ent
  rw [if_neg (by omega), if_neg (by omega)]
/-- the memory with a new, empty cell -/
def nw (M : Mem) (a : Nat) : Mem := (fun a' k' => if a' = a then 0 else M.1 a' k', fun a' k' => if a' = a then 0 else M.2.1 a' k', fun a' k' => if a' = a then 0 else M.2.2 a' k')
theorem rI_nw (M : Mem) (a a' k' : Nat) : rI (nw M a) a' k' = if a' = a then 0 else rI M a' k' := rfl
theorem rJ_nw (M : Mem) (a a' k' : Nat) : rJ (nw M a) a' k' = if a' = a then 0 else rJ M a' k' := rfl
theorem rR_nw (M : Mem) (a a' k' : Nat) : rR (nw M a) a' k' = if a' = a then 0 else rR M a' k' := rfl
theorem ent_nw {cA : Nat → ClassId} {B : BB} {M : Mem} {a a' t n : Nat} (h : a' ≠ a) : ent cA B (nw M a) a' t n = ent cA B M a' t n := by
  have h2 : rI (nw M a) a' = rI M a' := funext fun j => by rw [rI_nw, if_neg h]
  unfold ent fv
  simp only [h2, rJ_nw, rR_nw, if_neg h]
theorem allW_new {cA : Nat → ClassId} {B : BB} {Z : Shp} {M : Mem} {t nn : Nat} : allW cA B (Z ++ [(t, nn)]) (nw M (Z.length + 2)) = allW cA B Z M ++ [(B.2 + Z.length, ent cA B (nw M (Z.length + 2)) (Z.length + 2) t nn)] := by
  apply List.ext_getElem?
  intro j
  rw [allW_at]
  rcases Nat.lt_trichotomy j Z.length with h | h | h
  · rw [List.getElem?_append_left h, List.getElem?_append_left (by rw [allW_len]; exact h), allW_at]
    cases hz : Z[j]? with
    | none => rfl
    | some u => simp only [Option.map_some]; rw [ent_nw (by omega)]
  · subst h
    rw [List.getElem?_append_right (Nat.le_refl _), List.getElem?_append_right (by rw [allW_len]; exact Nat.le_refl _), allW_len, Nat.sub_self]
    rfl
  · rw [List.getElem?_append_right (by omega), List.getElem?_append_right (by rw [allW_len]; omega), allW_len]
    have : j - Z.length = (j - Z.length - 1) + 1 := by omega
    rw [this]
    rfl
section
variable {Y : MD} {X : DX} {k n : Nat} {Z : Shp} {M : Mem} {pc q : Nat} {L : List (Nat × AV)} {st : List AV} {P : Option Res}
theorem r_iald {a : Nat} {i : Int32} (hX : Cx Y X) (hc : aok Z a 100 i) (hd : decode (yC Y) pc = .ok (.iaload, 1)) (hq : pc + 1 = q) (kk : Ref Y X k n Z M q L (vi (rI M a (ix i)) :: st) P) : Ref Y X k n Z M pc L (vi i :: vr a :: st) P := by
  subst hq
  obtain ⟨p, l, e, s, m, args, below, meth, c, D, cA, B, Q⟩ := X
  obtain ⟨⟨hx, hb, hml, ho, hts⟩, ⟨hK, hKb⟩, hB, hlk, hrt, hnm⟩ := hX
  obtain ⟨j, nn, rfl, hz, hin⟩ := aok_some hc (by omega)
  intro w hw H locs ls hR hS hl
  exact va_iald hx hb hK hR.2 j 0 (allW_arI (by omega) (by omega) hz) rfl hin hd (kk w hw H locs ls hR hS hl)
theorem r_zald {a : Nat} {i : Int32} (hX : Cx Y X) (hc : aok Z a 101 i) (hd : decode (yC Y) pc = .ok (.baload, 1)) (hq : pc + 1 = q) (kk : Ref Y X k n Z M q L (vi (rI M a (ix i)) :: st) P) : Ref Y X k n Z M pc L (vi i :: vr a :: st) P := by
  subst hq
  obtain ⟨p, l, e, s, m, args, below, meth, c, D, cA, B, Q⟩ := X
  obtain ⟨⟨hx, hb, hml, ho, hts⟩, ⟨hK, hKb⟩, hB, hlk, hrt, hnm⟩ := hX
  obtain ⟨j, nn, rfl, hz, hin⟩ := aok_some hc (by omega)
  intro w hw H locs ls hR hS hl
  exact va_zald hx hb hK hR.2 j 1 (allW_arI (by omega) (by omega) hz) rfl hin hd (kk w hw H locs ls hR hS hl)
theorem r_bald {a : Nat} {i : Int32} (hX : Cx Y X) (hc : aok Z a 102 i) (hd : decode (yC Y) pc = .ok (.baload, 1)) (hq : pc + 1 = q) (kk : Ref Y X k n Z M q L (vi (rI M a (ix i)) :: st) P) : Ref Y X k n Z M pc L (vi i :: vr a :: st) P := by
  subst hq
  obtain ⟨p, l, e, s, m, args, below, meth, c, D, cA, B, Q⟩ := X
  obtain ⟨⟨hx, hb, hml, ho, hts⟩, ⟨hK, hKb⟩, hB, hlk, hrt, hnm⟩ := hX
  obtain ⟨j, nn, rfl, hz, hin⟩ := aok_some hc (by omega)
  intro w hw H locs ls hR hS hl
  exact va_bald hx hb hK hR.2 j 2 (allW_arI (by omega) (by omega) hz) rfl hin hd (kk w hw H locs ls hR hS hl)
/-- the element classes of the arrays of references: tag, place among the array classes, class -/
def arT (t t0 ci : Nat) : Prop := 110 ≤ t ∧ ci < 13 ∧ ∀ cA : Nat → ClassId, (tysOf cA)[t0]? = some (cA t, .object (nmC ci))
theorem r_aald {a t t0 ci : Nat} {i : Int32} (hX : Cx Y X) (hT : arT t t0 ci) (hc : aok Z a t i) (hd : decode (yC Y) pc = .ok (.aaload, 1)) (hq : pc + 1 = q) (kk : Ref Y X k n Z M q L (vr (rR M a (ix i)) :: st) P) : Ref Y X k n Z M pc L (vi i :: vr a :: st) P := by
  subst hq
  obtain ⟨p, l, e, s, m, args, below, meth, c, D, cA, B, Q⟩ := X
  obtain ⟨⟨hx, hb, hml, ho, hts⟩, ⟨hK, hKb⟩, hB, hlk, hrt, hnm⟩ := hX
  have ht : 0 < t := by have := hT.1; omega
  obtain ⟨j, nn, rfl, hz, hin⟩ := aok_some hc ht
  intro w hw H locs ls hR hS hl
  refine va_aldq hx hb hK hR.2 j t0 (allW_arR hT.1 hz) (hT.2.2 cA) hin hd ?_
  rw [rv_rn]
  exact kk w hw H locs ls hR hS hl
theorem r_alen {a t t0 : Nat} {ty : FieldType} (hX : Cx Y X) (hT : 100 ≤ t ∧ t < 110 ∧ ∀ cA : Nat → ClassId, (tysOf cA)[t0]? = some (cA t, ty)) (hc : (tg Z a).1 = t) (hd : decode (yC Y) pc = .ok (.arraylength, 1)) (hq : pc + 1 = q) (kk : Ref Y X k n Z M q L (vi (nI (tg Z a).2) :: st) P) : Ref Y X k n Z M pc L (vr a :: st) P := by
  subst hq
  obtain ⟨p, l, e, s, m, args, below, meth, c, D, cA, B, Q⟩ := X
  obtain ⟨⟨hx, hb, hml, ho, hts⟩, ⟨hK, hKb⟩, hB, hlk, hrt, hnm⟩ := hX
  have ht : 0 < t := by have := hT.1; omega
  obtain ⟨j, hj, hz⟩ := tg_some (Z := Z) (a := a) (t := t) (n := (tg Z a).2) (by rw [← hc]) ht
  intro w hw H locs ls hR hS hl
  have h1 := allW_arI (cA := cA) (B := B) (M := M) hT.1 hT.2.1 hz
  have h2 := kk w hw H locs ls hR hS hl
  generalize (tg Z a).2 = nn at h1 h2
  subst hj
  exact va_alen hx hb hK hR.2 j t0 h1 (hT.2.2 cA) rfl hd h2
/-- a store into an array: the cell anew -/
theorem ast_rel {D : va_G} {cA : Nat → ClassId} {B : BB} {M1 : Mem} {H H1 : Heap} {j t nn : Nat} {e0 e : va_E} (hR : Rel D cA B Z M H) (hz : Z[j]? = some (t, nn)) (hE : (allW cA B Z M)[j]? = some (B.2 + j, e0)) (he : e = ent cA B M1 (j + 2) t nn)
    (hoth : ∀ (a' t' n' : Nat), a' ≠ j + 2 → ent cA B M a' t' n' = ent cA B M1 a' t' n') (hat : va_at D vwCl (B.2 + j, e) H1) (hsz : H1.size = H.size) (oq : ∀ q, q ≠ B.2 + j → H1[q]? = H[q]?) : Rel D cA B Z M1 H1 := by
  refine ⟨by rw [hsz]; exact hR.1, ?_⟩
  rw [← allW_set hz he (fun i t' n' hi _ => hoth (i + 2) t' n' (by omega))]
  exact va_P.set hR.2 (allW_D cA B Z M) hE hat oq
theorem ent_arI {cA : Nat → ClassId} {B : BB} {M : Mem} {a t nn : Nat} (h1 : 100 ≤ t) (h2 : t < 110) : ent cA B M a t nn = .inl (cA t, nn, .inl (rI M a)) := by
  unfold ent
  rw [if_neg (by omega), if_pos h2]
theorem ent_arR {cA : Nat → ClassId} {B : BB} {M : Mem} {a t nn : Nat} (h1 : 110 ≤ t) : ent cA B M a t nn = .inl (cA t, nn, .inr (.inr (.inr (.inr (fun j => rn B (rR M a j)))))) := by
  unfold ent
  rw [if_neg (by omega), if_neg (by omega)]
theorem upd_wI (M : Mem) (a i : Nat) (x : Int32) : upd (rI M a) i x = rI (wI M a i x) a := by
  funext j
  rw [rI_wI]
  unfold upd
  by_cases h : j = i <;> simp [h]
theorem cell_upd {cI : ClassId} {N i : Nat} {f : Nat → Int32} {x : Int32} : (vp_cell cI (N, .inl f)).setSlot i (.int x) = vp_cell cI (N, .inl (upd f i x)) := by
  rw [vp_cell_i, vp_cell_i, arrV_store]
  congr 1
  funext u
  by_cases h : u = i <;> simp [updV, upd, h]
theorem r_iast {a : Nat} {i x : Int32} {α : Type} {G : Mem → Option α} {K : α → Option Res} (hX : Cx Y X) (hc : aok Z a 100 i) (hd : decode (yC Y) pc = .ok (.iastore, 1)) (hq : pc + 1 = q) (kk : ∀ M1, Ref Y X k n Z M1 q L st (Option.bind (G M1) K)) : Ref Y X k n Z M pc L (vi x :: vi i :: vr a :: st) (Option.bind (pu (wI M a (ix i) x) G) K) := by
  subst hq
  obtain ⟨p, l, e, s, m, args, below, meth, c, D, cA, B, Q⟩ := X
  obtain ⟨⟨hx, hb, hml, ho, hts⟩, ⟨hK, hKb⟩, hB, hlk, hrt, hnm⟩ := hX
  obtain ⟨j, nn, rfl, hz, hin⟩ := aok_some hc (by omega)
  intro w hw H locs ls hR hS hl
  have hE := allW_arI (cA := cA) (B := B) (M := M) (by omega) (by omega) hz
  refine W.iast hx hb (hR.2 j _ hE) ((hK.2 0 _ rfl).1 nn (fun j' => .int (rI M (j + 2) j'))) (fun q => by cases q) (by show ¬ (i < 0 ∨ (arrV _ _ _).slots.size ≤ _); rw [arrV_size]; exact hin) rfl rfl hd fun H1 e1 z oq => ?_
  refine kk (wI M (j + 2) (ix i) x) w hw H1 _ ls ?_ (hS.put z oq (by show B.2 ≤ B.2 + j; omega)) hl
  refine ast_rel hR hz hE (ent_arI (by omega) (by omega)).symm (fun _ _ _ h => ent_wI h) ?_ z oq
  show H1[B.2 + j]? = some (vp_cell _ _)
  rw [e1, ← upd_wI]
  exact congrArg some cell_upd
theorem r_zast {a : Nat} {i x : Int32} {α : Type} {G : Mem → Option α} {K : α → Option Res} (hX : Cx Y X) (hc : aok Z a 101 i) (hzb : zb x) (hd : decode (yC Y) pc = .ok (.bastore, 1)) (hq : pc + 1 = q) (kk : ∀ M1, Ref Y X k n Z M1 q L st (Option.bind (G M1) K)) : Ref Y X k n Z M pc L (vi x :: vi i :: vr a :: st) (Option.bind (pu (wI M a (ix i) x) G) K) := by
  subst hq
  obtain ⟨p, l, e, s, m, args, below, meth, c, D, cA, B, Q⟩ := X
  obtain ⟨⟨hx, hb, hml, ho, hts⟩, ⟨hK, hKb⟩, hB, hlk, hrt, hnm⟩ := hX
  obtain ⟨j, nn, rfl, hz, hin⟩ := aok_some hc (by omega)
  intro w hw H locs ls hR hS hl
  have hE := allW_arI (cA := cA) (B := B) (M := M) (by omega) (by omega) hz
  refine W.zast hx hb (hR.2 j _ hE) ((hK.2 1 _ rfl).1 nn (fun j' => .int (rI M (j + 2) j'))) (fun q => by cases q) (by show ¬ (i < 0 ∨ (arrV _ _ _).slots.size ≤ _); rw [arrV_size]; exact hin) rfl rfl hd fun H1 e1 z oq => ?_
  refine kk (wI M (j + 2) (ix i) x) w hw H1 _ ls ?_ (hS.put z oq (by show B.2 ≤ B.2 + j; omega)) hl
  refine ast_rel hR hz hE (ent_arI (by omega) (by omega)).symm (fun _ _ _ h => ent_wI h) ?_ z oq
  show H1[B.2 + j]? = some (vp_cell _ _)
  rw [e1, ← upd_wI, zb_n hzb]
  exact congrArg some cell_upd
theorem r_bast {a : Nat} {i x : Int32} {α : Type} {G : Mem → Option α} {K : α → Option Res} (hX : Cx Y X) (hc : aok Z a 102 i) (hd : decode (yC Y) pc = .ok (.bastore, 1)) (hq : pc + 1 = q) (kk : ∀ M1, Ref Y X k n Z M1 q L st (Option.bind (G M1) K)) : Ref Y X k n Z M pc L (vi x :: vi i :: vr a :: st) (Option.bind (pu (wI M a (ix i) x.toInt8.toInt32) G) K) := by
  subst hq
  obtain ⟨p, l, e, s, m, args, below, meth, c, D, cA, B, Q⟩ := X
  obtain ⟨⟨hx, hb, hml, ho, hts⟩, ⟨hK, hKb⟩, hB, hlk, hrt, hnm⟩ := hX
  obtain ⟨j, nn, rfl, hz, hin⟩ := aok_some hc (by omega)
  intro w hw H locs ls hR hS hl
  have hE := allW_arI (cA := cA) (B := B) (M := M) (by omega) (by omega) hz
  refine W.bast hx hb (hR.2 j _ hE) ((hK.2 2 _ rfl).1 nn (fun j' => .int (rI M (j + 2) j'))) (fun q => by cases q) (by show ¬ (i < 0 ∨ (arrV _ _ _).slots.size ≤ _); rw [arrV_size]; exact hin) rfl rfl hd fun H1 e1 z oq => ?_
  refine kk (wI M (j + 2) (ix i) x.toInt8.toInt32) w hw H1 _ ls ?_ (hS.put z oq (by show B.2 ≤ B.2 + j; omega)) hl
  refine ast_rel hR hz hE (ent_arI (by omega) (by omega)).symm (fun _ _ _ h => ent_wI h) ?_ z oq
  show H1[B.2 + j]? = some (vp_cell _ _)
  rw [e1, ← upd_wI]
  exact congrArg some cell_upd
theorem r_aast {a v t t0 ci : Nat} {i : Int32} {α : Type} {G : Mem → Option α} {K : α → Option Res} (hX : Cx Y X) (hT : arT t t0 ci) (hc : aok Z a t i) (hv : tg Z v = (ci + 1, szC ci)) (hd : decode (yC Y) pc = .ok (.aastore, 1)) (hq : pc + 1 = q) (kk : ∀ M1, Ref Y X k n Z M1 q L st (Option.bind (G M1) K)) : Ref Y X k n Z M pc L (vr v :: vi i :: vr a :: st) (Option.bind (pu (wR M a (ix i) v) G) K) := by
  subst hq
  obtain ⟨p, l, e, s, m, args, below, meth, c, D, cA, B, Q⟩ := X
  obtain ⟨⟨hx, hb, hml, ho, hts⟩, ⟨hK, hKb⟩, hB, hlk, hrt, hnm⟩ := hX
  obtain ⟨hT1, hci, hT2⟩ := hT
  obtain ⟨j, nn, rfl, hz, hin⟩ := aok_some hc (by omega)
  obtain ⟨v0, rfl, hzv⟩ := tg_some hv (by omega)
  intro w hw H locs ls hR hS hl
  have hE := allW_arR (cA := cA) (B := B) (M := M) hT1 hz
  have hV := allW_obj (cA := cA) (B := B) (M := M) hci hzv
  have hlt : i.toNatClampNeg < nn := Nat.not_le.mp fun q => hin (Or.inr q)
  have h0 : ¬ i < 0 := fun q => hin (Or.inl q)
  obtain ⟨r', hr', cellV, g1, g2, g3, -⟩ := hR.2 v0 _ hV
  have hcls := (hK.1 ci _ (vw_at ci hci)).2
  obtain ⟨kA, comp, k1, k2, k3, -⟩ := (hK.2 t0 _ (hT2 cA)).2
  have hcomp : comp = D.1 ci := Option.some.inj (k3.symm.trans hcls.1)
  subst hcomp
  obtain ⟨kC, hkC, -⟩ := id hcls.2
  refine W.aast (v := B.2 + v0) hx hb (hR.2 j _ hE) (fun q h => by cases h) (fun h => by cases h) k1 k2 rfl hkC ⟨h0, by show _ < (arrV _ _ _).slots.size; rw [arrV_size]; exact hlt⟩ g1 (fun q h => by rw [g3] at h; cases h) (by rw [g2]; exact hkC) (by rw [g2]; exact va_assign hcls) rfl rfl hd fun H1 e1 z oq => ?_
  refine kk (wR M (j + 2) (ix i) (v0 + 2)) w hw H1 _ ls ?_ (hS.put z oq (by show B.2 ≤ B.2 + j; omega)) hl
  refine ast_rel hR hz hE (ent_arR hT1).symm (fun _ _ _ h => ent_wR h) ?_ z oq
  show H1[B.2 + j]? = some (vp_cell _ _)
  rw [e1]
  refine congrArg some ?_
  rw [vp_cell_q, vp_cell_q, arrV_store]
  congr 1
  funext u
  rw [rR_wR]
  by_cases hu : u = i.toNatClampNeg
  · subst hu
    simp [updV, va_rf, rn]
  · simp [updV, hu]
end
