/-! rows: fields, arrays, calls, ends; the logic of programs -/
def FL (own : String) (idx ci kf : Nat) : Prop := ci < 13 ∧ kf < szC ci ∧ Cond.fieldLink own idx (trC ci kf).1 (trC ci kf).2.1 (trC ci kf).2.2.1 ∈ lw_gd
theorem ent_obj {cA : Nat → ClassId} {B : BB} {M : Mem} {a ci nn : Nat} (hc : ci < 13) : ent cA B M a (ci + 1) nn = .inr (ci, (List.range nn).map (fun k => fv B M a k (tyC ci k))) := by
  unfold ent
  rw [if_pos (by omega), Nat.add_sub_cancel]
theorem allW_obj {cA : Nat → ClassId} {B : BB} {Z : Shp} {M : Mem} {k ci nn : Nat} (hc : ci < 13) (hz : Z[k]? = some (ci + 1, nn)) : (allW cA B Z M)[k]? = some (B.2 + k, .inr (ci, (List.range nn).map (fun j => fv B M (k + 2) j (tyC ci j)))) := by
  rw [allW_at, hz]
  show some (B.2 + k, ent cA B M (k + 2) (ci + 1) nn) = _
  rw [ent_obj hc]
theorem fv_at {B : BB} {M : Mem} {a nn kf ci : Nat} (h : kf < nn) : ((List.range nn).map (fun k => fv B M a k (tyC ci k)))[kf]? = some (fv B M a kf (tyC ci kf)) := by
  rw [List.getElem?_map, List.getElem?_range h]
  rfl
theorem fv_I {B : BB} {M : Mem} {a kf : Nat} {ty : FieldType} (h1 : isRf ty = false) (h2 : isJ ty = false) : fv B M a kf ty = .int (rI M a kf) := by simp [fv, h1, h2]
theorem fv_J {B : BB} {M : Mem} {a kf : Nat} {ty : FieldType} (h1 : isRf ty = false) (h2 : isJ ty = true) : fv B M a kf ty = .long (rJ M a kf) := by simp [fv, h1, h2]
theorem fv_R {B : BB} {M : Mem} {a kf : Nat} {ty : FieldType} (h1 : isRf ty = true) : fv B M a kf ty = rv B (rR M a kf) := by simp [fv, h1]
section
variable {Y : MD} {X : DX} {k n : Nat} {Z : Shp} {M : Mem} {pc q : Nat} {L : List (Nat × AV)} {st : List AV} {P : Option Res}
theorem get_any {a idx ci kf : Nat} {v : AV} (hX : Cx Y X) (hc : tg Z a = (ci + 1, szC ci)) (hF : FL (yN Y).cls idx ci kf) (hv : ∀ B, fv B M a kf (tyC ci kf) = ev B v) (hd : decode (yC Y) pc = .ok (.getfield idx, 3)) (hq : pc + 3 = q) (kk : Ref Y X k n Z M q L (v :: st) P) : Ref Y X k n Z M pc L (vr a :: st) P := by
  subst hq
  obtain ⟨p, l, e, s, m, args, below, meth, c, D, cA, B, Q⟩ := X
  obtain ⟨⟨hx, hb, hml, ho, hts⟩, ⟨hK, hKb⟩, hB, hlk, hrt, hnm⟩ := hX
  obtain ⟨hci, hkf, hlink⟩ := hF
  obtain ⟨k0, rfl, hz⟩ := tg_some hc (by omega)
  intro w hw H locs ls hR hS hl
  exact va_get hx hb hts (inC ci hci) ho hK hR.2 k0 (allW_obj hci hz) (vw_at ci hci) kf hkf (hts _ hlink) (fun _ h => h) ((fv_at hkf).trans (congrArg some (hv B))) hd (kk w hw H locs ls hR hS hl)
theorem r_getI {a idx ci kf : Nat} (hX : Cx Y X) (hc : tg Z a = (ci + 1, szC ci)) (hF : FL (yN Y).cls idx ci kf) (h1 : isRf (tyC ci kf) = false) (h2 : isJ (tyC ci kf) = false) (hd : decode (yC Y) pc = .ok (.getfield idx, 3)) (hq : pc + 3 = q) (kk : Ref Y X k n Z M q L (vi (rI M a kf) :: st) P) : Ref Y X k n Z M pc L (vr a :: st) P := get_any hX hc hF (fun _ => fv_I h1 h2) hd hq kk
theorem r_getJ {a idx ci kf : Nat} (hX : Cx Y X) (hc : tg Z a = (ci + 1, szC ci)) (hF : FL (yN Y).cls idx ci kf) (h1 : isRf (tyC ci kf) = false) (h2 : isJ (tyC ci kf) = true) (hd : decode (yC Y) pc = .ok (.getfield idx, 3)) (hq : pc + 3 = q) (kk : Ref Y X k n Z M q L (vj (rJ M a kf) :: st) P) : Ref Y X k n Z M pc L (vr a :: st) P := get_any hX hc hF (fun _ => fv_J h1 h2) hd hq kk
theorem r_getR {a idx ci kf : Nat} (hX : Cx Y X) (hc : tg Z a = (ci + 1, szC ci)) (hF : FL (yN Y).cls idx ci kf) (h1 : isRf (tyC ci kf) = true) (hd : decode (yC Y) pc = .ok (.getfield idx, 3)) (hq : pc + 3 = q) (kk : Ref Y X k n Z M q L (vr (rR M a kf) :: st) P) : Ref Y X k n Z M pc L (vr a :: st) P := get_any hX hc hF (fun _ => fv_R h1) hd hq kk
/-- a field's store: the cell anew, all else as it was -/
theorem put_any {a idx ci kf : Nat} {v : AV} {M1 : Mem} (hX : Cx Y X) (hc : tg Z a = (ci + 1, szC ci)) (hF : FL (yN Y).cls idx ci kf) (hfin : (trC ci kf).2.2.2 = false ∨ ((trC ci kf).2.2.2 = true ∧ (yN Y).name = "<init>" ∧ (trC ci kf).1 = (yN Y).cls))
    (hn : ∀ B, narrow (tyC ci kf) (ev B v) = ev B v) (hfit : ∀ B, fits (tyC ci kf) (ev B v) = true)
    (he : ∀ B, ((List.range (szC ci)).map (fun j => fv B M a j (tyC ci j))).set kf (ev B v) = (List.range (szC ci)).map (fun j => fv B M1 a j (tyC ci j)))
    (hoth : ∀ (cA : Nat → ClassId) (B : BB) (a' t' n' : Nat), a' ≠ a → ent cA B M a' t' n' = ent cA B M1 a' t' n')
    (hd : decode (yC Y) pc = .ok (.putfield idx, 3)) (hq : pc + 3 = q) (kk : Ref Y X k n Z M1 q L st P) : Ref Y X k n Z M pc L (v :: vr a :: st) P := by
  subst hq
  obtain ⟨p, l, e, s, m, args, below, meth, c, D, cA, B, Q⟩ := X
  obtain ⟨⟨hx, hb, hml, ho, hts⟩, ⟨hK, hKb⟩, hB, hlk, hrt, hnm⟩ := hX
  obtain ⟨hci, hkf, hlink⟩ := hF
  obtain ⟨k0, rfl, hz⟩ := tg_some hc (by omega)
  intro w hw H locs ls hR hS hl
  have hE := allW_obj (cA := cA) (B := B) (M := M) hci hz
  have hD := allW_D cA B Z M
  have hlen : kf < ((List.range (szC ci)).map (fun j => fv B M (k0 + 2) j (tyC ci j))).length := by simp; exact hkf
  have hset : (allW cA B Z M).set k0 (B.2 + k0, .inr (ci, ((List.range (szC ci)).map (fun j => fv B M (k0 + 2) j (tyC ci j))).set kf (ev B v))) = allW cA B Z M1 := by
    refine allW_set hz ?_ (fun j t' n' hj _ => hoth cA B (j + 2) t' n' (by omega))
    rw [ent_obj hci, he B]
  have hPk := hR.2 k0 _ hE
  obtain ⟨r, h1, cell, q1, q2, q3, q4⟩ := hPk
  have hvw := vw_at ci hci
  have hr : r = (nmC ci, trC ci, szC ci) := Option.some.inj (h1.symm.trans hvw)
  subst hr
  obtain ⟨hSl, hfc, kC, hkC, hkind⟩ := hK.1 ci _ hvw
  obtain ⟨cf, kf0, fi, f, hi, hsl⟩ := hSl kf hkf
  have hap := va_apart (own := (yN Y).cls) hts (inC ci hci) (tyC ci) (tyOk ci hci) (nmOk ci hci) hK hvw
  have hst := (u_facts hfc hkC (u_lays hts (inC ci hci) hkf) hi).1
  have hlay := hts _ (inC ci hci _ (u_in_lay hkf))
  have fin : ∀ H' : Heap, H'[B.2 + k0]? = some (cell.setSlot f.slot (ev B v)) → H'.size = H.size → (∀ q, q ≠ B.2 + k0 → H'[q]? = H[q]?) → W p l e (yM Y) s m args below meth c H' (locs ++ [⟨B.2 + k0, f.slot⟩]) k n (Q w) (F0 m (pc + 3) ls (st.map (ev B))) := by
    intro H' e1 e2 e3
    rw [hsl] at e1
    refine kk w hw H' _ ls ⟨by rw [e2]; exact hR.1, ?_⟩ (hS.put e2 e3 (by show B.2 ≤ B.2 + k0; omega)) hl
    rw [← hset]
    exact va_P.set hR.2 hD hE ⟨_, hvw, t_OB.to (V := updV (vp_V _) kf (ev B v)) ⟨_, e1, q2, q3, t_set q4 hap hkf (ev B v)⟩ (fun j _ => vp_updV_set hlen (ev B v) j)⟩ e3
  rcases hfin with hf | ⟨hf, hin, hdecl⟩
  · unfold u_lay at hlay
    rw [if_neg (by rw [hf]; decide)] at hlay
    have h6 := u_store hfc hkC hkind hlay hi (tyOk ci hci kf hkf) (hn B) (hfit B)
    exact W.putK hx hb (f := f) ⟨ho, hts _ hlink, ⟨_, _, _, hi⟩, hst⟩ (by rw [q2]; exact h6) q1 q3 (by rw [hsl]; exact k2_hasslot (q4 kf hkf)) rfl rfl hd fin
  · unfold u_lay at hlay
    rw [if_pos hf] at hlay
    have hcf : m.cls = cf := by
      obtain ⟨_, _, c', _, _, _, -, -, hf', -, -, -, hown2, -⟩ := Cond.laysFinal_spec hlay
      have e1 : c' = cf := by have := hi.symm.trans hf'; simp at this; exact this.1.symm
      rw [hdecl] at hown2
      rw [← e1]; exact Option.some.inj (ho.symm.trans hown2)
    have h6 := u_fits hfc hkC hkind (Or.inr hlay) hi (tyOk ci hci kf hkf) (hn B) (hfit B)
    exact W.putFinK hx hb ho (hts _ hlink) hi hst hcf (hnm hin) (by rw [q2]; exact h6) q1 q3 (by rw [hsl]; exact k2_hasslot (q4 kf hkf)) rfl rfl hd fin
theorem set_map {α : Type} {N kf : Nat} {g g' : Nat → α} {v : α} (h1 : g' kf = v) (h2 : ∀ j, j ≠ kf → g' j = g j) : ((List.range N).map g).set kf v = (List.range N).map g' := by
  apply List.ext_getElem?
  intro j
  rw [List.getElem?_set]
  by_cases hj : kf = j
  · subst hj
    by_cases hl : kf < N
    · simp [hl, h1]
    · simp [hl]
  · rw [if_neg hj]
    by_cases hl : j < N
    · simp [hl, h2 j (Ne.symm hj)]
    · simp [hl]
theorem r_putI {a idx ci kf : Nat} {v : Int32} {α : Type} {G : Mem → Option α} {K : α → Option Res} (hX : Cx Y X) (hc : tg Z a = (ci + 1, szC ci)) (hF : FL (yN Y).cls idx ci kf) (h1 : isRf (tyC ci kf) = false) (h2 : isJ (tyC ci kf) = false) (hfin : (trC ci kf).2.2.2 = false ∨ ((trC ci kf).2.2.2 = true ∧ (yN Y).name = "<init>" ∧ (trC ci kf).1 = (yN Y).cls))
    (hn : narrow (tyC ci kf) (.int v) = .int v) (hfit : fits (tyC ci kf) (.int v) = true) (hd : decode (yC Y) pc = .ok (.putfield idx, 3)) (hq : pc + 3 = q) (kk : ∀ M1, Ref Y X k n Z M1 q L st (Option.bind (G M1) K)) : Ref Y X k n Z M pc L (vi v :: vr a :: st) (Option.bind (pu (wI M a kf v) G) K) :=
  put_any (M1 := wI M a kf v) hX hc hF hfin (fun _ => hn) (fun _ => hfit) (fun B => set_map (by rw [fv_I h1 h2, rI_wI, if_pos ⟨rfl, rfl⟩]; rfl) (fun j hj => by simp [fv, rI_wI, rJ_wI, rR_wI, hj])) (fun _ _ _ _ _ h => ent_wI h) hd hq (kk _)
theorem r_putJ {a idx ci kf : Nat} {v : Int64} {α : Type} {G : Mem → Option α} {K : α → Option Res} (hX : Cx Y X) (hc : tg Z a = (ci + 1, szC ci)) (hF : FL (yN Y).cls idx ci kf) (h1 : isRf (tyC ci kf) = false) (h2 : isJ (tyC ci kf) = true) (hfin : (trC ci kf).2.2.2 = false ∨ ((trC ci kf).2.2.2 = true ∧ (yN Y).name = "<init>" ∧ (trC ci kf).1 = (yN Y).cls))
    (hn : narrow (tyC ci kf) (.long v) = .long v) (hfit : fits (tyC ci kf) (.long v) = true) (hd : decode (yC Y) pc = .ok (.putfield idx, 3)) (hq : pc + 3 = q) (kk : ∀ M1, Ref Y X k n Z M1 q L st (Option.bind (G M1) K)) : Ref Y X k n Z M pc L (vj v :: vr a :: st) (Option.bind (pu (wJ M a kf v) G) K) :=
  put_any (M1 := wJ M a kf v) hX hc hF hfin (fun _ => hn) (fun _ => hfit) (fun B => set_map (by rw [fv_J h1 h2, rJ_wJ, if_pos ⟨rfl, rfl⟩]; rfl) (fun j hj => by simp [fv, rI_wJ, rJ_wJ, rR_wJ, hj])) (fun _ _ _ _ _ h => ent_wJ h) hd hq (kk _)
theorem r_putR {a idx ci kf : Nat} {v : Nat} {α : Type} {G : Mem → Option α} {K : α → Option Res} (hX : Cx Y X) (hc : tg Z a = (ci + 1, szC ci)) (hF : FL (yN Y).cls idx ci kf) (h1 : isRf (tyC ci kf) = true) (hfin : (trC ci kf).2.2.2 = false ∨ ((trC ci kf).2.2.2 = true ∧ (yN Y).name = "<init>" ∧ (trC ci kf).1 = (yN Y).cls))
    (hn : ∀ u : Value, (u = .null ∨ ∃ z, u = .ref z) → narrow (tyC ci kf) u = u ∧ fits (tyC ci kf) u = true) (hd : decode (yC Y) pc = .ok (.putfield idx, 3)) (hq : pc + 3 = q) (kk : ∀ M1, Ref Y X k n Z M1 q L st (Option.bind (G M1) K)) : Ref Y X k n Z M pc L (vr v :: vr a :: st) (Option.bind (pu (wR M a kf v) G) K) :=
  put_any (M1 := wR M a kf v) hX hc hF hfin (fun B => (hn _ (rv_or B v)).1) (fun B => (hn _ (rv_or B v)).2) (fun B => set_map (by rw [fv_R h1, rR_wR, if_pos ⟨rfl, rfl⟩]; rfl) (fun j hj => by simp [fv, rI_wR, rJ_wR, rR_wR, hj])) (fun _ _ _ _ _ h => ent_wR h) hd hq (kk _)
theorem nf_obj {C : String} : ∀ u : Value, (u = .null ∨ ∃ z, u = .ref z) → narrow (.object C) u = u ∧ fits (.object C) u = true := fun u h => by rcases h with rfl | ⟨z, rfl⟩ <;> exact ⟨rfl, rfl⟩
theorem nf_arr {t : FieldType} : ∀ u : Value, (u = .null ∨ ∃ z, u = .ref z) → narrow (.array t) u = u ∧ fits (.array t) u = true := fun u h => by rcases h with rfl | ⟨z, rfl⟩ <;> exact ⟨rfl, rfl⟩
abbrev zb (v : Int32) : Prop := v = 0 ∨ v = 1
theorem zb_n {v : Int32} (h : zb v) : narrow .boolean (.int v) = .int v := by rcases h with rfl | rfl <;> decide
theorem zb_f {v : Int32} (h : zb v) : fits .boolean (.int v) = true := by rcases h with rfl | rfl <;> decide
end
