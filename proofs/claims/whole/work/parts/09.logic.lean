/-! rows for the printed walks: leaves, joins, loops, calls, switches -/
def js {α ρ : Type} (F : Option (α ⊕ ρ)) (G : α → Option ρ) : Option ρ := F.bind (fun v => match v with | .inl a => G a | .inr o => some o)
theorem arT_110 : arT 110 3 6 := ⟨Nat.le_of_ble_eq_true rfl, Nat.le_of_ble_eq_true rfl, fun _ => rfl⟩
theorem arT_111 : arT 111 4 4 := ⟨Nat.le_of_ble_eq_true rfl, Nat.le_of_ble_eq_true rfl, fun _ => rfl⟩
theorem arT_112 : arT 112 5 7 := ⟨Nat.le_of_ble_eq_true rfl, Nat.le_of_ble_eq_true rfl, fun _ => rfl⟩
theorem arT_113 : arT 113 6 1 := ⟨Nat.le_of_ble_eq_true rfl, Nat.le_of_ble_eq_true rfl, fun _ => rfl⟩
theorem arT_114 : arT 114 7 8 := ⟨Nat.le_of_ble_eq_true rfl, Nat.le_of_ble_eq_true rfl, fun _ => rfl⟩
theorem arL_100 : 100 ≤ 100 ∧ 100 < 110 ∧ ∀ cA : Nat → ClassId, (tysOf cA)[0]? = some (cA 100, FieldType.int) := ⟨Nat.le_of_ble_eq_true rfl, Nat.le_of_ble_eq_true rfl, fun _ => rfl⟩
theorem arL_101 : 100 ≤ 101 ∧ 101 < 110 ∧ ∀ cA : Nat → ClassId, (tysOf cA)[1]? = some (cA 101, FieldType.boolean) := ⟨Nat.le_of_ble_eq_true rfl, Nat.le_of_ble_eq_true rfl, fun _ => rfl⟩
theorem arL_102 : 100 ≤ 102 ∧ 102 < 110 ∧ ∀ cA : Nat → ClassId, (tysOf cA)[2]? = some (cA 102, FieldType.byte) := ⟨Nat.le_of_ble_eq_true rfl, Nat.le_of_ble_eq_true rfl, fun _ => rfl⟩
section
variable {Y : MD} {X : DX} {k n k1 n1 : Nat} {Z : Shp} {M : Mem} {pc q : Nat} {L : List (Nat × AV)} {st : List AV} {P : Option Res}
theorem r_lf {α : Type} {a : α} {K : α → Option Res} {P1 : Option Res} (h : K a = P1) (kk : Ref Y X k n Z M pc L st P1) : Ref Y X k n Z M pc L st (Option.bind (some a) K) := by
  show Ref Y X k n Z M pc L st (K a)
  rw [h]
  exact kk
theorem r_l0 {α : Type} {a : α} {K : α → Option Res} (kk : Ref Y X k n Z M pc L st (K a)) : Ref Y X k n Z M pc L st (Option.bind (some a) K) := kk
theorem r_jn {α ρ : Type} {F : Option α} {G : α → Option ρ} {K : ρ → Option Res} (J : α → Option Res → Prop) (hj : ∀ v, J v (Option.bind (G v) K)) (kk : ∀ K1 : α → Option Res, (∀ v, J v (K1 v)) → Ref Y X k n Z M pc L st (Option.bind F K1)) : Ref Y X k n Z M pc L st (Option.bind (Option.bind F G) K) := by
  rw [Option.bind_assoc]
  exact kk _ hj
theorem r_js {α ρ : Type} {F : Option (α ⊕ ρ)} {G : α → Option ρ} {K : ρ → Option Res} (J : α → Option Res → Prop) (hj : ∀ v, J v (Option.bind (G v) K)) (kk : ∀ K1 : α ⊕ ρ → Option Res, (∀ v, J v (K1 (Sum.inl v))) → (∀ o, K1 (Sum.inr o) = K o) → Ref Y X k n Z M pc L st (Option.bind F K1)) : Ref Y X k n Z M pc L st (Option.bind (js F G) K) := by
  unfold js
  rw [Option.bind_assoc]
  exact kk _ hj (fun _ => rfl)
theorem r_loop {σ τ : Type} {Hd : σ → Option Res → Prop} {f : σ → Option (σ ⊕ τ)} {K : τ → Option Res} (h0 : ∀ s, Hd s none) (hb : ∀ (s : σ) (K1 : σ ⊕ τ → Option Res), (∀ s1, Hd s1 (K1 (Sum.inl s1))) → (∀ r, K1 (Sum.inr r) = K r) → Hd s (Option.bind (f s) K1)) (s : σ) : Hd s (Option.bind (loop f s) K) :=
  r_loop0 h0 (fun s N hN => hb s _ hN (fun _ => rfl)) s
theorem r_top {α : Type} {F : Option α} {r : α} {mk : α → Res} (h : F = some r) (kk : ∀ K : α → Option Res, (∀ r, K r = some (mk r)) → Ref Y X k n Z M pc L st (Option.bind F K)) : Ref Y X k n Z M pc L st (some (mk r)) := by
  subst h
  exact kk (fun r => some (mk r)) (fun _ => rfl)
theorem r_cv {Y1 : MD} {As st0 st1 : List AV} {a ci np idx : Nat} {r : Option AV} {Z1 : Shp} {M1 : Mem} (hX : Cx Y X) (hc : ∀ l, Ct l Y1 (vr a :: As) Z M (r, Z1, M1)) (ht : tg Z a = (ci + 1, szC ci)) (hI : Iv Y1 ci) (hC : Cc Y1 np) (hlk : Lk (yN Y).cls idx (yN Y1) ∨ ∃ host, LkN (yN Y).cls idx (yN Y1) host) (hn : As.length = np) (hst : st0 = As.reverse ++ vr a :: st) (hs1 : r.toList ++ st = st1) (hr : roomOk Y Y1 k n k1 n1) (hw8 : (st.map ct).sum ≤ 8)
    (hd : decode (yC Y) pc = .ok (.invokevirtual idx, 3)) (hq : pc + 3 = q) (kk : Ref Y X k1 n1 Z1 M1 q L st1 P) : Ref Y X k n Z M pc L st0 P := r_callv (y := (r, Z1, M1)) hX hc ht hI hC hlk hn hst hr hw8 hd hq (by subst hs1; exact kk)
theorem r_cs {Y1 : MD} {As st0 st1 : List AV} {np idx : Nat} {r : Option AV} {Z1 : Shp} {M1 : Mem} (hX : Cx Y X) (hc : ∀ l, Ct l Y1 As Z M (r, Z1, M1)) (hst2 : Cond.static (yN Y1) ∈ lw_gd) (hC : Cc Y1 np) (hlk : Lk (yN Y).cls idx (yN Y1) ∨ ∃ host, LkN (yN Y).cls idx (yN Y1) host) (hn : As.length = np) (hst : st0 = As.reverse ++ st) (hs1 : r.toList ++ st = st1) (hr : roomOk Y Y1 k n k1 n1) (hw8 : (st.map ct).sum ≤ 8)
    (hd : decode (yC Y) pc = .ok (.invokestatic idx, 3)) (hq : pc + 3 = q) (kk : Ref Y X k1 n1 Z1 M1 q L st1 P) : Ref Y X k n Z M pc L st0 P := r_calls (y := (r, Z1, M1)) hX hc hst2 hC hlk hn hst hr hw8 hd hq (by subst hs1; exact kk)
theorem r_ci {Y1 : MD} {As st0 st1 : List AV} {a ci np idx : Nat} {r : Option AV} {Z1 : Shp} {M1 : Mem} (hX : Cx Y X) (hc : ∀ l, Ct l Y1 (vr a :: As) Z M (r, Z1, M1)) (ht : tg Z a = (ci + 1, szC ci)) (hI : Cond.instanceMethod (yN Y1) ∈ lw_gd) (hnm1 : (yN Y1).name = "<init>") (hrn : yR Y1 = none) (hC : Cc Y1 np) (hlk : Lk (yN Y).cls idx (yN Y1) ∨ ∃ host, LkN (yN Y).cls idx (yN Y1) host) (hn : As.length = np) (hst : st0 = As.reverse ++ vr a :: st) (hs1 : r.toList ++ st = st1) (hr : roomOk Y Y1 k n k1 n1) (hw8 : (st.map ct).sum ≤ 8)
    (hd : decode (yC Y) pc = .ok (.invokespecial idx, 3)) (hq : pc + 3 = q) (kk : Ref Y X k1 n1 Z1 M1 q L st1 P) : Ref Y X k n Z M pc L st0 P := r_calli (y := (r, Z1, M1)) hX hc ht hI hnm1 hrn hC hlk hn hst hr hw8 hd hq (by subst hs1; exact kk)
/-! switches -/
def tsL (x : Int32) : List Int32 → Prop
  | [] => True
  | c :: cs => ¬ x = c ∧ tsL x cs
theorem tsL_mem {x : Int32} : ∀ {cs : List Int32}, tsL x cs → ∀ c ∈ cs, ¬ x = c
  | [], _, c, h => by cases h
  | c0 :: cs, h, c, hc => by
    rcases List.mem_cons.mp hc with rfl | h1
    · exact h.1
    · exact tsL_mem h.2 c h1
theorem r_tswI {x c0 : Int32} {dflt lo hi off : Int} {offs : Array Int} {len : Nat} (hX : Cx Y X) (h : x = c0) (hd : decode (yC Y) pc = .ok (.tableswitch dflt lo hi offs, len)) (hc : (¬ c0.toInt < lo ∧ ¬ hi < c0.toInt) ∧ offs[(c0.toInt - lo).toNat]? = some off) (ht : (pc : Int) + off = (q : Int)) (kk : Ref Y X k n Z M q L st P) : Ref Y X k n Z M pc L (vi x :: st) P := by
  subst h
  obtain ⟨p, l, e, s, m, args, below, meth, c, D, cA, B, Q⟩ := X
  obtain ⟨⟨hx, hb, hml, ho, hts⟩, ⟨hK, hKb⟩, hB, hlk, hrt, hnm⟩ := hX
  intro w hw H locs ls hR hS hl
  exact lv_tableIn hx hb hd hc.1.1 hc.1.2 hc.2 ht (kk w hw H locs ls hR hS hl)
theorem r_tswO {x : Int32} {cs : List Int32} {dflt lo hi : Int} {offs : Array Int} {len : Nat} (hX : Cx Y X) (h : tsL x cs) (hd : decode (yC Y) pc = .ok (.tableswitch dflt lo hi offs, len)) (hc : (List.range (hi - lo + 1).toNat).all (fun j => cs.any (fun c => decide (c.toInt = lo + j))) = true) (ht : (pc : Int) + dflt = (q : Int)) (kk : Ref Y X k n Z M q L st P) : Ref Y X k n Z M pc L (vi x :: st) P := by
  obtain ⟨p, l, e, s, m, args, below, meth, c, D, cA, B, Q⟩ := X
  obtain ⟨⟨hx, hb, hml, ho, hts⟩, ⟨hK, hKb⟩, hB, hlk, hrt, hnm⟩ := hX
  intro w hw H locs ls hR hS hl
  refine lv_tableOut hx hb hd ?_ ht (kk w hw H locs ls hR hS hl)
  by_cases h1 : x.toInt < lo
  · exact Or.inl h1
  · by_cases h2 : hi < x.toInt
    · exact Or.inr h2
    · exfalso
      have h3 := List.all_eq_true.mp hc (x.toInt - lo).toNat (List.mem_range.mpr (by omega))
      obtain ⟨c1, hc1, hc2⟩ := List.any_eq_true.mp h3
      have hc3 := of_decide_eq_true hc2
      refine tsL_mem h c1 hc1 (Int32.toInt_inj.mp ?_)
      omega
theorem r_lswI {x c0 : Int32} {dflt off : Int} {ps : Array (Int × Int)} {len : Nat} (hX : Cx Y X) (h : x = c0) (hd : decode (yC Y) pc = .ok (.lookupswitch dflt ps, len)) (hc : (ps.toList.zip (ps.toList.drop 1)).all (fun (a, next) => a.1 < next.1) = true ∧ Op.lookupswitch.offset ps.toList dflt c0.toInt = off) (ht : (pc : Int) + off = (q : Int)) (kk : Ref Y X k n Z M q L st P) : Ref Y X k n Z M pc L (vi x :: st) P := by
  subst h
  obtain ⟨p, l, e, s, m, args, below, meth, c, D, cA, B, Q⟩ := X
  obtain ⟨⟨hx, hb, hml, ho, hts⟩, ⟨hK, hKb⟩, hB, hlk, hrt, hnm⟩ := hX
  intro w hw H locs ls hR hS hl
  exact lv_lookup hx hb hd hc.1 hc.2 ht (kk w hw H locs ls hR hS hl)
theorem lsw_out {x : Int32} {d : Int} : ∀ {ps : List (Int × Int)} {cs : List Int32}, tsL x cs → ps.map (fun p => p.1) = cs.map (fun c => c.toInt) → Op.lookupswitch.offset ps d x.toInt = d
  | [], [], _, _ => rfl
  | p :: ps, c :: cs, h, he => by
    obtain ⟨a, o⟩ := p
    rw [List.map_cons, List.map_cons, List.cons.injEq] at he
    rw [lv_osw h.1 he.1.symm]
    exact lsw_out h.2 he.2
  | [], _ :: _, _, he => by cases he
  | _ :: _, [], _, he => by cases he
theorem r_lswO {x : Int32} {cs : List Int32} {dflt : Int} {ps : Array (Int × Int)} {len : Nat} (hX : Cx Y X) (h : tsL x cs) (hd : decode (yC Y) pc = .ok (.lookupswitch dflt ps, len)) (hc : (ps.toList.zip (ps.toList.drop 1)).all (fun (a, next) => a.1 < next.1) = true ∧ ps.toList.map (fun p => p.1) = cs.map (fun c => c.toInt)) (ht : (pc : Int) + dflt = (q : Int)) (kk : Ref Y X k n Z M q L st P) : Ref Y X k n Z M pc L (vi x :: st) P := by
  obtain ⟨p, l, e, s, m, args, below, meth, c, D, cA, B, Q⟩ := X
  obtain ⟨⟨hx, hb, hml, ho, hts⟩, ⟨hK, hKb⟩, hB, hlk, hrt, hnm⟩ := hX
  intro w hw H locs ls hR hS hl
  exact lv_lookup hx hb hd hc.1 (lsw_out h hc.2) ht (kk w hw H locs ls hR hS hl)
end
