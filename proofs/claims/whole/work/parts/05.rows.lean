/-! rows: an instruction each, from the kit's walk to 'Ref' -/
section
variable {Y : MD} {X : DX} {k n : Nat} {Z : Shp} {M : Mem} {pc q : Nat} {L : List (Nat × AV)} {st : List AV} {P : Option Res}
theorem r_iconst {i : Int} {v : Int32} (hX : Cx Y X) (hd : decode (yC Y) pc = .ok (.iconst i, 1)) (hv : Int32.ofInt i = v) (hq : pc + 1 = q) (kk : Ref Y X k n Z M q L (vi v :: st) P) : Ref Y X k n Z M pc L (st) P := by
  subst hq
  obtain ⟨p, l, e, s, m, args, below, meth, c, D, cA, B, Q⟩ := X
  obtain ⟨⟨hx, hb, hml, ho, hts⟩, ⟨hK, hKb⟩, hB, hlk, hrt, hnm⟩ := hX
  intro w hw H locs ls hR hS hl
  exact lv_iconst hx hb hd hv (kk w hw H locs ls hR hS hl)
theorem r_bipush {i : Int} {v : Int32} (hX : Cx Y X) (hd : decode (yC Y) pc = .ok (.bipush i, 2)) (hv : (Int8.ofInt i).toInt32 = v) (hq : pc + 2 = q) (kk : Ref Y X k n Z M q L (vi v :: st) P) : Ref Y X k n Z M pc L (st) P := by
  subst hq
  obtain ⟨p, l, e, s, m, args, below, meth, c, D, cA, B, Q⟩ := X
  obtain ⟨⟨hx, hb, hml, ho, hts⟩, ⟨hK, hKb⟩, hB, hlk, hrt, hnm⟩ := hX
  intro w hw H locs ls hR hS hl
  exact lv_bipush hx hb hd hv (kk w hw H locs ls hR hS hl)
theorem r_sipush {i : Int} {v : Int32} (hX : Cx Y X) (hd : decode (yC Y) pc = .ok (.sipush i, 3)) (hv : (Int16.ofInt i).toInt32 = v) (hq : pc + 3 = q) (kk : Ref Y X k n Z M q L (vi v :: st) P) : Ref Y X k n Z M pc L (st) P := by
  subst hq
  obtain ⟨p, l, e, s, m, args, below, meth, c, D, cA, B, Q⟩ := X
  obtain ⟨⟨hx, hb, hml, ho, hts⟩, ⟨hK, hKb⟩, hB, hlk, hrt, hnm⟩ := hX
  intro w hw H locs ls hR hS hl
  exact lv_sipush hx hb hd hv (kk w hw H locs ls hR hS hl)
theorem r_lconst {i : Fin 2} {v : Int64} (hX : Cx Y X) (hd : decode (yC Y) pc = .ok (.lconst i, 1)) (hv : Int64.ofNat (i : Nat) = v) (hq : pc + 1 = q) (kk : Ref Y X k n Z M q L (vj v :: st) P) : Ref Y X k n Z M pc L (st) P := by
  subst hq
  obtain ⟨p, l, e, s, m, args, below, meth, c, D, cA, B, Q⟩ := X
  obtain ⟨⟨hx, hb, hml, ho, hts⟩, ⟨hK, hKb⟩, hB, hlk, hrt, hnm⟩ := hX
  intro w hw H locs ls hR hS hl
  exact lv_lconst hx hb hd hv (kk w hw H locs ls hR hS hl)
theorem r_ldc {i : Nat} {v : Int32} (hX : Cx Y X) (hd : decode (yC Y) pc = .ok (.ldc i, 2)) (hv : Cond.constant (yN Y).cls i v ∈ lw_gd) (hq : pc + 2 = q) (kk : Ref Y X k n Z M q L (vi v :: st) P) : Ref Y X k n Z M pc L (st) P := by
  subst hq
  obtain ⟨p, l, e, s, m, args, below, meth, c, D, cA, B, Q⟩ := X
  obtain ⟨⟨hx, hb, hml, ho, hts⟩, ⟨hK, hKb⟩, hB, hlk, hrt, hnm⟩ := hX
  intro w hw H locs ls hR hS hl
  exact lv_ldc hx hb ho (hts _ hv) hd (kk w hw H locs ls hR hS hl)
theorem r_ldcw {i : Nat} {v : Int32} (hX : Cx Y X) (hd : decode (yC Y) pc = .ok (.ldc_w i, 3)) (hv : Cond.constant (yN Y).cls i v ∈ lw_gd) (hq : pc + 3 = q) (kk : Ref Y X k n Z M q L (vi v :: st) P) : Ref Y X k n Z M pc L (st) P := by
  subst hq
  obtain ⟨p, l, e, s, m, args, below, meth, c, D, cA, B, Q⟩ := X
  obtain ⟨⟨hx, hb, hml, ho, hts⟩, ⟨hK, hKb⟩, hB, hlk, hrt, hnm⟩ := hX
  intro w hw H locs ls hR hS hl
  exact lv_ldcw hx hb ho (hts _ hv) hd (kk w hw H locs ls hR hS hl)
theorem r_ldc2 {i : Nat} {v : Int64} (hX : Cx Y X) (hd : decode (yC Y) pc = .ok (.ldc2_w i, 3)) (hv : Cond.constantLong (yN Y).cls i v ∈ lw_gd) (hq : pc + 3 = q) (kk : Ref Y X k n Z M q L (vj v :: st) P) : Ref Y X k n Z M pc L (st) P := by
  subst hq
  obtain ⟨p, l, e, s, m, args, below, meth, c, D, cA, B, Q⟩ := X
  obtain ⟨⟨hx, hb, hml, ho, hts⟩, ⟨hK, hKb⟩, hB, hlk, hrt, hnm⟩ := hX
  intro w hw H locs ls hR hS hl
  exact lv_ldc2 hx hb ho (hts _ hv) hd (kk w hw H locs ls hR hS hl)
theorem r_null (hX : Cx Y X) (hd : decode (yC Y) pc = .ok (.aconst_null, 1)) (hq : pc + 1 = q) (kk : Ref Y X k n Z M q L (vr 0 :: st) P) : Ref Y X k n Z M pc L (st) P := by
  subst hq
  obtain ⟨p, l, e, s, m, args, below, meth, c, D, cA, B, Q⟩ := X
  obtain ⟨⟨hx, hb, hml, ho, hts⟩, ⟨hK, hKb⟩, hB, hlk, hrt, hnm⟩ := hX
  intro w hw H locs ls hR hS hl
  exact lv_null hx hb hd (kk w hw H locs ls hR hS hl)
theorem at_map {B : BB} {ls : Array Slot} {nL : Nat} (h : lv_has ls nL (L.map (ev2 B))) {j i : Nat} {v : AV} (hj : L[j]? = some (i, v)) : ls[i]? = some (.val (ev B v)) := lv_at h j (by rw [List.getElem?_map, hj]; rfl)
theorem r_iload_n {f : Fin 4} {i : Nat} {x : Int32} (j : Nat) (hX : Cx Y X) (hd : decode (yC Y) pc = .ok (.iload_n f, 1)) (hi : (f : Nat) = i) (hj : L[j]? = some (i, vi x)) (hq : pc + 1 = q) (kk : Ref Y X k n Z M q L (vi x :: st) P) : Ref Y X k n Z M pc L (st) P := by
  subst hq
  obtain ⟨p, l, e, s, m, args, below, meth, c, D, cA, B, Q⟩ := X
  obtain ⟨⟨hx, hb, hml, ho, hts⟩, ⟨hK, hKb⟩, hB, hlk, hrt, hnm⟩ := hX
  intro w hw H locs ls hR hS hl
  exact lv_iload_n hx hb hd hi (at_map hl hj) (kk w hw H locs ls hR hS hl)
theorem r_iload {i : Nat} {x : Int32} (j : Nat) (hX : Cx Y X) (hd : decode (yC Y) pc = .ok (.iload i, 2)) (hj : L[j]? = some (i, vi x)) (hq : pc + 2 = q) (kk : Ref Y X k n Z M q L (vi x :: st) P) : Ref Y X k n Z M pc L (st) P := by
  subst hq
  obtain ⟨p, l, e, s, m, args, below, meth, c, D, cA, B, Q⟩ := X
  obtain ⟨⟨hx, hb, hml, ho, hts⟩, ⟨hK, hKb⟩, hB, hlk, hrt, hnm⟩ := hX
  intro w hw H locs ls hR hS hl
  exact lv_iload hx hb hd (at_map hl hj) (kk w hw H locs ls hR hS hl)
theorem r_lload_n {f : Fin 4} {i : Nat} {x : Int64} (j : Nat) (hX : Cx Y X) (hd : decode (yC Y) pc = .ok (.lload_n f, 1)) (hi : (f : Nat) = i) (hj : L[j]? = some (i, vj x)) (hq : pc + 1 = q) (kk : Ref Y X k n Z M q L (vj x :: st) P) : Ref Y X k n Z M pc L (st) P := by
  subst hq
  obtain ⟨p, l, e, s, m, args, below, meth, c, D, cA, B, Q⟩ := X
  obtain ⟨⟨hx, hb, hml, ho, hts⟩, ⟨hK, hKb⟩, hB, hlk, hrt, hnm⟩ := hX
  intro w hw H locs ls hR hS hl
  exact lv_lload_n hx hb hd hi (at_map hl hj) (kk w hw H locs ls hR hS hl)
theorem r_lload {i : Nat} {x : Int64} (j : Nat) (hX : Cx Y X) (hd : decode (yC Y) pc = .ok (.lload i, 2)) (hj : L[j]? = some (i, vj x)) (hq : pc + 2 = q) (kk : Ref Y X k n Z M q L (vj x :: st) P) : Ref Y X k n Z M pc L (st) P := by
  subst hq
  obtain ⟨p, l, e, s, m, args, below, meth, c, D, cA, B, Q⟩ := X
  obtain ⟨⟨hx, hb, hml, ho, hts⟩, ⟨hK, hKb⟩, hB, hlk, hrt, hnm⟩ := hX
  intro w hw H locs ls hR hS hl
  exact lv_lload hx hb hd (at_map hl hj) (kk w hw H locs ls hR hS hl)
theorem r_aload_n {f : Fin 4} {i x : Nat} (j : Nat) (hX : Cx Y X) (hd : decode (yC Y) pc = .ok (.aload_n f, 1)) (hi : (f : Nat) = i) (hj : L[j]? = some (i, vr x)) (hq : pc + 1 = q) (kk : Ref Y X k n Z M q L (vr x :: st) P) : Ref Y X k n Z M pc L st P := by
  subst hq
  obtain ⟨p, l, e, s, m, args, below, meth, c, D, cA, B, Q⟩ := X
  obtain ⟨⟨hx, hb, hml, ho, hts⟩, ⟨hK, hKb⟩, hB, hlk, hrt, hnm⟩ := hX
  intro w hw H locs ls hR hS hl
  have ha := at_map hl hj
  match x, ha with
  | 0, ha => exact lv_aload_nN hx hb hd hi ha (kk w hw H locs ls hR hS hl)
  | 1, ha => exact lv_aload_n hx hb hd hi ha (kk w hw H locs ls hR hS hl)
  | _ + 2, ha => exact lv_aload_n hx hb hd hi ha (kk w hw H locs ls hR hS hl)
theorem r_aload {i x : Nat} (j : Nat) (hX : Cx Y X) (hd : decode (yC Y) pc = .ok (.aload i, 2)) (hj : L[j]? = some (i, vr x)) (hq : pc + 2 = q) (kk : Ref Y X k n Z M q L (vr x :: st) P) : Ref Y X k n Z M pc L st P := by
  subst hq
  obtain ⟨p, l, e, s, m, args, below, meth, c, D, cA, B, Q⟩ := X
  obtain ⟨⟨hx, hb, hml, ho, hts⟩, ⟨hK, hKb⟩, hB, hlk, hrt, hnm⟩ := hX
  intro w hw H locs ls hR hS hl
  have ha := at_map hl hj
  match x, ha with
  | 0, ha => exact lv_aloadN hx hb hd  ha (kk w hw H locs ls hR hS hl)
  | 1, ha => exact lv_aload hx hb hd  ha (kk w hw H locs ls hR hS hl)
  | _ + 2, ha => exact lv_aload hx hb hd  ha (kk w hw H locs ls hR hS hl)
/-- which places of a list of locals outlive a store of width w at place i -/
def okE (i w : Nat) (e : Nat × AV) : Bool := !(e.1 == i) && !(w == 2 && e.1 == i + 1) && !(e.1 + 1 == i && ct e.2 == 2)
def pkL (i w : Nat) (v : AV) (L : List (Nat × AV)) : List Nat → Option (List (Nat × AV))
  | [] => some []
  | 0 :: ks => (pkL i w v L ks).map ((i, v) :: ·)
  | (j + 1) :: ks => match L[j]? with
    | some e => if okE i w e then (pkL i w v L ks).map (e :: ·) else none
    | none => none
theorem pkL_mem {i w : Nat} {v : AV} {L : List (Nat × AV)} : ∀ {ks : List Nat} {L' : List (Nat × AV)}, pkL i w v L ks = some L' → ∀ e ∈ L', e = (i, v) ∨ (e ∈ L ∧ okE i w e = true)
  | [], L', h, e, he => by cases h; cases he
  | 0 :: ks, L', h, e, he => by
    obtain ⟨r, hr, rfl⟩ := Option.map_eq_some_iff.mp h
    rcases List.mem_cons.mp he with h1 | h1
    · exact Or.inl h1
    · exact pkL_mem hr e h1
  | (j + 1) :: ks, L', h, e, he => by
    unfold pkL at h
    split at h
    · rename_i u hu
      split at h
      · rename_i hk
        obtain ⟨r, hr, rfl⟩ := Option.map_eq_some_iff.mp h
        rcases List.mem_cons.mp he with h1 | h1
        · subst h1; exact Or.inr ⟨List.mem_of_getElem? hu, hk⟩
        · exact pkL_mem hr e h1
      · cases h
    · cases h
theorem has_st1 {B : BB} {i : Nat} {v : AV} {ks : List Nat} {L' : List (Nat × AV)} {ls : Array Slot} {nL : Nat} (h : pkL i 1 v L ks = some L')
    (hl : lv_has ls nL ((i, ev B v) :: (L.map (ev2 B)).filter (fun q => !(q.1 == i) && !(q.1 + 1 == i && q.2.category == 2)))) : lv_has ls nL (L'.map (ev2 B)) := by
  refine ⟨hl.1, hl.2.1, fun e he => ?_⟩
  obtain ⟨u, hu, rfl⟩ := List.mem_map.mp he
  rcases pkL_mem h u hu with h1 | ⟨h1, h2⟩
  · subst h1; exact hl.2.2 _ List.mem_cons_self
  · refine hl.2.2 _ (List.mem_cons_of_mem _ (List.mem_filter.mpr ⟨List.mem_map.mpr ⟨u, h1, rfl⟩, ?_⟩))
    unfold okE at h2
    show (!(u.1 == i) && !(u.1 + 1 == i && (ev B u.2).category == 2)) = true
    rw [ev_cat]
    simp only [Bool.and_eq_true] at h2 ⊢
    exact ⟨h2.1.1, h2.2⟩
theorem has_st2 {B : BB} {i : Nat} {v : AV} {ks : List Nat} {L' : List (Nat × AV)} {ls : Array Slot} {nL : Nat} (h : pkL i 2 v L ks = some L')
    (hl : lv_has ls nL ((i, ev B v) :: (L.map (ev2 B)).filter (fun q => !(q.1 == i) && (!(q.1 == i + 1) && !(q.1 + 1 == i && q.2.category == 2))))) : lv_has ls nL (L'.map (ev2 B)) := by
  refine ⟨hl.1, hl.2.1, fun e he => ?_⟩
  obtain ⟨u, hu, rfl⟩ := List.mem_map.mp he
  rcases pkL_mem h u hu with h1 | ⟨h1, h2⟩
  · subst h1; exact hl.2.2 _ List.mem_cons_self
  · refine hl.2.2 _ (List.mem_cons_of_mem _ (List.mem_filter.mpr ⟨List.mem_map.mpr ⟨u, h1, rfl⟩, ?_⟩))
    unfold okE at h2
    show (!(u.1 == i) && (!(u.1 == i + 1) && !(u.1 + 1 == i && (ev B u.2).category == 2))) = true
    rw [ev_cat]
    simp only [Bool.and_eq_true] at h2 ⊢
    refine ⟨h2.1.1, ?_, h2.2⟩
    simpa using h2.1.2
theorem r_istore_n {f : Fin 4} {x : Int32} (i : Nat) (ks : List Nat) {L1 : List (Nat × AV)} (hX : Cx Y X) (hd : decode (yC Y) pc = .ok (.istore_n f, 1)) (hi : (f : Nat) = i) (hn : i < yL Y) (hp : pkL i 1 (vi x) L ks = some L1) (hq : pc + 1 = q) (kk : Ref Y X k n Z M q L1 st P) : Ref Y X k n Z M pc L (vi x :: st) P := by
  subst hq
  obtain ⟨p, l, e, s, m, args, below, meth, c, D, cA, B, Q⟩ := X
  obtain ⟨⟨hx, hb, hml, ho, hts⟩, ⟨hK, hKb⟩, hB, hlk, hrt, hnm⟩ := hX
  intro w hw H locs ls hR hS hl
  exact lv_istore_n hx hb hd hi hl (nL := yL Y) hn rfl (fun ls1 h1 => kk w hw H locs ls1 hR hS (has_st1 hp h1))
theorem r_istore_nP {f : Fin 4} {x : Int32} {α : Type} {G : Int32 → Option α} {K : α → Option Res} (i : Nat) (ks : List Nat) (L1 : Int32 → List (Nat × AV)) (hX : Cx Y X) (hd : decode (yC Y) pc = .ok (.istore_n f, 1)) (hi : (f : Nat) = i) (hn : i < yL Y) (hp : ∀ z, pkL i 1 (vi z) L ks = some (L1 z)) (hq : pc + 1 = q) (kk : ∀ z, Ref Y X k n Z M q (L1 z) st (Option.bind (G z) K)) : Ref Y X k n Z M pc L (vi x :: st) (Option.bind (pu x G) K) := r_istore_n i ks hX hd hi hn (hp x) hq (kk x)
theorem r_istore {x : Int32} (i : Nat) (ks : List Nat) {L1 : List (Nat × AV)} (hX : Cx Y X) (hd : decode (yC Y) pc = .ok (.istore i, 2)) (hn : i < yL Y) (hp : pkL i 1 (vi x) L ks = some L1) (hq : pc + 2 = q) (kk : Ref Y X k n Z M q L1 st P) : Ref Y X k n Z M pc L (vi x :: st) P := by
  subst hq
  obtain ⟨p, l, e, s, m, args, below, meth, c, D, cA, B, Q⟩ := X
  obtain ⟨⟨hx, hb, hml, ho, hts⟩, ⟨hK, hKb⟩, hB, hlk, hrt, hnm⟩ := hX
  intro w hw H locs ls hR hS hl
  exact lv_istore hx hb hd hl (nL := yL Y) hn rfl (fun ls1 h1 => kk w hw H locs ls1 hR hS (has_st1 hp h1))
theorem r_istoreP {x : Int32} {α : Type} {G : Int32 → Option α} {K : α → Option Res} (i : Nat) (ks : List Nat) (L1 : Int32 → List (Nat × AV)) (hX : Cx Y X) (hd : decode (yC Y) pc = .ok (.istore i, 2)) (hn : i < yL Y) (hp : ∀ z, pkL i 1 (vi z) L ks = some (L1 z)) (hq : pc + 2 = q) (kk : ∀ z, Ref Y X k n Z M q (L1 z) st (Option.bind (G z) K)) : Ref Y X k n Z M pc L (vi x :: st) (Option.bind (pu x G) K) := r_istore i ks hX hd hn (hp x) hq (kk x)
theorem r_lstore_n {f : Fin 4} {x : Int64} (i : Nat) (ks : List Nat) {L1 : List (Nat × AV)} (hX : Cx Y X) (hd : decode (yC Y) pc = .ok (.lstore_n f, 1)) (hi : (f : Nat) = i) (hn : i + 1 < yL Y) (hp : pkL i 2 (vj x) L ks = some L1) (hq : pc + 1 = q) (kk : Ref Y X k n Z M q L1 st P) : Ref Y X k n Z M pc L (vj x :: st) P := by
  subst hq
  obtain ⟨p, l, e, s, m, args, below, meth, c, D, cA, B, Q⟩ := X
  obtain ⟨⟨hx, hb, hml, ho, hts⟩, ⟨hK, hKb⟩, hB, hlk, hrt, hnm⟩ := hX
  intro w hw H locs ls hR hS hl
  exact lv_lstore_n hx hb hd hi hl (nL := yL Y) hn rfl (fun ls1 h1 => kk w hw H locs ls1 hR hS (has_st2 hp h1))
theorem r_lstore_nP {f : Fin 4} {x : Int64} {α : Type} {G : Int64 → Option α} {K : α → Option Res} (i : Nat) (ks : List Nat) (L1 : Int64 → List (Nat × AV)) (hX : Cx Y X) (hd : decode (yC Y) pc = .ok (.lstore_n f, 1)) (hi : (f : Nat) = i) (hn : i + 1 < yL Y) (hp : ∀ z, pkL i 2 (vj z) L ks = some (L1 z)) (hq : pc + 1 = q) (kk : ∀ z, Ref Y X k n Z M q (L1 z) st (Option.bind (G z) K)) : Ref Y X k n Z M pc L (vj x :: st) (Option.bind (pu x G) K) := r_lstore_n i ks hX hd hi hn (hp x) hq (kk x)
theorem r_lstore {x : Int64} (i : Nat) (ks : List Nat) {L1 : List (Nat × AV)} (hX : Cx Y X) (hd : decode (yC Y) pc = .ok (.lstore i, 2)) (hn : i + 1 < yL Y) (hp : pkL i 2 (vj x) L ks = some L1) (hq : pc + 2 = q) (kk : Ref Y X k n Z M q L1 st P) : Ref Y X k n Z M pc L (vj x :: st) P := by
  subst hq
  obtain ⟨p, l, e, s, m, args, below, meth, c, D, cA, B, Q⟩ := X
  obtain ⟨⟨hx, hb, hml, ho, hts⟩, ⟨hK, hKb⟩, hB, hlk, hrt, hnm⟩ := hX
  intro w hw H locs ls hR hS hl
  exact lv_lstore hx hb hd hl (nL := yL Y) hn rfl (fun ls1 h1 => kk w hw H locs ls1 hR hS (has_st2 hp h1))
theorem r_lstoreP {x : Int64} {α : Type} {G : Int64 → Option α} {K : α → Option Res} (i : Nat) (ks : List Nat) (L1 : Int64 → List (Nat × AV)) (hX : Cx Y X) (hd : decode (yC Y) pc = .ok (.lstore i, 2)) (hn : i + 1 < yL Y) (hp : ∀ z, pkL i 2 (vj z) L ks = some (L1 z)) (hq : pc + 2 = q) (kk : ∀ z, Ref Y X k n Z M q (L1 z) st (Option.bind (G z) K)) : Ref Y X k n Z M pc L (vj x :: st) (Option.bind (pu x G) K) := r_lstore i ks hX hd hn (hp x) hq (kk x)
theorem r_astore_n {f : Fin 4} {x : Nat} (i : Nat) (ks : List Nat) {L1 : List (Nat × AV)} (hX : Cx Y X) (hd : decode (yC Y) pc = .ok (.astore_n f, 1)) (hi : (f : Nat) = i) (hn : i < yL Y) (hp : pkL i 1 (vr x) L ks = some L1) (hq : pc + 1 = q) (kk : Ref Y X k n Z M q L1 st P) : Ref Y X k n Z M pc L (vr x :: st) P := by
  subst hq
  obtain ⟨p, l, e, s, m, args, below, meth, c, D, cA, B, Q⟩ := X
  obtain ⟨⟨hx, hb, hml, ho, hts⟩, ⟨hK, hKb⟩, hB, hlk, hrt, hnm⟩ := hX
  intro w hw H locs ls hR hS hl
  match x, hp with
  | 0, hp => exact lv_astore_nN hx hb hd hi hl (nL := yL Y) hn rfl (fun ls1 h1 => kk w hw H locs ls1 hR hS (has_st1 hp h1))
  | 1, hp => exact lv_astore_n hx hb hd hi hl (nL := yL Y) hn rfl (fun ls1 h1 => kk w hw H locs ls1 hR hS (has_st1 hp h1))
  | _ + 2, hp => exact lv_astore_n hx hb hd hi hl (nL := yL Y) hn rfl (fun ls1 h1 => kk w hw H locs ls1 hR hS (has_st1 hp h1))
theorem r_astore_nP {f : Fin 4} {x : Nat} {α : Type} {G : Nat → Option α} {K : α → Option Res} (i : Nat) (ks : List Nat) (L1 : Nat → List (Nat × AV)) (hX : Cx Y X) (hd : decode (yC Y) pc = .ok (.astore_n f, 1)) (hi : (f : Nat) = i) (hn : i < yL Y) (hp : ∀ z, pkL i 1 (vr z) L ks = some (L1 z)) (hq : pc + 1 = q) (kk : ∀ z, Ref Y X k n Z M q (L1 z) st (Option.bind (G z) K)) : Ref Y X k n Z M pc L (vr x :: st) (Option.bind (pu x G) K) := r_astore_n i ks hX hd hi hn (hp x) hq (kk x)
theorem r_astore {x : Nat} (i : Nat) (ks : List Nat) {L1 : List (Nat × AV)} (hX : Cx Y X) (hd : decode (yC Y) pc = .ok (.astore i, 2)) (hn : i < yL Y) (hp : pkL i 1 (vr x) L ks = some L1) (hq : pc + 2 = q) (kk : Ref Y X k n Z M q L1 st P) : Ref Y X k n Z M pc L (vr x :: st) P := by
  subst hq
  obtain ⟨p, l, e, s, m, args, below, meth, c, D, cA, B, Q⟩ := X
  obtain ⟨⟨hx, hb, hml, ho, hts⟩, ⟨hK, hKb⟩, hB, hlk, hrt, hnm⟩ := hX
  intro w hw H locs ls hR hS hl
  match x, hp with
  | 0, hp => exact lv_astoreN hx hb hd hl (nL := yL Y) hn rfl (fun ls1 h1 => kk w hw H locs ls1 hR hS (has_st1 hp h1))
  | 1, hp => exact lv_astore hx hb hd hl (nL := yL Y) hn rfl (fun ls1 h1 => kk w hw H locs ls1 hR hS (has_st1 hp h1))
  | _ + 2, hp => exact lv_astore hx hb hd hl (nL := yL Y) hn rfl (fun ls1 h1 => kk w hw H locs ls1 hR hS (has_st1 hp h1))
theorem r_astoreP {x : Nat} {α : Type} {G : Nat → Option α} {K : α → Option Res} (i : Nat) (ks : List Nat) (L1 : Nat → List (Nat × AV)) (hX : Cx Y X) (hd : decode (yC Y) pc = .ok (.astore i, 2)) (hn : i < yL Y) (hp : ∀ z, pkL i 1 (vr z) L ks = some (L1 z)) (hq : pc + 2 = q) (kk : ∀ z, Ref Y X k n Z M q (L1 z) st (Option.bind (G z) K)) : Ref Y X k n Z M pc L (vr x :: st) (Option.bind (pu x G) K) := r_astore i ks hX hd hn (hp x) hq (kk x)
theorem r_iinc {c0 : Int} {x v : Int32} (i j : Nat) (ks : List Nat) {L1 : List (Nat × AV)} (hX : Cx Y X) (hd : decode (yC Y) pc = .ok (.iinc i c0, 3)) (hj : L[j]? = some (i, vi x)) (hv : x + Int32.ofInt c0 = v) (hn : i < yL Y) (hp : pkL i 1 (vi v) L ks = some L1) (hq : pc + 3 = q) (kk : Ref Y X k n Z M q L1 st P) : Ref Y X k n Z M pc L st P := by
  subst hq
  obtain ⟨p, l, e, s, m, args, below, meth, c, D, cA, B, Q⟩ := X
  obtain ⟨⟨hx, hb, hml, ho, hts⟩, ⟨hK, hKb⟩, hB, hlk, hrt, hnm⟩ := hX
  intro w hw H locs ls hR hS hl
  exact lv_iinc (k := j) hx hb hd hl (by rw [List.getElem?_map, hj]; rfl) hv (nL := yL Y) hn rfl (fun ls1 h1 => kk w hw H locs ls1 hR hS (has_st1 hp h1))
theorem r_iadd {x y : Int32} (hX : Cx Y X) (hd : decode (yC Y) pc = .ok (.iadd, 1)) (hq : pc + 1 = q) (kk : Ref Y X k n Z M q L (vi (x + y) :: st) P) : Ref Y X k n Z M pc L (vi y :: vi x :: st) P := by
  subst hq
  obtain ⟨p, l, e, s, m, args, below, meth, c, D, cA, B, Q⟩ := X
  obtain ⟨⟨hx, hb, hml, ho, hts⟩, ⟨hK, hKb⟩, hB, hlk, hrt, hnm⟩ := hX
  intro w hw H locs ls hR hS hl
  exact lv_iadd hx hb hd (kk w hw H locs ls hR hS hl)
theorem r_isub {x y : Int32} (hX : Cx Y X) (hd : decode (yC Y) pc = .ok (.isub, 1)) (hq : pc + 1 = q) (kk : Ref Y X k n Z M q L (vi (x - y) :: st) P) : Ref Y X k n Z M pc L (vi y :: vi x :: st) P := by
  subst hq
  obtain ⟨p, l, e, s, m, args, below, meth, c, D, cA, B, Q⟩ := X
  obtain ⟨⟨hx, hb, hml, ho, hts⟩, ⟨hK, hKb⟩, hB, hlk, hrt, hnm⟩ := hX
  intro w hw H locs ls hR hS hl
  exact lv_isub hx hb hd (kk w hw H locs ls hR hS hl)
theorem r_imul {x y : Int32} (hX : Cx Y X) (hd : decode (yC Y) pc = .ok (.imul, 1)) (hq : pc + 1 = q) (kk : Ref Y X k n Z M q L (vi (x * y) :: st) P) : Ref Y X k n Z M pc L (vi y :: vi x :: st) P := by
  subst hq
  obtain ⟨p, l, e, s, m, args, below, meth, c, D, cA, B, Q⟩ := X
  obtain ⟨⟨hx, hb, hml, ho, hts⟩, ⟨hK, hKb⟩, hB, hlk, hrt, hnm⟩ := hX
  intro w hw H locs ls hR hS hl
  exact lv_imul hx hb hd (kk w hw H locs ls hR hS hl)
theorem r_iand {x y : Int32} (hX : Cx Y X) (hd : decode (yC Y) pc = .ok (.iand, 1)) (hq : pc + 1 = q) (kk : Ref Y X k n Z M q L (vi (x &&& y) :: st) P) : Ref Y X k n Z M pc L (vi y :: vi x :: st) P := by
  subst hq
  obtain ⟨p, l, e, s, m, args, below, meth, c, D, cA, B, Q⟩ := X
  obtain ⟨⟨hx, hb, hml, ho, hts⟩, ⟨hK, hKb⟩, hB, hlk, hrt, hnm⟩ := hX
  intro w hw H locs ls hR hS hl
  exact lv_iand hx hb hd (kk w hw H locs ls hR hS hl)
theorem r_ior {x y : Int32} (hX : Cx Y X) (hd : decode (yC Y) pc = .ok (.ior, 1)) (hq : pc + 1 = q) (kk : Ref Y X k n Z M q L (vi (x ||| y) :: st) P) : Ref Y X k n Z M pc L (vi y :: vi x :: st) P := by
  subst hq
  obtain ⟨p, l, e, s, m, args, below, meth, c, D, cA, B, Q⟩ := X
  obtain ⟨⟨hx, hb, hml, ho, hts⟩, ⟨hK, hKb⟩, hB, hlk, hrt, hnm⟩ := hX
  intro w hw H locs ls hR hS hl
  exact lv_ior hx hb hd (kk w hw H locs ls hR hS hl)
theorem r_ixor {x y : Int32} (hX : Cx Y X) (hd : decode (yC Y) pc = .ok (.ixor, 1)) (hq : pc + 1 = q) (kk : Ref Y X k n Z M q L (vi (x ^^^ y) :: st) P) : Ref Y X k n Z M pc L (vi y :: vi x :: st) P := by
  subst hq
  obtain ⟨p, l, e, s, m, args, below, meth, c, D, cA, B, Q⟩ := X
  obtain ⟨⟨hx, hb, hml, ho, hts⟩, ⟨hK, hKb⟩, hB, hlk, hrt, hnm⟩ := hX
  intro w hw H locs ls hR hS hl
  exact lv_ixor hx hb hd (kk w hw H locs ls hR hS hl)
theorem r_idiv {x y : Int32} (hX : Cx Y X) (hd : decode (yC Y) pc = .ok (.idiv, 1)) (hne : ¬ y = 0) (hq : pc + 1 = q) (kk : Ref Y X k n Z M q L (vi (x / y) :: st) P) : Ref Y X k n Z M pc L (vi y :: vi x :: st) P := by
  subst hq
  obtain ⟨p, l, e, s, m, args, below, meth, c, D, cA, B, Q⟩ := X
  obtain ⟨⟨hx, hb, hml, ho, hts⟩, ⟨hK, hKb⟩, hB, hlk, hrt, hnm⟩ := hX
  intro w hw H locs ls hR hS hl
  exact lv_idiv hx hb hd hne (kk w hw H locs ls hR hS hl)
theorem r_ineg {x : Int32} (hX : Cx Y X) (hd : decode (yC Y) pc = .ok (.ineg, 1)) (hq : pc + 1 = q) (kk : Ref Y X k n Z M q L (vi (-x) :: st) P) : Ref Y X k n Z M pc L (vi x :: st) P := by
  subst hq
  obtain ⟨p, l, e, s, m, args, below, meth, c, D, cA, B, Q⟩ := X
  obtain ⟨⟨hx, hb, hml, ho, hts⟩, ⟨hK, hKb⟩, hB, hlk, hrt, hnm⟩ := hX
  intro w hw H locs ls hR hS hl
  exact lv_ineg hx hb hd (kk w hw H locs ls hR hS hl)
theorem r_ladd {x y : Int64} (hX : Cx Y X) (hd : decode (yC Y) pc = .ok (.ladd, 1)) (hq : pc + 1 = q) (kk : Ref Y X k n Z M q L (vj (x + y) :: st) P) : Ref Y X k n Z M pc L (vj y :: vj x :: st) P := by
  subst hq
  obtain ⟨p, l, e, s, m, args, below, meth, c, D, cA, B, Q⟩ := X
  obtain ⟨⟨hx, hb, hml, ho, hts⟩, ⟨hK, hKb⟩, hB, hlk, hrt, hnm⟩ := hX
  intro w hw H locs ls hR hS hl
  exact lv_ladd hx hb hd (kk w hw H locs ls hR hS hl)
theorem r_lsub {x y : Int64} (hX : Cx Y X) (hd : decode (yC Y) pc = .ok (.lsub, 1)) (hq : pc + 1 = q) (kk : Ref Y X k n Z M q L (vj (x - y) :: st) P) : Ref Y X k n Z M pc L (vj y :: vj x :: st) P := by
  subst hq
  obtain ⟨p, l, e, s, m, args, below, meth, c, D, cA, B, Q⟩ := X
  obtain ⟨⟨hx, hb, hml, ho, hts⟩, ⟨hK, hKb⟩, hB, hlk, hrt, hnm⟩ := hX
  intro w hw H locs ls hR hS hl
  exact lv_lsub hx hb hd (kk w hw H locs ls hR hS hl)
theorem r_lmul {x y : Int64} (hX : Cx Y X) (hd : decode (yC Y) pc = .ok (.lmul, 1)) (hq : pc + 1 = q) (kk : Ref Y X k n Z M q L (vj (x * y) :: st) P) : Ref Y X k n Z M pc L (vj y :: vj x :: st) P := by
  subst hq
  obtain ⟨p, l, e, s, m, args, below, meth, c, D, cA, B, Q⟩ := X
  obtain ⟨⟨hx, hb, hml, ho, hts⟩, ⟨hK, hKb⟩, hB, hlk, hrt, hnm⟩ := hX
  intro w hw H locs ls hR hS hl
  exact lv_lmul hx hb hd (kk w hw H locs ls hR hS hl)
theorem r_land {x y : Int64} (hX : Cx Y X) (hd : decode (yC Y) pc = .ok (.land, 1)) (hq : pc + 1 = q) (kk : Ref Y X k n Z M q L (vj (x &&& y) :: st) P) : Ref Y X k n Z M pc L (vj y :: vj x :: st) P := by
  subst hq
  obtain ⟨p, l, e, s, m, args, below, meth, c, D, cA, B, Q⟩ := X
  obtain ⟨⟨hx, hb, hml, ho, hts⟩, ⟨hK, hKb⟩, hB, hlk, hrt, hnm⟩ := hX
  intro w hw H locs ls hR hS hl
  exact lv_land hx hb hd (kk w hw H locs ls hR hS hl)
theorem r_lor {x y : Int64} (hX : Cx Y X) (hd : decode (yC Y) pc = .ok (.lor, 1)) (hq : pc + 1 = q) (kk : Ref Y X k n Z M q L (vj (x ||| y) :: st) P) : Ref Y X k n Z M pc L (vj y :: vj x :: st) P := by
  subst hq
  obtain ⟨p, l, e, s, m, args, below, meth, c, D, cA, B, Q⟩ := X
  obtain ⟨⟨hx, hb, hml, ho, hts⟩, ⟨hK, hKb⟩, hB, hlk, hrt, hnm⟩ := hX
  intro w hw H locs ls hR hS hl
  exact lv_lor hx hb hd (kk w hw H locs ls hR hS hl)
theorem r_lxor {x y : Int64} (hX : Cx Y X) (hd : decode (yC Y) pc = .ok (.lxor, 1)) (hq : pc + 1 = q) (kk : Ref Y X k n Z M q L (vj (x ^^^ y) :: st) P) : Ref Y X k n Z M pc L (vj y :: vj x :: st) P := by
  subst hq
  obtain ⟨p, l, e, s, m, args, below, meth, c, D, cA, B, Q⟩ := X
  obtain ⟨⟨hx, hb, hml, ho, hts⟩, ⟨hK, hKb⟩, hB, hlk, hrt, hnm⟩ := hX
  intro w hw H locs ls hR hS hl
  exact lv_lxor hx hb hd (kk w hw H locs ls hR hS hl)
theorem r_ldiv {x y : Int64} (hX : Cx Y X) (hd : decode (yC Y) pc = .ok (.ldiv, 1)) (hne : ¬ y = 0) (hq : pc + 1 = q) (kk : Ref Y X k n Z M q L (vj (x / y) :: st) P) : Ref Y X k n Z M pc L (vj y :: vj x :: st) P := by
  subst hq
  obtain ⟨p, l, e, s, m, args, below, meth, c, D, cA, B, Q⟩ := X
  obtain ⟨⟨hx, hb, hml, ho, hts⟩, ⟨hK, hKb⟩, hB, hlk, hrt, hnm⟩ := hX
  intro w hw H locs ls hR hS hl
  exact lv_ldiv hx hb hd hne (kk w hw H locs ls hR hS hl)
theorem r_lneg {x : Int64} (hX : Cx Y X) (hd : decode (yC Y) pc = .ok (.lneg, 1)) (hq : pc + 1 = q) (kk : Ref Y X k n Z M q L (vj (-x) :: st) P) : Ref Y X k n Z M pc L (vj x :: st) P := by
  subst hq
  obtain ⟨p, l, e, s, m, args, below, meth, c, D, cA, B, Q⟩ := X
  obtain ⟨⟨hx, hb, hml, ho, hts⟩, ⟨hK, hKb⟩, hB, hlk, hrt, hnm⟩ := hX
  intro w hw H locs ls hR hS hl
  exact lv_lneg hx hb hd (kk w hw H locs ls hR hS hl)
theorem r_irem {x y : Int32} (hX : Cx Y X) (hd : decode (yC Y) pc = .ok (.irem, 1)) (hne : ¬ y = 0) (hq : pc + 1 = q) (kk : Ref Y X k n Z M q L (vi (x - x / y * y) :: st) P) : Ref Y X k n Z M pc L (vi y :: vi x :: st) P := by
  subst hq
  obtain ⟨p, l, e, s, m, args, below, meth, c, D, cA, B, Q⟩ := X
  obtain ⟨⟨hx, hb, hml, ho, hts⟩, ⟨hK, hKb⟩, hB, hlk, hrt, hnm⟩ := hX
  intro w hw H locs ls hR hS hl
  exact lv_irem hx hb hd hne (kk w hw H locs ls hR hS hl)
theorem r_lrem {x y : Int64} (hX : Cx Y X) (hd : decode (yC Y) pc = .ok (.lrem, 1)) (hne : ¬ y = 0) (hq : pc + 1 = q) (kk : Ref Y X k n Z M q L (vj (x - x / y * y) :: st) P) : Ref Y X k n Z M pc L (vj y :: vj x :: st) P := by
  subst hq
  obtain ⟨p, l, e, s, m, args, below, meth, c, D, cA, B, Q⟩ := X
  obtain ⟨⟨hx, hb, hml, ho, hts⟩, ⟨hK, hKb⟩, hB, hlk, hrt, hnm⟩ := hX
  intro w hw H locs ls hR hS hl
  exact lv_lrem hx hb hd hne (kk w hw H locs ls hR hS hl)
theorem r_ishl {x y : Int32} (hX : Cx Y X) (hd : decode (yC Y) pc = .ok (.ishl, 1)) (hq : pc + 1 = q) (kk : Ref Y X k n Z M q L (vi (x <<< (y &&& 31)) :: st) P) : Ref Y X k n Z M pc L (vi y :: vi x :: st) P := by
  subst hq
  obtain ⟨p, l, e, s, m, args, below, meth, c, D, cA, B, Q⟩ := X
  obtain ⟨⟨hx, hb, hml, ho, hts⟩, ⟨hK, hKb⟩, hB, hlk, hrt, hnm⟩ := hX
  intro w hw H locs ls hR hS hl
  exact lv_ishl hx hb hd (kk w hw H locs ls hR hS hl)
theorem r_ishr {x y : Int32} (hX : Cx Y X) (hd : decode (yC Y) pc = .ok (.ishr, 1)) (hq : pc + 1 = q) (kk : Ref Y X k n Z M q L (vi (x >>> (y &&& 31)) :: st) P) : Ref Y X k n Z M pc L (vi y :: vi x :: st) P := by
  subst hq
  obtain ⟨p, l, e, s, m, args, below, meth, c, D, cA, B, Q⟩ := X
  obtain ⟨⟨hx, hb, hml, ho, hts⟩, ⟨hK, hKb⟩, hB, hlk, hrt, hnm⟩ := hX
  intro w hw H locs ls hR hS hl
  exact lv_ishr hx hb hd (kk w hw H locs ls hR hS hl)
theorem r_iushr {x y : Int32} (hX : Cx Y X) (hd : decode (yC Y) pc = .ok (.iushr, 1)) (hq : pc + 1 = q) (kk : Ref Y X k n Z M q L (vi ((x.toUInt32 >>> (y.toUInt32 &&& Int32.toUInt32 31)).toInt32) :: st) P) : Ref Y X k n Z M pc L (vi y :: vi x :: st) P := by
  subst hq
  obtain ⟨p, l, e, s, m, args, below, meth, c, D, cA, B, Q⟩ := X
  obtain ⟨⟨hx, hb, hml, ho, hts⟩, ⟨hK, hKb⟩, hB, hlk, hrt, hnm⟩ := hX
  intro w hw H locs ls hR hS hl
  exact lv_iushr hx hb hd rfl (kk w hw H locs ls hR hS hl)
theorem r_lushr {x : Int64} {y : Int32} (hX : Cx Y X) (hd : decode (yC Y) pc = .ok (.lushr, 1)) (hq : pc + 1 = q) (kk : Ref Y X k n Z M q L (vj ((x.toUInt64 >>> (y.toInt64.toUInt64 &&& Int64.toUInt64 63)).toInt64) :: st) P) : Ref Y X k n Z M pc L (vi y :: vj x :: st) P := by
  subst hq
  obtain ⟨p, l, e, s, m, args, below, meth, c, D, cA, B, Q⟩ := X
  obtain ⟨⟨hx, hb, hml, ho, hts⟩, ⟨hK, hKb⟩, hB, hlk, hrt, hnm⟩ := hX
  intro w hw H locs ls hR hS hl
  exact lv_lushr hx hb hd rfl (kk w hw H locs ls hR hS hl)
theorem r_lshl {x : Int64} {y : Int32} (hX : Cx Y X) (hd : decode (yC Y) pc = .ok (.lshl, 1)) (hq : pc + 1 = q) (kk : Ref Y X k n Z M q L (vj (x <<< (y.toInt64 &&& 63)) :: st) P) : Ref Y X k n Z M pc L (vi y :: vj x :: st) P := by
  subst hq
  obtain ⟨p, l, e, s, m, args, below, meth, c, D, cA, B, Q⟩ := X
  obtain ⟨⟨hx, hb, hml, ho, hts⟩, ⟨hK, hKb⟩, hB, hlk, hrt, hnm⟩ := hX
  intro w hw H locs ls hR hS hl
  exact lv_lshl hx hb hd rfl (kk w hw H locs ls hR hS hl)
theorem r_i2l {x : Int32} (hX : Cx Y X) (hd : decode (yC Y) pc = .ok (.i2l, 1)) (hq : pc + 1 = q) (kk : Ref Y X k n Z M q L (vj x.toInt64 :: st) P) : Ref Y X k n Z M pc L (vi x :: st) P := by
  subst hq
  obtain ⟨p, l, e, s, m, args, below, meth, c, D, cA, B, Q⟩ := X
  obtain ⟨⟨hx, hb, hml, ho, hts⟩, ⟨hK, hKb⟩, hB, hlk, hrt, hnm⟩ := hX
  intro w hw H locs ls hR hS hl
  exact lv_i2l hx hb hd rfl (kk w hw H locs ls hR hS hl)
theorem r_l2i {x : Int64} (hX : Cx Y X) (hd : decode (yC Y) pc = .ok (.l2i, 1)) (hq : pc + 1 = q) (kk : Ref Y X k n Z M q L (vi x.toInt32 :: st) P) : Ref Y X k n Z M pc L (vj x :: st) P := by
  subst hq
  obtain ⟨p, l, e, s, m, args, below, meth, c, D, cA, B, Q⟩ := X
  obtain ⟨⟨hx, hb, hml, ho, hts⟩, ⟨hK, hKb⟩, hB, hlk, hrt, hnm⟩ := hX
  intro w hw H locs ls hR hS hl
  exact lv_l2i hx hb hd rfl (kk w hw H locs ls hR hS hl)
theorem r_i2b {x : Int32} (hX : Cx Y X) (hd : decode (yC Y) pc = .ok (.i2b, 1)) (hq : pc + 1 = q) (kk : Ref Y X k n Z M q L (vi x.toInt8.toInt32 :: st) P) : Ref Y X k n Z M pc L (vi x :: st) P := by
  subst hq
  obtain ⟨p, l, e, s, m, args, below, meth, c, D, cA, B, Q⟩ := X
  obtain ⟨⟨hx, hb, hml, ho, hts⟩, ⟨hK, hKb⟩, hB, hlk, hrt, hnm⟩ := hX
  intro w hw H locs ls hR hS hl
  exact lv_i2b hx hb hd rfl (kk w hw H locs ls hR hS hl)
theorem r_lcmp {x y : Int64} (hX : Cx Y X) (hd : decode (yC Y) pc = .ok (.lcmp, 1)) (hq : pc + 1 = q) (kk : Ref Y X k n Z M q L (vi (lg_cmp x y) :: st) P) : Ref Y X k n Z M pc L (vj y :: vj x :: st) P := by
  subst hq
  obtain ⟨p, l, e, s, m, args, below, meth, c, D, cA, B, Q⟩ := X
  obtain ⟨⟨hx, hb, hml, ho, hts⟩, ⟨hK, hKb⟩, hB, hlk, hrt, hnm⟩ := hX
  intro w hw H locs ls hR hS hl
  exact W.lcmp hx hb hd (kk w hw H locs ls hR hS hl)
theorem r_dup {v : AV} (hX : Cx Y X) (hd : decode (yC Y) pc = .ok (.dup, 1)) (h1 : ct v = 1) (hq : pc + 1 = q) (kk : Ref Y X k n Z M q L (v :: v :: st) P) : Ref Y X k n Z M pc L (v :: st) P := by
  subst hq
  obtain ⟨p, l, e, s, m, args, below, meth, c, D, cA, B, Q⟩ := X
  obtain ⟨⟨hx, hb, hml, ho, hts⟩, ⟨hK, hKb⟩, hB, hlk, hrt, hnm⟩ := hX
  intro w hw H locs ls hR hS hl
  exact lv_dup hx hb hd (by rw [ev_cat]; exact h1) (kk w hw H locs ls hR hS hl)
theorem r_pop {v : AV} (hX : Cx Y X) (hd : decode (yC Y) pc = .ok (.pop, 1)) (h1 : ct v = 1) (hq : pc + 1 = q) (kk : Ref Y X k n Z M q L (st) P) : Ref Y X k n Z M pc L (v :: st) P := by
  subst hq
  obtain ⟨p, l, e, s, m, args, below, meth, c, D, cA, B, Q⟩ := X
  obtain ⟨⟨hx, hb, hml, ho, hts⟩, ⟨hK, hKb⟩, hB, hlk, hrt, hnm⟩ := hX
  intro w hw H locs ls hR hS hl
  exact lv_pop hx hb hd (by rw [ev_cat]; exact h1) (kk w hw H locs ls hR hS hl)
theorem r_dup_x1 {v u : AV} (hX : Cx Y X) (hd : decode (yC Y) pc = .ok (.dup_x1, 1)) (h1 : ct v = 1) (h2 : ct u = 1) (hq : pc + 1 = q) (kk : Ref Y X k n Z M q L (v :: u :: v :: st) P) : Ref Y X k n Z M pc L (v :: u :: st) P := by
  subst hq
  obtain ⟨p, l, e, s, m, args, below, meth, c, D, cA, B, Q⟩ := X
  obtain ⟨⟨hx, hb, hml, ho, hts⟩, ⟨hK, hKb⟩, hB, hlk, hrt, hnm⟩ := hX
  intro w hw H locs ls hR hS hl
  exact lv_dup_x1 hx hb hd (by rw [ev_cat]; exact h1) (by rw [ev_cat]; exact h2) (kk w hw H locs ls hR hS hl)
theorem r_dup2 {v u : AV} (hX : Cx Y X) (hd : decode (yC Y) pc = .ok (.dup2, 1)) (h1 : ct v = 1) (h2 : ct u = 1) (hq : pc + 1 = q) (kk : Ref Y X k n Z M q L (v :: u :: v :: u :: st) P) : Ref Y X k n Z M pc L (v :: u :: st) P := by
  subst hq
  obtain ⟨p, l, e, s, m, args, below, meth, c, D, cA, B, Q⟩ := X
  obtain ⟨⟨hx, hb, hml, ho, hts⟩, ⟨hK, hKb⟩, hB, hlk, hrt, hnm⟩ := hX
  intro w hw H locs ls hR hS hl
  exact lv_dup2_11 hx hb hd (by rw [ev_cat]; exact h1) (by rw [ev_cat]; exact h2) (kk w hw H locs ls hR hS hl)
theorem r_if_eq {x : Int32} {off : Int} {tgt : Nat} {α : Type} {A1 A2 : Option α} {K : α → Option Res} {ins : Decidable (x = 0)} (hX : Cx Y X) (hd : decode (yC Y) pc = .ok (.ifCond .eq off, 3)) (ht : (pc : Int) + off = (tgt : Int)) (hq : pc + 3 = q) (kt : x = 0 → Ref Y X k n Z M tgt L st (Option.bind A1 K)) (kf : ¬ (x = 0) → Ref Y X k n Z M q L st (Option.bind A2 K)) : Ref Y X k n Z M pc L (vi x :: st) (Option.bind (@ite _ (x = 0) ins A1 A2) K) := by
  subst hq
  obtain ⟨p, l, e, s, m, args, below, meth, c, D, cA, B, Q⟩ := X
  obtain ⟨⟨hx, hb, hml, ho, hts⟩, ⟨hK, hKb⟩, hB, hlk, hrt, hnm⟩ := hX
  intro w hw H locs ls hR hS hl
  exact lv_if_eq hx hb hd ht (fun h => kt h w (by rw [if_pos h] at hw; exact hw) H locs ls hR hS hl) (fun h => kf h w (by rw [if_neg h] at hw; exact hw) H locs ls hR hS hl)
theorem r_icmp_eq {x y : Int32} {off : Int} {tgt : Nat} {α : Type} {A1 A2 : Option α} {K : α → Option Res} {ins : Decidable (x = y)} (hX : Cx Y X) (hd : decode (yC Y) pc = .ok (.if_icmp .eq off, 3)) (ht : (pc : Int) + off = (tgt : Int)) (hq : pc + 3 = q) (kt : x = y → Ref Y X k n Z M tgt L st (Option.bind A1 K)) (kf : ¬ (x = y) → Ref Y X k n Z M q L st (Option.bind A2 K)) : Ref Y X k n Z M pc L (vi y :: vi x :: st) (Option.bind (@ite _ (x = y) ins A1 A2) K) := by
  subst hq
  obtain ⟨p, l, e, s, m, args, below, meth, c, D, cA, B, Q⟩ := X
  obtain ⟨⟨hx, hb, hml, ho, hts⟩, ⟨hK, hKb⟩, hB, hlk, hrt, hnm⟩ := hX
  intro w hw H locs ls hR hS hl
  exact lv_icmp_eq hx hb hd ht (fun h => kt h w (by rw [if_pos h] at hw; exact hw) H locs ls hR hS hl) (fun h => kf h w (by rw [if_neg h] at hw; exact hw) H locs ls hR hS hl)
theorem r_if_ne {x : Int32} {off : Int} {tgt : Nat} {α : Type} {A1 A2 : Option α} {K : α → Option Res} {ins : Decidable (x = 0)} (hX : Cx Y X) (hd : decode (yC Y) pc = .ok (.ifCond .ne off, 3)) (ht : (pc : Int) + off = (tgt : Int)) (hq : pc + 3 = q) (kt : x = 0 → Ref Y X k n Z M q L st (Option.bind A1 K)) (kf : ¬ (x = 0) → Ref Y X k n Z M tgt L st (Option.bind A2 K)) : Ref Y X k n Z M pc L (vi x :: st) (Option.bind (@ite _ (x = 0) ins A1 A2) K) := by
  subst hq
  obtain ⟨p, l, e, s, m, args, below, meth, c, D, cA, B, Q⟩ := X
  obtain ⟨⟨hx, hb, hml, ho, hts⟩, ⟨hK, hKb⟩, hB, hlk, hrt, hnm⟩ := hX
  intro w hw H locs ls hR hS hl
  exact lv_if_ne hx hb hd ht (fun h => kf h w (by rw [if_neg h] at hw; exact hw) H locs ls hR hS hl) (fun h => kt h w (by rw [if_pos h] at hw; exact hw) H locs ls hR hS hl)
theorem r_icmp_ne {x y : Int32} {off : Int} {tgt : Nat} {α : Type} {A1 A2 : Option α} {K : α → Option Res} {ins : Decidable (x = y)} (hX : Cx Y X) (hd : decode (yC Y) pc = .ok (.if_icmp .ne off, 3)) (ht : (pc : Int) + off = (tgt : Int)) (hq : pc + 3 = q) (kt : x = y → Ref Y X k n Z M q L st (Option.bind A1 K)) (kf : ¬ (x = y) → Ref Y X k n Z M tgt L st (Option.bind A2 K)) : Ref Y X k n Z M pc L (vi y :: vi x :: st) (Option.bind (@ite _ (x = y) ins A1 A2) K) := by
  subst hq
  obtain ⟨p, l, e, s, m, args, below, meth, c, D, cA, B, Q⟩ := X
  obtain ⟨⟨hx, hb, hml, ho, hts⟩, ⟨hK, hKb⟩, hB, hlk, hrt, hnm⟩ := hX
  intro w hw H locs ls hR hS hl
  exact lv_icmp_ne hx hb hd ht (fun h => kf h w (by rw [if_neg h] at hw; exact hw) H locs ls hR hS hl) (fun h => kt h w (by rw [if_pos h] at hw; exact hw) H locs ls hR hS hl)
theorem r_if_lt {x : Int32} {off : Int} {tgt : Nat} {α : Type} {A1 A2 : Option α} {K : α → Option Res} {ins : Decidable (x < 0)} (hX : Cx Y X) (hd : decode (yC Y) pc = .ok (.ifCond .lt off, 3)) (ht : (pc : Int) + off = (tgt : Int)) (hq : pc + 3 = q) (kt : x < 0 → Ref Y X k n Z M tgt L st (Option.bind A1 K)) (kf : ¬ (x < 0) → Ref Y X k n Z M q L st (Option.bind A2 K)) : Ref Y X k n Z M pc L (vi x :: st) (Option.bind (@ite _ (x < 0) ins A1 A2) K) := by
  subst hq
  obtain ⟨p, l, e, s, m, args, below, meth, c, D, cA, B, Q⟩ := X
  obtain ⟨⟨hx, hb, hml, ho, hts⟩, ⟨hK, hKb⟩, hB, hlk, hrt, hnm⟩ := hX
  intro w hw H locs ls hR hS hl
  exact lv_if_lt hx hb hd ht (fun h => kt h w (by rw [if_pos h] at hw; exact hw) H locs ls hR hS hl) (fun h => kf h w (by rw [if_neg h] at hw; exact hw) H locs ls hR hS hl)
theorem r_icmp_lt {x y : Int32} {off : Int} {tgt : Nat} {α : Type} {A1 A2 : Option α} {K : α → Option Res} {ins : Decidable (x < y)} (hX : Cx Y X) (hd : decode (yC Y) pc = .ok (.if_icmp .lt off, 3)) (ht : (pc : Int) + off = (tgt : Int)) (hq : pc + 3 = q) (kt : x < y → Ref Y X k n Z M tgt L st (Option.bind A1 K)) (kf : ¬ (x < y) → Ref Y X k n Z M q L st (Option.bind A2 K)) : Ref Y X k n Z M pc L (vi y :: vi x :: st) (Option.bind (@ite _ (x < y) ins A1 A2) K) := by
  subst hq
  obtain ⟨p, l, e, s, m, args, below, meth, c, D, cA, B, Q⟩ := X
  obtain ⟨⟨hx, hb, hml, ho, hts⟩, ⟨hK, hKb⟩, hB, hlk, hrt, hnm⟩ := hX
  intro w hw H locs ls hR hS hl
  exact lv_icmp_lt hx hb hd ht (fun h => kt h w (by rw [if_pos h] at hw; exact hw) H locs ls hR hS hl) (fun h => kf h w (by rw [if_neg h] at hw; exact hw) H locs ls hR hS hl)
theorem r_if_ge {x : Int32} {off : Int} {tgt : Nat} {α : Type} {A1 A2 : Option α} {K : α → Option Res} {ins : Decidable (0 ≤ x)} (hX : Cx Y X) (hd : decode (yC Y) pc = .ok (.ifCond .ge off, 3)) (ht : (pc : Int) + off = (tgt : Int)) (hq : pc + 3 = q) (kt : 0 ≤ x → Ref Y X k n Z M tgt L st (Option.bind A1 K)) (kf : ¬ (0 ≤ x) → Ref Y X k n Z M q L st (Option.bind A2 K)) : Ref Y X k n Z M pc L (vi x :: st) (Option.bind (@ite _ (0 ≤ x) ins A1 A2) K) := by
  subst hq
  obtain ⟨p, l, e, s, m, args, below, meth, c, D, cA, B, Q⟩ := X
  obtain ⟨⟨hx, hb, hml, ho, hts⟩, ⟨hK, hKb⟩, hB, hlk, hrt, hnm⟩ := hX
  intro w hw H locs ls hR hS hl
  exact lv_if_ge hx hb hd ht (fun h => kt h w (by rw [if_pos h] at hw; exact hw) H locs ls hR hS hl) (fun h => kf h w (by rw [if_neg h] at hw; exact hw) H locs ls hR hS hl)
theorem r_icmp_ge {x y : Int32} {off : Int} {tgt : Nat} {α : Type} {A1 A2 : Option α} {K : α → Option Res} {ins : Decidable (y ≤ x)} (hX : Cx Y X) (hd : decode (yC Y) pc = .ok (.if_icmp .ge off, 3)) (ht : (pc : Int) + off = (tgt : Int)) (hq : pc + 3 = q) (kt : y ≤ x → Ref Y X k n Z M tgt L st (Option.bind A1 K)) (kf : ¬ (y ≤ x) → Ref Y X k n Z M q L st (Option.bind A2 K)) : Ref Y X k n Z M pc L (vi y :: vi x :: st) (Option.bind (@ite _ (y ≤ x) ins A1 A2) K) := by
  subst hq
  obtain ⟨p, l, e, s, m, args, below, meth, c, D, cA, B, Q⟩ := X
  obtain ⟨⟨hx, hb, hml, ho, hts⟩, ⟨hK, hKb⟩, hB, hlk, hrt, hnm⟩ := hX
  intro w hw H locs ls hR hS hl
  exact lv_icmp_ge hx hb hd ht (fun h => kt h w (by rw [if_pos h] at hw; exact hw) H locs ls hR hS hl) (fun h => kf h w (by rw [if_neg h] at hw; exact hw) H locs ls hR hS hl)
theorem r_if_gt {x : Int32} {off : Int} {tgt : Nat} {α : Type} {A1 A2 : Option α} {K : α → Option Res} {ins : Decidable (0 < x)} (hX : Cx Y X) (hd : decode (yC Y) pc = .ok (.ifCond .gt off, 3)) (ht : (pc : Int) + off = (tgt : Int)) (hq : pc + 3 = q) (kt : 0 < x → Ref Y X k n Z M tgt L st (Option.bind A1 K)) (kf : ¬ (0 < x) → Ref Y X k n Z M q L st (Option.bind A2 K)) : Ref Y X k n Z M pc L (vi x :: st) (Option.bind (@ite _ (0 < x) ins A1 A2) K) := by
  subst hq
  obtain ⟨p, l, e, s, m, args, below, meth, c, D, cA, B, Q⟩ := X
  obtain ⟨⟨hx, hb, hml, ho, hts⟩, ⟨hK, hKb⟩, hB, hlk, hrt, hnm⟩ := hX
  intro w hw H locs ls hR hS hl
  exact lv_if_gt hx hb hd ht (fun h => kt h w (by rw [if_pos h] at hw; exact hw) H locs ls hR hS hl) (fun h => kf h w (by rw [if_neg h] at hw; exact hw) H locs ls hR hS hl)
theorem r_icmp_gt {x y : Int32} {off : Int} {tgt : Nat} {α : Type} {A1 A2 : Option α} {K : α → Option Res} {ins : Decidable (y < x)} (hX : Cx Y X) (hd : decode (yC Y) pc = .ok (.if_icmp .gt off, 3)) (ht : (pc : Int) + off = (tgt : Int)) (hq : pc + 3 = q) (kt : y < x → Ref Y X k n Z M tgt L st (Option.bind A1 K)) (kf : ¬ (y < x) → Ref Y X k n Z M q L st (Option.bind A2 K)) : Ref Y X k n Z M pc L (vi y :: vi x :: st) (Option.bind (@ite _ (y < x) ins A1 A2) K) := by
  subst hq
  obtain ⟨p, l, e, s, m, args, below, meth, c, D, cA, B, Q⟩ := X
  obtain ⟨⟨hx, hb, hml, ho, hts⟩, ⟨hK, hKb⟩, hB, hlk, hrt, hnm⟩ := hX
  intro w hw H locs ls hR hS hl
  exact lv_icmp_gt hx hb hd ht (fun h => kt h w (by rw [if_pos h] at hw; exact hw) H locs ls hR hS hl) (fun h => kf h w (by rw [if_neg h] at hw; exact hw) H locs ls hR hS hl)
theorem r_if_le {x : Int32} {off : Int} {tgt : Nat} {α : Type} {A1 A2 : Option α} {K : α → Option Res} {ins : Decidable (x ≤ 0)} (hX : Cx Y X) (hd : decode (yC Y) pc = .ok (.ifCond .le off, 3)) (ht : (pc : Int) + off = (tgt : Int)) (hq : pc + 3 = q) (kt : x ≤ 0 → Ref Y X k n Z M tgt L st (Option.bind A1 K)) (kf : ¬ (x ≤ 0) → Ref Y X k n Z M q L st (Option.bind A2 K)) : Ref Y X k n Z M pc L (vi x :: st) (Option.bind (@ite _ (x ≤ 0) ins A1 A2) K) := by
  subst hq
  obtain ⟨p, l, e, s, m, args, below, meth, c, D, cA, B, Q⟩ := X
  obtain ⟨⟨hx, hb, hml, ho, hts⟩, ⟨hK, hKb⟩, hB, hlk, hrt, hnm⟩ := hX
  intro w hw H locs ls hR hS hl
  exact lv_if_le hx hb hd ht (fun h => kt h w (by rw [if_pos h] at hw; exact hw) H locs ls hR hS hl) (fun h => kf h w (by rw [if_neg h] at hw; exact hw) H locs ls hR hS hl)
theorem r_icmp_le {x y : Int32} {off : Int} {tgt : Nat} {α : Type} {A1 A2 : Option α} {K : α → Option Res} {ins : Decidable (x ≤ y)} (hX : Cx Y X) (hd : decode (yC Y) pc = .ok (.if_icmp .le off, 3)) (ht : (pc : Int) + off = (tgt : Int)) (hq : pc + 3 = q) (kt : x ≤ y → Ref Y X k n Z M tgt L st (Option.bind A1 K)) (kf : ¬ (x ≤ y) → Ref Y X k n Z M q L st (Option.bind A2 K)) : Ref Y X k n Z M pc L (vi y :: vi x :: st) (Option.bind (@ite _ (x ≤ y) ins A1 A2) K) := by
  subst hq
  obtain ⟨p, l, e, s, m, args, below, meth, c, D, cA, B, Q⟩ := X
  obtain ⟨⟨hx, hb, hml, ho, hts⟩, ⟨hK, hKb⟩, hB, hlk, hrt, hnm⟩ := hX
  intro w hw H locs ls hR hS hl
  exact lv_icmp_le hx hb hd ht (fun h => kt h w (by rw [if_pos h] at hw; exact hw) H locs ls hR hS hl) (fun h => kf h w (by rw [if_neg h] at hw; exact hw) H locs ls hR hS hl)
theorem r_goto {off : Int} (hX : Cx Y X) (hd : decode (yC Y) pc = .ok (.goto off, 3)) (ht : (pc : Int) + off = (q : Int)) (kk : Ref Y X k n Z M q L st P) : Ref Y X k n Z M pc L st P := by
  obtain ⟨p, l, e, s, m, args, below, meth, c, D, cA, B, Q⟩ := X
  obtain ⟨⟨hx, hb, hml, ho, hts⟩, ⟨hK, hKb⟩, hB, hlk, hrt, hnm⟩ := hX
  intro w hw H locs ls hR hS hl
  exact lv_goto hx hb hd ht (kk w hw H locs ls hR hS hl)
theorem r_ifnull {x : Nat} {off : Int} {tgt : Nat} {α : Type} {A1 A2 : Option α} {K : α → Option Res} {ins : Decidable (x = 0)} (hX : Cx Y X) (hd : decode (yC Y) pc = .ok (.ifnull off, 3)) (ht : (pc : Int) + off = (tgt : Int)) (hq : pc + 3 = q) (kt : x = 0 → Ref Y X k n Z M tgt L st (Option.bind A1 K)) (kf : ¬ x = 0 → Ref Y X k n Z M q L st (Option.bind A2 K)) : Ref Y X k n Z M pc L (vr x :: st) (Option.bind (@ite _ (x = 0) ins A1 A2) K) := by
  subst hq
  obtain ⟨p, l, e, s, m, args, below, meth, c, D, cA, B, Q⟩ := X
  obtain ⟨⟨hx, hb, hml, ho, hts⟩, ⟨hK, hKb⟩, hB, hlk, hrt, hnm⟩ := hX
  intro w hw H locs ls hR hS hl
  by_cases h : x = 0
  · have h2 := kt h w (by rw [if_pos h] at hw; exact hw) H locs ls hR hS hl
    subst h
    exact lv_ifnullN hx hb hd ht h2
  · have h2 := kf h w (by rw [if_neg h] at hw; exact hw) H locs ls hR hS hl
    obtain ⟨a1, ha1⟩ := rv_pos B h
    show W _ _ _ _ _ _ _ _ _ _ _ _ _ _ _ (F0 m pc ls (rv B x :: st.map (ev B)))
    rw [ha1]
    exact lv_ifnull hx hb hd h2
theorem r_ifnonnull {x : Nat} {off : Int} {tgt : Nat} {α : Type} {A1 A2 : Option α} {K : α → Option Res} {ins : Decidable (x = 0)} (hX : Cx Y X) (hd : decode (yC Y) pc = .ok (.ifnonnull off, 3)) (ht : (pc : Int) + off = (tgt : Int)) (hq : pc + 3 = q) (kt : x = 0 → Ref Y X k n Z M q L st (Option.bind A1 K)) (kf : ¬ x = 0 → Ref Y X k n Z M tgt L st (Option.bind A2 K)) : Ref Y X k n Z M pc L (vr x :: st) (Option.bind (@ite _ (x = 0) ins A1 A2) K) := by
  subst hq
  obtain ⟨p, l, e, s, m, args, below, meth, c, D, cA, B, Q⟩ := X
  obtain ⟨⟨hx, hb, hml, ho, hts⟩, ⟨hK, hKb⟩, hB, hlk, hrt, hnm⟩ := hX
  intro w hw H locs ls hR hS hl
  by_cases h : x = 0
  · have h2 := kt h w (by rw [if_pos h] at hw; exact hw) H locs ls hR hS hl
    subst h
    exact lv_ifnonnullN hx hb hd h2
  · have h2 := kf h w (by rw [if_neg h] at hw; exact hw) H locs ls hR hS hl
    obtain ⟨a1, ha1⟩ := rv_pos B h
    show W _ _ _ _ _ _ _ _ _ _ _ _ _ _ _ (F0 m pc ls (rv B x :: st.map (ev B)))
    rw [ha1]
    exact lv_ifnonnull hx hb hd ht h2
end
