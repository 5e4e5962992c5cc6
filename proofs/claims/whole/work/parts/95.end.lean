/-! from the pure theorem to the claim -/
theorem instC : ∀ ci, ci < 13 → Cond.instantiable (nmC ci) (szC ci) ∈ lw_gd := fun ci h => match ci, h with
  | 0, _ => gd (hcw1_9 _ (List.mem_of_getElem? (i := 18) rfl)) rfl
  | 1, _ => gd (hcw2_9 _ (List.mem_of_getElem? (i := 13) rfl)) rfl
  | 2, _ => gd (hcw1_6 _ (List.mem_of_getElem? (i := 12) rfl)) rfl
  | 3, _ => gd (hcw1_1 _ (List.mem_of_getElem? (i := 7) rfl)) rfl
  | 4, _ => gd (hcw1_3 _ (List.mem_of_getElem? (i := 0) rfl)) rfl
  | 5, _ => gd (hcw1_11 _ (List.mem_of_getElem? (i := 15) rfl)) rfl
  | 6, _ => gd (hcw1_2 _ (List.mem_of_getElem? (i := 0) rfl)) rfl
  | 7, _ => gd (hcw2_6 _ (List.mem_of_getElem? (i := 9) rfl)) rfl
  | 8, _ => gd (hcw3_10 _ (List.mem_of_getElem? (i := 4) rfl)) rfl
  | 9, _ => gd (hcw1_7 _ (List.mem_of_getElem? (i := 16) rfl)) rfl
  | 10, _ => gd (hcw2_1 _ (List.mem_of_getElem? (i := 13) rfl)) rfl
  | 11, _ => gd (hcw1_0 _ (List.mem_of_getElem? (i := 19) rfl)) rfl
  | 12, _ => gd (hcw5_9 _ (List.mem_of_getElem? (i := 10) rfl)) rfl
  | _ + 13, h => absurd h (by omega)
theorem arr_p {s : State} {args : Array Value} {ty : FieldType} (h : (Cond.arrayClass ty).before args s = true) (hp : ∀ c1, s.vm.findClass ("[" ++ ty.toString) = some c1 → va_RA s c1 ty) : ∃ c1, ArrOfT s c1 ty ∧ va_RA s c1 ty := by
  obtain ⟨c1, kA, comp, h1, h2, h3⟩ := Cond.arrayClass_spec h
  exact ⟨c1, fun n z => ⟨fun k h => (by cases h), kA, h2, comp, h3⟩, hp c1 h1⟩
theorem arr_o {s : State} {args : Array Value} {C : String} (h : (Cond.arrayOver (.object C)).before args s = true) : ∃ c1, ArrOfT s c1 (.object C) ∧ va_RA s c1 (.object C) := by
  obtain ⟨comp, c1, kA, h1, h2, h3, h4, h5⟩ := Cond.arrayOver_spec h
  exact ⟨c1, fun n z => ⟨fun k h => (by cases h), kA, h3, comp, h4⟩, kA, comp, h3, h4, h1, h5⟩
abbrev M0 : Mem := (fun _ _ => 0, fun _ _ => 0, fun _ _ => 0)
set_option maxHeartbeats 4000000 in
theorem whole_start {p : Program} {e : Env} {s : State} {m : MethodId} {below : List Frame} {meth : Method} {c : Code} (l : Launch) {b L : Nat} {xs : Nat → Int32} (hL : L ≤ 3584) (C0 : lw_At p s m meth c b L xs) : W p l e room_1 s m #[Value.ref b] below meth c s.heap [] 0 0 (lw_Z below #[Value.ref b] s) (entryFrame m ([Value.ref b] : List Value).toArray 4) := by
  obtain ⟨hx, hb, hr, hml, hown, hts, hX, hbl, hlocks, hgv⟩ := id C0
  have hgd : ∀ w ∈ lw_gd, w.before #[Value.ref b] s = true := fun w hw => hts w (List.mem_filter.mp hw).1
  have hbad : ∀ w ∈ lw_bad, va_Nw w s := fun w hw => bad_of (List.mem_filter.mp hw).2 (hts w (List.mem_filter.mp hw).1)
  have hk : ∀ ci, ci < 13 → ∃ (c0 : ClassId) (i0 : Nat → Nat), u_Kn s (nmC ci) (trC ci) (szC ci) c0 i0 := fun ci hci => u_known (n := szC ci) hgd (inC ci hci) (hgd _ (instC ci hci))
  obtain ⟨dC, dI, hK1⟩ : ∃ (dC : Nat → ClassId) (dI : Nat → Nat → Nat), ∀ ci, ci < 13 → u_Kn s (nmC ci) (trC ci) (szC ci) (dC ci) (dI ci) := by
    refine ⟨fun ci => if h : ci < 13 then (hk ci h).choose else m.cls, fun ci => if h : ci < 13 then (hk ci h).choose_spec.choose else fun _ => 0, fun ci h => ?_⟩
    simp only [dif_pos h]
    exact (hk ci h).choose_spec.choose_spec
  obtain ⟨c100, a100⟩ := arr_p (hts _ (hcw1_9 _ (List.mem_of_getElem? (i := 16) rfl))) (ty := .int) (fun _ h => h)
  obtain ⟨c101, a101⟩ := arr_p (hts _ (hcw1_9 _ (List.mem_of_getElem? (i := 15) rfl))) (ty := .boolean) (fun _ h => h)
  obtain ⟨c102, a102⟩ := arr_p (hts _ (hcw1_7 _ (List.mem_of_getElem? (i := 14) rfl))) (ty := .byte) (fun _ h => h)
  obtain ⟨c110, a110⟩ := arr_o (hts _ (hcw1_1 _ (List.mem_of_getElem? (i := 13) rfl))) (C := "CanalCompany$Pound")
  obtain ⟨c111, a111⟩ := arr_o (hts _ (hcw1_1 _ (List.mem_of_getElem? (i := 15) rfl))) (C := "CanalCompany$Lock")
  obtain ⟨c112, a112⟩ := arr_o (hts _ (hcw1_1 _ (List.mem_of_getElem? (i := 17) rfl))) (C := "CanalCompany$Taker")
  obtain ⟨c113, a113⟩ := arr_o (hts _ (hcw1_1 _ (List.mem_of_getElem? (i := 19) rfl))) (C := "CanalCompany$Boat")
  obtain ⟨c114, a114⟩ := arr_o (hts _ (hcw1_6 _ (List.mem_of_getElem? (i := 18) rfl))) (C := "CanalCompany$Text")
  have hK : KK (dC, dI) (fun t => match t with | 100 => c100 | 101 => c101 | 102 => c102 | 110 => c110 | 111 => c111 | 112 => c112 | 113 => c113 | _ => c114) s := by
    refine ⟨⟨fun ci q hq => ?_, fun k q hq => ?_⟩, hbad⟩
    · have h13 : ci < 13 := (List.getElem?_eq_some_iff.mp hq).1
      have := Option.some.inj ((vw_at ci h13).symm.trans hq)
      subst this
      exact hK1 ci h13
    · match k, hq with
      | 0, hq => cases hq; exact a100
      | 1, hq => cases hq; exact a101
      | 2, hq => cases hq; exact a102
      | 3, hq => cases hq; exact a110
      | 4, hq => cases hq; exact a111
      | 5, hq => cases hq; exact a112
      | 6, hq => cases hq; exact a113
      | 7, hq => cases hq; exact a114
      | k + 8, hq => simp [tysOf] at hq
  have hl := lv_entry ([.ref b]) (n := 4) (Nat.le_of_ble_eq_true rfl)
  rw [lg_entry_eq]
  exact law_ref [] M0 xs L hL (none, [], M0) (law_ok xs L hL) (p, l, e, s, m, #[Value.ref b], below, meth, c, (dC, dI), _, (b, s.heap.size), fun _ => lw_Z below #[Value.ref b] s) ⟨⟨hx, hb, hml, hown, hgd⟩, hK, Nat.le_refl _, hlocks, hr, fun h => absurd h (by decide)⟩ ⟨hX, hbl, Nat.not_le.mpr hbl⟩ ⟨rfl, rfl, fun _ => rfl⟩ (none, [], M0) rfl s.heap [] _ ⟨rfl, fun k q h => by simp [allW] at h⟩ va_S.rf hl
set_option maxHeartbeats 4000000 in
theorem lw_walk (l : Launch) (b : Addr) (xs : List Int32) : MetFree l x (headSpec (Jvm.Cond.code x code maxLocals ret :: tables_1) room_1) (lw_P b xs) (fun _ _ _ _ _ => True) lw_Q := by
  refine MetFree.of_bodyS (code := code) (maxLocals := maxLocals) (ret := ret) (by decide) ?_ ?_
  · intro args s m h hn
    obtain ⟨meth, c, h1, h2, h3, h4, h5, h6, -, -⟩ := Cond.code_spec hn (atoms_spec (ws := Jvm.Cond.code x code maxLocals ret :: tables_1) h _ List.mem_cons_self)
    exact ⟨meth, c, h1, h2, h3, h4, h5, h6⟩
  · intro p e s m args below meth c s₁ B hml0 hP _
    obtain ⟨rfl, hx, hbd, hgv⟩ := hP
    obtain ⟨scr, harrAt, hlist, hof, hsmall⟩ := hx
    obtain ⟨hcb, hkn, -, -⟩ := State.arrayAt?_spec harrAt
    have hown : s.vm.findClass R_law = some m.cls := findClass_of_methodNamed B.named
    have hts0 : ∀ c ∈ (Jvm.Cond.code x code maxLocals ret :: tables_1), c.before #[Value.ref b] s = true := atoms_spec (ws := Jvm.Cond.code x code maxLocals ret :: tables_1) B.pre
    have hts : ∀ w ∈ lw_tbl, w.before #[Value.ref b] s = true := k2_hts_sels lw_privs (fun w hw => hts0 w (List.mem_cons_of_mem _ hw)) lw_privs_ok
    have hml : c.maxLocals = 4 := B.maxLocals_eq (hts0 _ List.mem_cons_self)
    have X₀ : Stand p l e room_1 s m #[Value.ref b] below meth c s₁ [] 0 0 := Stand.of_body B
    have hh0 : s₁.heap = s.heap := by rw [B.state]; rfl
    have hsz : scr.slots.size = xs.length := by rw [← Array.length_toList, hlist, List.length_map]
    have hval : ∀ j : Nat, j < xs.length → scr.slots[j]? = some (.int (xs.getD j 0)) := fun j hj => by
      rw [← Array.getElem?_toList, hlist]
      simp [hj]
    have hbl : b < s.heap.size := (Array.getElem?_eq_some_iff.mp hcb).1
    have hX : va_X b xs.length (fun j => xs.getD j 0) s s.heap := ⟨scr, hcb, hof, hkn, hsz, hval⟩
    have K : W p l e room_1 s m #[Value.ref b] below meth c s₁.heap [] 0 0 (lw_Z below #[Value.ref b] s) (entryFrame m ([Value.ref b] : List Value).toArray 4) := by
      rw [hh0]
      exact whole_start l hbd ⟨B.exec, B.bytes, B.returns, hml, hown, hts, hX, hbl, B.notSynchronized, hgv⟩
    obtain ⟨t, a1, o, b1, b2, b3⟩ := K s₁ rfl X₀
    exact ⟨t, o, a1, b1, b2, b3⟩
theorem lw_pre_spec {args : Array Value} {s : State} (h : (Jvm.Cond.and given_1 narrow_1).before args s = true) (hr : rest_1_c.before args s = true) : ∃ (b : Addr) (xs : List Int32), lw_P b xs args s := by
  have hs := flat_of_before _ h
  have hq := flat_of_before _ hr
  have hc : (Cond.count 1).before args s = true := hs _ (by decide +kernel)
  have harr : (Cond.arrayOf (.arg 0) .int).before args s = true := hs _ (by decide +kernel)
  have hle : (Cond.le (.length (.arg 0)) (.int 3584)).before args s = true := hs _ (by decide +kernel)
  have hlen : (Cond.isInt (.length (.arg 0))).before args s = true := hq _ (by decide +kernel)
  have hall : (Cond.all (.arg 0) (.isInt (.elem (.arg 0) (.index 0)))).before args s = true := hq _ (by decide +kernel)
  obtain ⟨b, xs, hb, hx⟩ := State.ints_of_pre rfl harr hlen hall
  have hsm : xs.length < 2 ^ 31 := hx.choose_spec.2.2.2
  have hev : (Term.length (.arg 0)).eval args s none [] s = some (.int xs.length.toInt32) := hx.length_eval hb
  have hv := Cond.le_ints hev (show (Term.int 3584).eval args s none [] s = some (.int 3584) from rfl)
  have hd : xs.length.toInt32 ≤ 3584 := by
    simpa [Cond.before, Cond.holds, hv] using hle
  have hN : xs.length ≤ 3584 := (Int32.ofNat_le_ofNat hsm (by decide)).mp (show Int32.ofNat xs.length ≤ Int32.ofNat 3584 from hd)
  exact ⟨b, xs, Cond.one_arg hc (show args[0]? = some (.ref b) from hb), hx, hN, h⟩
theorem lw_comes (l : Launch) : Comes l x (Jvm.Cond.code x code maxLocals ret :: tables_1) room_1 (fun tb e args s => Calls_1 tb e args s ∧ rest_1 tb e args s ∧ Pre_1 tb e args s)
    (fun _ _ args s o t => lw_Q args s o t) := by
  intro p e ha hc hk s m args below hf hfit hheap happ hpre
  obtain ⟨b, xs, hP⟩ := lw_pre_spec hpre.2.2 hpre.2.1
  obtain ⟨k, o, h1, h2, h3, hQ⟩ := lw_walk l b xs p e ha hc hk s m args below hf ((Spec.applies_iff_loose hf).mp happ).1 hP trivial
  exact ⟨k, o, h1, h2, h3, hQ⟩
theorem lw_frame {s t : State} {o : Outcome} {args : Array Value} (h : Framed s o t [] 600000 7302250) :
    Framed s o t (fieldLocs frame_1_writes args s ++ arrayLocs frame_1_arrays args s ++ staticLocs frame_1_statics s) 600000 7302250 := h
theorem lw_limb (L : Cond) (hL : ∀ (args : Array Value) (s t : State), L.after args s (.returned (some (.int 1))) t = true) :
    ArmFor flags0 classFile x code maxLocals ret World_1 tables_1 room_1 Calls_1 rest_1 Pre_1
      (fun tb e a s o t => postC L tb e a s o t ∧ Framed s o t (fieldLocs frame_1_writes a s ++ arrayLocs frame_1_arrays a s ++ staticLocs frame_1_statics s) 600000 7302250) := by
  intro l _ _ _ p e ha hc hk s m args below hf hfit hheap happ hpre
  obtain ⟨k, o, h1, h2, h3, rfl, hF⟩ := lw_comes l p e ha hc hk s m args below hf hfit hheap happ hpre
  exact ⟨k, _, h1, h2, h3, hL args s _, lw_frame hF⟩
theorem i_vc : Claimed_1_1 ∧ Claimed_1_2 := ⟨lw_limb limb_1_1 (fun args s t => by simp [limb_1_1, Cond.after, Cond.holds, Cond.value]), lw_limb limb_1_2 (fun args s t => Cond.after_iff.mpr (by
  first | (rw [show limb_1_2 = Cond.eq .result (.int 1) from rfl, Cond.eq_ints (x := 1) (y := 1) rfl rfl]; simp; done) | (simp [limb_1_2, Cond.value, Term.eval]; done)))⟩
