/-! rows: new cells, calls, ends; the logic of programs -/
def pu2 {α β γ : Type} (x : α) (y : β) (f : α → β → γ) : γ := f x y
abbrev Ext (Z Z1 : Shp) : Prop := ∀ a t m : Nat, 0 < t → tg Z a = (t, m) → tg Z1 a = (t, m)
theorem tg_app_old {Z Z2 : Shp} {a t m : Nat} (ht : 0 < t) (h : tg Z a = (t, m)) : tg (Z ++ Z2) a = (t, m) := by
  obtain ⟨j, rfl, hz⟩ := tg_some h ht
  show (Z ++ Z2).getD j (0, 0) = (t, m)
  rw [List.getD_eq_getElem?_getD, List.getElem?_append_left (List.getElem?_eq_some_iff.mp hz).1, hz]
  rfl
theorem tg_app_new (Z : Shp) (t m : Nat) : tg (Z ++ [(t, m)]) (Z.length + 2) = (t, m) := by
  show (Z ++ [(t, m)]).getD Z.length (0, 0) = (t, m)
  rw [List.getD_eq_getElem?_getD, List.getElem?_append_right (Nat.le_refl _), Nat.sub_self]
  rfl
def okT (ty : FieldType) : Bool := match ty with
  | .float => false
  | .double => false
  | _ => true
theorem okT_all : ∀ ci, ci < 13 → ∀ j, j < szC ci → okT (tyC ci j) = true := by decide +kernel
theorem dflt_of {ty : FieldType} (h : okT ty = true) (B : BB) : defaultValue ty = if isRf ty then rv B 0 else if isJ ty then .long 0 else .int 0 := by
  cases ty <;> first | rfl | cases h
theorem oi1 : Cond.instanceMethod objectInit ∈ lw_gd := gd (hcw1_1 _ (List.mem_of_getElem? (i := 4) rfl)) rfl
theorem oi2 : Cond.code objectInit ⟨#[0xb1]⟩ 1 none ∈ lw_gd := gd (hcw1_1 _ (List.mem_of_getElem? (i := 5) rfl)) rfl
/-- what a call wants of the method called -/
def Cc (Y : MD) (np : Nat) : Prop := Cond.initialized (yN Y).cls ∈ lw_gd ∧ Cond.code (yN Y) (yC Y) (yL Y) (yR Y) ∈ lw_gd ∧ (yN Y).cls ≠ "java/lang/invoke/MethodHandle" ∧ (yN Y).cls ≠ "java/lang/invoke/VarHandle" ∧ (parseMethodDescriptor (yN Y).desc).map (fun d => d.parameters.length) = some np
theorem Cc.good {Y : MD} {np : Nat} (h : Cc Y np) : GoodIn lw_gd (.code (yN Y) (yC Y) (yL Y) (yR Y) :: lw_gd) := fun w hw => by
  rcases List.mem_cons.mp hw with rfl | h1
  · exact G1 _ h.2.1
  · exact G1 _ h1
theorem cat_sum (B : BB) (st : List AV) : ((st.map (ev B)).map fun v => v.category).sum = (st.map ct).sum := by
  rw [List.map_map]
  congr 2
  funext v
  exact ev_cat B v
section
variable {Y : MD} {X : DX} {k n k1 n1 : Nat} {Z : Shp} {M : Mem} {pc q : Nat} {L : List (Nat × AV)} {st : List AV} {P : Option Res}
theorem r_wide (h1 : k ≤ k1) (h2 : n ≤ n1) (kk : Ref Y X k1 n1 Z M pc L st P) : Ref Y X k n Z M pc L st P := by
  obtain ⟨p, l, e, s, m, args, below, meth, c, D, cA, B, Q⟩ := X
  intro w hw H locs ls hR hS hl
  exact W.widen h1 h2 (kk w hw H locs ls hR hS hl)
theorem r_new {idx ci : Nat} {α : Type} {G : Shp → Mem → Option α} {K : α → Option Res} (hX : Cx Y X) (hci : ci < 13) (hcl : Cond.classLink (yN Y).cls idx (nmC ci) ∈ lw_gd) (hin : Cond.instantiable (nmC ci) (szC ci) ∈ lw_gd) (hini : Cond.initialized (nmC ci) ∈ lw_gd) (hk : k + 1 = k1) (hk2 : k1 ≤ yK Y) (hn : n + szC ci = n1) (hn2 : n1 ≤ yS Y)
    (hd : decode (yC Y) pc = .ok (.new idx, 3)) (hq : pc + 3 = q) (kk : ∀ Z1 M1, tg Z1 (Z.length + 2) = (ci + 1, szC ci) → Ext Z Z1 → Ref Y X k1 n1 Z1 M1 q L (vr (Z.length + 2) :: st) (Option.bind (G Z1 M1) K)) : Ref Y X k n Z M pc L st (Option.bind (pu2 (Z ++ [(ci + 1, szC ci)]) (nw M (Z.length + 2)) G) K) := by
  subst hq; subst hk; subst hn
  have kk := kk (Z ++ [(ci + 1, szC ci)]) (nw M (Z.length + 2)) (tg_app_new _ _ _) (fun a t m h1 h2 => tg_app_old h1 h2)
  obtain ⟨p, l, e, s, m, args, below, meth, c, D, cA, B, Q⟩ := X
  obtain ⟨⟨hx, hb, hml, ho, hts⟩, ⟨hK, hKb⟩, hB, hlk, hrt, hnm⟩ := hX
  intro w hw H locs ls hR hS hl
  have hKn := hK.1 ci _ (vw_at ci hci)
  refine W.newcK hx hb ho (hts _ hcl) (hts _ hin) (hts _ hini) rfl hd hk2 hn2 hKn.2.1 hR.1 fun H1 kC hkC e1 z1 o1 => ?_
  refine kk w hw H1 locs ls ⟨by rw [z1, List.length_append]; rfl, ?_⟩ ⟨Nat.le_trans hS.1 (by rw [z1, hR.1]; omega), fun x h1 h2 => (o1 x (by rw [← hR.1]; exact Nat.lt_of_lt_of_le h1 hS.1)).trans (hS.2.1 x h1 h2), hS.2.2⟩ hl
  rw [allW_new]
  refine (hR.2.kept (fun j x hx' => o1 x.1 (by rw [← hR.1]; exact (hR.2 j x hx').lt))).app (fun j x hx' => ?_)
  have hz : j < 1 := (List.getElem?_eq_some_iff.mp hx').1
  rw [show j = 0 by omega] at hx'
  cases hx'
  rw [ent_obj hci]
  refine ⟨_, vw_at ci hci, (u_born (tyC ci) hts (inC ci hci) hKn hkC e1 (tyOk ci hci)).to (fun j hj => ?_)⟩
  have h3 := fv_at (B := B) (M := nw M (Z.length + 2)) (a := Z.length + 2) (ci := ci) hj
  show defaultValue (tyC ci j) = (List.map _ _).getD j .null
  rw [List.getD_eq_getElem?_getD, h3, dflt_of (okT_all ci hci j hj) B]
  unfold fv
  rw [rR_nw, rJ_nw, rI_nw, if_pos rfl, if_pos rfl, if_pos rfl]
  rfl
/-- the primitive array classes: tag, place, component, as newarray names it -/
def arP (t t0 : Nat) (ty : FieldType) (at0 : ArrayType) : Prop := 100 ≤ t ∧ t < 110 ∧ newarray.typeOf at0 = ty ∧ Cond.arrayClass ty ∈ lw_gd ∧ defaultValue ty = .int 0 ∧ componentBytes ty ≤ 4 ∧ (∀ cA : Nat → ClassId, (tysOf cA)[t0]? = some (cA t, ty)) ∧ ∀ (U : State) (c1 : ClassId), va_RA U c1 ty → U.vm.findClass ("[" ++ ty.toString) = some c1
theorem arP_i : arP 100 0 .int .int := ⟨by omega, by omega, rfl, gd (hcw1_9 _ (List.mem_of_getElem? (i := 16) rfl)) rfl, rfl, by decide, fun _ => rfl, fun _ _ h => h⟩
theorem arP_z : arP 101 1 .boolean .boolean := ⟨by omega, by omega, rfl, gd (hcw1_9 _ (List.mem_of_getElem? (i := 15) rfl)) rfl, rfl, by decide, fun _ => rfl, fun _ _ h => h⟩
theorem arP_b : arP 102 2 .byte .byte := ⟨by omega, by omega, rfl, gd (hcw1_7 _ (List.mem_of_getElem? (i := 14) rfl)) rfl, rfl, by decide, fun _ => rfl, fun _ _ h => h⟩
theorem r_newaX {t t0 cap : Nat} {ty : FieldType} {at0 : ArrayType} {i : Int32} (hX : Cx Y X) (hT : arP t t0 ty at0) (hi : ¬ i < 0 ∧ ix i ≤ cap) (hk : k + 1 = k1) (hk2 : k1 ≤ yK Y) (hn : n + cap = n1) (hn2 : n1 ≤ yS Y) (hcap : cap ≤ 100000)
    (hd : decode (yC Y) pc = .ok (.newarray at0, 2)) (hq : pc + 2 = q) (kk : Ref Y X k1 n1 (Z ++ [(t, ix i)]) (nw M (Z.length + 2)) q L (vr (Z.length + 2) :: st) P) : Ref Y X k n Z M pc L (vi i :: st) P := by
  subst hq; subst hk; subst hn
  obtain ⟨p, l, e, s, m, args, below, meth, c, D, cA, B, Q⟩ := X
  obtain ⟨⟨hx, hb, hml, ho, hts⟩, ⟨hK, hKb⟩, hB, hlk, hrt, hnm⟩ := hX
  obtain ⟨hT1, hT2, hT3, hT4, hT5, hT6, hT7, hT8⟩ := hT
  subst hT3
  intro w hw H locs ls hR hS hl
  refine va_newaK hx hb (hts _ hT4) rfl hd rfl hi.1 rfl (Nat.le_trans (Nat.mul_le_mul hi.2 hT6) (by omega)) hk2 (Nat.le_trans (Nat.add_le_add_left hi.2 _) hn2) hR.1 fun H1 c1 e1 z1 o1 hAr hNm => ?_
  have hcA : cA t = c1 := Option.some.inj ((hT8 s (cA t) (hK.2 t0 _ (hT7 cA)).2).symm.trans hNm)
  refine W.widen (k := k + 1) (n := n + cap) (Nat.le_refl _) (Nat.add_le_add_left hi.2 _) ?_
  refine kk w hw H1 locs ls ⟨by rw [z1, List.length_append]; rfl, ?_⟩ ⟨Nat.le_trans hS.1 (by rw [z1, hR.1]; omega), fun x h1 h2 => (o1 x (by rw [← hR.1]; exact Nat.lt_of_lt_of_le h1 hS.1)).trans (hS.2.1 x h1 h2), hS.2.2⟩ hl
  rw [allW_new]
  refine (hR.2.kept (fun j x hx' => o1 x.1 (by rw [← hR.1]; exact (hR.2 j x hx').lt))).app (fun j x hx' => ?_)
  have hz : j < 1 := (List.getElem?_eq_some_iff.mp hx').1
  rw [show j = 0 by omega] at hx'
  cases hx'
  rw [ent_arI hT1 hT2]
  show H1[B.2 + Z.length]? = some (vp_cell _ _)
  rw [e1, vp_cell_i, hT5, hcA]
  refine congrArg some (congrArg _ (funext fun j => ?_))
  rw [rI_nw, if_pos rfl]
theorem r_newa {t t0 cap : Nat} {ty : FieldType} {at0 : ArrayType} {i : Int32} {α : Type} {G : Shp → Mem → Option α} {K : α → Option Res} (hX : Cx Y X) (hT : arP t t0 ty at0) (hi : ¬ i < 0 ∧ ix i ≤ cap) (hk : k + 1 = k1) (hk2 : k1 ≤ yK Y) (hn : n + cap = n1) (hn2 : n1 ≤ yS Y) (hcap : cap ≤ 100000)
    (hd : decode (yC Y) pc = .ok (.newarray at0, 2)) (hq : pc + 2 = q) (kk : ∀ Z1 M1, tg Z1 (Z.length + 2) = (t, ix i) → Ext Z Z1 → Ref Y X k1 n1 Z1 M1 q L (vr (Z.length + 2) :: st) (Option.bind (G Z1 M1) K)) : Ref Y X k n Z M pc L (vi i :: st) (Option.bind (pu2 (Z ++ [(t, ix i)]) (nw M (Z.length + 2)) G) K) :=
  r_newaX hX hT hi hk hk2 hn hn2 hcap hd hq (kk _ _ (tg_app_new _ _ _) (fun a t m h1 h2 => tg_app_old h1 h2))
theorem r_newq {t t0 ci cap idx : Nat} {i : Int32} {α : Type} {G : Shp → Mem → Option α} {K : α → Option Res} (hX : Cx Y X) (hT : arT t t0 ci) (hcl : Cond.classLink (yN Y).cls idx (nmC ci) ∈ lw_gd) (hov : Cond.arrayOver (.object (nmC ci)) ∈ lw_bad) (hi : ¬ i < 0 ∧ ix i ≤ cap) (hk : k + 1 = k1) (hk2 : k1 ≤ yK Y) (hn : n + cap = n1) (hn2 : n1 ≤ yS Y) (hcap : cap ≤ 100000)
    (hd : decode (yC Y) pc = .ok (.anewarray idx, 3)) (hq : pc + 3 = q) (kk : ∀ Z1 M1, tg Z1 (Z.length + 2) = (t, ix i) → Ext Z Z1 → Ref Y X k1 n1 Z1 M1 q L (vr (Z.length + 2) :: st) (Option.bind (G Z1 M1) K)) : Ref Y X k n Z M pc L (vi i :: st) (Option.bind (pu2 (Z ++ [(t, ix i)]) (nw M (Z.length + 2)) G) K) := by
  subst hq; subst hk; subst hn
  have kk := kk (Z ++ [(t, ix i)]) (nw M (Z.length + 2)) (tg_app_new _ _ _) (fun a t m h1 h2 => tg_app_old h1 h2)
  obtain ⟨p, l, e, s, m, args, below, meth, c, D, cA, B, Q⟩ := X
  obtain ⟨⟨hx, hb, hml, ho, hts⟩, ⟨hK, hKb⟩, hB, hlk, hrt, hnm⟩ := hX
  obtain ⟨hT1, hci, hT2⟩ := hT
  intro w hw H locs ls hR hS hl
  refine W.anew hx hb ho (hts _ hcl) (va_AO.use (hKb _ hov)) rfl hd rfl hi.1 (by have h7 := hi.2; show i.toNatClampNeg * 4 ≤ _; have h8 : i.toNatClampNeg ≤ cap := h7; omega) hk2 (Nat.le_trans (Nat.add_le_add_left hi.2 _) hn2) fun c1 kA comp f1 f2 f3 f4 => ?_
  obtain ⟨_, _, _, _, _, h4⟩ := (hK.2 t0 _ (hT2 cA)).2
  have hcA : cA t = c1 := Option.some.inj (h4.symm.trans f1)
  generalize hH1 : H.push ({ cls := c1, slots := Array.replicate i.toNatClampNeg .null, vm := .none } : Cell) = H1
  have z1 : H1.size = H.size + 1 := by rw [← hH1, Array.size_push]
  have e1 : H1[H.size]? = some (arrV c1 i.toNatClampNeg (fun _ => .null)) := by rw [← hH1, Array.getElem?_push_size, ← arrV_new]
  have o1 : ∀ x, x < H.size → H1[x]? = H[x]? := fun x hx' => by rw [← hH1, Array.getElem?_push, if_neg (Nat.ne_of_lt hx')]
  rw [hR.1] at e1 z1 o1
  rw [hR.1]
  refine W.widen (k := k + 1) (n := n + cap) (Nat.le_refl _) (Nat.add_le_add_left hi.2 _) ?_
  refine kk w hw H1 locs ls ⟨by rw [z1, List.length_append]; rfl, ?_⟩ ⟨Nat.le_trans hS.1 (by rw [z1, hR.1]; omega), fun x h1 h2 => (o1 x (by rw [← hR.1]; exact Nat.lt_of_lt_of_le h1 hS.1)).trans (hS.2.1 x h1 h2), hS.2.2⟩ hl
  rw [allW_new]
  refine (hR.2.kept (fun j x hx' => o1 x.1 (by rw [← hR.1]; exact (hR.2 j x hx').lt))).app (fun j x hx' => ?_)
  have hz : j < 1 := (List.getElem?_eq_some_iff.mp hx').1
  rw [show j = 0 by omega] at hx'
  cases hx'
  rw [ent_arR hT1]
  show H1[B.2 + Z.length]? = some (vp_cell _ _)
  rw [e1, vp_cell_q, hcA]
  refine congrArg some (congrArg _ (funext fun j => ?_))
  rw [rR_nw, if_pos rfl]
  rfl
/-- behind a call -/
theorem cont_run {p : Program} {l : Launch} {e : Env} {R : Room} {s : State} {m : MethodId} {args : Array Value} {below : List Frame} {meth : Method} {c : Code} {H : Heap} {locs : List Loc} {mc ms : Nat} {ls : Array Slot} {st0 rest : List Value} {Q : State → Prop} {D : va_G} {cA : Nat → ClassId} {B : BB} {y : Res} {a : Array Value}
    (hr : va_Run p l e R s m args below meth c H locs k n mc ms (F0 m pc ls st0) rest (QM D cA B y a) (fun q => B.2 ≤ q)) (hS : va_S (fun q => B.2 ≤ q) s.heap H locs)
    (kk : ∀ (H1 : Heap) (locs1 : List Loc), Rel D cA B y.2.1 y.2.2 H1 → va_S (fun q => B.2 ≤ q) s.heap H1 locs1 → W p l e R s m args below meth c H1 locs1 (k + mc) (n + ms) Q (F0 m (pc + 3) ls ((y.1.map (ev B)).toList ++ rest))) : W p l e R s m args below meth c H locs k n Q (F0 m pc ls st0) := by
  intro T hT X
  obtain ⟨v, st₀, t, T', L', h0, X', hL, e1, e2, ⟨hv, hrel, hz, hk⟩, stp⟩ := hr T hT X
  cases hv
  rw [h0] at hz hk
  rw [← e1] at hrel
  obtain ⟨t2, a1, b1⟩ := kk T'.heap (locs ++ L') hrel ⟨Nat.le_trans hS.1 (by rw [e1]; exact hz), fun q h1 h2 => by rw [e1, hk q (Nat.lt_of_lt_of_le h1 hS.1) h2]; exact hS.2.1 q h1 h2, fun q hq => by
      rcases List.mem_append.mp hq with h | h
      · exact hS.2.2 q h
      · exact hL q h⟩ T' rfl X'
  exact ⟨t2, stp t2 a1, b1⟩
theorem blind {D : va_G} {cA : Nat → ClassId} {B : BB} {vs : List Value} : FrameBlind (va_Pc vs (fun U => Rel D cA B Z M U.heap ∧ KK D cA U)) := fun a U g mk h => ⟨h.1, h.2.1, KK.same (s := U) (U := U.calling g mk a) rfl h.2.2⟩
/-- the call's link: of an ordinary one, of a nest mate's -/
def Lk (own : String) (idx : Nat) (y : MethodName) : Prop := Cond.methodLink own idx y ∈ lw_gd
def LkN (own : String) (idx : Nat) (y : MethodName) (host : String) : Prop := Cond.methodLinkNest own idx y host ∈ lw_bad
def Iv (Y : MD) (ci : Nat) : Prop := ci < 13 ∧ nmC ci = (yN Y).cls ∧ Cond.instanceMethod (yN Y) ∈ lw_gd ∧ Cond.selects (yN Y).cls (yN Y) (yN Y) ∈ lw_gd
abbrev roomOk (Y Y1 : MD) (k n k1 n1 : Nat) : Prop := yF Y1 + 1 ≤ yF Y ∧ 8 + (yL Y1 + 11) + yO Y1 ≤ yO Y ∧ k + yK Y1 = k1 ∧ n + yS Y1 = n1 ∧ k1 ≤ yK Y ∧ n1 ≤ yS Y
theorem r_callv {Y1 : MD} {As st0 : List AV} {a ci np idx : Nat} {y : Res} (hX : Cx Y X) (hc : ∀ l, Ct l Y1 (vr a :: As) Z M y) (ht : tg Z a = (ci + 1, szC ci)) (hI : Iv Y1 ci) (hC : Cc Y1 np) (hlk : Lk (yN Y).cls idx (yN Y1) ∨ ∃ host, LkN (yN Y).cls idx (yN Y1) host) (hn : As.length = np) (hst : st0 = As.reverse ++ vr a :: st) (hr : roomOk Y Y1 k n k1 n1) (hw8 : (st.map ct).sum ≤ 8)
    (hd : decode (yC Y) pc = .ok (.invokevirtual idx, 3)) (hq : pc + 3 = q) (kk : Ref Y X k1 n1 y.2.1 y.2.2 q L (y.1.toList ++ st) P) : Ref Y X k n Z M pc L st0 P := by
  subst hq; subst hst
  obtain ⟨hr1, hr2, rfl, rfl, hr5, hr6⟩ := hr
  obtain ⟨p, l, e, s, m, args, below, meth, c, D, cA, B, Q⟩ := X
  obtain ⟨⟨hx, hb, hml, ho, hts⟩, ⟨hK, hKb⟩, hB, hlk0, hrt, hnm⟩ := hX
  obtain ⟨hci, hnmc, hin, hsel⟩ := hI
  obtain ⟨j, rfl, hz⟩ := tg_some ht (by omega)
  intro w hw H locs ls hR hS hl
  have hcl : ∃ cell : Cell, H[B.2 + j]? = some cell ∧ cell.vm.isStatics = false ∧ s.vm.findClass (yN Y1).cls = some cell.cls := by
    rw [← hnmc]
    exact va_recv hK hR.2 (vw_at ci hci) (allW_obj hci hz)
  have hp : PreV s H (yN Y1).cls (B.2 + j) (va_Pc ((vr (j + 2) :: As).map (ev B)) (fun U => Rel D cA B Z M U.heap ∧ KK D cA U)) (As.map (ev B)) := ⟨blind, hcl, fun U hU hW => ⟨rfl, by rw [hU]; exact hR, KK.mv hW ⟨hK, hKb⟩⟩⟩
  have hsk : (As.reverse ++ vr (j + 2) :: st).map (ev B) = (As.map (ev B)).reverse ++ .ref (B.2 + j) :: st.map (ev B) := by simp [List.map_append, List.map_reverse, ev, rv]
  have hrun : va_Run p l e (yM Y) s m args below meth c H locs k n (yK Y1) (yS Y1) (F0 m pc ls ((As.reverse ++ vr (j + 2) :: st).map (ev B))) (st.map (ev B)) (QM D cA B y (Value.ref (B.2 + j) :: As.map (ev B)).toArray) (fun q => B.2 ≤ q) := by
    rcases hlk with h1 | ⟨host, h1⟩
    · exact va_runV (n := np) ⟨hx, hb, hml, ho, hts⟩ (hc l D cA B) ⟨callB_of np hts hC.good rfl rfl rfl (hts _ hC.1) (hts _ h1) hC.2.2 ⟨hr1, hr2⟩, hts _ hin, hts _ hsel⟩ hp rfl (by rw [List.length_map]; exact hn) hl.1 hsk (lv_room (by rw [cat_sum]; exact hw8)) hd ⟨hr5, hr6⟩
    · exact va_runVN (n := np) ⟨hx, hb, hml, ho, hts⟩ (hc l D cA B) ⟨va_cnB np hts hC.good rfl rfl rfl (hKb _ h1) (hts _ hC.1) hC.2.2 ⟨hr1, hr2⟩, hts _ hin, hts _ hsel⟩ hp rfl (by rw [List.length_map]; exact hn) hl.1 hsk (lv_room (by rw [cat_sum]; exact hw8)) hd ⟨hr5, hr6⟩
  refine cont_run hrun hS (fun H1 locs1 hR1 hS1 => ?_)
  have h9 := kk w hw H1 locs1 ls hR1 hS1 hl
  have h10 : (y.1.toList ++ st).map (ev B) = (y.1.map (ev B)).toList ++ st.map (ev B) := by cases y.1 <;> rfl
  rw [h10] at h9
  exact h9
theorem r_calls {Y1 : MD} {As st0 : List AV} {np idx : Nat} {y : Res} (hX : Cx Y X) (hc : ∀ l, Ct l Y1 As Z M y) (hst1 : Cond.static (yN Y1) ∈ lw_gd) (hC : Cc Y1 np) (hlk : Lk (yN Y).cls idx (yN Y1) ∨ ∃ host, LkN (yN Y).cls idx (yN Y1) host) (hn : As.length = np) (hst : st0 = As.reverse ++ st) (hr : roomOk Y Y1 k n k1 n1) (hw8 : (st.map ct).sum ≤ 8)
    (hd : decode (yC Y) pc = .ok (.invokestatic idx, 3)) (hq : pc + 3 = q) (kk : Ref Y X k1 n1 y.2.1 y.2.2 q L (y.1.toList ++ st) P) : Ref Y X k n Z M pc L st0 P := by
  subst hq; subst hst
  obtain ⟨hr1, hr2, rfl, rfl, hr5, hr6⟩ := hr
  obtain ⟨p, l, e, s, m, args, below, meth, c, D, cA, B, Q⟩ := X
  obtain ⟨⟨hx, hb, hml, ho, hts⟩, ⟨hK, hKb⟩, hB, hlk0, hrt, hnm⟩ := hX
  intro w hw H locs ls hR hS hl
  have hp : PreS s H (va_Pc (As.map (ev B)) (fun U => Rel D cA B Z M U.heap ∧ KK D cA U)) (As.map (ev B)) := ⟨blind, fun U hU hW => ⟨rfl, by rw [hU]; exact hR, KK.mv hW ⟨hK, hKb⟩⟩⟩
  have hsk : (As.reverse ++ st).map (ev B) = (As.map (ev B)).reverse ++ st.map (ev B) := by simp [List.map_append, List.map_reverse]
  have hrun : va_Run p l e (yM Y) s m args below meth c H locs k n (yK Y1) (yS Y1) (F0 m pc ls ((As.reverse ++ st).map (ev B))) (st.map (ev B)) (QM D cA B y (As.map (ev B)).toArray) (fun q => B.2 ≤ q) := by
    rcases hlk with h1 | ⟨host, h1⟩
    · exact va_runS (n := np) ⟨hx, hb, hml, ho, hts⟩ (hc l D cA B) ⟨callB_of np hts hC.good rfl rfl rfl (hts _ hC.1) (hts _ h1) hC.2.2 ⟨hr1, hr2⟩, hts _ hst1⟩ hp rfl (by rw [List.length_map]; exact hn) hl.1 hsk (lv_room (by rw [cat_sum]; exact hw8)) hd ⟨hr5, hr6⟩
    · exact va_runSN (n := np) ⟨hx, hb, hml, ho, hts⟩ (hc l D cA B) ⟨va_cnB np hts hC.good rfl rfl rfl (hKb _ h1) (hts _ hC.1) hC.2.2 ⟨hr1, hr2⟩, hts _ hst1, trivial⟩ hp rfl (by rw [List.length_map]; exact hn) hl.1 hsk (lv_room (by rw [cat_sum]; exact hw8)) hd ⟨hr5, hr6⟩
  refine cont_run hrun hS (fun H1 locs1 hR1 hS1 => ?_)
  have h9 := kk w hw H1 locs1 ls hR1 hS1 hl
  have h10 : (y.1.toList ++ st).map (ev B) = (y.1.map (ev B)).toList ++ st.map (ev B) := by cases y.1 <;> rfl
  rw [h10] at h9
  exact h9
theorem r_calli {Y1 : MD} {As st0 : List AV} {a ci np idx : Nat} {y : Res} (hX : Cx Y X) (hc : ∀ l, Ct l Y1 (vr a :: As) Z M y) (ht : tg Z a = (ci + 1, szC ci)) (hI : Cond.instanceMethod (yN Y1) ∈ lw_gd) (hnm1 : (yN Y1).name = "<init>") (hrn : yR Y1 = none) (hC : Cc Y1 np) (hlk : Lk (yN Y).cls idx (yN Y1) ∨ ∃ host, LkN (yN Y).cls idx (yN Y1) host) (hn : As.length = np) (hst : st0 = As.reverse ++ vr a :: st) (hr : roomOk Y Y1 k n k1 n1) (hw8 : (st.map ct).sum ≤ 8)
    (hd : decode (yC Y) pc = .ok (.invokespecial idx, 3)) (hq : pc + 3 = q) (kk : Ref Y X k1 n1 y.2.1 y.2.2 q L (y.1.toList ++ st) P) : Ref Y X k n Z M pc L st0 P := by
  subst hq; subst hst
  obtain ⟨hr1, hr2, rfl, rfl, hr5, hr6⟩ := hr
  obtain ⟨p, l, e, s, m, args, below, meth, c, D, cA, B, Q⟩ := X
  obtain ⟨⟨hx, hb, hml, ho, hts⟩, ⟨hK, hKb⟩, hB, hlk0, hrt, hnm⟩ := hX
  obtain ⟨j, rfl, hz⟩ := tg_some ht (by omega)
  intro w hw H locs ls hR hS hl
  have hp : PreS s H (va_Pc ((vr (j + 2) :: As).map (ev B)) (fun U => Rel D cA B Z M U.heap ∧ KK D cA U)) (.ref (B.2 + j) :: As.map (ev B)) := ⟨blind, fun U hU hW => ⟨rfl, by rw [hU]; exact hR, KK.mv hW ⟨hK, hKb⟩⟩⟩
  have hsk : (As.reverse ++ vr (j + 2) :: st).map (ev B) = (As.map (ev B)).reverse ++ .ref (B.2 + j) :: st.map (ev B) := by simp [List.map_append, List.map_reverse, ev, rv]
  have hg := hC.good
  have hcc := hc l D cA B
  have hw1 : Cond.code (yN Y1) (yC Y1) (yL Y1) (yR Y1) :: lw_gd = Cond.code (yN Y1) (yC Y1) (yL Y1) none :: lw_gd := by rw [hrn]
  have hrun : va_Run p l e (yM Y) s m args below meth c H locs k n (yK Y1) (yS Y1) (F0 m pc ls ((As.reverse ++ vr (j + 2) :: st).map (ev B))) (st.map (ev B)) (QM D cA B y (Value.ref (B.2 + j) :: As.map (ev B)).toArray) (fun q => B.2 ≤ q) := by
    rcases hlk with h1 | ⟨host, h1⟩
    · exact va_runI (n := np) ⟨hx, hb, hml, ho, hts⟩ hcc ⟨callB_of np hts hg hw1 rfl rfl (hts _ hC.1) (hts _ h1) hC.2.2 ⟨hr1, hr2⟩, hnm1, hts _ hI⟩ hp rfl (by rw [List.length_map]; exact hn) hl.1 hsk (lv_room (by rw [cat_sum]; exact hw8)) hd ⟨hr5, hr6⟩
    · exact va_runIN (n := np) ⟨hx, hb, hml, ho, hts⟩ hcc ⟨va_cnB np hts hg hw1 rfl rfl (hKb _ h1) (hts _ hC.1) hC.2.2 ⟨hr1, hr2⟩, hnm1, hts _ hI⟩ hp rfl (by rw [List.length_map]; exact hn) hl.1 hsk (lv_room (by rw [cat_sum]; exact hw8)) hd ⟨hr5, hr6⟩
  refine cont_run hrun hS (fun H1 locs1 hR1 hS1 => ?_)
  have h9 := kk w hw H1 locs1 ls hR1 hS1 hl
  have h10 : (y.1.toList ++ st).map (ev B) = (y.1.map (ev B)).toList ++ st.map (ev B) := by cases y.1 <;> rfl
  rw [h10] at h9
  exact h9
theorem r_objI {idx a ci m0 : Nat} (hX : Cx Y X) (hl0 : Cond.methodLink (yN Y).cls idx objectInit ∈ lw_gd) (ha : tg Z a = (ci + 1, m0)) (hf : 1 ≤ yF Y) (hlo : (st.map ct).sum + 12 ≤ yO Y) (hd : decode (yC Y) pc = .ok (.invokespecial idx, 3)) (hq : pc + 3 = q) (kk : Ref Y X k n Z M q L st P) : Ref Y X k n Z M pc L (vr a :: st) P := by
  subst hq
  obtain ⟨p, l, e, s, m, args, below, meth, c, D, cA, B, Q⟩ := X
  obtain ⟨⟨hx, hb, hml, ho, hts⟩, ⟨hK, hKb⟩, hB, hlk0, hrt, hnm⟩ := hX
  obtain ⟨j, rfl, hz⟩ := tg_some ha (by omega)
  intro w hw H locs ls hR hS hl
  refine W.objInit (rest := st.map (ev B)) hx hb ho (hts _ hl0) (hts _ oi1) (hts _ oi2) rfl (by rw [hml]; exact hl.1) rfl hd hf ?_ (kk w hw H locs ls hR hS hl)
  rw [cat_sum]
  show 2 * 0 + _ + 12 ≤ yO Y
  omega
/-! ends -/
theorem fin_q {D : va_G} {cA : Nat → ClassId} {B : BB} {s t : State} {H : Heap} {locs : List Loc} {args : Array Value} {v : Option AV} (hR : Rel D cA B Z M H) (hS : va_S (fun q => B.2 ≤ q) s.heap H locs) (ht : t.heap = H) : QM D cA B (v, Z, M) args s (.returned (v.map (ev B))) t := ⟨rfl, by rw [ht]; exact hR, hS.F ht⟩
theorem r_iret {v : Int32} (hX : Cm Y X) (hr : yR Y = some .int) (hk : k ≤ yK Y) (hn : n ≤ yS Y) (hd : decode (yC Y) pc = .ok (.ireturn, 1)) : Ref Y X k n Z M pc L [vi v] (some (some (vi v), Z, M)) := by
  obtain ⟨p, l, e, s, m, args, below, meth, c, D, cA, B, Q⟩ := X
  obtain ⟨⟨⟨hx, hb, hml, ho, hts⟩, ⟨hK, hKb⟩, hB, hlk, hrt, hnm⟩, hQ⟩ := hX
  intro w hw H locs ls hR hS hl
  cases hw
  rw [hQ]
  refine W.widen hk hn ?_
  exact W.iret hx hb (hrt.trans hr) (fun t ht _ => fin_q hR hS ht) hS.2.2 hd hlk
theorem r_zret {v : Int32} (hX : Cm Y X) (hr : yR Y = some .boolean) (hz : zb v) (hk : k ≤ yK Y) (hn : n ≤ yS Y) (hd : decode (yC Y) pc = .ok (.ireturn, 1)) : Ref Y X k n Z M pc L [vi v] (some (some (vi v), Z, M)) := by
  obtain ⟨p, l, e, s, m, args, below, meth, c, D, cA, B, Q⟩ := X
  obtain ⟨⟨⟨hx, hb, hml, ho, hts⟩, ⟨hK, hKb⟩, hB, hlk, hrt, hnm⟩, hQ⟩ := hX
  intro w hw H locs ls hR hS hl
  cases hw
  rw [hQ]
  refine W.widen hk hn ?_
  exact W.zret hx hb (hrt.trans hr) (zb_n hz) (fun t ht _ => fin_q hR hS ht) hS.2.2 hd hlk
theorem r_lret {v : Int64} (hX : Cm Y X) (hr : yR Y = some .long) (hk : k ≤ yK Y) (hn : n ≤ yS Y) (hd : decode (yC Y) pc = .ok (.lreturn, 1)) : Ref Y X k n Z M pc L [vj v] (some (some (vj v), Z, M)) := by
  obtain ⟨p, l, e, s, m, args, below, meth, c, D, cA, B, Q⟩ := X
  obtain ⟨⟨⟨hx, hb, hml, ho, hts⟩, ⟨hK, hKb⟩, hB, hlk, hrt, hnm⟩, hQ⟩ := hX
  intro w hw H locs ls hR hS hl
  cases hw
  rw [hQ]
  refine W.widen hk hn ?_
  exact W.lret hx hb (hrt.trans hr) (fun t ht _ => fin_q hR hS ht) hS.2.2 hd hlk
theorem r_aret {v : Nat} {rt : FieldType} (hX : Cm Y X) (hr : yR Y = some rt) (hrt1 : (∃ n, rt = .object n) ∨ ∃ t, rt = .array t) (hk : k ≤ yK Y) (hn : n ≤ yS Y) (hd : decode (yC Y) pc = .ok (.areturn, 1)) : Ref Y X k n Z M pc L [vr v] (some (some (vr v), Z, M)) := by
  obtain ⟨p, l, e, s, m, args, below, meth, c, D, cA, B, Q⟩ := X
  obtain ⟨⟨⟨hx, hb, hml, ho, hts⟩, ⟨hK, hKb⟩, hB, hlk, hrt, hnm⟩, hQ⟩ := hX
  intro w hw H locs ls hR hS hl
  cases hw
  rw [hQ]
  refine W.widen hk hn ?_
  exact W.aret hx hb (hrt.trans hr) hrt1 (rv_or B v) (fun t ht _ => fin_q hR hS ht) hS.2.2 hd hlk
theorem r_vret (hX : Cm Y X) (hr : yR Y = none) (hk : k ≤ yK Y) (hn : n ≤ yS Y) (hd : decode (yC Y) pc = .ok (.return_, 1)) : Ref Y X k n Z M pc L [] (some (none, Z, M)) := by
  obtain ⟨p, l, e, s, m, args, below, meth, c, D, cA, B, Q⟩ := X
  obtain ⟨⟨⟨hx, hb, hml, ho, hts⟩, ⟨hK, hKb⟩, hB, hlk, hrt, hnm⟩, hQ⟩ := hX
  intro w hw H locs ls hR hS hl
  cases hw
  rw [hQ]
  refine W.widen hk hn ?_
  exact W.vret hx hb (hrt.trans hr) (fun t ht _ => fin_q hR hS ht) hS.2.2 hd hlk
/-! logic -/
theorem r_bind {α β : Type} {F : Option β} {G : β → Option α} {K : α → Option Res} (kk : ∀ r, F = some r → Ref Y X k n Z M pc L st (Option.bind (G r) K)) : Ref Y X k n Z M pc L st (Option.bind (Option.bind F G) K) := by
  obtain ⟨p, l, e, s, m, args, below, meth, c, D, cA, B, Q⟩ := X
  intro w hw
  cases F with
  | none => cases hw
  | some r => exact kk r rfl w hw
theorem r_ck {α : Type} {c0 : Prop} {ins : Decidable c0} {A : Option α} {K : α → Option Res} (kk : c0 → Ref Y X k n Z M pc L st (Option.bind A K)) : Ref Y X k n Z M pc L st (Option.bind (@ite _ c0 ins A none) K) := by
  obtain ⟨p, l, e, s, m, args, below, meth, c, D, cA, B, Q⟩ := X
  intro w hw
  by_cases h : c0
  · rw [if_pos h] at hw
    exact kk h w hw
  · rw [if_neg h] at hw
    cases hw
theorem r_ite {α : Type} {c0 : Prop} {ins : Decidable c0} {A1 A2 : Option α} {K : α → Option Res} (kt : c0 → Ref Y X k n Z M pc L st (Option.bind A1 K)) (kf : ¬ c0 → Ref Y X k n Z M pc L st (Option.bind A2 K)) : Ref Y X k n Z M pc L st (Option.bind (@ite _ c0 ins A1 A2) K) := by
  obtain ⟨p, l, e, s, m, args, below, meth, c, D, cA, B, Q⟩ := X
  intro w hw
  by_cases h : c0
  · rw [if_pos h] at hw
    exact kt h w hw
  · rw [if_neg h] at hw
    exact kf h w hw
theorem r_as {α β : Type} {F : Option β} {G : β → Option α} {K : α → Option Res} (kk : Ref Y X k n Z M pc L st (Option.bind F (fun r => Option.bind (G r) K))) : Ref Y X k n Z M pc L st (Option.bind (Option.bind F G) K) := by
  rw [Option.bind_assoc]
  exact kk
theorem r_none : Ref Y X k n Z M pc L st none := by
  obtain ⟨p, l, e, s, m, args, below, meth, c, D, cA, B, Q⟩ := X
  intro w hw
  cases hw
theorem r_sub {L1 : List (Nat × AV)} (ks : List Nat) (hp : ks.filterMap (fun i => L[i]?) = L1) (kk : Ref Y X k n Z M pc L1 st P) : Ref Y X k n Z M pc L st P := by
  obtain ⟨p, l, e, s, m, args, below, meth, c, D, cA, B, Q⟩ := X
  intro w hw H locs ls hR hS hl
  refine kk w hw H locs ls hR hS ⟨hl.1, hl.2.1, fun u hu => ?_⟩
  obtain ⟨v, hv, rfl⟩ := List.mem_map.mp hu
  subst hp
  obtain ⟨i, -, hi⟩ := List.mem_filterMap.mp hv
  exact hl.2.2 _ (List.mem_map.mpr ⟨v, List.mem_of_getElem? hi, rfl⟩)
theorem r_start {α : Type} {F : Option α} {K : α → Option Res} {r : α} (h : F = some r) (kk : Ref Y X k n Z M pc L st (Option.bind F K)) : Ref Y X k n Z M pc L st (K r) := by
  subst h
  exact kk
end
/-! loops -/
def lp {σ τ : Type} (f : σ → Option (σ ⊕ τ)) : Nat → σ → Option τ
  | 0, _ => none
  | n + 1, s => match f s with
    | none => none
    | some (.inl s1) => lp f n s1
    | some (.inr r) => some r
noncomputable def loop {σ τ : Type} (f : σ → Option (σ ⊕ τ)) (s : σ) : Option τ := match Classical.propDecidable (∃ n r, lp f n s = some r) with
  | isTrue h => lp f (Classical.choose h) s
  | isFalse _ => none
theorem lp_mono {σ τ : Type} {f : σ → Option (σ ⊕ τ)} {r : τ} : ∀ {n : Nat} {s : σ}, lp f n s = some r → lp f (n + 1) s = some r
  | 0, s, h => by cases h
  | n + 1, s, h => by
    unfold lp at h ⊢
    cases hf : f s with
    | none => rw [hf] at h; cases h
    | some v =>
      rw [hf] at h
      cases v with
      | inl s1 => exact lp_mono (n := n) h
      | inr r1 => exact h
theorem lp_add {σ τ : Type} {f : σ → Option (σ ⊕ τ)} {r : τ} {n : Nat} {s : σ} (h : lp f n s = some r) : ∀ m, lp f (n + m) s = some r
  | 0 => h
  | m + 1 => lp_mono (lp_add h m)
theorem lp_det {σ τ : Type} {f : σ → Option (σ ⊕ τ)} {r r' : τ} {n n' : Nat} {s : σ} (h : lp f n s = some r) (h' : lp f n' s = some r') : r = r' := by
  have h1 := lp_add h n'
  have h2 := lp_add h' n
  rw [Nat.add_comm n' n] at h2
  exact Option.some.inj (h1.symm.trans h2)
theorem loop_iff {σ τ : Type} {f : σ → Option (σ ⊕ τ)} {s : σ} {r : τ} : loop f s = some r ↔ ∃ n, lp f n s = some r := by
  unfold loop
  constructor
  · intro h
    split at h
    · rename_i h1 _
      exact ⟨_, h⟩
    · cases h
  · rintro ⟨n, h⟩
    split
    · rename_i h1 _
      obtain ⟨r1, h2⟩ := Classical.choose_spec h1
      rw [h2, lp_det h2 h]
    · rename_i h1 _
      exact absurd ⟨n, r, h⟩ h1
theorem loop_eq {σ τ : Type} (f : σ → Option (σ ⊕ τ)) (s : σ) : loop f s = (f s).bind (fun v => match v with | .inl s1 => loop f s1 | .inr r => some r) := by
  apply Option.ext
  intro r
  rw [loop_iff]
  constructor
  · rintro ⟨n, h⟩
    cases n with
    | zero => cases h
    | succ n =>
      unfold lp at h
      cases hf : f s with
      | none => rw [hf] at h; cases h
      | some v =>
        rw [hf] at h
        cases v with
        | inl s1 => exact loop_iff.mpr ⟨n, h⟩
        | inr r1 => exact h
  · intro h
    cases hf : f s with
    | none => rw [hf] at h; cases h
    | some v =>
      rw [hf] at h
      cases v with
      | inl s1 =>
        obtain ⟨n, hn⟩ := loop_iff.mp h
        exact ⟨n + 1, by unfold lp; rw [hf]; exact hn⟩
      | inr r1 => exact ⟨1, by unfold lp; rw [hf]; exact h⟩
theorem r_loop0 {σ τ : Type} {Hd : σ → Option Res → Prop} {f : σ → Option (σ ⊕ τ)} {K : τ → Option Res} (h0 : ∀ s, Hd s none) (hb : ∀ (s : σ) (N : σ → Option Res), (∀ s1, Hd s1 (N s1)) → Hd s (Option.bind (f s) (fun v => match v with | .inl s1 => N s1 | .inr r => K r))) (s : σ) : Hd s (Option.bind (loop f s) K) := by
  have key : ∀ (n : Nat) (s : σ), Hd s (Option.bind (lp f n s) K) := by
    intro n
    induction n with
    | zero => exact fun s => h0 s
    | succ n ih =>
      intro s
      have h1 := hb s (fun s1 => Option.bind (lp f n s1) K) ih
      have h2 : Option.bind (lp f (n + 1) s) K = Option.bind (f s) (fun v => match v with | .inl s1 => Option.bind (lp f n s1) K | .inr r => K r) := by
        show Option.bind (match f s with | none => none | some (.inl s1) => lp f n s1 | some (.inr r) => some r) K = _
        cases f s with
        | none => rfl
        | some v => cases v <;> rfl
      rw [h2]
      exact h1
  cases hl : loop f s with
  | none => exact h0 s
  | some r =>
    obtain ⟨n, hn⟩ := loop_iff.mp hl
    rw [← hn]
    exact key n s
/-! from a body's walk to its contract -/
def aL : Nat → List AV → List (Nat × AV)
  | _, [] => []
  | i, v :: vs => (i, v) :: aL (i + ct v) vs
theorem ct12 (v : AV) : ct v = 1 ∨ ct v = 2 := by rcases v with x | x | a <;> simp [ct]
theorem aL_map (B : BB) : ∀ (vs : List AV) (i : Nat), lv_args i (vs.map (ev B)) = (aL i vs).map (ev2 B)
  | [], _ => rfl
  | v :: vs, i => by
    show (i, ev B v) :: lv_args (if (ev B v).category = 2 then i + 2 else i + 1) (vs.map (ev B)) = (i, ev B v) :: (aL (i + ct v) vs).map (ev2 B)
    rw [ev_cat, ← aL_map B vs (i + ct v)]
    rcases ct12 v with h | h <;> rw [h] <;> rfl
theorem sl_len (B : BB) : ∀ (vs : List AV), (lg_sl (vs.map (ev B))).length = (vs.map ct).sum
  | [] => rfl
  | v :: vs => by
    have ih := sl_len B vs
    show (List.flatMap _ (ev B v :: vs.map (ev B))).length = _
    rw [List.flatMap_cons, List.length_append]
    have h2 : (List.flatMap (fun v : Value => if v.category = 2 then [Slot.val v, .second] else [.val v]) (vs.map (ev B))).length = (vs.map ct).sum := ih
    rw [h2, List.map_cons, List.sum_cons, ev_cat]
    rcases ct12 v with h | h <;> rw [h] <;> rfl
theorem Ct.of {l : Launch} {Y : MD} {As : List AV} {Z : Shp} {M : Mem} {y : Res} (hy : plainName (yN Y).cls = true) (hn : (As.map ct).sum ≤ yL Y) (h : ∀ X, Cm Y X → Ref Y X 0 0 Z M 0 (aL 0 As) [] (some y)) : Ct l Y As Z M y := by
  intro D cA B
  refine Met.ofW (cc := yC Y) (maxL := yL Y) (ret := yR Y) hy rfl ?_
  intro p e s m args below meth c s₁ B0 hml hv
  obtain ⟨rfl, hR, hK⟩ := hv
  have hts0 := atoms_spec (ws := Cond.code (yN Y) (yC Y) (yL Y) (yR Y) :: lw_gd) B0.pre
  have hts : ∀ w ∈ lw_gd, w.before (As.map (ev B)).toArray s = true := fun w hw => hts0 w (List.mem_cons_of_mem _ hw)
  have hown : s.vm.findClass (yN Y).cls = some m.cls := findClass_of_methodNamed B0.named
  have hnm : meth.name = (yN Y).name := (name_of_methodNamed B0.named B0.method).1
  have hl := lv_entry (As.map (ev B)) (n := yL Y) (by rw [sl_len]; exact hn)
  rw [lg_entry_eq]
  rw [aL_map] at hl
  exact h (p, l, e, s, m, (As.map (ev B)).toArray, below, meth, c, D, cA, B, fun y => MQ below (QM D cA B y) (As.map (ev B)).toArray s (yK Y) (yS Y) (fun q => B.2 ≤ q)) ⟨⟨⟨B0.exec, B0.bytes, hml, hown, hts⟩, hK, by rw [hR.1]; exact Nat.le_add_right _ _, B0.notSynchronized, B0.returns, fun h => hnm.trans h⟩, fun _ => rfl⟩ y rfl s.heap [] _ hR va_S.rf hl
