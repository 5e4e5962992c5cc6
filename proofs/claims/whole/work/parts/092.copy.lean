/-! Arrays.copyOf of bytes -/
/-- the first n places of a into b -/
def cpB (M : Mem) (a b n : Nat) : Mem := (fun a' k' => if a' = b ∧ k' < n then M.1 a k' else M.1 a' k', M.2)
theorem rI_cpB (M : Mem) (a b n a' k' : Nat) : rI (cpB M a b n) a' k' = if a' = b ∧ k' < n then rI M a k' else rI M a' k' := rfl
theorem rJ_cpB (M : Mem) (a b n a' k' : Nat) : rJ (cpB M a b n) a' k' = rJ M a' k' := rfl
theorem rR_cpB (M : Mem) (a b n a' k' : Nat) : rR (cpB M a b n) a' k' = rR M a' k' := rfl
theorem ent_cpB {cA : Nat → ClassId} {B : BB} {M : Mem} {a b n a' t n' : Nat} (h : a' ≠ b) : ent cA B M a' t n' = ent cA B (cpB M a b n) a' t n' := by
  have h2 : rI (cpB M a b n) a' = rI M a' := funext fun j => by rw [rI_cpB, if_neg (fun q => h q.1)]
  unfold ent fv
  simp only [h2, rJ_cpB, rR_cpB]
theorem arrV_cg {cI : ClassId} {N : Nat} {f g : Nat → Value} (h : ∀ j, j < N → f j = g j) : arrV cI N f = arrV cI N g := by
  unfold arrV
  congr 2
  funext j
  exact h j.val j.isLt
def fJ7_copyOf_9075b (Z : Shp) (M : Mem) (a0 : Nat) (x1 : Int32) : Option (Nat × Shp × Mem) := if (((tg Z a0).1 = 102 ∧ (tg Z a0).2 ≤ 60) ∧ ∀ j, j < (tg Z a0).2 → (rI M a0 j).toInt8.toInt32 = rI M a0 j) ∧ ¬ x1 < 0 ∧ ix x1 ≤ (tg Z a0).2 then some (Z.length + 2, Z ++ [(102, ix x1)], cpB (nw M (Z.length + 2)) a0 (Z.length + 2) (ix x1)) else none
def mJ7_copyOf_9075b : MD := (yJ7_copyOf_9075b, cJ7_copyOf_9075b, 3, (some (.array .byte)), 1, 60, 1, 60)
theorem ccJ7_copyOf_9075b : Cc mJ7_copyOf_9075b 2 := ⟨gd (hcw1_0 _ (List.mem_of_getElem? (i := 15) rfl)) rfl, gd (hcw3_10 _ (List.mem_of_getElem? (i := 7) rfl)) rfl, by decide +kernel, by decide +kernel, by decide +kernel⟩
theorem stJ7_copyOf_9075b : Cond.static (yN mJ7_copyOf_9075b) ∈ lw_gd := gd (hcw3_10 _ (List.mem_of_getElem? (i := 6) rfl)) rfl
theorem fit_b {v : Int32} (h : v.toInt8.toInt32 = v) : fits .byte (.int v) = true := by
  rw [← h]
  exact pk_fb _
section
variable {Y : MD} {X : DX} {k n k1 n1 : Nat} {Z : Shp} {M : Mem} {pc q : Nat} {L : List (Nat × AV)} {st : List AV} {P : Option Res}
theorem r_icmp_neB {x y : Int32} {off : Int} {tgt : Nat} (hX : Cx Y X) (hd : decode (yC Y) pc = .ok (.if_icmp .ne off, 3)) (ht : (pc : Int) + off = (tgt : Int)) (hq : pc + 3 = q) (kt : x = y → Ref Y X k n Z M q L st P) (kf : ¬ x = y → Ref Y X k n Z M tgt L st P) : Ref Y X k n Z M pc L (vi y :: vi x :: st) P := by
  subst hq
  obtain ⟨p, l, e, s, m, args, below, meth, c, D, cA, B, Q⟩ := X
  obtain ⟨⟨hx, hb, hml, ho, hts⟩, ⟨hK, hKb⟩, hB, hlk, hrt, hnm⟩ := hX
  intro w hw H locs ls hR hS hl
  exact lv_icmp_ne hx hb hd ht (fun h => kf h w hw H locs ls hR hS hl) (fun h => kt h w hw H locs ls hR hS hl)
theorem nmB {s : State} {D : va_G} {cA : Nat → ClassId} (hK : va_K D vwCl (tysOf cA) s) : s.vm.findClass "[B" = some (cA 102) := by
  have h := (hK.2 2 _ rfl).2
  have h2 : s.vm.findClass ("[" ++ FieldType.byte.toString) = some (cA 102) := h
  rw [show ("[" ++ FieldType.byte.toString) = "[B" by decide +kernel] at h2
  exact h2
theorem r_clone {a idx nn : Nat} (hX : Cx Y X) (hlnk : Cond.methodLink (yN Y).cls idx ⟨"[B", "clone", "()Ljava/lang/Object;"⟩ ∈ lw_gd) (hz : tg Z a = (102, nn)) (hfit : ∀ j, j < nn → (rI M a j).toInt8.toInt32 = rI M a j) (hf : 1 ≤ yF Y) (hlo : (st.map ct).sum + 14 ≤ yO Y) (hk : k + 1 ≤ yK Y) (hn : n + nn ≤ yS Y) (hd : decode (yC Y) pc = .ok (.invokevirtual idx, 3)) (hq : pc + 3 = q)
    (kk : Ref Y X (k + 1) (n + nn) (Z ++ [(102, nn)]) (cpB (nw M (Z.length + 2)) a (Z.length + 2) nn) q L (vr (Z.length + 2) :: st) P) : Ref Y X k n Z M pc L (vr a :: st) P := by
  subst hq
  obtain ⟨p, l, e, s, m, args, below, meth, c, D, cA, B, Q⟩ := X
  obtain ⟨⟨hx, hb, hml, ho, hts⟩, ⟨hK, hKb⟩, hB, hlk, hrt, hnm⟩ := hX
  obtain ⟨j, rfl, hzj⟩ := tg_some hz (by omega)
  intro w hw H locs ls hR hS hl
  have hE := allW_arI (cA := cA) (B := B) (M := M) (by omega) (by omega) hzj
  have hjl : j < Z.length := (List.getElem?_eq_some_iff.mp hzj).1
  obtain ⟨c0, t0', f1, f2, f3⟩ := Cond.castable_spec (va_Nw.use (A := args) rfl (hKb _ (bd (hcw3_10 _ (List.mem_of_getElem? (i := 13) rfl)) rfl)))
  have hnm := nmB hK
  cases hnm.symm.trans f1
  intro T hT X
  have hcellT : T.heap[B.2 + j]? = some (vp_cell (cA 102) (nn, .inl (rI M (j + 2)))) := by rw [hT]; exact hR.2 j _ hE
  obtain ⟨-, kA, hkA, comp, hkind⟩ := State.isArrayOf_alike X.warmed.alike ((hK.2 2 _ rfl).1 0 (fun _ => .null))
  obtain ⟨-, kS, hkS, compS, hkindS⟩ := (hK.2 2 _ rfl).1 0 (fun _ => .null)
  have hsz : (vp_cell (cA 102) (nn, .inl (rI M (j + 2)))).slots.size = nn := arrV_size _ _ _
  obtain ⟨vm', X', stp⟩ := X.cloneArray hx ho (hts _ hlnk) (hts _ (gd (hcw3_10 _ (List.mem_of_getElem? (i := 9) rfl)) rfl)) (hts _ (gd (hcw3_10 _ (List.mem_of_getElem? (i := 10) rfl)) rfl)) (hts _ (gd (hcw3_10 _ (List.mem_of_getElem? (i := 11) rfl)) rfl)) (hts _ (gd (hcw3_10 _ (List.mem_of_getElem? (i := 12) rfl)) rfl)) (a := B.2 + j) (cell := vp_cell (cA 102) (nn, .inl (rI M (j + 2)))) hcellT (fun k h => by cases h) (fun h => by cases h) hnm f2 f3
    (fun i v hv => by
      have hk' : T.vm.classes[cA 102]? = some kA := hkA
      have hil : i < nn := by
        have := (Array.getElem?_eq_some_iff.mp hv).1
        rw [hsz] at this
        exact this
      have hv2 : (arrV (cA 102) nn (fun u => .int (rI M (j + 2) u))).slots[i]? = some v := hv
      rw [arrV_read _ _ hil] at hv2
      cases hv2
      have h7 := fit_b (hfit i hil)
      show State.fitsSlot T (cA 102) _ _ _ = true
      simpa [State.fitsSlot, State.slotType?, hk', hkind, vp_cell] using h7)
    (g := F0 m pc ls (.ref (B.2 + j) :: st.map (ev B))) rfl (by rw [hml]; exact hl.1) rfl (by rw [hb]; exact hd) hf (by rw [cat_sum]; show 2 * 0 + _ + 14 ≤ yO Y; omega) hk (by rw [hsz]; exact hn) (hloader := Vm.clonesLoader_of_array hkS hkindS)
  have hcellE : ({ cls := (vp_cell (cA 102) (nn, .inl (rI M (j + 2)))).cls, slots := (vp_cell (cA 102) (nn, .inl (rI M (j + 2)))).slots } : Cell) = vp_cell (cA 102) (nn, .inl (rI M (j + 2))) := rfl
  rw [hcellE, hsz] at X'
  generalize hH1 : H.push (vp_cell (cA 102) (nn, .inl (rI M (j + 2)))) = H1
  have z1 : H1.size = H.size + 1 := by rw [← hH1, Array.size_push]
  have e1 : H1[H.size]? = some (vp_cell (cA 102) (nn, .inl (rI M (j + 2)))) := by rw [← hH1, Array.getElem?_push_size]
  have o1 : ∀ q : Nat, q < H.size → H1[q]? = H[q]? := fun q hq => by rw [← hH1, Array.getElem?_push, if_neg (Nat.ne_of_lt hq)]
  rw [hR.1] at e1 z1 o1
  have hRel : Rel D cA B (Z ++ [(102, nn)]) (cpB (nw M (Z.length + 2)) (j + 2) (Z.length + 2) nn) H1 := by
    refine ⟨by rw [z1, List.length_append]; rfl, ?_⟩
    have hold : va_P D vwCl (allW cA B Z M) H1 := hR.2.kept (fun i x hx' => o1 x.1 (by rw [← hR.1]; exact (hR.2 i x hx').lt))
    intro i x hx'
    rw [allW_at] at hx'
    rcases Nat.lt_trichotomy i Z.length with h | h | h
    · rw [List.getElem?_append_left h] at hx'
      refine hold i x ?_
      rw [allW_at, ← hx']
      cases hz' : Z[i]? with
      | none => rfl
      | some u => simp only [Option.map_some]; rw [← ent_cpB (by omega), ent_nw (by omega)]
    · subst h
      rw [List.getElem?_append_right (Nat.le_refl _), Nat.sub_self] at hx'
      cases hx'
      show va_at D vwCl (B.2 + Z.length, ent cA B (cpB (nw M (Z.length + 2)) (j + 2) (Z.length + 2) nn) (Z.length + 2) 102 nn) H1
      rw [ent_arI (by omega) (by omega)]
      show H1[B.2 + Z.length]? = some (vp_cell _ _)
      rw [e1, vp_cell_i, vp_cell_i]
      refine congrArg some (arrV_cg (fun u hu => ?_))
      rw [rI_cpB, if_pos ⟨rfl, hu⟩, rI_nw, if_neg (by omega)]
    · rw [List.getElem?_append_right (by omega)] at hx'
      rw [show i - Z.length = (i - Z.length - 1) + 1 by omega] at hx'
      cases hx'
  have hSS : va_S (fun q => B.2 ≤ q) s.heap H1 locs := ⟨Nat.le_trans hS.1 (by rw [z1, hR.1]; omega), fun y h1 h2 => (o1 y (by rw [← hR.1]; exact Nat.lt_of_lt_of_le h1 hS.1)).trans (hS.2.1 y h1 h2), hS.2.2⟩
  obtain ⟨t, b1, b2⟩ := kk w hw H1 locs ls hRel hSS hl ((T.setVm vm').pushCell (vp_cell (cA 102) (nn, .inl (rI M (j + 2))))) (by rw [← hH1, ← hT]; rfl) X'
  refine ⟨t, stp t ?_, b2⟩
  rw [hcellE, hT, hR.1]
  exact b1
theorem r_castB {a idx nn : Nat} (hX : Cx Y X) (hlnk : Cond.classLink (yN Y).cls idx "[B" ∈ lw_gd) (hz : tg Z a = (102, nn)) (hd : decode (yC Y) pc = .ok (.checkcast idx, 3)) (hq : pc + 3 = q) (kk : Ref Y X k n Z M q L (vr a :: st) P) : Ref Y X k n Z M pc L (vr a :: st) P := by
  subst hq
  obtain ⟨p, l, e, s, m, args, below, meth, c, D, cA, B, Q⟩ := X
  obtain ⟨⟨hx, hb, hml, ho, hts⟩, ⟨hK, hKb⟩, hB, hlk, hrt, hnm⟩ := hX
  obtain ⟨j, rfl, hzj⟩ := tg_some hz (by omega)
  intro w hw H locs ls hR hS hl
  exact va_castA hx hb ho (hts _ hlnk) hR.2 j (allW_arI (cA := cA) (B := B) (M := M) (by omega) (by omega) hzj) (nmB hK) hd (kk w hw H locs ls hR hS hl)
theorem r_acopy {a b idx na nb : Nat} {i : Int32} (hX : Cx Y X) (hlnk : Cond.methodLink (yN Y).cls idx arraycopyName ∈ lw_gd) (hza : tg Z a = (102, na)) (hzb : tg Z b = (102, nb)) (hi : ¬ i < 0) (hla : ix i ≤ na) (hlb : ix i ≤ nb) (hfit : ∀ j, j < ix i → (rI M a j).toInt8.toInt32 = rI M a j) (hf : 1 ≤ yF Y) (hlo : (st.map ct).sum + (nativeFrameWords "java/lang/System" "arraycopy" 5 + 11) ≤ yO Y) (hd : decode (yC Y) pc = .ok (.invokestatic idx, 3)) (hq : pc + 3 = q)
    (kk : Ref Y X k n Z (cpB M a b (ix i)) q L st P) : Ref Y X k n Z M pc L (vi i :: vi 0 :: vr b :: vi 0 :: vr a :: st) P := by
  subst hq
  obtain ⟨p, l, e, s, m, args, below, meth, c, D, cA, B, Q⟩ := X
  obtain ⟨⟨hx, hb, hml, ho, hts⟩, ⟨hK, hKb⟩, hB, hlk, hrt, hnm⟩ := hX
  obtain ⟨j0, rfl, hz0⟩ := tg_some hza (by omega)
  obtain ⟨j1, rfl, hz1⟩ := tg_some hzb (by omega)
  intro w hw H locs ls hR hS hl
  have hE0 := allW_arI (cA := cA) (B := B) (M := M) (by omega) (by omega) hz0
  have hE1 := allW_arI (cA := cA) (B := B) (M := M) (by omega) (by omega) hz1
  have nn : ∀ z : Int32, ¬ z < 0 → z.toInt = (z.toNatClampNeg : Int) := by
    intro z hz
    have hz0 : (0 : Int) ≤ z.toInt := by
      have := Int32.not_lt.mp hz
      simpa using Int32.le_iff_toInt_le.mp this
    show z.toInt = ((z.toInt.toNat : Nat) : Int)
    omega
  have h00 : ¬ (0 : Int32) < 0 := by decide
  have hla' : i.toNatClampNeg ≤ na := hla
  have hlb' : i.toNatClampNeg ≤ nb := hlb
  have h0c : (0 : Int32).toNatClampNeg = 0 := by decide
  intro T hT X
  have hc0 : H[B.2 + j0]? = some (vp_cell (cA 102) (na, .inl (rI M (j0 + 2)))) := hR.2 j0 _ hE0
  have hc1 : H[B.2 + j1]? = some (vp_cell (cA 102) (nb, .inl (rI M (j1 + 2)))) := hR.2 j1 _ hE1
  obtain ⟨-, k0, hk0, cm0, hkk0⟩ := (hK.2 2 _ rfl).1 na (fun j => .int (rI M (j0 + 2) j))
  obtain ⟨vm', X', step⟩ := X.arraycopy hx ho (hts _ hlnk) (hts _ (gd (hcw3_10 _ (List.mem_of_getElem? (i := 18) rfl)) rfl)) (hts _ (gd (hcw3_10 _ (List.mem_of_getElem? (i := 17) rfl)) rfl)) (hts _ (gd (hcw1_0 _ (List.mem_of_getElem? (i := 16) rfl)) rfl)) (src := B.2 + j0) (dst := B.2 + j1) (cs := vp_cell (cA 102) (na, .inl (rI M (j0 + 2)))) (cd := vp_cell (cA 102) (nb, .inl (rI M (j1 + 2)))) (srcPos := 0) (destPos := 0) (n := i) (by rw [hT]; exact hc0) (by rw [hT]; exact hc1)
    (fun _ h => by cases h) (fun _ h => by cases h) (fun h => by cases h) (fun h => by cases h) hk0 hk0 hkk0 hkk0 (by simp [refKind]) h00 h00 hi
    (by rw [nn 0 h00, nn i hi]; show ¬ _ > ((arrV (cA 102) na (fun j => .int (rI M (j0 + 2) j))).slots.size : Int); rw [arrV_size, h0c]; omega)
    (by rw [nn 0 h00, nn i hi]; show ¬ _ > ((arrV (cA 102) nb (fun j => .int (rI M (j1 + 2) j))).slots.size : Int); rw [arrV_size, h0c]; omega)
    (fun vm₁ _ u hu => by
      have e : (vp_cell (cA 102) (na, .inl (rI M (j0 + 2)))).slots.getD ((0 : Int32).toNatClampNeg + u) .null = .int (rI M (j0 + 2) u) := by
        show (arrV (cA 102) na (fun j => .int (rI M (j0 + 2) j))).slots.getD _ _ = _
        rw [h0c, Nat.zero_add, Array.getD_eq_getD_getElem?, arrV_read _ _ (by omega)]
        rfl
      refine ⟨?_, ?_⟩
      · rw [e]
        exact fit_b (hfit u hu)
      · rw [e]
        exact trivial)
    (g := F0 m pc ls (.int i :: .int 0 :: .ref (B.2 + j1) :: .int 0 :: .ref (B.2 + j0) :: st.map (ev B))) rfl (by rw [hml]; exact hl.1) (rest := st.map (ev B)) rfl (by rw [hb]; exact hd) hf (by rw [cat_sum]; show 2 * 0 + _ + _ ≤ yO Y; omega)
  have e1 : copied (vp_cell (cA 102) (na, .inl (rI M (j0 + 2)))) (vp_cell (cA 102) (nb, .inl (rI M (j1 + 2)))) 0 0 i = vp_cell (cA 102) (nb, .inl (va_cpy (rI M (j0 + 2)) (rI M (j1 + 2)) (0 : Int32).toNatClampNeg (0 : Int32).toNatClampNeg i.toNatClampNeg)) := va_copied (fun z => .int z) (cA 102) (cA 102) (rI M (j0 + 2)) (rI M (j1 + 2)) (by rw [h0c]; omega)
  have e2 : va_cpy (rI M (j0 + 2)) (rI M (j1 + 2)) (0 : Int32).toNatClampNeg (0 : Int32).toNatClampNeg i.toNatClampNeg = rI (cpB M (j0 + 2) (j1 + 2) (ix i)) (j1 + 2) := by
    funext u
    rw [rI_cpB, h0c]
    unfold va_cpy
    by_cases hu : u < i.toNatClampNeg
    · rw [if_pos ⟨Nat.zero_le _, by omega⟩, if_pos ⟨rfl, hu⟩]
      congr 1
      omega
    · rw [if_neg (fun h => hu (by omega)), if_neg (fun h => hu h.2)]
  rw [e1, e2] at X' step
  have hl1 : B.2 + j1 < H.size := (Array.getElem?_eq_some_iff.mp hc1).1
  have hheap : ((T.setVm vm').setCell (B.2 + j1) (vp_cell (cA 102) (nb, .inl (rI (cpB M (j0 + 2) (j1 + 2) (ix i)) (j1 + 2))))).heap = H.setIfInBounds (B.2 + j1) (vp_cell (cA 102) (nb, .inl (rI (cpB M (j0 + 2) (j1 + 2) (ix i)) (j1 + 2)))) := by rw [← hT]; rfl
  have oq : ∀ q : Nat, q ≠ B.2 + j1 → (H.setIfInBounds (B.2 + j1) (vp_cell (cA 102) (nb, .inl (rI (cpB M (j0 + 2) (j1 + 2) (ix i)) (j1 + 2)))))[q]? = H[q]? := fun q hq => by simp [Array.getElem?_setIfInBounds, Ne.symm hq]
  have hRel : Rel D cA B Z (cpB M (j0 + 2) (j1 + 2) (ix i)) (H.setIfInBounds (B.2 + j1) (vp_cell (cA 102) (nb, .inl (rI (cpB M (j0 + 2) (j1 + 2) (ix i)) (j1 + 2))))) :=
    ast_rel hR hz1 hE1 (ent_arI (by omega) (by omega)).symm (fun _ _ _ h => ent_cpB h) (show (H.setIfInBounds _ _)[B.2 + j1]? = some _ by simp [Array.getElem?_setIfInBounds, hl1]) (by simp) oq
  obtain ⟨t, a1, b1⟩ := kk w hw _ _ ls hRel ⟨by simp; exact hS.1, fun q g1 g2 => by
      rw [oq q (fun e => g2 (by rw [e]; show B.2 ≤ B.2 + j1; omega))]
      exact hS.2.1 q g1 g2, fun q hq => by
      rcases List.mem_append.mp hq with h | h
      · exact hS.2.2 q h
      · obtain ⟨z, -, hz⟩ := List.mem_map.mp h
        rw [← hz]
        show B.2 ≤ B.2 + j1
        omega⟩ hl _ hheap X'
  exact ⟨t, step t a1, b1⟩
end
theorem mn_len {x : Int32} {n : Nat} (hn : n ≤ 60) (h0 : ¬ x < 0) (h : ix x ≤ n) : mnI (nI n) x = x := by
  unfold mnI
  by_cases h1 : x < nI n
  · rw [if_pos h1]
  · rw [if_neg h1]
    obtain ⟨j, hj, rfl⟩ := nI_of h0
    have h2 : j ≤ n := by
      have : ix (nI j) = j := nI_clamp hj
      rw [this] at h
      exact h
    have h3 : ¬ j < n := fun h4 => h1 ((nI_ltI hj (by omega)).mpr h4)
    have : j = n := by omega
    rw [this]
set_option maxRecDepth 20000 in
theorem kJ7_copyOf_9075b (l : Launch) (Z : Shp) (M : Mem) (a0 : Nat) (x1 : Int32) (r : Nat × Shp × Mem) (h : fJ7_copyOf_9075b Z M a0 x1 = some r) : Ct l mJ7_copyOf_9075b [vr a0, vi x1] Z M (some (vr r.1), r.2.1, r.2.2) := by
  unfold fJ7_copyOf_9075b at h
  split at h
  · rename_i hc
    obtain ⟨⟨⟨h1, h2⟩, h3⟩, h4, h5⟩ := hc
    cases h
    refine Ct.of (by decide +kernel) (Nat.le_of_ble_eq_true rfl) (fun X hM => ?_)
    have hX := hM.1
    obtain ⟨nn, hnn⟩ : ∃ nn, nn = (tg Z a0).2 := ⟨_, rfl⟩
    have hz : tg Z a0 = (102, nn) := by rw [hnn, ← h1]
    rw [← hnn] at h2 h3 h5
    have hj1 : ix x1 ≤ 60 := Nat.le_trans h5 h2
    refine r_iload_n (i := 1) (x := x1) (q := 1) 1 hX dJ7_copyOf_9075b_0 rfl rfl rfl ?_
    refine r_aload_n (i := 0) (x := a0) (q := 2) 0 hX dJ7_copyOf_9075b_1 rfl rfl rfl ?_
    refine r_alen (a := a0) (q := 3) hX arL_102 h1 dJ7_copyOf_9075b_2 rfl ?_
    rw [← hnn]
    refine r_icmp_neB (tgt := 14) (q := 6) hX dJ7_copyOf_9075b_3 (by decide) rfl (fun he => ?_) (fun he => ?_)
    · have hxx : ix x1 = nn := by rw [he]; exact nI_clamp (by omega)
      refine r_aload_n (i := 0) (x := a0) (q := 7) 0 hX dJ7_copyOf_9075b_6 rfl rfl rfl ?_
      refine r_clone (nn := nn) (q := 10) hX (gd (hcw3_10 _ (List.mem_of_getElem? (i := 8) rfl)) rfl) hz h3 (Nat.le_of_ble_eq_true rfl) (Nat.le_of_ble_eq_true rfl) (Nat.le_of_ble_eq_true rfl) (show 0 + nn ≤ 60 by omega) dJ7_copyOf_9075b_7 rfl ?_
      refine r_castB (q := 13) hX (gd (hcw3_10 _ (List.mem_of_getElem? (i := 14) rfl)) rfl) (tg_app_new _ _ _) dJ7_copyOf_9075b_10 rfl ?_
      rw [hxx]
      exact r_aret hM rfl (Or.inr ⟨_, rfl⟩) (Nat.le_of_ble_eq_true rfl) (show 0 + nn ≤ 60 by omega) dJ7_copyOf_9075b_13
    · refine r_iload_n (i := 1) (x := x1) (q := 15) 1 hX dJ7_copyOf_9075b_14 rfl rfl rfl ?_
      have key : ∀ (Z1 : Shp) (M1 : Mem), tg Z1 (Z.length + 2) = (102, ix x1) → Ext Z Z1 → (∀ j, j < nn → (rI M1 a0 j).toInt8.toInt32 = rI M1 a0 j) → Ref mJ7_copyOf_9075b X 1 60 Z1 M1 17 [(0, vr a0), (1, vi x1)] [vr (Z.length + 2)] (some (some (vr (Z.length + 2)), Z1, cpB M1 a0 (Z.length + 2) (ix x1))) := by
        intro Z1 M1 hz1 hE hfit
        have hza := hE _ _ _ (Nat.succ_pos _) hz
        refine r_astore_n (x := Z.length + 2) (q := 18) 2 [1, 2, 0] (L1 := [(0, vr a0), (1, vi x1), (2, vr (Z.length + 2))]) hX dJ7_copyOf_9075b_17 rfl (Nat.le_of_ble_eq_true rfl) rfl rfl ?_
        refine r_aload_n (i := 0) (x := a0) (q := 19) 0 hX dJ7_copyOf_9075b_18 rfl rfl rfl ?_
        refine r_iconst (v := 0) (q := 20) hX dJ7_copyOf_9075b_19 rfl rfl ?_
        refine r_aload_n (i := 2) (x := Z.length + 2) (q := 21) 2 hX dJ7_copyOf_9075b_20 rfl rfl rfl ?_
        refine r_iconst (v := 0) (q := 22) hX dJ7_copyOf_9075b_21 rfl rfl ?_
        refine r_aload_n (i := 0) (x := a0) (q := 23) 0 hX dJ7_copyOf_9075b_22 rfl rfl rfl ?_
        refine r_alen (a := a0) (q := 24) hX arL_102 (by rw [hza]) dJ7_copyOf_9075b_23 rfl ?_
        refine r_iload_n (i := 1) (x := x1) (q := 25) 1 hX dJ7_copyOf_9075b_24 rfl rfl rfl ?_
        refine r_mmin (q := 28) hX (gd (hcw3_10 _ (List.mem_of_getElem? (i := 15) rfl)) rfl) (Nat.le_of_ble_eq_true rfl) (Nat.le_of_ble_eq_true rfl) (Nat.le_of_ble_eq_true rfl) (Nat.le_of_ble_eq_true rfl) dJ7_copyOf_9075b_25 rfl ?_
        rw [hza, mn_len h2 h4 h5]
        refine r_acopy (na := nn) (nb := ix x1) (q := 31) hX (gd (hcw3_10 _ (List.mem_of_getElem? (i := 16) rfl)) rfl) hza hz1 h4 h5 (Nat.le_refl _) (fun j hj => hfit j (Nat.lt_of_lt_of_le hj h5)) (Nat.le_of_ble_eq_true rfl) (Nat.le_of_ble_eq_true rfl) dJ7_copyOf_9075b_28 rfl ?_
        refine r_aload_n (i := 2) (x := Z.length + 2) (q := 32) 2 hX dJ7_copyOf_9075b_31 rfl rfl rfl ?_
        exact r_aret hM rfl (Or.inr ⟨_, rfl⟩) (Nat.le_of_ble_eq_true rfl) (Nat.le_of_ble_eq_true rfl) dJ7_copyOf_9075b_32
      have hne : a0 ≠ Z.length + 2 := by
        obtain ⟨j, rfl, hzj⟩ := tg_some hz (by omega)
        have := (List.getElem?_eq_some_iff.mp hzj).1
        omega
      have hlast := key (Z ++ [(102, ix x1)]) (nw M (Z.length + 2)) (tg_app_new _ _ _) (fun a t m h1 h2 => tg_app_old h1 h2) (fun j hj => by rw [rI_nw, if_neg hne]; exact h3 j hj)
      exact r_newaX (cap := 60) hX arP_b ⟨h4, hj1⟩ rfl (Nat.le_of_ble_eq_true rfl) rfl (Nat.le_of_ble_eq_true rfl) (Nat.le_of_ble_eq_true rfl) dJ7_copyOf_9075b_15 rfl hlast
  · cases h
