/-! Math.max, min, abs -/
def mxI (x y : Int32) : Int32 := if x < y then y else x
def mnI (x y : Int32) : Int32 := if y < x then y else x
def abI (x : Int32) : Int32 := if 0 ≤ x then x else 0 - x
theorem mh_i : Cond.initialized "java/lang/Math" ∈ lw_gd := gd (hcw1_0 _ (List.mem_of_getElem? (i := 11) rfl)) rfl
theorem mh_smax : Cond.static Lib.Math.max.name ∈ lw_gd := gd (hcw2_4 _ (List.mem_of_getElem? (i := 9) rfl)) rfl
theorem mh_cmax : Cond.code Lib.Math.max.name Lib.Math.max.code 2 (some .int) ∈ lw_gd := gd (hcw2_4 _ (List.mem_of_getElem? (i := 10) rfl)) rfl
theorem mh_smin : Cond.static Lib.Math.min.name ∈ lw_gd := gd (hcw3_1 _ (List.mem_of_getElem? (i := 16) rfl)) rfl
theorem mh_cmin : Cond.code Lib.Math.min.name Lib.Math.min.code 2 (some .int) ∈ lw_gd := gd (hcw3_1 _ (List.mem_of_getElem? (i := 17) rfl)) rfl
theorem mh_sabs : Cond.static Lib.Math.abs.name ∈ lw_gd := gd (hcw2_9 _ (List.mem_of_getElem? (i := 19) rfl)) rfl
theorem mh_cabs : Cond.code Lib.Math.abs.name Lib.Math.abs.code 1 (some .int) ∈ lw_gd := gd (hcw2_10 _ (List.mem_of_getElem? (i := 0) rfl)) rfl
section
variable {Y : MD} {X : DX} {k n k1 n1 : Nat} {Z : Shp} {M : Mem} {pc q : Nat} {L : List (Nat × AV)} {st : List AV} {P : Option Res}
theorem r_mmax {x y : Int32} {idx : Nat} (hX : Cx Y X) (hlnk : Cond.methodLink (yN Y).cls idx Lib.Math.max.name ∈ lw_gd) (hf : 1 ≤ yF Y) (hlo : (st.map ct).sum + 13 ≤ yO Y) (hk : k ≤ yK Y) (hn : n ≤ yS Y) (hd : decode (yC Y) pc = .ok (.invokestatic idx, 3)) (hq : pc + 3 = q) (kk : Ref Y X k n Z M q L (vi (mxI x y) :: st) P) : Ref Y X k n Z M pc L (vi y :: vi x :: st) P := by
  subst hq
  obtain ⟨p, l, e, s, m, args, below, meth, c, D, cA, B, Q⟩ := X
  obtain ⟨⟨hx, hb, hml, ho, hts⟩, ⟨hK, hKb⟩, hB, hlk, hrt, hnm⟩ := hX
  intro w hw H locs ls hR hS hl
  exact va_mmax hx hb (hml.trans hl.1.symm) ho (hts _ hlnk) (hts _ mh_smax) (hts _ mh_i) (hts _ mh_cmax) hf (by rw [cat_sum]; exact hlo) hk hn hd (kk w hw H locs ls hR hS hl)
theorem r_mmin {x y : Int32} {idx : Nat} (hX : Cx Y X) (hlnk : Cond.methodLink (yN Y).cls idx Lib.Math.min.name ∈ lw_gd) (hf : 1 ≤ yF Y) (hlo : (st.map ct).sum + 13 ≤ yO Y) (hk : k ≤ yK Y) (hn : n ≤ yS Y) (hd : decode (yC Y) pc = .ok (.invokestatic idx, 3)) (hq : pc + 3 = q) (kk : Ref Y X k n Z M q L (vi (mnI x y) :: st) P) : Ref Y X k n Z M pc L (vi y :: vi x :: st) P := by
  subst hq
  obtain ⟨p, l, e, s, m, args, below, meth, c, D, cA, B, Q⟩ := X
  obtain ⟨⟨hx, hb, hml, ho, hts⟩, ⟨hK, hKb⟩, hB, hlk, hrt, hnm⟩ := hX
  intro w hw H locs ls hR hS hl
  exact va_mmin hx hb (hml.trans hl.1.symm) ho (hts _ hlnk) (hts _ mh_smin) (hts _ mh_i) (hts _ mh_cmin) hf (by rw [cat_sum]; exact hlo) hk hn hd (kk w hw H locs ls hR hS hl)
theorem r_mabs {x : Int32} {idx : Nat} (hX : Cx Y X) (hlnk : Cond.methodLink (yN Y).cls idx Lib.Math.abs.name ∈ lw_gd) (hf : 1 ≤ yF Y) (hlo : (st.map ct).sum + 13 ≤ yO Y) (hk : k ≤ yK Y) (hn : n ≤ yS Y) (hd : decode (yC Y) pc = .ok (.invokestatic idx, 3)) (hq : pc + 3 = q) (kk : Ref Y X k n Z M q L (vi (abI x) :: st) P) : Ref Y X k n Z M pc L (vi x :: st) P := by
  subst hq
  obtain ⟨p, l, e, s, m, args, below, meth, c, D, cA, B, Q⟩ := X
  obtain ⟨⟨hx, hb, hml, ho, hts⟩, ⟨hK, hKb⟩, hB, hlk, hrt, hnm⟩ := hX
  intro w hw H locs ls hR hS hl
  exact va_mabs hx hb (hml.trans hl.1.symm) ho (hts _ hlnk) (hts _ mh_sabs) (hts _ mh_i) (hts _ mh_cabs) hf (by rw [cat_sum]; exact hlo) hk hn hd (kk w hw H locs ls hR hS hl)
theorem r_icmp_geT {x y : Int32} {off : Int} {tgt : Nat} (hX : Cx Y X) (hd : decode (yC Y) pc = .ok (.if_icmp .ge off, 3)) (ht : (pc : Int) + off = (tgt : Int)) (h : y ≤ x) (kk : Ref Y X k n Z M tgt L st P) : Ref Y X k n Z M pc L (vi y :: vi x :: st) P := by
  obtain ⟨p, l, e, s, m, args, below, meth, c, D, cA, B, Q⟩ := X
  obtain ⟨⟨hx, hb, hml, ho, hts⟩, ⟨hK, hKb⟩, hB, hlk, hrt, hnm⟩ := hX
  intro w hw H locs ls hR hS hl
  exact lv_icmp_ge hx hb hd ht (fun _ => kk w hw H locs ls hR hS hl) (fun h1 => absurd h h1)
theorem r_icmp_geF {x y : Int32} {off : Int} {tgt : Nat} (hX : Cx Y X) (hd : decode (yC Y) pc = .ok (.if_icmp .ge off, 3)) (ht : (pc : Int) + off = (tgt : Int)) (hq : pc + 3 = q) (h : ¬ y ≤ x) (kk : Ref Y X k n Z M q L st P) : Ref Y X k n Z M pc L (vi y :: vi x :: st) P := by
  subst hq
  obtain ⟨p, l, e, s, m, args, below, meth, c, D, cA, B, Q⟩ := X
  obtain ⟨⟨hx, hb, hml, ho, hts⟩, ⟨hK, hKb⟩, hB, hlk, hrt, hnm⟩ := hX
  intro w hw H locs ls hR hS hl
  exact lv_icmp_ge hx hb hd ht (fun h1 => absurd h1 h) (fun _ => kk w hw H locs ls hR hS hl)
end
