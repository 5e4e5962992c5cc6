/-! THE CLAIM OUT OF ONE WALK OF THE LAW'S BODY. Your part is whole_start (and what it stands on); all else here is the same for every law, but numbers. -/
def R_law : String := "CanalCompanyLaw"
def lw_P (b : Addr) (xs : List Int32) (args : Array Value) (s : State) : Prop := args = #[.ref b] ∧ s.IntsAt b xs ∧ xs.length ≤ 3584 ∧ (Jvm.Cond.and given_1 narrow_1).before args s = true
def lw_Q (_ : Array Value) (s : State) (o : Outcome) (t : State) : Prop := o = .returned (some (.int 1)) ∧ Framed s o t [] 600000 7302250
def lw_Z (below : List Frame) (a : Array Value) (s : State) : State → Prop := fun t => ∃ o, t.status = .running ∧ Ended t below o ∧ lw_Q a s o t
/-- the law's own end, with 1 on the stack, nothing written that was there before, its room as the claim has it -/
theorem lw_ret {p : Program} {l : Launch} {e : Env} {s : State} {m : MethodId} {below : List Frame} {meth : Method} {c : Code} {b : Nat} (hx : p.tables.exec = Jvm.exec) (hb : c.code = code) (hr : meth.sig.returnType = ret) (hlocks : meth.locks = false) {pc : Nat} {H : Heap} {ls : Array Slot} (hdg : decode code pc = .ok (.ireturn, 1)) : W p l e room_1 s m #[Value.ref b] below meth c H [] 600000 7302250 (lw_Z below #[Value.ref b] s) (F0 m pc ls [.int 1]) := by
  intro T hT X
  obtain ⟨fs, hret, hrun, hended, hW, hframe⟩ := X.leave (v := some (.int 1)) (hlocks := hlocks) (fun h => by rw [hr] at h; cases h)
  have hmeth' : T.vm.method? m = some meth := X.method'
  refine ⟨T.setFrames fs, ?_, .returned (some (.int 1)), hrun, hended, rfl, ⟨_, rfl⟩, hW, hframe⟩
  jvm_step X.here [X.here.top, hx, hb, hdg, hmeth', hr, ret, narrow_b1]
  (try refine ⟨rfl, ?_⟩); (try refine ⟨rfl, ?_⟩)
  first | (intro acts; rw [hret _ acts rfl rfl rfl]) | rw [hret _ _ rfl rfl rfl]
  exact Steps.refl _
/-- what holds at the law's entry: the machine, the code, the tables' words (any of lw_tbl by 'hts w (by decide +kernel)'), the script of L ints xs at the cell b, what the Statement gives of the start (any of its parts by flat_of_before) -/
def lw_At (p : Program) (s : State) (m : MethodId) (meth : Method) (c : Code) (b L : Nat) (xs : Nat → Int32) : Prop :=
  p.tables.exec = Jvm.exec ∧ c.code = code ∧ meth.sig.returnType = ret ∧ c.maxLocals = 4 ∧ s.vm.findClass R_law = some m.cls ∧ (∀ w ∈ lw_tbl, w.before #[Value.ref b] s = true) ∧ va_X b L xs s s.heap ∧ b < s.heap.size ∧ meth.locks = false ∧ (Jvm.Cond.and given_1 narrow_1).before #[Value.ref b] s = true
/-! the law's own rows -/
def mL_law : MD := (x, code, 4, ret, 10, 368, 600000, 7302250)
def Scr (X : DX) (Lg : Nat) (xs : Nat → Int32) : Prop := match X with
  | (_, _, _, s, _, _, _, _, _, _, _, B, _) => va_X B.1 Lg xs s s.heap ∧ B.1 < s.heap.size ∧ ¬ B.2 ≤ B.1
def LawQ (X : DX) : Prop := match X with
  | (_, _, _, s, _, args, below, _, _, _, _, B, Q) => args = #[Value.ref B.1] ∧ B.2 = s.heap.size ∧ ∀ y, Q y = lw_Z below #[Value.ref B.1] s
theorem law_ix {i : Int32} {Lg : Nat} (hc : 0 ≤ i.toInt ∧ i.toInt < (Lg : Int)) : ix i < Lg := by
  show i.toInt.toNat < Lg
  omega
theorem law_step {i : Int32} {Lg : Nat} (hc : 0 ≤ i.toInt ∧ i.toInt < (Lg : Int)) (hL : Lg ≤ 3584) : ix (i + 7) = ix i + 7 := by
  show (i + 7).toInt.toNat = i.toInt.toNat + 7
  have h7 : (7 : Int32).toInt = 7 := by decide
  rw [Int32.toInt_add, h7, Int.bmod_def]
  omega
theorem law_nx {i : Int32} {Lg : Nat} (hc : 0 ≤ i.toInt ∧ i.toInt < (Lg : Int)) (hL : Lg ≤ 3584) : ix (i + 7) ≤ 3591 := by
  rw [law_step hc hL]
  have := law_ix hc
  omega
theorem law_wk {i : Int32} {Lg : Nat} (hc : 0 ≤ i.toInt ∧ i.toInt < (Lg : Int)) (hL : Lg ≤ 3584) (c0 c : Nat) (h : c ≤ 14) : c0 + 2 * ix i + c ≤ c0 + 2 * ix (i + 7) := by
  rw [law_step hc hL]
  omega
theorem law_wn {i : Int32} {Lg : Nat} (hc : 0 ≤ i.toInt ∧ i.toInt < (Lg : Int)) (hL : Lg ≤ 3584) (c0 c : Nat) (h : c ≤ 4900) : c0 + 700 * ix i + c ≤ c0 + 700 * ix (i + 7) := by
  rw [law_step hc hL]
  omega
theorem law_k {i : Int32} (hI : ix i ≤ 3591) (c0 c : Nat) (h : c0 + c ≤ 500000) : c0 + 2 * ix i + c ≤ 600000 := by omega
theorem law_n {i : Int32} (hI : ix i ≤ 3591) (c0 c : Nat) (h : c0 + c ≤ 4000000) : c0 + 700 * ix i + c ≤ 7302250 := by omega
section
variable {Y : MD} {X : DX} {k n k1 n1 : Nat} {Z : Shp} {M : Mem} {pc q : Nat} {L : List (Nat × AV)} {st : List AV} {P : Option Res} {Lg : Nat} {xs : Nat → Int32}
theorem r_sld {i : Int32} (hX : Cx Y X) (hSc : Scr X Lg xs) (hc : 0 ≤ i.toInt ∧ i.toInt < (Lg : Int)) (hd : decode (yC Y) pc = .ok (.iaload, 1)) (hq : pc + 1 = q) (kk : Ref Y X k n Z M q L (vi (xs (ix i)) :: st) P) : Ref Y X k n Z M pc L (vi i :: vr 1 :: st) P := by
  subst hq
  obtain ⟨p, l, e, s, m, args, below, meth, c, D, cA, B, Q⟩ := X
  obtain ⟨⟨hx, hb, hml, ho, hts⟩, ⟨hK, hKb⟩, hB, hlk, hrt, hnm⟩ := hX
  obtain ⟨h1, h2, h3⟩ := hSc
  intro w hw H locs ls hR hS hl
  exact va_sld hx hb h1 h2 h3 hS (vp_in_iff.mpr hc) hd (kk w hw H locs ls hR hS hl)
theorem r_slen (hX : Cx Y X) (hSc : Scr X Lg xs) (hd : decode (yC Y) pc = .ok (.arraylength, 1)) (hq : pc + 1 = q) (kk : Ref Y X k n Z M q L (vi (nI Lg) :: st) P) : Ref Y X k n Z M pc L (vr 1 :: st) P := by
  subst hq
  obtain ⟨p, l, e, s, m, args, below, meth, c, D, cA, B, Q⟩ := X
  obtain ⟨⟨hx, hb, hml, ho, hts⟩, ⟨hK, hKb⟩, hB, hlk, hrt, hnm⟩ := hX
  obtain ⟨h1, h2, h3⟩ := hSc
  intro w hw H locs ls hR hS hl
  exact va_slen hx hb h1 h2 h3 hS hd (kk w hw H locs ls hR hS hl)
theorem r_lawend {y : Res} (hX : Cx mL_law X) (hQ : LawQ X) (hk : k ≤ 600000) (hn : n ≤ 7302250) (hd : decode code pc = .ok (.ireturn, 1)) : Ref mL_law X k n Z M pc L [vi 1] (some y) := by
  obtain ⟨p, l, e, s, m, args, below, meth, c, D, cA, B, Q⟩ := X
  obtain ⟨⟨hx, hb, hml, ho, hts⟩, ⟨hK, hKb⟩, hB, hlk, hrt, hnm⟩ := hX
  obtain ⟨rfl, hB2, hQ⟩ := hQ
  intro w hw H locs ls hR hS hl
  rw [hQ]
  refine W.widen hk hn ?_
  refine va_forget (fun q hq => by rw [← hB2]; exact hS.2.2 q hq) ?_
  exact lw_ret hx hb hrt hlk hd
end
