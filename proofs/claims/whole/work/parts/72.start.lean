/-! the start: both constructors, worked out -/
abbrev Wq : Type := Nat × Nat × Nat × Int32 × Nat
abbrev wqn (a : Nat) : Wq := (0, a, 0, 0, 0)
abbrev wqi (a k : Nat) (v : Int32) : Wq := (1, a, k, v, 0)
abbrev wqr (a k v : Nat) : Wq := (2, a, k, 0, v)
def mk : List Wq → Mem
  | [] => (fun _ _ => 0, fun _ _ => 0, fun _ _ => 0)
  | w :: ws => if w.1 = 0 then nw (mk ws) w.2.1 else if w.1 = 1 then wI (mk ws) w.2.1 w.2.2.1 w.2.2.2.1 else wR (mk ws) w.2.1 w.2.2.1 w.2.2.2.2
theorem al {β : Type} {Z Z1 : Shp} {q : Nat × Nat} {ws ws1 : List Wq} {n : Nat} {f : Shp → Mem → β} (h : Z ++ [q] = Z1) (hw : wqn n :: ws = ws1) : pu2 (Z ++ [q]) (nw (mk ws) n) f = f Z1 (mk ws1) := by
  subst h hw
  rfl
theorem pr {β : Type} {ws ws1 : List Wq} {a k v : Nat} {f : Mem → β} (hw : wqr a k v :: ws = ws1) : pu (wR (mk ws) a k v) f = f (mk ws1) := by
  subst hw
  rfl
theorem pi {β : Type} {ws ws1 : List Wq} {a k : Nat} {v : Int32} {f : Mem → β} (hw : wqi a k v :: ws = ws1) : pu (wI (mk ws) a k v) f = f (mk ws1) := by
  subst hw
  rfl
def sw0 : List Wq := []
def sz0 : Shp := [] ++ [(12, 6)]
theorem zl0 : sz0.length + 2 = 3 := by decide +kernel
def sw1 : List Wq := wqn 2 :: sw0
def sz1 : Shp := sz0 ++ [(4, 11)]
theorem zq1 : sz0 ++ [(4, 11)] = sz1 := rfl
theorem zl1 : sz1.length + 2 = 4 := by decide +kernel
def sw2 : List Wq := wqn 3 :: sw1
def sz2 : Shp := sz1 ++ [(110, ix (8 : Int32))]
theorem zq2 : sz1 ++ [(110, ix (8 : Int32))] = sz2 := rfl
theorem zl2 : sz2.length + 2 = 5 := by decide +kernel
def sw3 : List Wq := wqn 4 :: sw2
def sw4 : List Wq := wqr 3 0 4 :: sw3
def sz3 : Shp := sz2 ++ [(111, ix (7 : Int32))]
theorem zq3 : sz2 ++ [(111, ix (7 : Int32))] = sz3 := rfl
theorem zl3 : sz3.length + 2 = 6 := by decide +kernel
def sw5 : List Wq := wqn 5 :: sw4
def sw6 : List Wq := wqr 3 1 5 :: sw5
def sz4 : Shp := sz3 ++ [(112, ix (12 : Int32))]
theorem zq4 : sz3 ++ [(112, ix (12 : Int32))] = sz4 := rfl
theorem zl4 : sz4.length + 2 = 7 := by decide +kernel
def sw7 : List Wq := wqn 6 :: sw6
def sw8 : List Wq := wqr 3 2 6 :: sw7
def sz5 : Shp := sz4 ++ [(112, ix (12 : Int32))]
theorem zq5 : sz4 ++ [(112, ix (12 : Int32))] = sz5 := rfl
theorem zl5 : sz5.length + 2 = 8 := by decide +kernel
def sw9 : List Wq := wqn 7 :: sw8
def sw10 : List Wq := wqr 3 3 7 :: sw9
def sz6 : Shp := sz5 ++ [(113, ix (12 : Int32))]
theorem zq6 : sz5 ++ [(113, ix (12 : Int32))] = sz6 := rfl
theorem zl6 : sz6.length + 2 = 9 := by decide +kernel
def sw11 : List Wq := wqn 8 :: sw10
def sw12 : List Wq := wqr 3 4 8 :: sw11
def sw13 : List Wq := wqi 3 7 (3 : Int32) :: sw12
def sz7 : Shp := sz6 ++ [(7, 3)]
theorem zq7 : sz6 ++ [(7, 3)] = sz7 := rfl
theorem zl7 : sz7.length + 2 = 10 := by decide +kernel
def sw14 : List Wq := wqn 9 :: sw13
def sw15 : List Wq := wqi 9 0 (1000 : Int32) :: sw14
def sw16 : List Wq := wqi 9 1 (1000 : Int32) :: sw15
def sw17 : List Wq := wqi 9 2 (500 : Int32) :: sw16
theorem ei1 : fX6_init sz7 (mk sw14) 9 = some (mk sw17) := by
  unfold fX6_init
  rw [if_pos (show tg sz7 9 = (7, 3) by decide +kernel), pi (show wqi 9 0 (1000 : Int32) :: sw14 = sw15 from rfl), pi (show wqi 9 1 (1000 : Int32) :: sw15 = sw16 from rfl), pi (show wqi 9 2 (500 : Int32) :: sw16 = sw17 from rfl)]
def sw18 : List Wq := wqr 4 (ix (0 : Int32)) 9 :: sw17
def sz8 : Shp := sz7 ++ [(7, 3)]
theorem zq8 : sz7 ++ [(7, 3)] = sz8 := rfl
theorem zl8 : sz8.length + 2 = 11 := by decide +kernel
def sw19 : List Wq := wqn 10 :: sw18
def sw20 : List Wq := wqi 10 0 (1000 : Int32) :: sw19
def sw21 : List Wq := wqi 10 1 (1000 : Int32) :: sw20
def sw22 : List Wq := wqi 10 2 (500 : Int32) :: sw21
theorem ei2 : fX6_init sz8 (mk sw19) 10 = some (mk sw22) := by
  unfold fX6_init
  rw [if_pos (show tg sz8 10 = (7, 3) by decide +kernel), pi (show wqi 10 0 (1000 : Int32) :: sw19 = sw20 from rfl), pi (show wqi 10 1 (1000 : Int32) :: sw20 = sw21 from rfl), pi (show wqi 10 2 (500 : Int32) :: sw21 = sw22 from rfl)]
def sw23 : List Wq := wqr 4 (ix (1 : Int32)) 10 :: sw22
def sz9 : Shp := sz8 ++ [(7, 3)]
theorem zq9 : sz8 ++ [(7, 3)] = sz9 := rfl
theorem zl9 : sz9.length + 2 = 12 := by decide +kernel
def sw24 : List Wq := wqn 11 :: sw23
def sw25 : List Wq := wqi 11 0 (1000 : Int32) :: sw24
def sw26 : List Wq := wqi 11 1 (1000 : Int32) :: sw25
def sw27 : List Wq := wqi 11 2 (500 : Int32) :: sw26
theorem ei3 : fX6_init sz9 (mk sw24) 11 = some (mk sw27) := by
  unfold fX6_init
  rw [if_pos (show tg sz9 11 = (7, 3) by decide +kernel), pi (show wqi 11 0 (1000 : Int32) :: sw24 = sw25 from rfl), pi (show wqi 11 1 (1000 : Int32) :: sw25 = sw26 from rfl), pi (show wqi 11 2 (500 : Int32) :: sw26 = sw27 from rfl)]
def sw28 : List Wq := wqr 4 (ix (2 : Int32)) 11 :: sw27
def sz10 : Shp := sz9 ++ [(7, 3)]
theorem zq10 : sz9 ++ [(7, 3)] = sz10 := rfl
theorem zl10 : sz10.length + 2 = 13 := by decide +kernel
def sw29 : List Wq := wqn 12 :: sw28
def sw30 : List Wq := wqi 12 0 (1000 : Int32) :: sw29
def sw31 : List Wq := wqi 12 1 (1000 : Int32) :: sw30
def sw32 : List Wq := wqi 12 2 (500 : Int32) :: sw31
theorem ei4 : fX6_init sz10 (mk sw29) 12 = some (mk sw32) := by
  unfold fX6_init
  rw [if_pos (show tg sz10 12 = (7, 3) by decide +kernel), pi (show wqi 12 0 (1000 : Int32) :: sw29 = sw30 from rfl), pi (show wqi 12 1 (1000 : Int32) :: sw30 = sw31 from rfl), pi (show wqi 12 2 (500 : Int32) :: sw31 = sw32 from rfl)]
def sw33 : List Wq := wqr 4 (ix (3 : Int32)) 12 :: sw32
def sz11 : Shp := sz10 ++ [(7, 3)]
theorem zq11 : sz10 ++ [(7, 3)] = sz11 := rfl
theorem zl11 : sz11.length + 2 = 14 := by decide +kernel
def sw34 : List Wq := wqn 13 :: sw33
def sw35 : List Wq := wqi 13 0 (1000 : Int32) :: sw34
def sw36 : List Wq := wqi 13 1 (1000 : Int32) :: sw35
def sw37 : List Wq := wqi 13 2 (500 : Int32) :: sw36
theorem ei5 : fX6_init sz11 (mk sw34) 13 = some (mk sw37) := by
  unfold fX6_init
  rw [if_pos (show tg sz11 13 = (7, 3) by decide +kernel), pi (show wqi 13 0 (1000 : Int32) :: sw34 = sw35 from rfl), pi (show wqi 13 1 (1000 : Int32) :: sw35 = sw36 from rfl), pi (show wqi 13 2 (500 : Int32) :: sw36 = sw37 from rfl)]
def sw38 : List Wq := wqr 4 (ix (4 : Int32)) 13 :: sw37
def sz12 : Shp := sz11 ++ [(7, 3)]
theorem zq12 : sz11 ++ [(7, 3)] = sz12 := rfl
theorem zl12 : sz12.length + 2 = 15 := by decide +kernel
def sw39 : List Wq := wqn 14 :: sw38
def sw40 : List Wq := wqi 14 0 (1000 : Int32) :: sw39
def sw41 : List Wq := wqi 14 1 (1000 : Int32) :: sw40
def sw42 : List Wq := wqi 14 2 (500 : Int32) :: sw41
theorem ei6 : fX6_init sz12 (mk sw39) 14 = some (mk sw42) := by
  unfold fX6_init
  rw [if_pos (show tg sz12 14 = (7, 3) by decide +kernel), pi (show wqi 14 0 (1000 : Int32) :: sw39 = sw40 from rfl), pi (show wqi 14 1 (1000 : Int32) :: sw40 = sw41 from rfl), pi (show wqi 14 2 (500 : Int32) :: sw41 = sw42 from rfl)]
def sw43 : List Wq := wqr 4 (ix (5 : Int32)) 14 :: sw42
def sz13 : Shp := sz12 ++ [(7, 3)]
theorem zq13 : sz12 ++ [(7, 3)] = sz13 := rfl
theorem zl13 : sz13.length + 2 = 16 := by decide +kernel
def sw44 : List Wq := wqn 15 :: sw43
def sw45 : List Wq := wqi 15 0 (1000 : Int32) :: sw44
def sw46 : List Wq := wqi 15 1 (1000 : Int32) :: sw45
def sw47 : List Wq := wqi 15 2 (500 : Int32) :: sw46
theorem ei7 : fX6_init sz13 (mk sw44) 15 = some (mk sw47) := by
  unfold fX6_init
  rw [if_pos (show tg sz13 15 = (7, 3) by decide +kernel), pi (show wqi 15 0 (1000 : Int32) :: sw44 = sw45 from rfl), pi (show wqi 15 1 (1000 : Int32) :: sw45 = sw46 from rfl), pi (show wqi 15 2 (500 : Int32) :: sw46 = sw47 from rfl)]
def sw48 : List Wq := wqr 4 (ix (6 : Int32)) 15 :: sw47
def sz14 : Shp := sz13 ++ [(7, 3)]
theorem zq14 : sz13 ++ [(7, 3)] = sz14 := rfl
theorem zl14 : sz14.length + 2 = 17 := by decide +kernel
def sw49 : List Wq := wqn 16 :: sw48
def sw50 : List Wq := wqi 16 0 (1000 : Int32) :: sw49
def sw51 : List Wq := wqi 16 1 (1000 : Int32) :: sw50
def sw52 : List Wq := wqi 16 2 (500 : Int32) :: sw51
theorem ei8 : fX6_init sz14 (mk sw49) 16 = some (mk sw52) := by
  unfold fX6_init
  rw [if_pos (show tg sz14 16 = (7, 3) by decide +kernel), pi (show wqi 16 0 (1000 : Int32) :: sw49 = sw50 from rfl), pi (show wqi 16 1 (1000 : Int32) :: sw50 = sw51 from rfl), pi (show wqi 16 2 (500 : Int32) :: sw51 = sw52 from rfl)]
def sw53 : List Wq := wqr 4 (ix (7 : Int32)) 16 :: sw52
def sz15 : Shp := sz14 ++ [(5, 7)]
theorem zq15 : sz14 ++ [(5, 7)] = sz15 := rfl
theorem zl15 : sz15.length + 2 = 18 := by decide +kernel
def sw54 : List Wq := wqn 17 :: sw53
def sw55 : List Wq := wqi 17 0 (100 : Int32) :: sw54
theorem ei9 : fX4_init sz15 (mk sw54) 17 = some (mk sw55) := by
  unfold fX4_init
  rw [if_pos (show tg sz15 17 = (5, 7) by decide +kernel), pi (show wqi 17 0 (100 : Int32) :: sw54 = sw55 from rfl)]
def sw56 : List Wq := wqr 5 (ix (0 : Int32)) 17 :: sw55
def sz16 : Shp := sz15 ++ [(5, 7)]
theorem zq16 : sz15 ++ [(5, 7)] = sz16 := rfl
theorem zl16 : sz16.length + 2 = 19 := by decide +kernel
def sw57 : List Wq := wqn 18 :: sw56
def sw58 : List Wq := wqi 18 0 (100 : Int32) :: sw57
theorem ei10 : fX4_init sz16 (mk sw57) 18 = some (mk sw58) := by
  unfold fX4_init
  rw [if_pos (show tg sz16 18 = (5, 7) by decide +kernel), pi (show wqi 18 0 (100 : Int32) :: sw57 = sw58 from rfl)]
def sw59 : List Wq := wqr 5 (ix (1 : Int32)) 18 :: sw58
def sz17 : Shp := sz16 ++ [(5, 7)]
theorem zq17 : sz16 ++ [(5, 7)] = sz17 := rfl
theorem zl17 : sz17.length + 2 = 20 := by decide +kernel
def sw60 : List Wq := wqn 19 :: sw59
def sw61 : List Wq := wqi 19 0 (100 : Int32) :: sw60
theorem ei11 : fX4_init sz17 (mk sw60) 19 = some (mk sw61) := by
  unfold fX4_init
  rw [if_pos (show tg sz17 19 = (5, 7) by decide +kernel), pi (show wqi 19 0 (100 : Int32) :: sw60 = sw61 from rfl)]
def sw62 : List Wq := wqr 5 (ix (2 : Int32)) 19 :: sw61
def sz18 : Shp := sz17 ++ [(5, 7)]
theorem zq18 : sz17 ++ [(5, 7)] = sz18 := rfl
theorem zl18 : sz18.length + 2 = 21 := by decide +kernel
def sw63 : List Wq := wqn 20 :: sw62
def sw64 : List Wq := wqi 20 0 (100 : Int32) :: sw63
theorem ei12 : fX4_init sz18 (mk sw63) 20 = some (mk sw64) := by
  unfold fX4_init
  rw [if_pos (show tg sz18 20 = (5, 7) by decide +kernel), pi (show wqi 20 0 (100 : Int32) :: sw63 = sw64 from rfl)]
def sw65 : List Wq := wqr 5 (ix (3 : Int32)) 20 :: sw64
def sz19 : Shp := sz18 ++ [(5, 7)]
theorem zq19 : sz18 ++ [(5, 7)] = sz19 := rfl
theorem zl19 : sz19.length + 2 = 22 := by decide +kernel
def sw66 : List Wq := wqn 21 :: sw65
def sw67 : List Wq := wqi 21 0 (100 : Int32) :: sw66
theorem ei13 : fX4_init sz19 (mk sw66) 21 = some (mk sw67) := by
  unfold fX4_init
  rw [if_pos (show tg sz19 21 = (5, 7) by decide +kernel), pi (show wqi 21 0 (100 : Int32) :: sw66 = sw67 from rfl)]
def sw68 : List Wq := wqr 5 (ix (4 : Int32)) 21 :: sw67
def sz20 : Shp := sz19 ++ [(5, 7)]
theorem zq20 : sz19 ++ [(5, 7)] = sz20 := rfl
theorem zl20 : sz20.length + 2 = 23 := by decide +kernel
def sw69 : List Wq := wqn 22 :: sw68
def sw70 : List Wq := wqi 22 0 (100 : Int32) :: sw69
theorem ei14 : fX4_init sz20 (mk sw69) 22 = some (mk sw70) := by
  unfold fX4_init
  rw [if_pos (show tg sz20 22 = (5, 7) by decide +kernel), pi (show wqi 22 0 (100 : Int32) :: sw69 = sw70 from rfl)]
def sw71 : List Wq := wqr 5 (ix (5 : Int32)) 22 :: sw70
def sz21 : Shp := sz20 ++ [(5, 7)]
theorem zq21 : sz20 ++ [(5, 7)] = sz21 := rfl
theorem zl21 : sz21.length + 2 = 24 := by decide +kernel
def sw72 : List Wq := wqn 23 :: sw71
def sw73 : List Wq := wqi 23 0 (100 : Int32) :: sw72
theorem ei15 : fX4_init sz21 (mk sw72) 23 = some (mk sw73) := by
  unfold fX4_init
  rw [if_pos (show tg sz21 23 = (5, 7) by decide +kernel), pi (show wqi 23 0 (100 : Int32) :: sw72 = sw73 from rfl)]
def sw74 : List Wq := wqr 5 (ix (6 : Int32)) 23 :: sw73
theorem ei16 : fX3_init sz1 (mk sw2) 3 = some (sz21, mk sw74) := by
  unfold fX3_init
  rw [if_pos (show tg sz1 3 = (4, 11) by decide +kernel), zl1, al zq2 (show wqn 4 :: sw2 = sw3 from rfl), pr (show wqr 3 0 4 :: sw3 = sw4 from rfl), zl2, al zq3 (show wqn 5 :: sw4 = sw5 from rfl), pr (show wqr 3 1 5 :: sw5 = sw6 from rfl), zl3, al zq4 (show wqn 6 :: sw6 = sw7 from rfl), pr (show wqr 3 2 6 :: sw7 = sw8 from rfl), zl4, al zq5 (show wqn 7 :: sw8 = sw9 from rfl), pr (show wqr 3 3 7 :: sw9 = sw10 from rfl), zl5, al zq6 (show wqn 8 :: sw10 = sw11 from rfl), pr (show wqr 3 4 8 :: sw11 = sw12 from rfl), pi (show wqi 3 7 (3 : Int32) :: sw12 = sw13 from rfl), zl6, al zq7 (show wqn 9 :: sw13 = sw14 from rfl), ei1, Option.bind_some, show rR (mk sw13) 3 0 = 4 by decide +kernel, if_pos (show aok sz7 4 110 (0 : Int32) by decide +kernel), pr (show wqr 4 (ix (0 : Int32)) 9 :: sw17 = sw18 from rfl), zl7, al zq8 (show wqn 10 :: sw18 = sw19 from rfl), ei2, Option.bind_some, show rR (mk sw18) 3 0 = 4 by decide +kernel, if_pos (show aok sz8 4 110 (1 : Int32) by decide +kernel), pr (show wqr 4 (ix (1 : Int32)) 10 :: sw22 = sw23 from rfl), zl8, al zq9 (show wqn 11 :: sw23 = sw24 from rfl), ei3, Option.bind_some, show rR (mk sw23) 3 0 = 4 by decide +kernel, if_pos (show aok sz9 4 110 (2 : Int32) by decide +kernel), pr (show wqr 4 (ix (2 : Int32)) 11 :: sw27 = sw28 from rfl), zl9, al zq10 (show wqn 12 :: sw28 = sw29 from rfl), ei4, Option.bind_some, show rR (mk sw28) 3 0 = 4 by decide +kernel, if_pos (show aok sz10 4 110 (3 : Int32) by decide +kernel), pr (show wqr 4 (ix (3 : Int32)) 12 :: sw32 = sw33 from rfl), zl10, al zq11 (show wqn 13 :: sw33 = sw34 from rfl), ei5, Option.bind_some, show rR (mk sw33) 3 0 = 4 by decide +kernel, if_pos (show aok sz11 4 110 (4 : Int32) by decide +kernel), pr (show wqr 4 (ix (4 : Int32)) 13 :: sw37 = sw38 from rfl), zl11, al zq12 (show wqn 14 :: sw38 = sw39 from rfl), ei6, Option.bind_some, show rR (mk sw38) 3 0 = 4 by decide +kernel, if_pos (show aok sz12 4 110 (5 : Int32) by decide +kernel), pr (show wqr 4 (ix (5 : Int32)) 14 :: sw42 = sw43 from rfl), zl12, al zq13 (show wqn 15 :: sw43 = sw44 from rfl), ei7, Option.bind_some, show rR (mk sw43) 3 0 = 4 by decide +kernel, if_pos (show aok sz13 4 110 (6 : Int32) by decide +kernel), pr (show wqr 4 (ix (6 : Int32)) 15 :: sw47 = sw48 from rfl), zl13, al zq14 (show wqn 16 :: sw48 = sw49 from rfl), ei8, Option.bind_some, show rR (mk sw48) 3 0 = 4 by decide +kernel, if_pos (show aok sz14 4 110 (7 : Int32) by decide +kernel), pr (show wqr 4 (ix (7 : Int32)) 16 :: sw52 = sw53 from rfl), zl14, al zq15 (show wqn 17 :: sw53 = sw54 from rfl), ei9, Option.bind_some, show rR (mk sw53) 3 1 = 5 by decide +kernel, if_pos (show aok sz15 5 111 (0 : Int32) by decide +kernel), pr (show wqr 5 (ix (0 : Int32)) 17 :: sw55 = sw56 from rfl), zl15, al zq16 (show wqn 18 :: sw56 = sw57 from rfl), ei10, Option.bind_some, show rR (mk sw56) 3 1 = 5 by decide +kernel, if_pos (show aok sz16 5 111 (1 : Int32) by decide +kernel), pr (show wqr 5 (ix (1 : Int32)) 18 :: sw58 = sw59 from rfl), zl16, al zq17 (show wqn 19 :: sw59 = sw60 from rfl), ei11, Option.bind_some, show rR (mk sw59) 3 1 = 5 by decide +kernel, if_pos (show aok sz17 5 111 (2 : Int32) by decide +kernel), pr (show wqr 5 (ix (2 : Int32)) 19 :: sw61 = sw62 from rfl), zl17, al zq18 (show wqn 20 :: sw62 = sw63 from rfl), ei12, Option.bind_some, show rR (mk sw62) 3 1 = 5 by decide +kernel, if_pos (show aok sz18 5 111 (3 : Int32) by decide +kernel), pr (show wqr 5 (ix (3 : Int32)) 20 :: sw64 = sw65 from rfl), zl18, al zq19 (show wqn 21 :: sw65 = sw66 from rfl), ei13, Option.bind_some, show rR (mk sw65) 3 1 = 5 by decide +kernel, if_pos (show aok sz19 5 111 (4 : Int32) by decide +kernel), pr (show wqr 5 (ix (4 : Int32)) 21 :: sw67 = sw68 from rfl), zl19, al zq20 (show wqn 22 :: sw68 = sw69 from rfl), ei14, Option.bind_some, show rR (mk sw68) 3 1 = 5 by decide +kernel, if_pos (show aok sz20 5 111 (5 : Int32) by decide +kernel), pr (show wqr 5 (ix (5 : Int32)) 22 :: sw70 = sw71 from rfl), zl20, al zq21 (show wqn 23 :: sw71 = sw72 from rfl), ei15, Option.bind_some, show rR (mk sw71) 3 1 = 5 by decide +kernel, if_pos (show aok sz21 5 111 (6 : Int32) by decide +kernel), pr (show wqr 5 (ix (6 : Int32)) 23 :: sw73 = sw74 from rfl)]
def sw75 : List Wq := wqr 2 0 3 :: sw74
def sz22 : Shp := sz21 ++ [(3, 4)]
theorem zq22 : sz21 ++ [(3, 4)] = sz22 := rfl
theorem zl22 : sz22.length + 2 = 25 := by decide +kernel
def sw76 : List Wq := wqn 24 :: sw75
def sz23 : Shp := sz22 ++ [(102, ix (60 : Int32))]
theorem zq23 : sz22 ++ [(102, ix (60 : Int32))] = sz23 := rfl
theorem zl23 : sz23.length + 2 = 26 := by decide +kernel
def sw77 : List Wq := wqn 25 :: sw76
def sw78 : List Wq := wqr 24 0 25 :: sw77
def sz24 : Shp := sz23 ++ [(114, ix (16 : Int32))]
theorem zq24 : sz23 ++ [(114, ix (16 : Int32))] = sz24 := rfl
theorem zl24 : sz24.length + 2 = 27 := by decide +kernel
def sw79 : List Wq := wqn 26 :: sw78
def sw80 : List Wq := wqr 24 2 26 :: sw79
theorem ei17 : fX2_init sz22 (mk sw76) 24 = some (sz24, mk sw80) := by
  unfold fX2_init
  rw [if_pos (show tg sz22 24 = (3, 4) by decide +kernel), zl22, al zq23 (show wqn 25 :: sw76 = sw77 from rfl), pr (show wqr 24 0 25 :: sw77 = sw78 from rfl), zl23, al zq24 (show wqn 26 :: sw78 = sw79 from rfl), pr (show wqr 24 2 26 :: sw79 = sw80 from rfl)]
def sw81 : List Wq := wqr 2 1 24 :: sw80
def sz25 : Shp := sz24 ++ [(10, 10)]
theorem zq25 : sz24 ++ [(10, 10)] = sz25 := rfl
theorem zl25 : sz25.length + 2 = 28 := by decide +kernel
def sw82 : List Wq := wqn 27 :: sw81
def sz26 : Shp := sz25 ++ [(101, ix (8 : Int32))]
theorem zq26 : sz25 ++ [(101, ix (8 : Int32))] = sz26 := rfl
theorem zl26 : sz26.length + 2 = 29 := by decide +kernel
def sw83 : List Wq := wqn 28 :: sw82
def sw84 : List Wq := wqr 27 0 28 :: sw83
def sz27 : Shp := sz26 ++ [(100, ix (8 : Int32))]
theorem zq27 : sz26 ++ [(100, ix (8 : Int32))] = sz27 := rfl
theorem zl27 : sz27.length + 2 = 30 := by decide +kernel
def sw85 : List Wq := wqn 29 :: sw84
def sw86 : List Wq := wqr 27 1 29 :: sw85
def sz28 : Shp := sz27 ++ [(100, ix (8 : Int32))]
theorem zq28 : sz27 ++ [(100, ix (8 : Int32))] = sz28 := rfl
theorem zl28 : sz28.length + 2 = 31 := by decide +kernel
def sw87 : List Wq := wqn 30 :: sw86
def sw88 : List Wq := wqr 27 2 30 :: sw87
def sz29 : Shp := sz28 ++ [(100, ix (8 : Int32))]
theorem zq29 : sz28 ++ [(100, ix (8 : Int32))] = sz29 := rfl
theorem zl29 : sz29.length + 2 = 32 := by decide +kernel
def sw89 : List Wq := wqn 31 :: sw88
def sw90 : List Wq := wqr 27 8 31 :: sw89
theorem ei18 : fX9_init sz25 (mk sw82) 27 = some (sz29, mk sw90) := by
  unfold fX9_init
  rw [if_pos (show tg sz25 27 = (10, 10) by decide +kernel), zl25, al zq26 (show wqn 28 :: sw82 = sw83 from rfl), pr (show wqr 27 0 28 :: sw83 = sw84 from rfl), zl26, al zq27 (show wqn 29 :: sw84 = sw85 from rfl), pr (show wqr 27 1 29 :: sw85 = sw86 from rfl), zl27, al zq28 (show wqn 30 :: sw86 = sw87 from rfl), pr (show wqr 27 2 30 :: sw87 = sw88 from rfl), zl28, al zq29 (show wqn 31 :: sw88 = sw89 from rfl), pr (show wqr 27 8 31 :: sw89 = sw90 from rfl)]
def sw91 : List Wq := wqr 2 2 27 :: sw90
def sz30 : Shp := sz29 ++ [(1, 9)]
theorem zq30 : sz29 ++ [(1, 9)] = sz30 := rfl
theorem zl30 : sz30.length + 2 = 33 := by decide +kernel
def sw92 : List Wq := wqn 32 :: sw91
def sz31 : Shp := sz30 ++ [(100, ix (10 : Int32))]
theorem zq31 : sz30 ++ [(100, ix (10 : Int32))] = sz31 := rfl
theorem zl31 : sz31.length + 2 = 34 := by decide +kernel
def sw93 : List Wq := wqn 33 :: sw92
def sw94 : List Wq := wqr 32 0 33 :: sw93
def sz32 : Shp := sz31 ++ [(100, ix (10 : Int32))]
theorem zq32 : sz31 ++ [(100, ix (10 : Int32))] = sz32 := rfl
theorem zl32 : sz32.length + 2 = 35 := by decide +kernel
def sw95 : List Wq := wqn 34 :: sw94
def sw96 : List Wq := wqr 32 1 34 :: sw95
def sz33 : Shp := sz32 ++ [(101, ix (8 : Int32))]
theorem zq33 : sz32 ++ [(101, ix (8 : Int32))] = sz33 := rfl
theorem zl33 : sz33.length + 2 = 36 := by decide +kernel
def sw97 : List Wq := wqn 35 :: sw96
def sw98 : List Wq := wqr 32 3 35 :: sw97
def sz34 : Shp := sz33 ++ [(100, ix (8 : Int32))]
theorem zq34 : sz33 ++ [(100, ix (8 : Int32))] = sz34 := rfl
theorem zl34 : sz34.length + 2 = 37 := by decide +kernel
def sw99 : List Wq := wqn 36 :: sw98
def sw100 : List Wq := wqr 32 4 36 :: sw99
def sz35 : Shp := sz34 ++ [(100, ix (8 : Int32))]
theorem zq35 : sz34 ++ [(100, ix (8 : Int32))] = sz35 := rfl
theorem zl35 : sz35.length + 2 = 38 := by decide +kernel
def sw101 : List Wq := wqn 37 :: sw100
def sw102 : List Wq := wqr 32 5 37 :: sw101
def sz36 : Shp := sz35 ++ [(100, ix (8 : Int32))]
theorem zq36 : sz35 ++ [(100, ix (8 : Int32))] = sz36 := rfl
theorem zl36 : sz36.length + 2 = 39 := by decide +kernel
def sw103 : List Wq := wqn 38 :: sw102
def sw104 : List Wq := wqr 32 6 38 :: sw103
theorem ei19 : fX0_init sz30 (mk sw92) 32 = some (sz36, mk sw104) := by
  unfold fX0_init
  rw [if_pos (show tg sz30 32 = (1, 9) by decide +kernel), zl30, al zq31 (show wqn 33 :: sw92 = sw93 from rfl), pr (show wqr 32 0 33 :: sw93 = sw94 from rfl), zl31, al zq32 (show wqn 34 :: sw94 = sw95 from rfl), pr (show wqr 32 1 34 :: sw95 = sw96 from rfl), zl32, al zq33 (show wqn 35 :: sw96 = sw97 from rfl), pr (show wqr 32 3 35 :: sw97 = sw98 from rfl), zl33, al zq34 (show wqn 36 :: sw98 = sw99 from rfl), pr (show wqr 32 4 36 :: sw99 = sw100 from rfl), zl34, al zq35 (show wqn 37 :: sw100 = sw101 from rfl), pr (show wqr 32 5 37 :: sw101 = sw102 from rfl), zl35, al zq36 (show wqn 38 :: sw102 = sw103 from rfl), pr (show wqr 32 6 38 :: sw103 = sw104 from rfl)]
def sw105 : List Wq := wqr 2 3 32 :: sw104
def sz37 : Shp := sz36 ++ [(6, 9)]
theorem zq37 : sz36 ++ [(6, 9)] = sz37 := rfl
theorem zl37 : sz37.length + 2 = 40 := by decide +kernel
def sw106 : List Wq := wqn 39 :: sw105
def sz38 : Shp := sz37 ++ [(100, ix (4 : Int32))]
theorem zq38 : sz37 ++ [(100, ix (4 : Int32))] = sz38 := rfl
theorem zl38 : sz38.length + 2 = 41 := by decide +kernel
def sw107 : List Wq := wqn 40 :: sw106
def sw108 : List Wq := wqr 39 0 40 :: sw107
def sz39 : Shp := sz38 ++ [(100, ix (12 : Int32))]
theorem zq39 : sz38 ++ [(100, ix (12 : Int32))] = sz39 := rfl
theorem zl39 : sz39.length + 2 = 42 := by decide +kernel
def sw109 : List Wq := wqn 41 :: sw108
def sw110 : List Wq := wqr 39 1 41 :: sw109
def sz40 : Shp := sz39 ++ [(100, ix (6 : Int32))]
theorem zq40 : sz39 ++ [(100, ix (6 : Int32))] = sz40 := rfl
theorem zl40 : sz40.length + 2 = 43 := by decide +kernel
def sw111 : List Wq := wqn 42 :: sw110
def sw112 : List Wq := wqr 39 2 42 :: sw111
def sz41 : Shp := sz40 ++ [(100, ix (24 : Int32))]
theorem zq41 : sz40 ++ [(100, ix (24 : Int32))] = sz41 := rfl
theorem zl41 : sz41.length + 2 = 44 := by decide +kernel
def sw113 : List Wq := wqn 43 :: sw112
def sw114 : List Wq := wqr 39 3 43 :: sw113
def sz42 : Shp := sz41 ++ [(100, ix (24 : Int32))]
theorem zq42 : sz41 ++ [(100, ix (24 : Int32))] = sz42 := rfl
theorem zl42 : sz42.length + 2 = 45 := by decide +kernel
def sw115 : List Wq := wqn 44 :: sw114
def sw116 : List Wq := wqr 39 4 44 :: sw115
def sz43 : Shp := sz42 ++ [(100, ix (24 : Int32))]
theorem zq43 : sz42 ++ [(100, ix (24 : Int32))] = sz43 := rfl
theorem zl43 : sz43.length + 2 = 46 := by decide +kernel
def sw117 : List Wq := wqn 45 :: sw116
def sw118 : List Wq := wqr 39 5 45 :: sw117
def sz44 : Shp := sz43 ++ [(100, ix (24 : Int32))]
theorem zq44 : sz43 ++ [(100, ix (24 : Int32))] = sz44 := rfl
theorem zl44 : sz44.length + 2 = 47 := by decide +kernel
def sw119 : List Wq := wqn 46 :: sw118
def sw120 : List Wq := wqr 39 6 46 :: sw119
def sw121 : List Wq := wqi 39 8 (9 : Int32) :: sw120
theorem ei20 : fX5_init sz37 (mk sw106) 39 = some (sz44, mk sw121) := by
  unfold fX5_init
  rw [if_pos (show tg sz37 39 = (6, 9) by decide +kernel), zl37, al zq38 (show wqn 40 :: sw106 = sw107 from rfl), pr (show wqr 39 0 40 :: sw107 = sw108 from rfl), zl38, al zq39 (show wqn 41 :: sw108 = sw109 from rfl), pr (show wqr 39 1 41 :: sw109 = sw110 from rfl), zl39, al zq40 (show wqn 42 :: sw110 = sw111 from rfl), pr (show wqr 39 2 42 :: sw111 = sw112 from rfl), zl40, al zq41 (show wqn 43 :: sw112 = sw113 from rfl), pr (show wqr 39 3 43 :: sw113 = sw114 from rfl), zl41, al zq42 (show wqn 44 :: sw114 = sw115 from rfl), pr (show wqr 39 4 44 :: sw115 = sw116 from rfl), zl42, al zq43 (show wqn 45 :: sw116 = sw117 from rfl), pr (show wqr 39 5 45 :: sw117 = sw118 from rfl), zl43, al zq44 (show wqn 46 :: sw118 = sw119 from rfl), pr (show wqr 39 6 46 :: sw119 = sw120 from rfl), pi (show wqi 39 8 (9 : Int32) :: sw120 = sw121 from rfl)]
def sw122 : List Wq := wqr 2 4 39 :: sw121
def sz45 : Shp := sz44 ++ [(11, 4)]
theorem zq45 : sz44 ++ [(11, 4)] = sz45 := rfl
theorem zl45 : sz45.length + 2 = 48 := by decide +kernel
def sw123 : List Wq := wqn 47 :: sw122
def sz46 : Shp := sz45 ++ [(100, ix (8 : Int32))]
theorem zq46 : sz45 ++ [(100, ix (8 : Int32))] = sz46 := rfl
theorem zl46 : sz46.length + 2 = 49 := by decide +kernel
def sw124 : List Wq := wqn 48 :: sw123
def sw125 : List Wq := wqr 47 0 48 :: sw124
def sz47 : Shp := sz46 ++ [(100, ix (8 : Int32))]
theorem zq47 : sz46 ++ [(100, ix (8 : Int32))] = sz47 := rfl
theorem zl47 : sz47.length + 2 = 50 := by decide +kernel
def sw126 : List Wq := wqn 49 :: sw125
def sw127 : List Wq := wqr 47 1 49 :: sw126
def sz48 : Shp := sz47 ++ [(100, ix (8 : Int32))]
theorem zq48 : sz47 ++ [(100, ix (8 : Int32))] = sz48 := rfl
theorem zl48 : sz48.length + 2 = 51 := by decide +kernel
def sw128 : List Wq := wqn 50 :: sw127
def sw129 : List Wq := wqr 47 2 50 :: sw128
theorem ei21 : fX10_init sz45 (mk sw123) 47 = some (sz48, mk sw129) := by
  unfold fX10_init
  rw [if_pos (show tg sz45 47 = (11, 4) by decide +kernel), zl45, al zq46 (show wqn 48 :: sw123 = sw124 from rfl), pr (show wqr 47 0 48 :: sw124 = sw125 from rfl), zl46, al zq47 (show wqn 49 :: sw125 = sw126 from rfl), pr (show wqr 47 1 49 :: sw126 = sw127 from rfl), zl47, al zq48 (show wqn 50 :: sw127 = sw128 from rfl), pr (show wqr 47 2 50 :: sw128 = sw129 from rfl)]
def sw130 : List Wq := wqr 2 5 47 :: sw129
theorem ei22 : fX11_init sz0 (mk sw1) 2 = some (sz48, mk sw130) := by
  unfold fX11_init
  rw [if_pos (show tg sz0 2 = (12, 6) by decide +kernel), zl0, al zq1 (show wqn 3 :: sw1 = sw2 from rfl), ei16, Option.bind_some]
  dsimp only
  rw [if_pos (show tg sz21 2 = (12, 6) by decide +kernel), pr (show wqr 2 0 3 :: sw74 = sw75 from rfl), zl21, al zq22 (show wqn 24 :: sw75 = sw76 from rfl), ei17, Option.bind_some]
  dsimp only
  rw [if_pos (show tg sz24 2 = (12, 6) by decide +kernel), pr (show wqr 2 1 24 :: sw80 = sw81 from rfl), zl24, al zq25 (show wqn 27 :: sw81 = sw82 from rfl), ei18, Option.bind_some]
  dsimp only
  rw [if_pos (show tg sz29 2 = (12, 6) by decide +kernel), pr (show wqr 2 2 27 :: sw90 = sw91 from rfl), zl29, al zq30 (show wqn 32 :: sw91 = sw92 from rfl), ei19, Option.bind_some]
  dsimp only
  rw [if_pos (show tg sz36 2 = (12, 6) by decide +kernel), pr (show wqr 2 3 32 :: sw104 = sw105 from rfl), zl36, al zq37 (show wqn 39 :: sw105 = sw106 from rfl), ei20, Option.bind_some]
  dsimp only
  rw [if_pos (show tg sz44 2 = (12, 6) by decide +kernel), pr (show wqr 2 4 39 :: sw121 = sw122 from rfl), zl44, al zq45 (show wqn 47 :: sw122 = sw123 from rfl), ei21, Option.bind_some]
  dsimp only
  rw [if_pos (show tg sz48 2 = (12, 6) by decide +kernel), pr (show wqr 2 5 47 :: sw129 = sw130 from rfl)]
def sz49 : Shp := sz48 ++ [(13, 86)]
theorem zq49 : sz48 ++ [(13, 86)] = sz49 := rfl
theorem zl49 : sz49.length + 2 = 52 := by decide +kernel
def sw131 : List Wq := wqn 51 :: sw130
def sz50 : Shp := sz49 ++ [(100, ix (8 : Int32))]
theorem zq50 : sz49 ++ [(100, ix (8 : Int32))] = sz50 := rfl
theorem zl50 : sz50.length + 2 = 53 := by decide +kernel
def sw132 : List Wq := wqn 52 :: sw131
def sw133 : List Wq := wqr 51 0 52 :: sw132
def sz51 : Shp := sz50 ++ [(100, ix (8 : Int32))]
theorem zq51 : sz50 ++ [(100, ix (8 : Int32))] = sz51 := rfl
theorem zl51 : sz51.length + 2 = 54 := by decide +kernel
def sw134 : List Wq := wqn 53 :: sw133
def sw135 : List Wq := wqr 51 1 53 :: sw134
def sz52 : Shp := sz51 ++ [(100, ix (8 : Int32))]
theorem zq52 : sz51 ++ [(100, ix (8 : Int32))] = sz52 := rfl
theorem zl52 : sz52.length + 2 = 55 := by decide +kernel
def sw136 : List Wq := wqn 54 :: sw135
def sw137 : List Wq := wqr 51 2 54 :: sw136
def sz53 : Shp := sz52 ++ [(100, ix (7 : Int32))]
theorem zq53 : sz52 ++ [(100, ix (7 : Int32))] = sz53 := rfl
theorem zl53 : sz53.length + 2 = 56 := by decide +kernel
def sw138 : List Wq := wqn 55 :: sw137
def sw139 : List Wq := wqr 51 4 55 :: sw138
def sz54 : Shp := sz53 ++ [(101, ix (7 : Int32))]
theorem zq54 : sz53 ++ [(101, ix (7 : Int32))] = sz54 := rfl
theorem zl54 : sz54.length + 2 = 57 := by decide +kernel
def sw140 : List Wq := wqn 56 :: sw139
def sw141 : List Wq := wqr 51 5 56 :: sw140
def sz55 : Shp := sz54 ++ [(100, ix (7 : Int32))]
theorem zq55 : sz54 ++ [(100, ix (7 : Int32))] = sz55 := rfl
theorem zl55 : sz55.length + 2 = 58 := by decide +kernel
def sw142 : List Wq := wqn 57 :: sw141
def sw143 : List Wq := wqr 51 6 57 :: sw142
def sz56 : Shp := sz55 ++ [(101, ix (7 : Int32))]
theorem zq56 : sz55 ++ [(101, ix (7 : Int32))] = sz56 := rfl
theorem zl56 : sz56.length + 2 = 59 := by decide +kernel
def sw144 : List Wq := wqn 58 :: sw143
def sw145 : List Wq := wqr 51 7 58 :: sw144
def sz57 : Shp := sz56 ++ [(100, ix (7 : Int32))]
theorem zq57 : sz56 ++ [(100, ix (7 : Int32))] = sz57 := rfl
theorem zl57 : sz57.length + 2 = 60 := by decide +kernel
def sw146 : List Wq := wqn 59 :: sw145
def sw147 : List Wq := wqr 51 8 59 :: sw146
def sz58 : Shp := sz57 ++ [(100, ix (7 : Int32))]
theorem zq58 : sz57 ++ [(100, ix (7 : Int32))] = sz58 := rfl
theorem zl58 : sz58.length + 2 = 61 := by decide +kernel
def sw148 : List Wq := wqn 60 :: sw147
def sw149 : List Wq := wqr 51 9 60 :: sw148
def sz59 : Shp := sz58 ++ [(100, ix (7 : Int32))]
theorem zq59 : sz58 ++ [(100, ix (7 : Int32))] = sz59 := rfl
theorem zl59 : sz59.length + 2 = 62 := by decide +kernel
def sw150 : List Wq := wqn 61 :: sw149
def sw151 : List Wq := wqr 51 10 61 :: sw150
def sz60 : Shp := sz59 ++ [(100, ix (12 : Int32))]
theorem zq60 : sz59 ++ [(100, ix (12 : Int32))] = sz60 := rfl
theorem zl60 : sz60.length + 2 = 63 := by decide +kernel
def sw152 : List Wq := wqn 62 :: sw151
def sw153 : List Wq := wqr 51 16 62 :: sw152
def sz61 : Shp := sz60 ++ [(100, ix (12 : Int32))]
theorem zq61 : sz60 ++ [(100, ix (12 : Int32))] = sz61 := rfl
theorem zl61 : sz61.length + 2 = 64 := by decide +kernel
def sw154 : List Wq := wqn 63 :: sw153
def sw155 : List Wq := wqr 51 17 63 :: sw154
def sz62 : Shp := sz61 ++ [(100, ix (12 : Int32))]
theorem zq62 : sz61 ++ [(100, ix (12 : Int32))] = sz62 := rfl
theorem zl62 : sz62.length + 2 = 65 := by decide +kernel
def sw156 : List Wq := wqn 64 :: sw155
def sw157 : List Wq := wqr 51 18 64 :: sw156
def sz63 : Shp := sz62 ++ [(100, ix (12 : Int32))]
theorem zq63 : sz62 ++ [(100, ix (12 : Int32))] = sz63 := rfl
theorem zl63 : sz63.length + 2 = 66 := by decide +kernel
def sw158 : List Wq := wqn 65 :: sw157
def sw159 : List Wq := wqr 51 19 65 :: sw158
def sz64 : Shp := sz63 ++ [(100, ix (12 : Int32))]
theorem zq64 : sz63 ++ [(100, ix (12 : Int32))] = sz64 := rfl
theorem zl64 : sz64.length + 2 = 67 := by decide +kernel
def sw160 : List Wq := wqn 66 :: sw159
def sw161 : List Wq := wqr 51 20 66 :: sw160
def sz65 : Shp := sz64 ++ [(100, ix (12 : Int32))]
theorem zq65 : sz64 ++ [(100, ix (12 : Int32))] = sz65 := rfl
theorem zl65 : sz65.length + 2 = 68 := by decide +kernel
def sw162 : List Wq := wqn 67 :: sw161
def sw163 : List Wq := wqr 51 22 67 :: sw162
def sz66 : Shp := sz65 ++ [(100, ix (12 : Int32))]
theorem zq66 : sz65 ++ [(100, ix (12 : Int32))] = sz66 := rfl
theorem zl66 : sz66.length + 2 = 69 := by decide +kernel
def sw164 : List Wq := wqn 68 :: sw163
def sw165 : List Wq := wqr 51 23 68 :: sw164
def sz67 : Shp := sz66 ++ [(100, ix (12 : Int32))]
theorem zq67 : sz66 ++ [(100, ix (12 : Int32))] = sz67 := rfl
theorem zl67 : sz67.length + 2 = 70 := by decide +kernel
def sw166 : List Wq := wqn 69 :: sw165
def sw167 : List Wq := wqr 51 24 69 :: sw166
def sz68 : Shp := sz67 ++ [(100, ix (12 : Int32))]
theorem zq68 : sz67 ++ [(100, ix (12 : Int32))] = sz68 := rfl
theorem zl68 : sz68.length + 2 = 71 := by decide +kernel
def sw168 : List Wq := wqn 70 :: sw167
def sw169 : List Wq := wqr 51 25 70 :: sw168
def sz69 : Shp := sz68 ++ [(100, ix (12 : Int32))]
theorem zq69 : sz68 ++ [(100, ix (12 : Int32))] = sz69 := rfl
theorem zl69 : sz69.length + 2 = 72 := by decide +kernel
def sw170 : List Wq := wqn 71 :: sw169
def sw171 : List Wq := wqr 51 26 71 :: sw170
def sz70 : Shp := sz69 ++ [(100, ix (12 : Int32))]
theorem zq70 : sz69 ++ [(100, ix (12 : Int32))] = sz70 := rfl
theorem zl70 : sz70.length + 2 = 73 := by decide +kernel
def sw172 : List Wq := wqn 72 :: sw171
def sw173 : List Wq := wqr 51 27 72 :: sw172
def sz71 : Shp := sz70 ++ [(100, ix (12 : Int32))]
theorem zq71 : sz70 ++ [(100, ix (12 : Int32))] = sz71 := rfl
theorem zl71 : sz71.length + 2 = 74 := by decide +kernel
def sw174 : List Wq := wqn 73 :: sw173
def sw175 : List Wq := wqr 51 28 73 :: sw174
def sz72 : Shp := sz71 ++ [(100, ix (12 : Int32))]
theorem zq72 : sz71 ++ [(100, ix (12 : Int32))] = sz72 := rfl
theorem zl72 : sz72.length + 2 = 75 := by decide +kernel
def sw176 : List Wq := wqn 74 :: sw175
def sw177 : List Wq := wqr 51 29 74 :: sw176
def sz73 : Shp := sz72 ++ [(100, ix (12 : Int32))]
theorem zq73 : sz72 ++ [(100, ix (12 : Int32))] = sz73 := rfl
theorem zl73 : sz73.length + 2 = 76 := by decide +kernel
def sw178 : List Wq := wqn 75 :: sw177
def sw179 : List Wq := wqr 51 30 75 :: sw178
def sz74 : Shp := sz73 ++ [(101, ix (12 : Int32))]
theorem zq74 : sz73 ++ [(101, ix (12 : Int32))] = sz74 := rfl
theorem zl74 : sz74.length + 2 = 77 := by decide +kernel
def sw180 : List Wq := wqn 76 :: sw179
def sw181 : List Wq := wqr 51 31 76 :: sw180
def sz75 : Shp := sz74 ++ [(101, ix (12 : Int32))]
theorem zq75 : sz74 ++ [(101, ix (12 : Int32))] = sz75 := rfl
theorem zl75 : sz75.length + 2 = 78 := by decide +kernel
def sw182 : List Wq := wqn 77 :: sw181
def sw183 : List Wq := wqr 51 32 77 :: sw182
def sz76 : Shp := sz75 ++ [(100, ix (60 : Int32))]
theorem zq76 : sz75 ++ [(100, ix (60 : Int32))] = sz76 := rfl
theorem zl76 : sz76.length + 2 = 79 := by decide +kernel
def sw184 : List Wq := wqn 78 :: sw183
def sw185 : List Wq := wqr 51 33 78 :: sw184
def sz77 : Shp := sz76 ++ [(100, ix (16 : Int32))]
theorem zq77 : sz76 ++ [(100, ix (16 : Int32))] = sz77 := rfl
theorem zl77 : sz77.length + 2 = 80 := by decide +kernel
def sw186 : List Wq := wqn 79 :: sw185
def sw187 : List Wq := wqr 51 36 79 :: sw186
def sz78 : Shp := sz77 ++ [(100, ix (16 : Int32))]
theorem zq78 : sz77 ++ [(100, ix (16 : Int32))] = sz78 := rfl
theorem zl78 : sz78.length + 2 = 81 := by decide +kernel
def sw188 : List Wq := wqn 80 :: sw187
def sw189 : List Wq := wqr 51 37 80 :: sw188
def sz79 : Shp := sz78 ++ [(100, ix (16 : Int32))]
theorem zq79 : sz78 ++ [(100, ix (16 : Int32))] = sz79 := rfl
theorem zl79 : sz79.length + 2 = 82 := by decide +kernel
def sw190 : List Wq := wqn 81 :: sw189
def sw191 : List Wq := wqr 51 38 81 :: sw190
def sz80 : Shp := sz79 ++ [(100, ix (16 : Int32))]
theorem zq80 : sz79 ++ [(100, ix (16 : Int32))] = sz80 := rfl
theorem zl80 : sz80.length + 2 = 83 := by decide +kernel
def sw192 : List Wq := wqn 82 :: sw191
def sw193 : List Wq := wqr 51 39 82 :: sw192
def sz81 : Shp := sz80 ++ [(100, ix (16 : Int32))]
theorem zq81 : sz80 ++ [(100, ix (16 : Int32))] = sz81 := rfl
theorem zl81 : sz81.length + 2 = 84 := by decide +kernel
def sw194 : List Wq := wqn 83 :: sw193
def sw195 : List Wq := wqr 51 40 83 :: sw194
def sz82 : Shp := sz81 ++ [(100, ix (960 : Int32))]
theorem zq82 : sz81 ++ [(100, ix (960 : Int32))] = sz82 := rfl
theorem zl82 : sz82.length + 2 = 85 := by decide +kernel
def sw196 : List Wq := wqn 84 :: sw195
def sw197 : List Wq := wqr 51 41 84 :: sw196
def sz83 : Shp := sz82 ++ [(100, ix (960 : Int32))]
theorem zq83 : sz82 ++ [(100, ix (960 : Int32))] = sz83 := rfl
theorem zl83 : sz83.length + 2 = 86 := by decide +kernel
def sw198 : List Wq := wqn 85 :: sw197
def sw199 : List Wq := wqr 51 42 85 :: sw198
def sz84 : Shp := sz83 ++ [(100, ix (60 : Int32))]
theorem zq84 : sz83 ++ [(100, ix (60 : Int32))] = sz84 := rfl
theorem zl84 : sz84.length + 2 = 87 := by decide +kernel
def sw200 : List Wq := wqn 86 :: sw199
def sw201 : List Wq := wqr 51 51 86 :: sw200
def sz85 : Shp := sz84 ++ [(100, ix (60 : Int32))]
theorem zq85 : sz84 ++ [(100, ix (60 : Int32))] = sz85 := rfl
theorem zl85 : sz85.length + 2 = 88 := by decide +kernel
def sw202 : List Wq := wqn 87 :: sw201
def sw203 : List Wq := wqr 51 52 87 :: sw202
def sz86 : Shp := sz85 ++ [(100, ix (60 : Int32))]
theorem zq86 : sz85 ++ [(100, ix (60 : Int32))] = sz86 := rfl
theorem zl86 : sz86.length + 2 = 89 := by decide +kernel
def sw204 : List Wq := wqn 88 :: sw203
def sw205 : List Wq := wqr 51 54 88 :: sw204
def sz87 : Shp := sz86 ++ [(101, ix (61 : Int32))]
theorem zq87 : sz86 ++ [(101, ix (61 : Int32))] = sz87 := rfl
theorem zl87 : sz87.length + 2 = 90 := by decide +kernel
def sw206 : List Wq := wqn 89 :: sw205
def sw207 : List Wq := wqr 51 56 89 :: sw206
def sz88 : Shp := sz87 ++ [(101, ix (8 : Int32))]
theorem zq88 : sz87 ++ [(101, ix (8 : Int32))] = sz88 := rfl
theorem zl88 : sz88.length + 2 = 91 := by decide +kernel
def sw208 : List Wq := wqn 90 :: sw207
def sw209 : List Wq := wqr 51 58 90 :: sw208
def sz89 : Shp := sz88 ++ [(100, ix (8 : Int32))]
theorem zq89 : sz88 ++ [(100, ix (8 : Int32))] = sz89 := rfl
theorem zl89 : sz89.length + 2 = 92 := by decide +kernel
def sw210 : List Wq := wqn 91 :: sw209
def sw211 : List Wq := wqr 51 59 91 :: sw210
def sz90 : Shp := sz89 ++ [(100, ix (8 : Int32))]
theorem zq90 : sz89 ++ [(100, ix (8 : Int32))] = sz90 := rfl
theorem zl90 : sz90.length + 2 = 93 := by decide +kernel
def sw212 : List Wq := wqn 92 :: sw211
def sw213 : List Wq := wqr 51 60 92 :: sw212
def sz91 : Shp := sz90 ++ [(100, ix (8 : Int32))]
theorem zq91 : sz90 ++ [(100, ix (8 : Int32))] = sz91 := rfl
theorem zl91 : sz91.length + 2 = 94 := by decide +kernel
def sw214 : List Wq := wqn 93 :: sw213
def sw215 : List Wq := wqr 51 62 93 :: sw214
def sz92 : Shp := sz91 ++ [(100, ix (8 : Int32))]
theorem zq92 : sz91 ++ [(100, ix (8 : Int32))] = sz92 := rfl
theorem zl92 : sz92.length + 2 = 95 := by decide +kernel
def sw216 : List Wq := wqn 94 :: sw215
def sw217 : List Wq := wqr 51 63 94 :: sw216
def sz93 : Shp := sz92 ++ [(100, ix (10 : Int32))]
theorem zq93 : sz92 ++ [(100, ix (10 : Int32))] = sz93 := rfl
theorem zl93 : sz93.length + 2 = 96 := by decide +kernel
def sw218 : List Wq := wqn 95 :: sw217
def sw219 : List Wq := wqr 51 67 95 :: sw218
def sz94 : Shp := sz93 ++ [(100, ix (10 : Int32))]
theorem zq94 : sz93 ++ [(100, ix (10 : Int32))] = sz94 := rfl
theorem zl94 : sz94.length + 2 = 97 := by decide +kernel
def sw220 : List Wq := wqn 96 :: sw219
def sw221 : List Wq := wqr 51 68 96 :: sw220
def sz95 : Shp := sz94 ++ [(100, ix (8 : Int32))]
theorem zq95 : sz94 ++ [(100, ix (8 : Int32))] = sz95 := rfl
theorem zl95 : sz95.length + 2 = 98 := by decide +kernel
def sw222 : List Wq := wqn 97 :: sw221
def sw223 : List Wq := wqr 51 69 97 :: sw222
def sz96 : Shp := sz95 ++ [(100, ix (8 : Int32))]
theorem zq96 : sz95 ++ [(100, ix (8 : Int32))] = sz96 := rfl
theorem zl96 : sz96.length + 2 = 99 := by decide +kernel
def sw224 : List Wq := wqn 98 :: sw223
def sw225 : List Wq := wqr 51 70 98 :: sw224
def sz97 : Shp := sz96 ++ [(100, ix (4 : Int32))]
theorem zq97 : sz96 ++ [(100, ix (4 : Int32))] = sz97 := rfl
theorem zl97 : sz97.length + 2 = 100 := by decide +kernel
def sw226 : List Wq := wqn 99 :: sw225
def sw227 : List Wq := wqr 51 71 99 :: sw226
def sz98 : Shp := sz97 ++ [(101, ix (12 : Int32))]
theorem zq98 : sz97 ++ [(101, ix (12 : Int32))] = sz98 := rfl
theorem zl98 : sz98.length + 2 = 101 := by decide +kernel
def sw228 : List Wq := wqn 100 :: sw227
def sw229 : List Wq := wqr 51 72 100 :: sw228
def sz99 : Shp := sz98 ++ [(100, ix (12 : Int32))]
theorem zq99 : sz98 ++ [(100, ix (12 : Int32))] = sz99 := rfl
theorem zl99 : sz99.length + 2 = 102 := by decide +kernel
def sw230 : List Wq := wqn 101 :: sw229
def sw231 : List Wq := wqr 51 73 101 :: sw230
def sz100 : Shp := sz99 ++ [(100, ix (6 : Int32))]
theorem zq100 : sz99 ++ [(100, ix (6 : Int32))] = sz100 := rfl
theorem zl100 : sz100.length + 2 = 103 := by decide +kernel
def sw232 : List Wq := wqn 102 :: sw231
def sw233 : List Wq := wqr 51 74 102 :: sw232
def sz101 : Shp := sz100 ++ [(100, ix (24 : Int32))]
theorem zq101 : sz100 ++ [(100, ix (24 : Int32))] = sz101 := rfl
theorem zl101 : sz101.length + 2 = 104 := by decide +kernel
def sw234 : List Wq := wqn 103 :: sw233
def sw235 : List Wq := wqr 51 76 103 :: sw234
def sz102 : Shp := sz101 ++ [(100, ix (24 : Int32))]
theorem zq102 : sz101 ++ [(100, ix (24 : Int32))] = sz102 := rfl
theorem zl102 : sz102.length + 2 = 105 := by decide +kernel
def sw236 : List Wq := wqn 104 :: sw235
def sw237 : List Wq := wqr 51 77 104 :: sw236
def sz103 : Shp := sz102 ++ [(100, ix (24 : Int32))]
theorem zq103 : sz102 ++ [(100, ix (24 : Int32))] = sz103 := rfl
theorem zl103 : sz103.length + 2 = 106 := by decide +kernel
def sw238 : List Wq := wqn 105 :: sw237
def sw239 : List Wq := wqr 51 78 105 :: sw238
def sz104 : Shp := sz103 ++ [(100, ix (24 : Int32))]
theorem zq104 : sz103 ++ [(100, ix (24 : Int32))] = sz104 := rfl
theorem zl104 : sz104.length + 2 = 107 := by decide +kernel
def sw240 : List Wq := wqn 106 :: sw239
def sw241 : List Wq := wqr 51 79 106 :: sw240
def sz105 : Shp := sz104 ++ [(100, ix (8 : Int32))]
theorem zq105 : sz104 ++ [(100, ix (8 : Int32))] = sz105 := rfl
theorem zl105 : sz105.length + 2 = 108 := by decide +kernel
def sw242 : List Wq := wqn 107 :: sw241
def sw243 : List Wq := wqr 51 82 107 :: sw242
def sz106 : Shp := sz105 ++ [(100, ix (8 : Int32))]
theorem zq106 : sz105 ++ [(100, ix (8 : Int32))] = sz106 := rfl
theorem zl106 : sz106.length + 2 = 109 := by decide +kernel
def sw244 : List Wq := wqn 108 :: sw243
def sw245 : List Wq := wqr 51 83 108 :: sw244
def sz107 : Shp := sz106 ++ [(100, ix (8 : Int32))]
theorem zq107 : sz106 ++ [(100, ix (8 : Int32))] = sz107 := rfl
theorem zl107 : sz107.length + 2 = 110 := by decide +kernel
def sw246 : List Wq := wqn 109 :: sw245
def sw247 : List Wq := wqr 51 84 109 :: sw246
def sw248 : List Wq := wqi 52 (ix (0 : Int32)) (1000 : Int32) :: sw247
def sw249 : List Wq := wqi 53 (ix (0 : Int32)) (1000 : Int32) :: sw248
def sw250 : List Wq := wqi 54 (ix (0 : Int32)) (500 : Int32) :: sw249
def sw251 : List Wq := wqi 97 (ix (0 : Int32)) (-1 : Int32) :: sw250
def sw252 : List Wq := wqi 52 (ix (1 : Int32)) (1000 : Int32) :: sw251
def sw253 : List Wq := wqi 53 (ix (1 : Int32)) (1000 : Int32) :: sw252
def sw254 : List Wq := wqi 54 (ix (1 : Int32)) (500 : Int32) :: sw253
def sw255 : List Wq := wqi 97 (ix (1 : Int32)) (-1 : Int32) :: sw254
def sw256 : List Wq := wqi 52 (ix (2 : Int32)) (1000 : Int32) :: sw255
def sw257 : List Wq := wqi 53 (ix (2 : Int32)) (1000 : Int32) :: sw256
def sw258 : List Wq := wqi 54 (ix (2 : Int32)) (500 : Int32) :: sw257
def sw259 : List Wq := wqi 97 (ix (2 : Int32)) (-1 : Int32) :: sw258
def sw260 : List Wq := wqi 52 (ix (3 : Int32)) (1000 : Int32) :: sw259
def sw261 : List Wq := wqi 53 (ix (3 : Int32)) (1000 : Int32) :: sw260
def sw262 : List Wq := wqi 54 (ix (3 : Int32)) (500 : Int32) :: sw261
def sw263 : List Wq := wqi 97 (ix (3 : Int32)) (-1 : Int32) :: sw262
def sw264 : List Wq := wqi 52 (ix (4 : Int32)) (1000 : Int32) :: sw263
def sw265 : List Wq := wqi 53 (ix (4 : Int32)) (1000 : Int32) :: sw264
def sw266 : List Wq := wqi 54 (ix (4 : Int32)) (500 : Int32) :: sw265
def sw267 : List Wq := wqi 97 (ix (4 : Int32)) (-1 : Int32) :: sw266
def sw268 : List Wq := wqi 52 (ix (5 : Int32)) (1000 : Int32) :: sw267
def sw269 : List Wq := wqi 53 (ix (5 : Int32)) (1000 : Int32) :: sw268
def sw270 : List Wq := wqi 54 (ix (5 : Int32)) (500 : Int32) :: sw269
def sw271 : List Wq := wqi 97 (ix (5 : Int32)) (-1 : Int32) :: sw270
def sw272 : List Wq := wqi 52 (ix (6 : Int32)) (1000 : Int32) :: sw271
def sw273 : List Wq := wqi 53 (ix (6 : Int32)) (1000 : Int32) :: sw272
def sw274 : List Wq := wqi 54 (ix (6 : Int32)) (500 : Int32) :: sw273
def sw275 : List Wq := wqi 97 (ix (6 : Int32)) (-1 : Int32) :: sw274
def sw276 : List Wq := wqi 52 (ix (7 : Int32)) (1000 : Int32) :: sw275
def sw277 : List Wq := wqi 53 (ix (7 : Int32)) (1000 : Int32) :: sw276
def sw278 : List Wq := wqi 54 (ix (7 : Int32)) (500 : Int32) :: sw277
def sw279 : List Wq := wqi 97 (ix (7 : Int32)) (-1 : Int32) :: sw278
def sw280 : List Wq := wqi 55 (ix (0 : Int32)) (100 : Int32) :: sw279
def sw281 : List Wq := wqi 55 (ix (1 : Int32)) (100 : Int32) :: sw280
def sw282 : List Wq := wqi 55 (ix (2 : Int32)) (100 : Int32) :: sw281
def sw283 : List Wq := wqi 55 (ix (3 : Int32)) (100 : Int32) :: sw282
def sw284 : List Wq := wqi 55 (ix (4 : Int32)) (100 : Int32) :: sw283
def sw285 : List Wq := wqi 55 (ix (5 : Int32)) (100 : Int32) :: sw284
def sw286 : List Wq := wqi 55 (ix (6 : Int32)) (100 : Int32) :: sw285
def sw287 : List Wq := wqi 51 3 (3 : Int32) :: sw286
def sw288 : List Wq := wqi 51 80 (9 : Int32) :: sw287
theorem ei23 : fX12_init sz49 (mk sw131) 51 = some (sz107, mk sw288) := by
  unfold fX12_init
  rw [if_pos (show tg sz49 51 = (13, 86) by decide +kernel), zl49, al zq50 (show wqn 52 :: sw131 = sw132 from rfl), pr (show wqr 51 0 52 :: sw132 = sw133 from rfl), zl50, al zq51 (show wqn 53 :: sw133 = sw134 from rfl), pr (show wqr 51 1 53 :: sw134 = sw135 from rfl), zl51, al zq52 (show wqn 54 :: sw135 = sw136 from rfl), pr (show wqr 51 2 54 :: sw136 = sw137 from rfl), zl52, al zq53 (show wqn 55 :: sw137 = sw138 from rfl), pr (show wqr 51 4 55 :: sw138 = sw139 from rfl), zl53, al zq54 (show wqn 56 :: sw139 = sw140 from rfl), pr (show wqr 51 5 56 :: sw140 = sw141 from rfl), zl54, al zq55 (show wqn 57 :: sw141 = sw142 from rfl), pr (show wqr 51 6 57 :: sw142 = sw143 from rfl), zl55, al zq56 (show wqn 58 :: sw143 = sw144 from rfl), pr (show wqr 51 7 58 :: sw144 = sw145 from rfl), zl56, al zq57 (show wqn 59 :: sw145 = sw146 from rfl), pr (show wqr 51 8 59 :: sw146 = sw147 from rfl), zl57, al zq58 (show wqn 60 :: sw147 = sw148 from rfl), pr (show wqr 51 9 60 :: sw148 = sw149 from rfl), zl58, al zq59 (show wqn 61 :: sw149 = sw150 from rfl), pr (show wqr 51 10 61 :: sw150 = sw151 from rfl), zl59, al zq60 (show wqn 62 :: sw151 = sw152 from rfl), pr (show wqr 51 16 62 :: sw152 = sw153 from rfl), zl60, al zq61 (show wqn 63 :: sw153 = sw154 from rfl), pr (show wqr 51 17 63 :: sw154 = sw155 from rfl), zl61, al zq62 (show wqn 64 :: sw155 = sw156 from rfl), pr (show wqr 51 18 64 :: sw156 = sw157 from rfl), zl62, al zq63 (show wqn 65 :: sw157 = sw158 from rfl), pr (show wqr 51 19 65 :: sw158 = sw159 from rfl), zl63, al zq64 (show wqn 66 :: sw159 = sw160 from rfl), pr (show wqr 51 20 66 :: sw160 = sw161 from rfl), zl64, al zq65 (show wqn 67 :: sw161 = sw162 from rfl), pr (show wqr 51 22 67 :: sw162 = sw163 from rfl), zl65, al zq66 (show wqn 68 :: sw163 = sw164 from rfl), pr (show wqr 51 23 68 :: sw164 = sw165 from rfl), zl66, al zq67 (show wqn 69 :: sw165 = sw166 from rfl), pr (show wqr 51 24 69 :: sw166 = sw167 from rfl), zl67, al zq68 (show wqn 70 :: sw167 = sw168 from rfl), pr (show wqr 51 25 70 :: sw168 = sw169 from rfl), zl68, al zq69 (show wqn 71 :: sw169 = sw170 from rfl), pr (show wqr 51 26 71 :: sw170 = sw171 from rfl), zl69, al zq70 (show wqn 72 :: sw171 = sw172 from rfl), pr (show wqr 51 27 72 :: sw172 = sw173 from rfl), zl70, al zq71 (show wqn 73 :: sw173 = sw174 from rfl), pr (show wqr 51 28 73 :: sw174 = sw175 from rfl), zl71, al zq72 (show wqn 74 :: sw175 = sw176 from rfl), pr (show wqr 51 29 74 :: sw176 = sw177 from rfl), zl72, al zq73 (show wqn 75 :: sw177 = sw178 from rfl), pr (show wqr 51 30 75 :: sw178 = sw179 from rfl), zl73, al zq74 (show wqn 76 :: sw179 = sw180 from rfl), pr (show wqr 51 31 76 :: sw180 = sw181 from rfl), zl74, al zq75 (show wqn 77 :: sw181 = sw182 from rfl), pr (show wqr 51 32 77 :: sw182 = sw183 from rfl), zl75, al zq76 (show wqn 78 :: sw183 = sw184 from rfl), pr (show wqr 51 33 78 :: sw184 = sw185 from rfl), zl76, al zq77 (show wqn 79 :: sw185 = sw186 from rfl), pr (show wqr 51 36 79 :: sw186 = sw187 from rfl), zl77, al zq78 (show wqn 80 :: sw187 = sw188 from rfl), pr (show wqr 51 37 80 :: sw188 = sw189 from rfl), zl78, al zq79 (show wqn 81 :: sw189 = sw190 from rfl), pr (show wqr 51 38 81 :: sw190 = sw191 from rfl), zl79, al zq80 (show wqn 82 :: sw191 = sw192 from rfl), pr (show wqr 51 39 82 :: sw192 = sw193 from rfl), zl80, al zq81 (show wqn 83 :: sw193 = sw194 from rfl), pr (show wqr 51 40 83 :: sw194 = sw195 from rfl), zl81, al zq82 (show wqn 84 :: sw195 = sw196 from rfl), pr (show wqr 51 41 84 :: sw196 = sw197 from rfl), zl82, al zq83 (show wqn 85 :: sw197 = sw198 from rfl), pr (show wqr 51 42 85 :: sw198 = sw199 from rfl), zl83, al zq84 (show wqn 86 :: sw199 = sw200 from rfl), pr (show wqr 51 51 86 :: sw200 = sw201 from rfl), zl84, al zq85 (show wqn 87 :: sw201 = sw202 from rfl), pr (show wqr 51 52 87 :: sw202 = sw203 from rfl), zl85, al zq86 (show wqn 88 :: sw203 = sw204 from rfl), pr (show wqr 51 54 88 :: sw204 = sw205 from rfl), zl86, al zq87 (show wqn 89 :: sw205 = sw206 from rfl), pr (show wqr 51 56 89 :: sw206 = sw207 from rfl), zl87, al zq88 (show wqn 90 :: sw207 = sw208 from rfl), pr (show wqr 51 58 90 :: sw208 = sw209 from rfl), zl88, al zq89 (show wqn 91 :: sw209 = sw210 from rfl), pr (show wqr 51 59 91 :: sw210 = sw211 from rfl), zl89, al zq90 (show wqn 92 :: sw211 = sw212 from rfl), pr (show wqr 51 60 92 :: sw212 = sw213 from rfl), zl90, al zq91 (show wqn 93 :: sw213 = sw214 from rfl), pr (show wqr 51 62 93 :: sw214 = sw215 from rfl), zl91, al zq92 (show wqn 94 :: sw215 = sw216 from rfl), pr (show wqr 51 63 94 :: sw216 = sw217 from rfl), zl92, al zq93 (show wqn 95 :: sw217 = sw218 from rfl), pr (show wqr 51 67 95 :: sw218 = sw219 from rfl), zl93, al zq94 (show wqn 96 :: sw219 = sw220 from rfl), pr (show wqr 51 68 96 :: sw220 = sw221 from rfl), zl94, al zq95 (show wqn 97 :: sw221 = sw222 from rfl), pr (show wqr 51 69 97 :: sw222 = sw223 from rfl), zl95, al zq96 (show wqn 98 :: sw223 = sw224 from rfl), pr (show wqr 51 70 98 :: sw224 = sw225 from rfl), zl96, al zq97 (show wqn 99 :: sw225 = sw226 from rfl), pr (show wqr 51 71 99 :: sw226 = sw227 from rfl), zl97, al zq98 (show wqn 100 :: sw227 = sw228 from rfl), pr (show wqr 51 72 100 :: sw228 = sw229 from rfl), zl98, al zq99 (show wqn 101 :: sw229 = sw230 from rfl), pr (show wqr 51 73 101 :: sw230 = sw231 from rfl), zl99, al zq100 (show wqn 102 :: sw231 = sw232 from rfl), pr (show wqr 51 74 102 :: sw232 = sw233 from rfl), zl100, al zq101 (show wqn 103 :: sw233 = sw234 from rfl), pr (show wqr 51 76 103 :: sw234 = sw235 from rfl), zl101, al zq102 (show wqn 104 :: sw235 = sw236 from rfl), pr (show wqr 51 77 104 :: sw236 = sw237 from rfl), zl102, al zq103 (show wqn 105 :: sw237 = sw238 from rfl), pr (show wqr 51 78 105 :: sw238 = sw239 from rfl), zl103, al zq104 (show wqn 106 :: sw239 = sw240 from rfl), pr (show wqr 51 79 106 :: sw240 = sw241 from rfl), zl104, al zq105 (show wqn 107 :: sw241 = sw242 from rfl), pr (show wqr 51 82 107 :: sw242 = sw243 from rfl), zl105, al zq106 (show wqn 108 :: sw243 = sw244 from rfl), pr (show wqr 51 83 108 :: sw244 = sw245 from rfl), zl106, al zq107 (show wqn 109 :: sw245 = sw246 from rfl), pr (show wqr 51 84 109 :: sw246 = sw247 from rfl), show rR (mk sw247) 51 0 = 52 by decide +kernel, if_pos (show aok sz107 52 100 (0 : Int32) by decide +kernel), pi (show wqi 52 (ix (0 : Int32)) (1000 : Int32) :: sw247 = sw248 from rfl), show rR (mk sw248) 51 1 = 53 by decide +kernel, if_pos (show aok sz107 53 100 (0 : Int32) by decide +kernel), pi (show wqi 53 (ix (0 : Int32)) (1000 : Int32) :: sw248 = sw249 from rfl), show rR (mk sw249) 51 2 = 54 by decide +kernel, if_pos (show aok sz107 54 100 (0 : Int32) by decide +kernel), pi (show wqi 54 (ix (0 : Int32)) (500 : Int32) :: sw249 = sw250 from rfl), show rR (mk sw250) 51 69 = 97 by decide +kernel, if_pos (show aok sz107 97 100 (0 : Int32) by decide +kernel), pi (show wqi 97 (ix (0 : Int32)) (-1 : Int32) :: sw250 = sw251 from rfl), show rR (mk sw251) 51 0 = 52 by decide +kernel, if_pos (show aok sz107 52 100 (1 : Int32) by decide +kernel), pi (show wqi 52 (ix (1 : Int32)) (1000 : Int32) :: sw251 = sw252 from rfl), show rR (mk sw252) 51 1 = 53 by decide +kernel, if_pos (show aok sz107 53 100 (1 : Int32) by decide +kernel), pi (show wqi 53 (ix (1 : Int32)) (1000 : Int32) :: sw252 = sw253 from rfl), show rR (mk sw253) 51 2 = 54 by decide +kernel, if_pos (show aok sz107 54 100 (1 : Int32) by decide +kernel), pi (show wqi 54 (ix (1 : Int32)) (500 : Int32) :: sw253 = sw254 from rfl), show rR (mk sw254) 51 69 = 97 by decide +kernel, if_pos (show aok sz107 97 100 (1 : Int32) by decide +kernel), pi (show wqi 97 (ix (1 : Int32)) (-1 : Int32) :: sw254 = sw255 from rfl), show rR (mk sw255) 51 0 = 52 by decide +kernel, if_pos (show aok sz107 52 100 (2 : Int32) by decide +kernel), pi (show wqi 52 (ix (2 : Int32)) (1000 : Int32) :: sw255 = sw256 from rfl), show rR (mk sw256) 51 1 = 53 by decide +kernel, if_pos (show aok sz107 53 100 (2 : Int32) by decide +kernel), pi (show wqi 53 (ix (2 : Int32)) (1000 : Int32) :: sw256 = sw257 from rfl), show rR (mk sw257) 51 2 = 54 by decide +kernel, if_pos (show aok sz107 54 100 (2 : Int32) by decide +kernel), pi (show wqi 54 (ix (2 : Int32)) (500 : Int32) :: sw257 = sw258 from rfl), show rR (mk sw258) 51 69 = 97 by decide +kernel, if_pos (show aok sz107 97 100 (2 : Int32) by decide +kernel), pi (show wqi 97 (ix (2 : Int32)) (-1 : Int32) :: sw258 = sw259 from rfl), show rR (mk sw259) 51 0 = 52 by decide +kernel, if_pos (show aok sz107 52 100 (3 : Int32) by decide +kernel), pi (show wqi 52 (ix (3 : Int32)) (1000 : Int32) :: sw259 = sw260 from rfl), show rR (mk sw260) 51 1 = 53 by decide +kernel, if_pos (show aok sz107 53 100 (3 : Int32) by decide +kernel), pi (show wqi 53 (ix (3 : Int32)) (1000 : Int32) :: sw260 = sw261 from rfl), show rR (mk sw261) 51 2 = 54 by decide +kernel, if_pos (show aok sz107 54 100 (3 : Int32) by decide +kernel), pi (show wqi 54 (ix (3 : Int32)) (500 : Int32) :: sw261 = sw262 from rfl), show rR (mk sw262) 51 69 = 97 by decide +kernel, if_pos (show aok sz107 97 100 (3 : Int32) by decide +kernel), pi (show wqi 97 (ix (3 : Int32)) (-1 : Int32) :: sw262 = sw263 from rfl), show rR (mk sw263) 51 0 = 52 by decide +kernel, if_pos (show aok sz107 52 100 (4 : Int32) by decide +kernel), pi (show wqi 52 (ix (4 : Int32)) (1000 : Int32) :: sw263 = sw264 from rfl), show rR (mk sw264) 51 1 = 53 by decide +kernel, if_pos (show aok sz107 53 100 (4 : Int32) by decide +kernel), pi (show wqi 53 (ix (4 : Int32)) (1000 : Int32) :: sw264 = sw265 from rfl), show rR (mk sw265) 51 2 = 54 by decide +kernel, if_pos (show aok sz107 54 100 (4 : Int32) by decide +kernel), pi (show wqi 54 (ix (4 : Int32)) (500 : Int32) :: sw265 = sw266 from rfl), show rR (mk sw266) 51 69 = 97 by decide +kernel, if_pos (show aok sz107 97 100 (4 : Int32) by decide +kernel), pi (show wqi 97 (ix (4 : Int32)) (-1 : Int32) :: sw266 = sw267 from rfl), show rR (mk sw267) 51 0 = 52 by decide +kernel, if_pos (show aok sz107 52 100 (5 : Int32) by decide +kernel), pi (show wqi 52 (ix (5 : Int32)) (1000 : Int32) :: sw267 = sw268 from rfl), show rR (mk sw268) 51 1 = 53 by decide +kernel, if_pos (show aok sz107 53 100 (5 : Int32) by decide +kernel), pi (show wqi 53 (ix (5 : Int32)) (1000 : Int32) :: sw268 = sw269 from rfl), show rR (mk sw269) 51 2 = 54 by decide +kernel, if_pos (show aok sz107 54 100 (5 : Int32) by decide +kernel), pi (show wqi 54 (ix (5 : Int32)) (500 : Int32) :: sw269 = sw270 from rfl), show rR (mk sw270) 51 69 = 97 by decide +kernel, if_pos (show aok sz107 97 100 (5 : Int32) by decide +kernel), pi (show wqi 97 (ix (5 : Int32)) (-1 : Int32) :: sw270 = sw271 from rfl), show rR (mk sw271) 51 0 = 52 by decide +kernel, if_pos (show aok sz107 52 100 (6 : Int32) by decide +kernel), pi (show wqi 52 (ix (6 : Int32)) (1000 : Int32) :: sw271 = sw272 from rfl), show rR (mk sw272) 51 1 = 53 by decide +kernel, if_pos (show aok sz107 53 100 (6 : Int32) by decide +kernel), pi (show wqi 53 (ix (6 : Int32)) (1000 : Int32) :: sw272 = sw273 from rfl), show rR (mk sw273) 51 2 = 54 by decide +kernel, if_pos (show aok sz107 54 100 (6 : Int32) by decide +kernel), pi (show wqi 54 (ix (6 : Int32)) (500 : Int32) :: sw273 = sw274 from rfl), show rR (mk sw274) 51 69 = 97 by decide +kernel, if_pos (show aok sz107 97 100 (6 : Int32) by decide +kernel), pi (show wqi 97 (ix (6 : Int32)) (-1 : Int32) :: sw274 = sw275 from rfl), show rR (mk sw275) 51 0 = 52 by decide +kernel, if_pos (show aok sz107 52 100 (7 : Int32) by decide +kernel), pi (show wqi 52 (ix (7 : Int32)) (1000 : Int32) :: sw275 = sw276 from rfl), show rR (mk sw276) 51 1 = 53 by decide +kernel, if_pos (show aok sz107 53 100 (7 : Int32) by decide +kernel), pi (show wqi 53 (ix (7 : Int32)) (1000 : Int32) :: sw276 = sw277 from rfl), show rR (mk sw277) 51 2 = 54 by decide +kernel, if_pos (show aok sz107 54 100 (7 : Int32) by decide +kernel), pi (show wqi 54 (ix (7 : Int32)) (500 : Int32) :: sw277 = sw278 from rfl), show rR (mk sw278) 51 69 = 97 by decide +kernel, if_pos (show aok sz107 97 100 (7 : Int32) by decide +kernel), pi (show wqi 97 (ix (7 : Int32)) (-1 : Int32) :: sw278 = sw279 from rfl), show rR (mk sw279) 51 4 = 55 by decide +kernel, if_pos (show aok sz107 55 100 (0 : Int32) by decide +kernel), pi (show wqi 55 (ix (0 : Int32)) (100 : Int32) :: sw279 = sw280 from rfl), show rR (mk sw280) 51 4 = 55 by decide +kernel, if_pos (show aok sz107 55 100 (1 : Int32) by decide +kernel), pi (show wqi 55 (ix (1 : Int32)) (100 : Int32) :: sw280 = sw281 from rfl), show rR (mk sw281) 51 4 = 55 by decide +kernel, if_pos (show aok sz107 55 100 (2 : Int32) by decide +kernel), pi (show wqi 55 (ix (2 : Int32)) (100 : Int32) :: sw281 = sw282 from rfl), show rR (mk sw282) 51 4 = 55 by decide +kernel, if_pos (show aok sz107 55 100 (3 : Int32) by decide +kernel), pi (show wqi 55 (ix (3 : Int32)) (100 : Int32) :: sw282 = sw283 from rfl), show rR (mk sw283) 51 4 = 55 by decide +kernel, if_pos (show aok sz107 55 100 (4 : Int32) by decide +kernel), pi (show wqi 55 (ix (4 : Int32)) (100 : Int32) :: sw283 = sw284 from rfl), show rR (mk sw284) 51 4 = 55 by decide +kernel, if_pos (show aok sz107 55 100 (5 : Int32) by decide +kernel), pi (show wqi 55 (ix (5 : Int32)) (100 : Int32) :: sw284 = sw285 from rfl), show rR (mk sw285) 51 4 = 55 by decide +kernel, if_pos (show aok sz107 55 100 (6 : Int32) by decide +kernel), pi (show wqi 55 (ix (6 : Int32)) (100 : Int32) :: sw285 = sw286 from rfl), pi (show wqi 51 3 (3 : Int32) :: sw286 = sw287 from rfl), pi (show wqi 51 80 (9 : Int32) :: sw287 = sw288 from rfl)]
abbrev zE : Shp := sz107
abbrev wE : List Wq := sw288
theorem startC : fX11_init sz0 (mk sw1) 2 = some (sz48, mk sw130) := ei22
theorem startL : sz48.length + 2 = 51 := zl48
theorem startM : fX12_init sz49 (mk sw131) 51 = some (zE, mk wE) := ei23
