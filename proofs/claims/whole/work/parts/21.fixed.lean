/-! pure: the fixed cells -/
theorem in_m1_e (x b : Int32) : fX12_in x.toInt64 (-1 : Int64) b.toInt64 = fX11_within x (-1 : Int32) b := in_w (by decide) rfl
theorem in_0_e (x b : Int32) : fX12_in x.toInt64 (0 : Int64) b.toInt64 = fX11_within x (0 : Int32) b := in_w (by decide) rfl
theorem in_0_1 (x : Int32) : fX12_in x.toInt64 (0 : Int64) (1 : Int64) = fX11_within x (0 : Int32) (1 : Int32) := in_w (by decide) (by decide)
theorem in_0_2 (x : Int32) : fX12_in x.toInt64 (0 : Int64) (2 : Int64) = fX11_within x (0 : Int32) (2 : Int32) := in_w (by decide) (by decide)
theorem in_0_23 (x : Int32) : fX12_in x.toInt64 (0 : Int64) (23 : Int64) = fX11_within x (0 : Int32) (23 : Int32) := in_w (by decide) (by decide)
theorem in_0_3 (x : Int32) : fX12_in x.toInt64 (0 : Int64) (3 : Int64) = fX11_within x (0 : Int32) (3 : Int32) := in_w (by decide) (by decide)
theorem in_0_4 (x : Int32) : fX12_in x.toInt64 (0 : Int64) (4 : Int64) = fX11_within x (0 : Int32) (4 : Int32) := in_w (by decide) (by decide)
theorem in_0_40 (x : Int32) : fX12_in x.toInt64 (0 : Int64) (40 : Int64) = fX11_within x (0 : Int32) (40 : Int32) := in_w (by decide) (by decide)
theorem in_0_5 (x : Int32) : fX12_in x.toInt64 (0 : Int64) (5 : Int64) = fX11_within x (0 : Int32) (5 : Int32) := in_w (by decide) (by decide)
theorem in_0_50 (x : Int32) : fX12_in x.toInt64 (0 : Int64) (50 : Int64) = fX11_within x (0 : Int32) (50 : Int32) := in_w (by decide) (by decide)
theorem in_0_599 (x : Int32) : fX12_in x.toInt64 (0 : Int64) (599 : Int64) = fX11_within x (0 : Int32) (599 : Int32) := in_w (by decide) (by decide)
theorem in_0_6 (x : Int32) : fX12_in x.toInt64 (0 : Int64) (6 : Int64) = fX11_within x (0 : Int32) (6 : Int32) := in_w (by decide) (by decide)
theorem in_0_7 (x : Int32) : fX12_in x.toInt64 (0 : Int64) (7 : Int64) = fX11_within x (0 : Int32) (7 : Int32) := in_w (by decide) (by decide)
theorem in_0_9 (x : Int32) : fX12_in x.toInt64 (0 : Int64) (9 : Int64) = fX11_within x (0 : Int32) (9 : Int32) := in_w (by decide) (by decide)
theorem in_0_99 (x : Int32) : fX12_in x.toInt64 (0 : Int64) (99 : Int64) = fX11_within x (0 : Int32) (99 : Int32) := in_w (by decide) (by decide)
theorem in_0_999 (x : Int32) : fX12_in x.toInt64 (0 : Int64) (999 : Int64) = fX11_within x (0 : Int32) (999 : Int32) := in_w (by decide) (by decide)
theorem in_0_9999 (x : Int32) : fX12_in x.toInt64 (0 : Int64) (9999 : Int64) = fX11_within x (0 : Int32) (9999 : Int32) := in_w (by decide) (by decide)
theorem in_0_99999 (x : Int32) : fX12_in x.toInt64 (0 : Int64) (99999 : Int64) = fX11_within x (0 : Int32) (99999 : Int32) := in_w (by decide) (by decide)
theorem in_0_999999 (x : Int32) : fX12_in x.toInt64 (0 : Int64) (999999 : Int64) = fX11_within x (0 : Int32) (999999 : Int32) := in_w (by decide) (by decide)
theorem in_1_100 (x : Int32) : fX12_in x.toInt64 (1 : Int64) (100 : Int64) = fX11_within x (1 : Int32) (100 : Int32) := in_w (by decide) (by decide)
theorem in_1_200 (x : Int32) : fX12_in x.toInt64 (1 : Int64) (200 : Int64) = fX11_within x (1 : Int32) (200 : Int32) := in_w (by decide) (by decide)
theorem in_1_6 (x : Int32) : fX12_in x.toInt64 (1 : Int64) (6 : Int64) = fX11_within x (1 : Int32) (6 : Int32) := in_w (by decide) (by decide)
theorem in_1_9 (x : Int32) : fX12_in x.toInt64 (1 : Int64) (9 : Int64) = fX11_within x (1 : Int32) (9 : Int32) := in_w (by decide) (by decide)
theorem in_1_999 (x : Int32) : fX12_in x.toInt64 (1 : Int64) (999 : Int64) = fX11_within x (1 : Int32) (999 : Int32) := in_w (by decide) (by decide)
theorem in_10_17 (x : Int32) : fX12_in x.toInt64 (10 : Int64) (17 : Int64) = fX11_within x (10 : Int32) (17 : Int32) := in_w (by decide) (by decide)
theorem in_10_200 (x : Int32) : fX12_in x.toInt64 (10 : Int64) (200 : Int64) = fX11_within x (10 : Int32) (200 : Int32) := in_w (by decide) (by decide)
theorem in_48_57 (x : Int32) : fX12_in x.toInt64 (48 : Int64) (57 : Int64) = fX11_within x (48 : Int32) (57 : Int32) := in_w (by decide) (by decide)
theorem in_6_17 (x : Int32) : fX12_in x.toInt64 (6 : Int64) (17 : Int64) = fX11_within x (6 : Int32) (17 : Int32) := in_w (by decide) (by decide)
theorem in_e_99 (x a : Int32) : fX12_in x.toInt64 a.toInt64 (99 : Int64) = fX11_within x a (99 : Int32) := in_w rfl (by decide)
theorem in_e_9999 (x a : Int32) : fX12_in x.toInt64 a.toInt64 (9999 : Int64) = fX11_within x a (9999 : Int32) := in_w rfl (by decide)
def Z0 : Shp := [(12, 6), (4, 11), (110, 8), (111, 7), (112, 12), (112, 12), (113, 12), (7, 3), (7, 3), (7, 3), (7, 3), (7, 3), (7, 3), (7, 3), (7, 3), (5, 7), (5, 7), (5, 7), (5, 7), (5, 7), (5, 7), (5, 7), (3, 4), (102, 60), (114, 16), (10, 10), (101, 8), (100, 8), (100, 8), (100, 8), (1, 9), (100, 10), (100, 10), (101, 8), (100, 8), (100, 8), (100, 8), (6, 9), (100, 4), (100, 12), (100, 6), (100, 24), (100, 24), (100, 24), (100, 24), (11, 4), (100, 8), (100, 8), (100, 8), (13, 86), (100, 8), (100, 8), (100, 8), (100, 7), (101, 7), (100, 7), (101, 7), (100, 7), (100, 7), (100, 7), (100, 12), (100, 12), (100, 12), (100, 12), (100, 12), (100, 12), (100, 12), (100, 12), (100, 12), (100, 12), (100, 12), (100, 12), (100, 12), (100, 12), (101, 12), (101, 12), (100, 60), (100, 16), (100, 16), (100, 16), (100, 16), (100, 16), (100, 960), (100, 960), (100, 60), (100, 60), (100, 60), (101, 61), (101, 8), (100, 8), (100, 8), (100, 8), (100, 8), (100, 10), (100, 10), (100, 8), (100, 8), (100, 4), (101, 12), (100, 12), (100, 6), (100, 24), (100, 24), (100, 24), (100, 24), (100, 8), (100, 8), (100, 8)]
/-- the fixed cells are there -/
abbrev OKZ (Z : Shp) : Prop := Ext Z0 Z
theorem tg_2 {Z : Shp} (h : OKZ Z) : tg Z 2 = (12, 6) := h 2 12 6 (Nat.succ_pos _) rfl
theorem tg_3 {Z : Shp} (h : OKZ Z) : tg Z 3 = (4, 11) := h 3 4 11 (Nat.succ_pos _) rfl
theorem tg_4 {Z : Shp} (h : OKZ Z) : tg Z 4 = (110, 8) := h 4 110 8 (Nat.succ_pos _) rfl
theorem tg_5 {Z : Shp} (h : OKZ Z) : tg Z 5 = (111, 7) := h 5 111 7 (Nat.succ_pos _) rfl
theorem tg_6 {Z : Shp} (h : OKZ Z) : tg Z 6 = (112, 12) := h 6 112 12 (Nat.succ_pos _) rfl
theorem tg_7 {Z : Shp} (h : OKZ Z) : tg Z 7 = (112, 12) := h 7 112 12 (Nat.succ_pos _) rfl
theorem tg_8 {Z : Shp} (h : OKZ Z) : tg Z 8 = (113, 12) := h 8 113 12 (Nat.succ_pos _) rfl
theorem tg_9 {Z : Shp} (h : OKZ Z) : tg Z 9 = (7, 3) := h 9 7 3 (Nat.succ_pos _) rfl
theorem tg_10 {Z : Shp} (h : OKZ Z) : tg Z 10 = (7, 3) := h 10 7 3 (Nat.succ_pos _) rfl
theorem tg_11 {Z : Shp} (h : OKZ Z) : tg Z 11 = (7, 3) := h 11 7 3 (Nat.succ_pos _) rfl
theorem tg_12 {Z : Shp} (h : OKZ Z) : tg Z 12 = (7, 3) := h 12 7 3 (Nat.succ_pos _) rfl
theorem tg_13 {Z : Shp} (h : OKZ Z) : tg Z 13 = (7, 3) := h 13 7 3 (Nat.succ_pos _) rfl
theorem tg_14 {Z : Shp} (h : OKZ Z) : tg Z 14 = (7, 3) := h 14 7 3 (Nat.succ_pos _) rfl
theorem tg_15 {Z : Shp} (h : OKZ Z) : tg Z 15 = (7, 3) := h 15 7 3 (Nat.succ_pos _) rfl
theorem tg_16 {Z : Shp} (h : OKZ Z) : tg Z 16 = (7, 3) := h 16 7 3 (Nat.succ_pos _) rfl
theorem tg_17 {Z : Shp} (h : OKZ Z) : tg Z 17 = (5, 7) := h 17 5 7 (Nat.succ_pos _) rfl
theorem tg_18 {Z : Shp} (h : OKZ Z) : tg Z 18 = (5, 7) := h 18 5 7 (Nat.succ_pos _) rfl
theorem tg_19 {Z : Shp} (h : OKZ Z) : tg Z 19 = (5, 7) := h 19 5 7 (Nat.succ_pos _) rfl
theorem tg_20 {Z : Shp} (h : OKZ Z) : tg Z 20 = (5, 7) := h 20 5 7 (Nat.succ_pos _) rfl
theorem tg_21 {Z : Shp} (h : OKZ Z) : tg Z 21 = (5, 7) := h 21 5 7 (Nat.succ_pos _) rfl
theorem tg_22 {Z : Shp} (h : OKZ Z) : tg Z 22 = (5, 7) := h 22 5 7 (Nat.succ_pos _) rfl
theorem tg_23 {Z : Shp} (h : OKZ Z) : tg Z 23 = (5, 7) := h 23 5 7 (Nat.succ_pos _) rfl
theorem tg_24 {Z : Shp} (h : OKZ Z) : tg Z 24 = (3, 4) := h 24 3 4 (Nat.succ_pos _) rfl
theorem tg_25 {Z : Shp} (h : OKZ Z) : tg Z 25 = (102, 60) := h 25 102 60 (Nat.succ_pos _) rfl
theorem tg_26 {Z : Shp} (h : OKZ Z) : tg Z 26 = (114, 16) := h 26 114 16 (Nat.succ_pos _) rfl
theorem tg_27 {Z : Shp} (h : OKZ Z) : tg Z 27 = (10, 10) := h 27 10 10 (Nat.succ_pos _) rfl
theorem tg_28 {Z : Shp} (h : OKZ Z) : tg Z 28 = (101, 8) := h 28 101 8 (Nat.succ_pos _) rfl
theorem tg_29 {Z : Shp} (h : OKZ Z) : tg Z 29 = (100, 8) := h 29 100 8 (Nat.succ_pos _) rfl
theorem tg_30 {Z : Shp} (h : OKZ Z) : tg Z 30 = (100, 8) := h 30 100 8 (Nat.succ_pos _) rfl
theorem tg_31 {Z : Shp} (h : OKZ Z) : tg Z 31 = (100, 8) := h 31 100 8 (Nat.succ_pos _) rfl
theorem tg_32 {Z : Shp} (h : OKZ Z) : tg Z 32 = (1, 9) := h 32 1 9 (Nat.succ_pos _) rfl
theorem tg_33 {Z : Shp} (h : OKZ Z) : tg Z 33 = (100, 10) := h 33 100 10 (Nat.succ_pos _) rfl
theorem tg_34 {Z : Shp} (h : OKZ Z) : tg Z 34 = (100, 10) := h 34 100 10 (Nat.succ_pos _) rfl
theorem tg_35 {Z : Shp} (h : OKZ Z) : tg Z 35 = (101, 8) := h 35 101 8 (Nat.succ_pos _) rfl
theorem tg_36 {Z : Shp} (h : OKZ Z) : tg Z 36 = (100, 8) := h 36 100 8 (Nat.succ_pos _) rfl
theorem tg_37 {Z : Shp} (h : OKZ Z) : tg Z 37 = (100, 8) := h 37 100 8 (Nat.succ_pos _) rfl
theorem tg_38 {Z : Shp} (h : OKZ Z) : tg Z 38 = (100, 8) := h 38 100 8 (Nat.succ_pos _) rfl
theorem tg_39 {Z : Shp} (h : OKZ Z) : tg Z 39 = (6, 9) := h 39 6 9 (Nat.succ_pos _) rfl
theorem tg_40 {Z : Shp} (h : OKZ Z) : tg Z 40 = (100, 4) := h 40 100 4 (Nat.succ_pos _) rfl
theorem tg_41 {Z : Shp} (h : OKZ Z) : tg Z 41 = (100, 12) := h 41 100 12 (Nat.succ_pos _) rfl
theorem tg_42 {Z : Shp} (h : OKZ Z) : tg Z 42 = (100, 6) := h 42 100 6 (Nat.succ_pos _) rfl
theorem tg_43 {Z : Shp} (h : OKZ Z) : tg Z 43 = (100, 24) := h 43 100 24 (Nat.succ_pos _) rfl
theorem tg_44 {Z : Shp} (h : OKZ Z) : tg Z 44 = (100, 24) := h 44 100 24 (Nat.succ_pos _) rfl
theorem tg_45 {Z : Shp} (h : OKZ Z) : tg Z 45 = (100, 24) := h 45 100 24 (Nat.succ_pos _) rfl
theorem tg_46 {Z : Shp} (h : OKZ Z) : tg Z 46 = (100, 24) := h 46 100 24 (Nat.succ_pos _) rfl
theorem tg_47 {Z : Shp} (h : OKZ Z) : tg Z 47 = (11, 4) := h 47 11 4 (Nat.succ_pos _) rfl
theorem tg_48 {Z : Shp} (h : OKZ Z) : tg Z 48 = (100, 8) := h 48 100 8 (Nat.succ_pos _) rfl
theorem tg_49 {Z : Shp} (h : OKZ Z) : tg Z 49 = (100, 8) := h 49 100 8 (Nat.succ_pos _) rfl
theorem tg_50 {Z : Shp} (h : OKZ Z) : tg Z 50 = (100, 8) := h 50 100 8 (Nat.succ_pos _) rfl
theorem tg_51 {Z : Shp} (h : OKZ Z) : tg Z 51 = (13, 86) := h 51 13 86 (Nat.succ_pos _) rfl
theorem tg_52 {Z : Shp} (h : OKZ Z) : tg Z 52 = (100, 8) := h 52 100 8 (Nat.succ_pos _) rfl
theorem tg_53 {Z : Shp} (h : OKZ Z) : tg Z 53 = (100, 8) := h 53 100 8 (Nat.succ_pos _) rfl
theorem tg_54 {Z : Shp} (h : OKZ Z) : tg Z 54 = (100, 8) := h 54 100 8 (Nat.succ_pos _) rfl
theorem tg_55 {Z : Shp} (h : OKZ Z) : tg Z 55 = (100, 7) := h 55 100 7 (Nat.succ_pos _) rfl
theorem tg_56 {Z : Shp} (h : OKZ Z) : tg Z 56 = (101, 7) := h 56 101 7 (Nat.succ_pos _) rfl
theorem tg_57 {Z : Shp} (h : OKZ Z) : tg Z 57 = (100, 7) := h 57 100 7 (Nat.succ_pos _) rfl
theorem tg_58 {Z : Shp} (h : OKZ Z) : tg Z 58 = (101, 7) := h 58 101 7 (Nat.succ_pos _) rfl
theorem tg_59 {Z : Shp} (h : OKZ Z) : tg Z 59 = (100, 7) := h 59 100 7 (Nat.succ_pos _) rfl
theorem tg_60 {Z : Shp} (h : OKZ Z) : tg Z 60 = (100, 7) := h 60 100 7 (Nat.succ_pos _) rfl
theorem tg_61 {Z : Shp} (h : OKZ Z) : tg Z 61 = (100, 7) := h 61 100 7 (Nat.succ_pos _) rfl
theorem tg_62 {Z : Shp} (h : OKZ Z) : tg Z 62 = (100, 12) := h 62 100 12 (Nat.succ_pos _) rfl
theorem tg_63 {Z : Shp} (h : OKZ Z) : tg Z 63 = (100, 12) := h 63 100 12 (Nat.succ_pos _) rfl
theorem tg_64 {Z : Shp} (h : OKZ Z) : tg Z 64 = (100, 12) := h 64 100 12 (Nat.succ_pos _) rfl
theorem tg_65 {Z : Shp} (h : OKZ Z) : tg Z 65 = (100, 12) := h 65 100 12 (Nat.succ_pos _) rfl
theorem tg_66 {Z : Shp} (h : OKZ Z) : tg Z 66 = (100, 12) := h 66 100 12 (Nat.succ_pos _) rfl
theorem tg_67 {Z : Shp} (h : OKZ Z) : tg Z 67 = (100, 12) := h 67 100 12 (Nat.succ_pos _) rfl
theorem tg_68 {Z : Shp} (h : OKZ Z) : tg Z 68 = (100, 12) := h 68 100 12 (Nat.succ_pos _) rfl
theorem tg_69 {Z : Shp} (h : OKZ Z) : tg Z 69 = (100, 12) := h 69 100 12 (Nat.succ_pos _) rfl
theorem tg_70 {Z : Shp} (h : OKZ Z) : tg Z 70 = (100, 12) := h 70 100 12 (Nat.succ_pos _) rfl
theorem tg_71 {Z : Shp} (h : OKZ Z) : tg Z 71 = (100, 12) := h 71 100 12 (Nat.succ_pos _) rfl
theorem tg_72 {Z : Shp} (h : OKZ Z) : tg Z 72 = (100, 12) := h 72 100 12 (Nat.succ_pos _) rfl
theorem tg_73 {Z : Shp} (h : OKZ Z) : tg Z 73 = (100, 12) := h 73 100 12 (Nat.succ_pos _) rfl
theorem tg_74 {Z : Shp} (h : OKZ Z) : tg Z 74 = (100, 12) := h 74 100 12 (Nat.succ_pos _) rfl
theorem tg_75 {Z : Shp} (h : OKZ Z) : tg Z 75 = (100, 12) := h 75 100 12 (Nat.succ_pos _) rfl
theorem tg_76 {Z : Shp} (h : OKZ Z) : tg Z 76 = (101, 12) := h 76 101 12 (Nat.succ_pos _) rfl
theorem tg_77 {Z : Shp} (h : OKZ Z) : tg Z 77 = (101, 12) := h 77 101 12 (Nat.succ_pos _) rfl
theorem tg_78 {Z : Shp} (h : OKZ Z) : tg Z 78 = (100, 60) := h 78 100 60 (Nat.succ_pos _) rfl
theorem tg_79 {Z : Shp} (h : OKZ Z) : tg Z 79 = (100, 16) := h 79 100 16 (Nat.succ_pos _) rfl
theorem tg_80 {Z : Shp} (h : OKZ Z) : tg Z 80 = (100, 16) := h 80 100 16 (Nat.succ_pos _) rfl
theorem tg_81 {Z : Shp} (h : OKZ Z) : tg Z 81 = (100, 16) := h 81 100 16 (Nat.succ_pos _) rfl
theorem tg_82 {Z : Shp} (h : OKZ Z) : tg Z 82 = (100, 16) := h 82 100 16 (Nat.succ_pos _) rfl
theorem tg_83 {Z : Shp} (h : OKZ Z) : tg Z 83 = (100, 16) := h 83 100 16 (Nat.succ_pos _) rfl
theorem tg_84 {Z : Shp} (h : OKZ Z) : tg Z 84 = (100, 960) := h 84 100 960 (Nat.succ_pos _) rfl
theorem tg_85 {Z : Shp} (h : OKZ Z) : tg Z 85 = (100, 960) := h 85 100 960 (Nat.succ_pos _) rfl
theorem tg_86 {Z : Shp} (h : OKZ Z) : tg Z 86 = (100, 60) := h 86 100 60 (Nat.succ_pos _) rfl
theorem tg_87 {Z : Shp} (h : OKZ Z) : tg Z 87 = (100, 60) := h 87 100 60 (Nat.succ_pos _) rfl
theorem tg_88 {Z : Shp} (h : OKZ Z) : tg Z 88 = (100, 60) := h 88 100 60 (Nat.succ_pos _) rfl
theorem tg_89 {Z : Shp} (h : OKZ Z) : tg Z 89 = (101, 61) := h 89 101 61 (Nat.succ_pos _) rfl
theorem tg_90 {Z : Shp} (h : OKZ Z) : tg Z 90 = (101, 8) := h 90 101 8 (Nat.succ_pos _) rfl
theorem tg_91 {Z : Shp} (h : OKZ Z) : tg Z 91 = (100, 8) := h 91 100 8 (Nat.succ_pos _) rfl
theorem tg_92 {Z : Shp} (h : OKZ Z) : tg Z 92 = (100, 8) := h 92 100 8 (Nat.succ_pos _) rfl
theorem tg_93 {Z : Shp} (h : OKZ Z) : tg Z 93 = (100, 8) := h 93 100 8 (Nat.succ_pos _) rfl
theorem tg_94 {Z : Shp} (h : OKZ Z) : tg Z 94 = (100, 8) := h 94 100 8 (Nat.succ_pos _) rfl
theorem tg_95 {Z : Shp} (h : OKZ Z) : tg Z 95 = (100, 10) := h 95 100 10 (Nat.succ_pos _) rfl
theorem tg_96 {Z : Shp} (h : OKZ Z) : tg Z 96 = (100, 10) := h 96 100 10 (Nat.succ_pos _) rfl
theorem tg_97 {Z : Shp} (h : OKZ Z) : tg Z 97 = (100, 8) := h 97 100 8 (Nat.succ_pos _) rfl
theorem tg_98 {Z : Shp} (h : OKZ Z) : tg Z 98 = (100, 8) := h 98 100 8 (Nat.succ_pos _) rfl
theorem tg_99 {Z : Shp} (h : OKZ Z) : tg Z 99 = (100, 4) := h 99 100 4 (Nat.succ_pos _) rfl
theorem tg_100 {Z : Shp} (h : OKZ Z) : tg Z 100 = (101, 12) := h 100 101 12 (Nat.succ_pos _) rfl
theorem tg_101 {Z : Shp} (h : OKZ Z) : tg Z 101 = (100, 12) := h 101 100 12 (Nat.succ_pos _) rfl
theorem tg_102 {Z : Shp} (h : OKZ Z) : tg Z 102 = (100, 6) := h 102 100 6 (Nat.succ_pos _) rfl
theorem tg_103 {Z : Shp} (h : OKZ Z) : tg Z 103 = (100, 24) := h 103 100 24 (Nat.succ_pos _) rfl
theorem tg_104 {Z : Shp} (h : OKZ Z) : tg Z 104 = (100, 24) := h 104 100 24 (Nat.succ_pos _) rfl
theorem tg_105 {Z : Shp} (h : OKZ Z) : tg Z 105 = (100, 24) := h 105 100 24 (Nat.succ_pos _) rfl
theorem tg_106 {Z : Shp} (h : OKZ Z) : tg Z 106 = (100, 24) := h 106 100 24 (Nat.succ_pos _) rfl
theorem tg_107 {Z : Shp} (h : OKZ Z) : tg Z 107 = (100, 8) := h 107 100 8 (Nat.succ_pos _) rfl
theorem tg_108 {Z : Shp} (h : OKZ Z) : tg Z 108 = (100, 8) := h 108 100 8 (Nat.succ_pos _) rfl
theorem tg_109 {Z : Shp} (h : OKZ Z) : tg Z 109 = (100, 8) := h 109 100 8 (Nat.succ_pos _) rfl
def FRl : List (Nat × Nat × Nat) := [(2, 0, 3), (3, 0, 4), (3, 1, 5), (3, 2, 6), (3, 3, 7), (3, 4, 8), (4, 0, 9), (4, 1, 10), (4, 2, 11), (4, 3, 12), (4, 4, 13), (4, 5, 14), (4, 6, 15), (4, 7, 16), (5, 0, 17), (5, 1, 18), (5, 2, 19), (5, 3, 20), (5, 4, 21), (5, 5, 22), (5, 6, 23), (2, 1, 24), (24, 0, 25), (24, 2, 26), (2, 2, 27), (27, 0, 28), (27, 1, 29), (27, 2, 30), (27, 8, 31), (2, 3, 32), (32, 0, 33), (32, 1, 34), (32, 3, 35), (32, 4, 36), (32, 5, 37), (32, 6, 38), (2, 4, 39), (39, 0, 40), (39, 1, 41), (39, 2, 42), (39, 3, 43), (39, 4, 44), (39, 5, 45), (39, 6, 46), (2, 5, 47), (47, 0, 48), (47, 1, 49), (47, 2, 50), (51, 0, 52), (51, 1, 53), (51, 2, 54), (51, 4, 55), (51, 5, 56), (51, 6, 57), (51, 7, 58), (51, 8, 59), (51, 9, 60), (51, 10, 61), (51, 16, 62), (51, 17, 63), (51, 18, 64), (51, 19, 65), (51, 20, 66), (51, 22, 67), (51, 23, 68), (51, 24, 69), (51, 25, 70), (51, 26, 71), (51, 27, 72), (51, 28, 73), (51, 29, 74), (51, 30, 75), (51, 31, 76), (51, 32, 77), (51, 33, 78), (51, 36, 79), (51, 37, 80), (51, 38, 81), (51, 39, 82), (51, 40, 83), (51, 41, 84), (51, 42, 85), (51, 51, 86), (51, 52, 87), (51, 54, 88), (51, 56, 89), (51, 58, 90), (51, 59, 91), (51, 60, 92), (51, 62, 93), (51, 63, 94), (51, 67, 95), (51, 68, 96), (51, 69, 97), (51, 70, 98), (51, 71, 99), (51, 72, 100), (51, 73, 101), (51, 74, 102), (51, 76, 103), (51, 77, 104), (51, 78, 105), (51, 79, 106), (51, 82, 107), (51, 83, 108), (51, 84, 109)]
/-- the references that stay -/
def Fix (M : Mem) : Prop := ∀ p ∈ FRl, rR M p.1 p.2.1 = p.2.2
theorem fr_2_0 {M : Mem} (h : Fix M) : rR M 2 0 = 3 := h (2, 0, 3) (List.mem_of_getElem? (i := 0) rfl)
theorem fr_3_0 {M : Mem} (h : Fix M) : rR M 3 0 = 4 := h (3, 0, 4) (List.mem_of_getElem? (i := 1) rfl)
theorem fr_3_1 {M : Mem} (h : Fix M) : rR M 3 1 = 5 := h (3, 1, 5) (List.mem_of_getElem? (i := 2) rfl)
theorem fr_3_2 {M : Mem} (h : Fix M) : rR M 3 2 = 6 := h (3, 2, 6) (List.mem_of_getElem? (i := 3) rfl)
theorem fr_3_3 {M : Mem} (h : Fix M) : rR M 3 3 = 7 := h (3, 3, 7) (List.mem_of_getElem? (i := 4) rfl)
theorem fr_3_4 {M : Mem} (h : Fix M) : rR M 3 4 = 8 := h (3, 4, 8) (List.mem_of_getElem? (i := 5) rfl)
theorem fr_4_0 {M : Mem} (h : Fix M) : rR M 4 0 = 9 := h (4, 0, 9) (List.mem_of_getElem? (i := 6) rfl)
theorem fr_4_1 {M : Mem} (h : Fix M) : rR M 4 1 = 10 := h (4, 1, 10) (List.mem_of_getElem? (i := 7) rfl)
theorem fr_4_2 {M : Mem} (h : Fix M) : rR M 4 2 = 11 := h (4, 2, 11) (List.mem_of_getElem? (i := 8) rfl)
theorem fr_4_3 {M : Mem} (h : Fix M) : rR M 4 3 = 12 := h (4, 3, 12) (List.mem_of_getElem? (i := 9) rfl)
theorem fr_4_4 {M : Mem} (h : Fix M) : rR M 4 4 = 13 := h (4, 4, 13) (List.mem_of_getElem? (i := 10) rfl)
theorem fr_4_5 {M : Mem} (h : Fix M) : rR M 4 5 = 14 := h (4, 5, 14) (List.mem_of_getElem? (i := 11) rfl)
theorem fr_4_6 {M : Mem} (h : Fix M) : rR M 4 6 = 15 := h (4, 6, 15) (List.mem_of_getElem? (i := 12) rfl)
theorem fr_4_7 {M : Mem} (h : Fix M) : rR M 4 7 = 16 := h (4, 7, 16) (List.mem_of_getElem? (i := 13) rfl)
theorem fr_5_0 {M : Mem} (h : Fix M) : rR M 5 0 = 17 := h (5, 0, 17) (List.mem_of_getElem? (i := 14) rfl)
theorem fr_5_1 {M : Mem} (h : Fix M) : rR M 5 1 = 18 := h (5, 1, 18) (List.mem_of_getElem? (i := 15) rfl)
theorem fr_5_2 {M : Mem} (h : Fix M) : rR M 5 2 = 19 := h (5, 2, 19) (List.mem_of_getElem? (i := 16) rfl)
theorem fr_5_3 {M : Mem} (h : Fix M) : rR M 5 3 = 20 := h (5, 3, 20) (List.mem_of_getElem? (i := 17) rfl)
theorem fr_5_4 {M : Mem} (h : Fix M) : rR M 5 4 = 21 := h (5, 4, 21) (List.mem_of_getElem? (i := 18) rfl)
theorem fr_5_5 {M : Mem} (h : Fix M) : rR M 5 5 = 22 := h (5, 5, 22) (List.mem_of_getElem? (i := 19) rfl)
theorem fr_5_6 {M : Mem} (h : Fix M) : rR M 5 6 = 23 := h (5, 6, 23) (List.mem_of_getElem? (i := 20) rfl)
theorem fr_2_1 {M : Mem} (h : Fix M) : rR M 2 1 = 24 := h (2, 1, 24) (List.mem_of_getElem? (i := 21) rfl)
theorem fr_24_0 {M : Mem} (h : Fix M) : rR M 24 0 = 25 := h (24, 0, 25) (List.mem_of_getElem? (i := 22) rfl)
theorem fr_24_2 {M : Mem} (h : Fix M) : rR M 24 2 = 26 := h (24, 2, 26) (List.mem_of_getElem? (i := 23) rfl)
theorem fr_2_2 {M : Mem} (h : Fix M) : rR M 2 2 = 27 := h (2, 2, 27) (List.mem_of_getElem? (i := 24) rfl)
theorem fr_27_0 {M : Mem} (h : Fix M) : rR M 27 0 = 28 := h (27, 0, 28) (List.mem_of_getElem? (i := 25) rfl)
theorem fr_27_1 {M : Mem} (h : Fix M) : rR M 27 1 = 29 := h (27, 1, 29) (List.mem_of_getElem? (i := 26) rfl)
theorem fr_27_2 {M : Mem} (h : Fix M) : rR M 27 2 = 30 := h (27, 2, 30) (List.mem_of_getElem? (i := 27) rfl)
theorem fr_27_8 {M : Mem} (h : Fix M) : rR M 27 8 = 31 := h (27, 8, 31) (List.mem_of_getElem? (i := 28) rfl)
theorem fr_2_3 {M : Mem} (h : Fix M) : rR M 2 3 = 32 := h (2, 3, 32) (List.mem_of_getElem? (i := 29) rfl)
theorem fr_32_0 {M : Mem} (h : Fix M) : rR M 32 0 = 33 := h (32, 0, 33) (List.mem_of_getElem? (i := 30) rfl)
theorem fr_32_1 {M : Mem} (h : Fix M) : rR M 32 1 = 34 := h (32, 1, 34) (List.mem_of_getElem? (i := 31) rfl)
theorem fr_32_3 {M : Mem} (h : Fix M) : rR M 32 3 = 35 := h (32, 3, 35) (List.mem_of_getElem? (i := 32) rfl)
theorem fr_32_4 {M : Mem} (h : Fix M) : rR M 32 4 = 36 := h (32, 4, 36) (List.mem_of_getElem? (i := 33) rfl)
theorem fr_32_5 {M : Mem} (h : Fix M) : rR M 32 5 = 37 := h (32, 5, 37) (List.mem_of_getElem? (i := 34) rfl)
theorem fr_32_6 {M : Mem} (h : Fix M) : rR M 32 6 = 38 := h (32, 6, 38) (List.mem_of_getElem? (i := 35) rfl)
theorem fr_2_4 {M : Mem} (h : Fix M) : rR M 2 4 = 39 := h (2, 4, 39) (List.mem_of_getElem? (i := 36) rfl)
theorem fr_39_0 {M : Mem} (h : Fix M) : rR M 39 0 = 40 := h (39, 0, 40) (List.mem_of_getElem? (i := 37) rfl)
theorem fr_39_1 {M : Mem} (h : Fix M) : rR M 39 1 = 41 := h (39, 1, 41) (List.mem_of_getElem? (i := 38) rfl)
theorem fr_39_2 {M : Mem} (h : Fix M) : rR M 39 2 = 42 := h (39, 2, 42) (List.mem_of_getElem? (i := 39) rfl)
theorem fr_39_3 {M : Mem} (h : Fix M) : rR M 39 3 = 43 := h (39, 3, 43) (List.mem_of_getElem? (i := 40) rfl)
theorem fr_39_4 {M : Mem} (h : Fix M) : rR M 39 4 = 44 := h (39, 4, 44) (List.mem_of_getElem? (i := 41) rfl)
theorem fr_39_5 {M : Mem} (h : Fix M) : rR M 39 5 = 45 := h (39, 5, 45) (List.mem_of_getElem? (i := 42) rfl)
theorem fr_39_6 {M : Mem} (h : Fix M) : rR M 39 6 = 46 := h (39, 6, 46) (List.mem_of_getElem? (i := 43) rfl)
theorem fr_2_5 {M : Mem} (h : Fix M) : rR M 2 5 = 47 := h (2, 5, 47) (List.mem_of_getElem? (i := 44) rfl)
theorem fr_47_0 {M : Mem} (h : Fix M) : rR M 47 0 = 48 := h (47, 0, 48) (List.mem_of_getElem? (i := 45) rfl)
theorem fr_47_1 {M : Mem} (h : Fix M) : rR M 47 1 = 49 := h (47, 1, 49) (List.mem_of_getElem? (i := 46) rfl)
theorem fr_47_2 {M : Mem} (h : Fix M) : rR M 47 2 = 50 := h (47, 2, 50) (List.mem_of_getElem? (i := 47) rfl)
theorem fr_51_0 {M : Mem} (h : Fix M) : rR M 51 0 = 52 := h (51, 0, 52) (List.mem_of_getElem? (i := 48) rfl)
theorem fr_51_1 {M : Mem} (h : Fix M) : rR M 51 1 = 53 := h (51, 1, 53) (List.mem_of_getElem? (i := 49) rfl)
theorem fr_51_2 {M : Mem} (h : Fix M) : rR M 51 2 = 54 := h (51, 2, 54) (List.mem_of_getElem? (i := 50) rfl)
theorem fr_51_4 {M : Mem} (h : Fix M) : rR M 51 4 = 55 := h (51, 4, 55) (List.mem_of_getElem? (i := 51) rfl)
theorem fr_51_5 {M : Mem} (h : Fix M) : rR M 51 5 = 56 := h (51, 5, 56) (List.mem_of_getElem? (i := 52) rfl)
theorem fr_51_6 {M : Mem} (h : Fix M) : rR M 51 6 = 57 := h (51, 6, 57) (List.mem_of_getElem? (i := 53) rfl)
theorem fr_51_7 {M : Mem} (h : Fix M) : rR M 51 7 = 58 := h (51, 7, 58) (List.mem_of_getElem? (i := 54) rfl)
theorem fr_51_8 {M : Mem} (h : Fix M) : rR M 51 8 = 59 := h (51, 8, 59) (List.mem_of_getElem? (i := 55) rfl)
theorem fr_51_9 {M : Mem} (h : Fix M) : rR M 51 9 = 60 := h (51, 9, 60) (List.mem_of_getElem? (i := 56) rfl)
theorem fr_51_10 {M : Mem} (h : Fix M) : rR M 51 10 = 61 := h (51, 10, 61) (List.mem_of_getElem? (i := 57) rfl)
theorem fr_51_16 {M : Mem} (h : Fix M) : rR M 51 16 = 62 := h (51, 16, 62) (List.mem_of_getElem? (i := 58) rfl)
theorem fr_51_17 {M : Mem} (h : Fix M) : rR M 51 17 = 63 := h (51, 17, 63) (List.mem_of_getElem? (i := 59) rfl)
theorem fr_51_18 {M : Mem} (h : Fix M) : rR M 51 18 = 64 := h (51, 18, 64) (List.mem_of_getElem? (i := 60) rfl)
theorem fr_51_19 {M : Mem} (h : Fix M) : rR M 51 19 = 65 := h (51, 19, 65) (List.mem_of_getElem? (i := 61) rfl)
theorem fr_51_20 {M : Mem} (h : Fix M) : rR M 51 20 = 66 := h (51, 20, 66) (List.mem_of_getElem? (i := 62) rfl)
theorem fr_51_22 {M : Mem} (h : Fix M) : rR M 51 22 = 67 := h (51, 22, 67) (List.mem_of_getElem? (i := 63) rfl)
theorem fr_51_23 {M : Mem} (h : Fix M) : rR M 51 23 = 68 := h (51, 23, 68) (List.mem_of_getElem? (i := 64) rfl)
theorem fr_51_24 {M : Mem} (h : Fix M) : rR M 51 24 = 69 := h (51, 24, 69) (List.mem_of_getElem? (i := 65) rfl)
theorem fr_51_25 {M : Mem} (h : Fix M) : rR M 51 25 = 70 := h (51, 25, 70) (List.mem_of_getElem? (i := 66) rfl)
theorem fr_51_26 {M : Mem} (h : Fix M) : rR M 51 26 = 71 := h (51, 26, 71) (List.mem_of_getElem? (i := 67) rfl)
theorem fr_51_27 {M : Mem} (h : Fix M) : rR M 51 27 = 72 := h (51, 27, 72) (List.mem_of_getElem? (i := 68) rfl)
theorem fr_51_28 {M : Mem} (h : Fix M) : rR M 51 28 = 73 := h (51, 28, 73) (List.mem_of_getElem? (i := 69) rfl)
theorem fr_51_29 {M : Mem} (h : Fix M) : rR M 51 29 = 74 := h (51, 29, 74) (List.mem_of_getElem? (i := 70) rfl)
theorem fr_51_30 {M : Mem} (h : Fix M) : rR M 51 30 = 75 := h (51, 30, 75) (List.mem_of_getElem? (i := 71) rfl)
theorem fr_51_31 {M : Mem} (h : Fix M) : rR M 51 31 = 76 := h (51, 31, 76) (List.mem_of_getElem? (i := 72) rfl)
theorem fr_51_32 {M : Mem} (h : Fix M) : rR M 51 32 = 77 := h (51, 32, 77) (List.mem_of_getElem? (i := 73) rfl)
theorem fr_51_33 {M : Mem} (h : Fix M) : rR M 51 33 = 78 := h (51, 33, 78) (List.mem_of_getElem? (i := 74) rfl)
theorem fr_51_36 {M : Mem} (h : Fix M) : rR M 51 36 = 79 := h (51, 36, 79) (List.mem_of_getElem? (i := 75) rfl)
theorem fr_51_37 {M : Mem} (h : Fix M) : rR M 51 37 = 80 := h (51, 37, 80) (List.mem_of_getElem? (i := 76) rfl)
theorem fr_51_38 {M : Mem} (h : Fix M) : rR M 51 38 = 81 := h (51, 38, 81) (List.mem_of_getElem? (i := 77) rfl)
theorem fr_51_39 {M : Mem} (h : Fix M) : rR M 51 39 = 82 := h (51, 39, 82) (List.mem_of_getElem? (i := 78) rfl)
theorem fr_51_40 {M : Mem} (h : Fix M) : rR M 51 40 = 83 := h (51, 40, 83) (List.mem_of_getElem? (i := 79) rfl)
theorem fr_51_41 {M : Mem} (h : Fix M) : rR M 51 41 = 84 := h (51, 41, 84) (List.mem_of_getElem? (i := 80) rfl)
theorem fr_51_42 {M : Mem} (h : Fix M) : rR M 51 42 = 85 := h (51, 42, 85) (List.mem_of_getElem? (i := 81) rfl)
theorem fr_51_51 {M : Mem} (h : Fix M) : rR M 51 51 = 86 := h (51, 51, 86) (List.mem_of_getElem? (i := 82) rfl)
theorem fr_51_52 {M : Mem} (h : Fix M) : rR M 51 52 = 87 := h (51, 52, 87) (List.mem_of_getElem? (i := 83) rfl)
theorem fr_51_54 {M : Mem} (h : Fix M) : rR M 51 54 = 88 := h (51, 54, 88) (List.mem_of_getElem? (i := 84) rfl)
theorem fr_51_56 {M : Mem} (h : Fix M) : rR M 51 56 = 89 := h (51, 56, 89) (List.mem_of_getElem? (i := 85) rfl)
theorem fr_51_58 {M : Mem} (h : Fix M) : rR M 51 58 = 90 := h (51, 58, 90) (List.mem_of_getElem? (i := 86) rfl)
theorem fr_51_59 {M : Mem} (h : Fix M) : rR M 51 59 = 91 := h (51, 59, 91) (List.mem_of_getElem? (i := 87) rfl)
theorem fr_51_60 {M : Mem} (h : Fix M) : rR M 51 60 = 92 := h (51, 60, 92) (List.mem_of_getElem? (i := 88) rfl)
theorem fr_51_62 {M : Mem} (h : Fix M) : rR M 51 62 = 93 := h (51, 62, 93) (List.mem_of_getElem? (i := 89) rfl)
theorem fr_51_63 {M : Mem} (h : Fix M) : rR M 51 63 = 94 := h (51, 63, 94) (List.mem_of_getElem? (i := 90) rfl)
theorem fr_51_67 {M : Mem} (h : Fix M) : rR M 51 67 = 95 := h (51, 67, 95) (List.mem_of_getElem? (i := 91) rfl)
theorem fr_51_68 {M : Mem} (h : Fix M) : rR M 51 68 = 96 := h (51, 68, 96) (List.mem_of_getElem? (i := 92) rfl)
theorem fr_51_69 {M : Mem} (h : Fix M) : rR M 51 69 = 97 := h (51, 69, 97) (List.mem_of_getElem? (i := 93) rfl)
theorem fr_51_70 {M : Mem} (h : Fix M) : rR M 51 70 = 98 := h (51, 70, 98) (List.mem_of_getElem? (i := 94) rfl)
theorem fr_51_71 {M : Mem} (h : Fix M) : rR M 51 71 = 99 := h (51, 71, 99) (List.mem_of_getElem? (i := 95) rfl)
theorem fr_51_72 {M : Mem} (h : Fix M) : rR M 51 72 = 100 := h (51, 72, 100) (List.mem_of_getElem? (i := 96) rfl)
theorem fr_51_73 {M : Mem} (h : Fix M) : rR M 51 73 = 101 := h (51, 73, 101) (List.mem_of_getElem? (i := 97) rfl)
theorem fr_51_74 {M : Mem} (h : Fix M) : rR M 51 74 = 102 := h (51, 74, 102) (List.mem_of_getElem? (i := 98) rfl)
theorem fr_51_76 {M : Mem} (h : Fix M) : rR M 51 76 = 103 := h (51, 76, 103) (List.mem_of_getElem? (i := 99) rfl)
theorem fr_51_77 {M : Mem} (h : Fix M) : rR M 51 77 = 104 := h (51, 77, 104) (List.mem_of_getElem? (i := 100) rfl)
theorem fr_51_78 {M : Mem} (h : Fix M) : rR M 51 78 = 105 := h (51, 78, 105) (List.mem_of_getElem? (i := 101) rfl)
theorem fr_51_79 {M : Mem} (h : Fix M) : rR M 51 79 = 106 := h (51, 79, 106) (List.mem_of_getElem? (i := 102) rfl)
theorem fr_51_82 {M : Mem} (h : Fix M) : rR M 51 82 = 107 := h (51, 82, 107) (List.mem_of_getElem? (i := 103) rfl)
theorem fr_51_83 {M : Mem} (h : Fix M) : rR M 51 83 = 108 := h (51, 83, 108) (List.mem_of_getElem? (i := 104) rfl)
theorem fr_51_84 {M : Mem} (h : Fix M) : rR M 51 84 = 109 := h (51, 84, 109) (List.mem_of_getElem? (i := 105) rfl)
theorem fr_p {M : Mem} (h : Fix M) {p : Nat} (hp : p < 8) : rR M 4 p = 9 + p := match p, hp with
  | 0, _ => fr_4_0 h
  | 1, _ => fr_4_1 h
  | 2, _ => fr_4_2 h
  | 3, _ => fr_4_3 h
  | 4, _ => fr_4_4 h
  | 5, _ => fr_4_5 h
  | 6, _ => fr_4_6 h
  | 7, _ => fr_4_7 h
  | _ + 8, h => absurd h (by omega)
theorem fr_l {M : Mem} (h : Fix M) {p : Nat} (hp : p < 7) : rR M 5 p = 17 + p := match p, hp with
  | 0, _ => fr_5_0 h
  | 1, _ => fr_5_1 h
  | 2, _ => fr_5_2 h
  | 3, _ => fr_5_3 h
  | 4, _ => fr_5_4 h
  | 5, _ => fr_5_5 h
  | 6, _ => fr_5_6 h
  | _ + 7, h => absurd h (by omega)
theorem tg_p {Z : Shp} (h : OKZ Z) {p : Nat} (hp : p < 8) : tg Z (9 + p) = (7, 3) := match p, hp with
  | 0, _ => tg_9 h
  | 1, _ => tg_10 h
  | 2, _ => tg_11 h
  | 3, _ => tg_12 h
  | 4, _ => tg_13 h
  | 5, _ => tg_14 h
  | 6, _ => tg_15 h
  | 7, _ => tg_16 h
  | _ + 8, h => absurd h (by omega)
theorem tg_l {Z : Shp} (h : OKZ Z) {p : Nat} (hp : p < 7) : tg Z (17 + p) = (5, 7) := match p, hp with
  | 0, _ => tg_17 h
  | 1, _ => tg_18 h
  | 2, _ => tg_19 h
  | 3, _ => tg_20 h
  | 4, _ => tg_21 h
  | 5, _ => tg_22 h
  | 6, _ => tg_23 h
  | _ + 7, h => absurd h (by omega)
theorem Fix_wI {M : Mem} {a k : Nat} {v : Int32} (h : Fix M) : Fix (wI M a k v) := h
theorem Fix_wJ {M : Mem} {a k : Nat} {v : Int64} (h : Fix M) : Fix (wJ M a k v) := h
theorem Fix_wR {M : Mem} {a k v : Nat} (h : Fix M) (hn : FRl.all (fun p => !(p.1 == a && p.2.1 == k)) = true) : Fix (wR M a k v) := fun p hp => by
  rw [rR_wR, if_neg]
  · exact h p hp
  · rintro ⟨rfl, rfl⟩
    have := List.all_eq_true.mp hn p hp
    simp at this
theorem Fix_wRa {M : Mem} {a k v : Nat} (h : Fix M) (hn : FRl.all (fun p => !(p.1 == a)) = true) : Fix (wR M a k v) := fun p hp => by
  rw [rR_wR, if_neg]
  · exact h p hp
  · rintro ⟨rfl, -⟩
    have := List.all_eq_true.mp hn p hp
    simp at this
