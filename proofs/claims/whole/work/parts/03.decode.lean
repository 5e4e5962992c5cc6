theorem dX0_init_0 : decode cX0_init 0 = .ok (.aload_n 0, 1) := by decide +kernel
theorem dX0_init_1 : decode cX0_init 1 = .ok (.invokespecial 3, 3) := by decide +kernel
theorem dX0_init_4 : decode cX0_init 4 = .ok (.aload_n 0, 1) := by decide +kernel
theorem dX0_init_5 : decode cX0_init 5 = .ok (.bipush 10, 2) := by decide +kernel
theorem dX0_init_7 : decode cX0_init 7 = .ok (.newarray .int, 2) := by decide +kernel
theorem dX0_init_9 : decode cX0_init 9 = .ok (.putfield 11, 3) := by decide +kernel
theorem dX0_init_12 : decode cX0_init 12 = .ok (.aload_n 0, 1) := by decide +kernel
theorem dX0_init_13 : decode cX0_init 13 = .ok (.bipush 10, 2) := by decide +kernel
theorem dX0_init_15 : decode cX0_init 15 = .ok (.newarray .int, 2) := by decide +kernel
theorem dX0_init_17 : decode cX0_init 17 = .ok (.putfield 15, 3) := by decide +kernel
theorem dX0_init_20 : decode cX0_init 20 = .ok (.aload_n 0, 1) := by decide +kernel
theorem dX0_init_21 : decode cX0_init 21 = .ok (.bipush 8, 2) := by decide +kernel
theorem dX0_init_23 : decode cX0_init 23 = .ok (.newarray .boolean, 2) := by decide +kernel
theorem dX0_init_25 : decode cX0_init 25 = .ok (.putfield 18, 3) := by decide +kernel
theorem dX0_init_28 : decode cX0_init 28 = .ok (.aload_n 0, 1) := by decide +kernel
theorem dX0_init_29 : decode cX0_init 29 = .ok (.bipush 8, 2) := by decide +kernel
theorem dX0_init_31 : decode cX0_init 31 = .ok (.newarray .int, 2) := by decide +kernel
theorem dX0_init_33 : decode cX0_init 33 = .ok (.putfield 22, 3) := by decide +kernel
theorem dX0_init_36 : decode cX0_init 36 = .ok (.aload_n 0, 1) := by decide +kernel
theorem dX0_init_37 : decode cX0_init 37 = .ok (.bipush 8, 2) := by decide +kernel
theorem dX0_init_39 : decode cX0_init 39 = .ok (.newarray .int, 2) := by decide +kernel
theorem dX0_init_41 : decode cX0_init 41 = .ok (.putfield 25, 3) := by decide +kernel
theorem dX0_init_44 : decode cX0_init 44 = .ok (.aload_n 0, 1) := by decide +kernel
theorem dX0_init_45 : decode cX0_init 45 = .ok (.bipush 8, 2) := by decide +kernel
theorem dX0_init_47 : decode cX0_init 47 = .ok (.newarray .int, 2) := by decide +kernel
theorem dX0_init_49 : decode cX0_init 49 = .ok (.putfield 28, 3) := by decide +kernel
theorem dX0_init_52 : decode cX0_init 52 = .ok (.return_, 1) := by decide +kernel
theorem dX0_add_0 : decode cX0_add 0 = .ok (.aload_n 0, 1) := by decide +kernel
theorem dX0_add_1 : decode cX0_add 1 = .ok (.getfield 31, 3) := by decide +kernel
theorem dX0_add_4 : decode cX0_add 4 = .ok (.bipush 10, 2) := by decide +kernel
theorem dX0_add_6 : decode cX0_add 6 = .ok (.if_icmp .lt 6, 3) := by decide +kernel
theorem dX0_add_9 : decode cX0_add 9 = .ok (.bipush (-104), 2) := by decide +kernel
theorem dX0_add_11 : decode cX0_add 11 = .ok (.ireturn, 1) := by decide +kernel
theorem dX0_add_12 : decode cX0_add 12 = .ok (.aload_n 0, 1) := by decide +kernel
theorem dX0_add_13 : decode cX0_add 13 = .ok (.getfield 11, 3) := by decide +kernel
theorem dX0_add_16 : decode cX0_add 16 = .ok (.aload_n 0, 1) := by decide +kernel
theorem dX0_add_17 : decode cX0_add 17 = .ok (.getfield 31, 3) := by decide +kernel
theorem dX0_add_20 : decode cX0_add 20 = .ok (.iload_n 1, 1) := by decide +kernel
theorem dX0_add_21 : decode cX0_add 21 = .ok (.iastore, 1) := by decide +kernel
theorem dX0_add_22 : decode cX0_add 22 = .ok (.aload_n 0, 1) := by decide +kernel
theorem dX0_add_23 : decode cX0_add 23 = .ok (.getfield 15, 3) := by decide +kernel
theorem dX0_add_26 : decode cX0_add 26 = .ok (.aload_n 0, 1) := by decide +kernel
theorem dX0_add_27 : decode cX0_add 27 = .ok (.getfield 31, 3) := by decide +kernel
theorem dX0_add_30 : decode cX0_add 30 = .ok (.iload_n 2, 1) := by decide +kernel
theorem dX0_add_31 : decode cX0_add 31 = .ok (.iastore, 1) := by decide +kernel
theorem dX0_add_32 : decode cX0_add 32 = .ok (.aload_n 0, 1) := by decide +kernel
theorem dX0_add_33 : decode cX0_add 33 = .ok (.dup, 1) := by decide +kernel
theorem dX0_add_34 : decode cX0_add 34 = .ok (.getfield 31, 3) := by decide +kernel
theorem dX0_add_37 : decode cX0_add 37 = .ok (.dup_x1, 1) := by decide +kernel
theorem dX0_add_38 : decode cX0_add 38 = .ok (.iconst 1, 1) := by decide +kernel
theorem dX0_add_39 : decode cX0_add 39 = .ok (.iadd, 1) := by decide +kernel
theorem dX0_add_40 : decode cX0_add 40 = .ok (.putfield 31, 3) := by decide +kernel
theorem dX0_add_43 : decode cX0_add 43 = .ok (.ireturn, 1) := by decide +kernel
theorem dX0_note_0 : decode cX0_note 0 = .ok (.aload_n 0, 1) := by decide +kernel
theorem dX0_note_1 : decode cX0_note 1 = .ok (.getfield 18, 3) := by decide +kernel
theorem dX0_note_4 : decode cX0_note 4 = .ok (.iload_n 1, 1) := by decide +kernel
theorem dX0_note_5 : decode cX0_note 5 = .ok (.iconst 1, 1) := by decide +kernel
theorem dX0_note_6 : decode cX0_note 6 = .ok (.bastore, 1) := by decide +kernel
theorem dX0_note_7 : decode cX0_note 7 = .ok (.aload_n 0, 1) := by decide +kernel
theorem dX0_note_8 : decode cX0_note 8 = .ok (.getfield 22, 3) := by decide +kernel
theorem dX0_note_11 : decode cX0_note 11 = .ok (.iload_n 1, 1) := by decide +kernel
theorem dX0_note_12 : decode cX0_note 12 = .ok (.iload_n 2, 1) := by decide +kernel
theorem dX0_note_13 : decode cX0_note 13 = .ok (.iastore, 1) := by decide +kernel
theorem dX0_note_14 : decode cX0_note 14 = .ok (.aload_n 0, 1) := by decide +kernel
theorem dX0_note_15 : decode cX0_note 15 = .ok (.getfield 25, 3) := by decide +kernel
theorem dX0_note_18 : decode cX0_note 18 = .ok (.iload_n 1, 1) := by decide +kernel
theorem dX0_note_19 : decode cX0_note 19 = .ok (.iload_n 3, 1) := by decide +kernel
theorem dX0_note_20 : decode cX0_note 20 = .ok (.iastore, 1) := by decide +kernel
theorem dX0_note_21 : decode cX0_note 21 = .ok (.return_, 1) := by decide +kernel
theorem dX0_readings_0 : decode cX0_readings 0 = .ok (.iconst 0, 1) := by decide +kernel
theorem dX0_readings_1 : decode cX0_readings 1 = .ok (.istore_n 1, 1) := by decide +kernel
theorem dX0_readings_2 : decode cX0_readings 2 = .ok (.iconst 0, 1) := by decide +kernel
theorem dX0_readings_3 : decode cX0_readings 3 = .ok (.istore_n 2, 1) := by decide +kernel
theorem dX0_readings_4 : decode cX0_readings 4 = .ok (.iload_n 2, 1) := by decide +kernel
theorem dX0_readings_5 : decode cX0_readings 5 = .ok (.bipush 8, 2) := by decide +kernel
theorem dX0_readings_7 : decode cX0_readings 7 = .ok (.if_icmp .ge 26, 3) := by decide +kernel
theorem dX0_readings_10 : decode cX0_readings 10 = .ok (.iload_n 1, 1) := by decide +kernel
theorem dX0_readings_11 : decode cX0_readings 11 = .ok (.aload_n 0, 1) := by decide +kernel
theorem dX0_readings_12 : decode cX0_readings 12 = .ok (.getfield 18, 3) := by decide +kernel
theorem dX0_readings_15 : decode cX0_readings 15 = .ok (.iload_n 2, 1) := by decide +kernel
theorem dX0_readings_16 : decode cX0_readings 16 = .ok (.baload, 1) := by decide +kernel
theorem dX0_readings_17 : decode cX0_readings 17 = .ok (.ifCond .eq 7, 3) := by decide +kernel
theorem dX0_readings_20 : decode cX0_readings 20 = .ok (.iconst 1, 1) := by decide +kernel
theorem dX0_readings_21 : decode cX0_readings 21 = .ok (.goto 4, 3) := by decide +kernel
theorem dX0_readings_24 : decode cX0_readings 24 = .ok (.iconst 0, 1) := by decide +kernel
theorem dX0_readings_25 : decode cX0_readings 25 = .ok (.iadd, 1) := by decide +kernel
theorem dX0_readings_26 : decode cX0_readings 26 = .ok (.istore_n 1, 1) := by decide +kernel
theorem dX0_readings_27 : decode cX0_readings 27 = .ok (.iinc 2 1, 3) := by decide +kernel
theorem dX0_readings_30 : decode cX0_readings 30 = .ok (.goto (-26), 3) := by decide +kernel
theorem dX0_readings_33 : decode cX0_readings 33 = .ok (.iload_n 1, 1) := by decide +kernel
theorem dX0_readings_34 : decode cX0_readings 34 = .ok (.ireturn, 1) := by decide +kernel
theorem dX0_forget_0 : decode cX0_forget 0 = .ok (.iconst 0, 1) := by decide +kernel
theorem dX0_forget_1 : decode cX0_forget 1 = .ok (.istore_n 1, 1) := by decide +kernel
theorem dX0_forget_2 : decode cX0_forget 2 = .ok (.iload_n 1, 1) := by decide +kernel
theorem dX0_forget_3 : decode cX0_forget 3 = .ok (.bipush 8, 2) := by decide +kernel
theorem dX0_forget_5 : decode cX0_forget 5 = .ok (.if_icmp .ge 16, 3) := by decide +kernel
theorem dX0_forget_8 : decode cX0_forget 8 = .ok (.aload_n 0, 1) := by decide +kernel
theorem dX0_forget_9 : decode cX0_forget 9 = .ok (.getfield 18, 3) := by decide +kernel
theorem dX0_forget_12 : decode cX0_forget 12 = .ok (.iload_n 1, 1) := by decide +kernel
theorem dX0_forget_13 : decode cX0_forget 13 = .ok (.iconst 0, 1) := by decide +kernel
theorem dX0_forget_14 : decode cX0_forget 14 = .ok (.bastore, 1) := by decide +kernel
theorem dX0_forget_15 : decode cX0_forget 15 = .ok (.iinc 1 1, 3) := by decide +kernel
theorem dX0_forget_18 : decode cX0_forget 18 = .ok (.goto (-16), 3) := by decide +kernel
theorem dX0_forget_21 : decode cX0_forget 21 = .ok (.return_, 1) := by decide +kernel
theorem dX0_search_0 : decode cX0_search 0 = .ok (.aload_n 0, 1) := by decide +kernel
theorem dX0_search_1 : decode cX0_search 1 = .ok (.iconst (-1), 1) := by decide +kernel
theorem dX0_search_2 : decode cX0_search 2 = .ok (.putfield 35, 3) := by decide +kernel
theorem dX0_search_5 : decode cX0_search 5 = .ok (.aload_n 0, 1) := by decide +kernel
theorem dX0_search_6 : decode cX0_search 6 = .ok (.iconst 0, 1) := by decide +kernel
theorem dX0_search_7 : decode cX0_search 7 = .ok (.putfield 38, 3) := by decide +kernel
theorem dX0_search_10 : decode cX0_search 10 = .ok (.aload_n 0, 1) := by decide +kernel
theorem dX0_search_11 : decode cX0_search 11 = .ok (.getfield 31, 3) := by decide +kernel
theorem dX0_search_14 : decode cX0_search 14 = .ok (.iconst 1, 1) := by decide +kernel
theorem dX0_search_15 : decode cX0_search 15 = .ok (.iadd, 1) := by decide +kernel
theorem dX0_search_16 : decode cX0_search 16 = .ok (.istore_n 1, 1) := by decide +kernel
theorem dX0_search_17 : decode cX0_search 17 = .ok (.aload_n 0, 1) := by decide +kernel
theorem dX0_search_18 : decode cX0_search 18 = .ok (.getfield 28, 3) := by decide +kernel
theorem dX0_search_21 : decode cX0_search 21 = .ok (.iconst 0, 1) := by decide +kernel
theorem dX0_search_22 : decode cX0_search 22 = .ok (.invokestatic 41, 3) := by decide +kernel
theorem dX0_search_25 : decode cX0_search 25 = .ok (.iconst 0, 1) := by decide +kernel
theorem dX0_search_26 : decode cX0_search 26 = .ok (.istore_n 2, 1) := by decide +kernel
theorem dX0_search_27 : decode cX0_search 27 = .ok (.iload_n 2, 1) := by decide +kernel
theorem dX0_search_28 : decode cX0_search 28 = .ok (.iconst 1, 1) := by decide +kernel
theorem dX0_search_29 : decode cX0_search 29 = .ok (.aload_n 0, 1) := by decide +kernel
theorem dX0_search_30 : decode cX0_search 30 = .ok (.getfield 31, 3) := by decide +kernel
theorem dX0_search_33 : decode cX0_search 33 = .ok (.ishl, 1) := by decide +kernel
theorem dX0_search_34 : decode cX0_search 34 = .ok (.if_icmp .ge 76, 3) := by decide +kernel
theorem dX0_search_37 : decode cX0_search 37 = .ok (.iload_n 2, 1) := by decide +kernel
theorem dX0_search_38 : decode cX0_search 38 = .ok (.ifCond .le 8, 3) := by decide +kernel
theorem dX0_search_41 : decode cX0_search 41 = .ok (.aload_n 0, 1) := by decide +kernel
theorem dX0_search_42 : decode cX0_search 42 = .ok (.iload_n 2, 1) := by decide +kernel
theorem dX0_search_43 : decode cX0_search 43 = .ok (.invokevirtual 47, 3) := by decide +kernel
theorem dX0_search_46 : decode cX0_search 46 = .ok (.iload_n 2, 1) := by decide +kernel
theorem dX0_search_47 : decode cX0_search 47 = .ok (.invokestatic 51, 3) := by decide +kernel
theorem dX0_search_50 : decode cX0_search 50 = .ok (.istore_n 3, 1) := by decide +kernel
theorem dX0_search_51 : decode cX0_search 51 = .ok (.iload_n 3, 1) := by decide +kernel
theorem dX0_search_52 : decode cX0_search 52 = .ok (.iload_n 1, 1) := by decide +kernel
theorem dX0_search_53 : decode cX0_search 53 = .ok (.if_icmp .gt 51, 3) := by decide +kernel
theorem dX0_search_56 : decode cX0_search 56 = .ok (.aload_n 0, 1) := by decide +kernel
theorem dX0_search_57 : decode cX0_search 57 = .ok (.invokevirtual 57, 3) := by decide +kernel
theorem dX0_search_60 : decode cX0_search 60 = .ok (.ifCond .ne 6, 3) := by decide +kernel
theorem dX0_search_63 : decode cX0_search 63 = .ok (.goto 41, 3) := by decide +kernel
theorem dX0_search_66 : decode cX0_search 66 = .ok (.aload_n 0, 1) := by decide +kernel
theorem dX0_search_67 : decode cX0_search 67 = .ok (.iload_n 3, 1) := by decide +kernel
theorem dX0_search_68 : decode cX0_search 68 = .ok (.iload_n 1, 1) := by decide +kernel
theorem dX0_search_69 : decode cX0_search 69 = .ok (.if_icmp .ne 12, 3) := by decide +kernel
theorem dX0_search_72 : decode cX0_search 72 = .ok (.aload_n 0, 1) := by decide +kernel
theorem dX0_search_73 : decode cX0_search 73 = .ok (.getfield 38, 3) := by decide +kernel
theorem dX0_search_76 : decode cX0_search 76 = .ok (.iconst 1, 1) := by decide +kernel
theorem dX0_search_77 : decode cX0_search 77 = .ok (.iadd, 1) := by decide +kernel
theorem dX0_search_78 : decode cX0_search 78 = .ok (.goto 4, 3) := by decide +kernel
theorem dX0_search_81 : decode cX0_search 81 = .ok (.iconst 0, 1) := by decide +kernel
theorem dX0_search_82 : decode cX0_search 82 = .ok (.putfield 38, 3) := by decide +kernel
theorem dX0_search_85 : decode cX0_search 85 = .ok (.aload_n 0, 1) := by decide +kernel
theorem dX0_search_86 : decode cX0_search 86 = .ok (.iload_n 3, 1) := by decide +kernel
theorem dX0_search_87 : decode cX0_search 87 = .ok (.iload_n 1, 1) := by decide +kernel
theorem dX0_search_88 : decode cX0_search 88 = .ok (.if_icmp .ne 10, 3) := by decide +kernel
theorem dX0_search_91 : decode cX0_search 91 = .ok (.aload_n 0, 1) := by decide +kernel
theorem dX0_search_92 : decode cX0_search 92 = .ok (.getfield 35, 3) := by decide +kernel
theorem dX0_search_95 : decode cX0_search 95 = .ok (.goto 4, 3) := by decide +kernel
theorem dX0_search_98 : decode cX0_search 98 = .ok (.iload_n 2, 1) := by decide +kernel
theorem dX0_search_99 : decode cX0_search 99 = .ok (.putfield 35, 3) := by decide +kernel
theorem dX0_search_102 : decode cX0_search 102 = .ok (.iload_n 3, 1) := by decide +kernel
theorem dX0_search_103 : decode cX0_search 103 = .ok (.istore_n 1, 1) := by decide +kernel
theorem dX0_search_104 : decode cX0_search 104 = .ok (.iinc 2 1, 3) := by decide +kernel
theorem dX0_search_107 : decode cX0_search 107 = .ok (.goto (-80), 3) := by decide +kernel
theorem dX0_search_110 : decode cX0_search 110 = .ok (.return_, 1) := by decide +kernel
theorem dX0_turnTo_0 : decode cX0_turnTo 0 = .ok (.iload_n 1, 1) := by decide +kernel
theorem dX0_turnTo_1 : decode cX0_turnTo 1 = .ok (.iload_n 1, 1) := by decide +kernel
theorem dX0_turnTo_2 : decode cX0_turnTo 2 = .ok (.iconst 1, 1) := by decide +kernel
theorem dX0_turnTo_3 : decode cX0_turnTo 3 = .ok (.isub, 1) := by decide +kernel
theorem dX0_turnTo_4 : decode cX0_turnTo 4 = .ok (.ixor, 1) := by decide +kernel
theorem dX0_turnTo_5 : decode cX0_turnTo 5 = .ok (.istore_n 2, 1) := by decide +kernel
theorem dX0_turnTo_6 : decode cX0_turnTo 6 = .ok (.iconst 0, 1) := by decide +kernel
theorem dX0_turnTo_7 : decode cX0_turnTo 7 = .ok (.istore_n 3, 1) := by decide +kernel
theorem dX0_turnTo_8 : decode cX0_turnTo 8 = .ok (.iload_n 3, 1) := by decide +kernel
theorem dX0_turnTo_9 : decode cX0_turnTo 9 = .ok (.aload_n 0, 1) := by decide +kernel
theorem dX0_turnTo_10 : decode cX0_turnTo 10 = .ok (.getfield 31, 3) := by decide +kernel
theorem dX0_turnTo_13 : decode cX0_turnTo 13 = .ok (.if_icmp .ge 53, 3) := by decide +kernel
theorem dX0_turnTo_16 : decode cX0_turnTo 16 = .ok (.iload_n 2, 1) := by decide +kernel
theorem dX0_turnTo_17 : decode cX0_turnTo 17 = .ok (.iload_n 3, 1) := by decide +kernel
theorem dX0_turnTo_18 : decode cX0_turnTo 18 = .ok (.ishr, 1) := by decide +kernel
theorem dX0_turnTo_19 : decode cX0_turnTo 19 = .ok (.ifCond .eq 47, 3) := by decide +kernel
theorem dX0_turnTo_22 : decode cX0_turnTo 22 = .ok (.aload_n 0, 1) := by decide +kernel
theorem dX0_turnTo_23 : decode cX0_turnTo 23 = .ok (.getfield 28, 3) := by decide +kernel
theorem dX0_turnTo_26 : decode cX0_turnTo 26 = .ok (.aload_n 0, 1) := by decide +kernel
theorem dX0_turnTo_27 : decode cX0_turnTo 27 = .ok (.getfield 11, 3) := by decide +kernel
theorem dX0_turnTo_30 : decode cX0_turnTo 30 = .ok (.iload_n 3, 1) := by decide +kernel
theorem dX0_turnTo_31 : decode cX0_turnTo 31 = .ok (.iaload, 1) := by decide +kernel
theorem dX0_turnTo_32 : decode cX0_turnTo 32 = .ok (.dup2, 1) := by decide +kernel
theorem dX0_turnTo_33 : decode cX0_turnTo 33 = .ok (.iaload, 1) := by decide +kernel
theorem dX0_turnTo_34 : decode cX0_turnTo 34 = .ok (.iload_n 1, 1) := by decide +kernel
theorem dX0_turnTo_35 : decode cX0_turnTo 35 = .ok (.iload_n 3, 1) := by decide +kernel
theorem dX0_turnTo_36 : decode cX0_turnTo 36 = .ok (.invokestatic 61, 3) := by decide +kernel
theorem dX0_turnTo_39 : decode cX0_turnTo 39 = .ok (.ifCond .eq 12, 3) := by decide +kernel
theorem dX0_turnTo_42 : decode cX0_turnTo 42 = .ok (.aload_n 0, 1) := by decide +kernel
theorem dX0_turnTo_43 : decode cX0_turnTo 43 = .ok (.getfield 15, 3) := by decide +kernel
theorem dX0_turnTo_46 : decode cX0_turnTo 46 = .ok (.iload_n 3, 1) := by decide +kernel
theorem dX0_turnTo_47 : decode cX0_turnTo 47 = .ok (.iaload, 1) := by decide +kernel
theorem dX0_turnTo_48 : decode cX0_turnTo 48 = .ok (.goto 10, 3) := by decide +kernel
theorem dX0_turnTo_51 : decode cX0_turnTo 51 = .ok (.aload_n 0, 1) := by decide +kernel
theorem dX0_turnTo_52 : decode cX0_turnTo 52 = .ok (.getfield 15, 3) := by decide +kernel
theorem dX0_turnTo_55 : decode cX0_turnTo 55 = .ok (.iload_n 3, 1) := by decide +kernel
theorem dX0_turnTo_56 : decode cX0_turnTo 56 = .ok (.iaload, 1) := by decide +kernel
theorem dX0_turnTo_57 : decode cX0_turnTo 57 = .ok (.ineg, 1) := by decide +kernel
theorem dX0_turnTo_58 : decode cX0_turnTo 58 = .ok (.iadd, 1) := by decide +kernel
theorem dX0_turnTo_59 : decode cX0_turnTo 59 = .ok (.iastore, 1) := by decide +kernel
theorem dX0_turnTo_60 : decode cX0_turnTo 60 = .ok (.iinc 3 1, 3) := by decide +kernel
theorem dX0_turnTo_63 : decode cX0_turnTo 63 = .ok (.goto (-55), 3) := by decide +kernel
theorem dX0_turnTo_66 : decode cX0_turnTo 66 = .ok (.return_, 1) := by decide +kernel
theorem dX0_explains_0 : decode cX0_explains 0 = .ok (.iconst 0, 1) := by decide +kernel
theorem dX0_explains_1 : decode cX0_explains 1 = .ok (.istore_n 1, 1) := by decide +kernel
theorem dX0_explains_2 : decode cX0_explains 2 = .ok (.iload_n 1, 1) := by decide +kernel
theorem dX0_explains_3 : decode cX0_explains 3 = .ok (.bipush 8, 2) := by decide +kernel
theorem dX0_explains_5 : decode cX0_explains 5 = .ok (.if_icmp .ge 45, 3) := by decide +kernel
theorem dX0_explains_8 : decode cX0_explains 8 = .ok (.aload_n 0, 1) := by decide +kernel
theorem dX0_explains_9 : decode cX0_explains 9 = .ok (.getfield 18, 3) := by decide +kernel
theorem dX0_explains_12 : decode cX0_explains 12 = .ok (.iload_n 1, 1) := by decide +kernel
theorem dX0_explains_13 : decode cX0_explains 13 = .ok (.baload, 1) := by decide +kernel
theorem dX0_explains_14 : decode cX0_explains 14 = .ok (.ifCond .eq 30, 3) := by decide +kernel
theorem dX0_explains_17 : decode cX0_explains 17 = .ok (.aload_n 0, 1) := by decide +kernel
theorem dX0_explains_18 : decode cX0_explains 18 = .ok (.getfield 28, 3) := by decide +kernel
theorem dX0_explains_21 : decode cX0_explains 21 = .ok (.iload_n 1, 1) := by decide +kernel
theorem dX0_explains_22 : decode cX0_explains 22 = .ok (.iaload, 1) := by decide +kernel
theorem dX0_explains_23 : decode cX0_explains 23 = .ok (.aload_n 0, 1) := by decide +kernel
theorem dX0_explains_24 : decode cX0_explains 24 = .ok (.getfield 22, 3) := by decide +kernel
theorem dX0_explains_27 : decode cX0_explains 27 = .ok (.iload_n 1, 1) := by decide +kernel
theorem dX0_explains_28 : decode cX0_explains 28 = .ok (.iaload, 1) := by decide +kernel
theorem dX0_explains_29 : decode cX0_explains 29 = .ok (.isub, 1) := by decide +kernel
theorem dX0_explains_30 : decode cX0_explains 30 = .ok (.invokestatic 65, 3) := by decide +kernel
theorem dX0_explains_33 : decode cX0_explains 33 = .ok (.aload_n 0, 1) := by decide +kernel
theorem dX0_explains_34 : decode cX0_explains 34 = .ok (.getfield 25, 3) := by decide +kernel
theorem dX0_explains_37 : decode cX0_explains 37 = .ok (.iload_n 1, 1) := by decide +kernel
theorem dX0_explains_38 : decode cX0_explains 38 = .ok (.iaload, 1) := by decide +kernel
theorem dX0_explains_39 : decode cX0_explains 39 = .ok (.if_icmp .le 5, 3) := by decide +kernel
theorem dX0_explains_42 : decode cX0_explains 42 = .ok (.iconst 0, 1) := by decide +kernel
theorem dX0_explains_43 : decode cX0_explains 43 = .ok (.ireturn, 1) := by decide +kernel
theorem dX0_explains_44 : decode cX0_explains 44 = .ok (.iinc 1 1, 3) := by decide +kernel
theorem dX0_explains_47 : decode cX0_explains 47 = .ok (.goto (-45), 3) := by decide +kernel
theorem dX0_explains_50 : decode cX0_explains 50 = .ok (.iconst 1, 1) := by decide +kernel
theorem dX0_explains_51 : decode cX0_explains 51 = .ok (.ireturn, 1) := by decide +kernel
theorem dX0_addTo_0 : decode cX0_addTo 0 = .ok (.lload_n 1, 1) := by decide +kernel
theorem dX0_addTo_1 : decode cX0_addTo 1 = .ok (.lstore_n 3, 1) := by decide +kernel
theorem dX0_addTo_2 : decode cX0_addTo 2 = .ok (.iconst 0, 1) := by decide +kernel
theorem dX0_addTo_3 : decode cX0_addTo 3 = .ok (.istore 5, 2) := by decide +kernel
theorem dX0_addTo_5 : decode cX0_addTo 5 = .ok (.iload 5, 2) := by decide +kernel
theorem dX0_addTo_7 : decode cX0_addTo 7 = .ok (.aload_n 0, 1) := by decide +kernel
theorem dX0_addTo_8 : decode cX0_addTo 8 = .ok (.getfield 31, 3) := by decide +kernel
theorem dX0_addTo_11 : decode cX0_addTo 11 = .ok (.if_icmp .ge 33, 3) := by decide +kernel
theorem dX0_addTo_14 : decode cX0_addTo 14 = .ok (.lload_n 3, 1) := by decide +kernel
theorem dX0_addTo_15 : decode cX0_addTo 15 = .ok (.aload_n 0, 1) := by decide +kernel
theorem dX0_addTo_16 : decode cX0_addTo 16 = .ok (.getfield 11, 3) := by decide +kernel
theorem dX0_addTo_19 : decode cX0_addTo 19 = .ok (.iload 5, 2) := by decide +kernel
theorem dX0_addTo_21 : decode cX0_addTo 21 = .ok (.iaload, 1) := by decide +kernel
theorem dX0_addTo_22 : decode cX0_addTo 22 = .ok (.i2l, 1) := by decide +kernel
theorem dX0_addTo_23 : decode cX0_addTo 23 = .ok (.invokestatic 70, 3) := by decide +kernel
theorem dX0_addTo_26 : decode cX0_addTo 26 = .ok (.aload_n 0, 1) := by decide +kernel
theorem dX0_addTo_27 : decode cX0_addTo 27 = .ok (.getfield 15, 3) := by decide +kernel
theorem dX0_addTo_30 : decode cX0_addTo 30 = .ok (.iload 5, 2) := by decide +kernel
theorem dX0_addTo_32 : decode cX0_addTo 32 = .ok (.iaload, 1) := by decide +kernel
theorem dX0_addTo_33 : decode cX0_addTo 33 = .ok (.i2l, 1) := by decide +kernel
theorem dX0_addTo_34 : decode cX0_addTo 34 = .ok (.invokestatic 70, 3) := by decide +kernel
theorem dX0_addTo_37 : decode cX0_addTo 37 = .ok (.lstore_n 3, 1) := by decide +kernel
theorem dX0_addTo_38 : decode cX0_addTo 38 = .ok (.iinc 5 1, 3) := by decide +kernel
theorem dX0_addTo_41 : decode cX0_addTo 41 = .ok (.goto (-36), 3) := by decide +kernel
theorem dX0_addTo_44 : decode cX0_addTo 44 = .ok (.iconst 0, 1) := by decide +kernel
theorem dX0_addTo_45 : decode cX0_addTo 45 = .ok (.istore 5, 2) := by decide +kernel
theorem dX0_addTo_47 : decode cX0_addTo 47 = .ok (.iload 5, 2) := by decide +kernel
theorem dX0_addTo_49 : decode cX0_addTo 49 = .ok (.bipush 8, 2) := by decide +kernel
theorem dX0_addTo_51 : decode cX0_addTo 51 = .ok (.if_icmp .ge 43, 3) := by decide +kernel
theorem dX0_addTo_54 : decode cX0_addTo 54 = .ok (.aload_n 0, 1) := by decide +kernel
theorem dX0_addTo_55 : decode cX0_addTo 55 = .ok (.getfield 18, 3) := by decide +kernel
theorem dX0_addTo_58 : decode cX0_addTo 58 = .ok (.iload 5, 2) := by decide +kernel
theorem dX0_addTo_60 : decode cX0_addTo 60 = .ok (.baload, 1) := by decide +kernel
theorem dX0_addTo_61 : decode cX0_addTo 61 = .ok (.ifCond .eq 27, 3) := by decide +kernel
theorem dX0_addTo_64 : decode cX0_addTo 64 = .ok (.lload_n 3, 1) := by decide +kernel
theorem dX0_addTo_65 : decode cX0_addTo 65 = .ok (.aload_n 0, 1) := by decide +kernel
theorem dX0_addTo_66 : decode cX0_addTo 66 = .ok (.getfield 22, 3) := by decide +kernel
theorem dX0_addTo_69 : decode cX0_addTo 69 = .ok (.iload 5, 2) := by decide +kernel
theorem dX0_addTo_71 : decode cX0_addTo 71 = .ok (.iaload, 1) := by decide +kernel
theorem dX0_addTo_72 : decode cX0_addTo 72 = .ok (.i2l, 1) := by decide +kernel
theorem dX0_addTo_73 : decode cX0_addTo 73 = .ok (.invokestatic 70, 3) := by decide +kernel
theorem dX0_addTo_76 : decode cX0_addTo 76 = .ok (.aload_n 0, 1) := by decide +kernel
theorem dX0_addTo_77 : decode cX0_addTo 77 = .ok (.getfield 25, 3) := by decide +kernel
theorem dX0_addTo_80 : decode cX0_addTo 80 = .ok (.iload 5, 2) := by decide +kernel
theorem dX0_addTo_82 : decode cX0_addTo 82 = .ok (.iaload, 1) := by decide +kernel
theorem dX0_addTo_83 : decode cX0_addTo 83 = .ok (.i2l, 1) := by decide +kernel
theorem dX0_addTo_84 : decode cX0_addTo 84 = .ok (.invokestatic 70, 3) := by decide +kernel
theorem dX0_addTo_87 : decode cX0_addTo 87 = .ok (.lstore_n 3, 1) := by decide +kernel
theorem dX0_addTo_88 : decode cX0_addTo 88 = .ok (.iinc 5 1, 3) := by decide +kernel
theorem dX0_addTo_91 : decode cX0_addTo 91 = .ok (.goto (-44), 3) := by decide +kernel
theorem dX0_addTo_94 : decode cX0_addTo 94 = .ok (.lload_n 3, 1) := by decide +kernel
theorem dX0_addTo_95 : decode cX0_addTo 95 = .ok (.lreturn, 1) := by decide +kernel
theorem dX1_init_0 : decode cX1_init 0 = .ok (.aload_n 0, 1) := by decide +kernel
theorem dX1_init_1 : decode cX1_init 1 = .ok (.invokespecial 3, 3) := by decide +kernel
theorem dX1_init_4 : decode cX1_init 4 = .ok (.aload_n 0, 1) := by decide +kernel
theorem dX1_init_5 : decode cX1_init 5 = .ok (.iload_n 2, 1) := by decide +kernel
theorem dX1_init_6 : decode cX1_init 6 = .ok (.putfield 9, 3) := by decide +kernel
theorem dX1_init_9 : decode cX1_init 9 = .ok (.aload_n 0, 1) := by decide +kernel
theorem dX1_init_10 : decode cX1_init 10 = .ok (.iload_n 3, 1) := by decide +kernel
theorem dX1_init_11 : decode cX1_init 11 = .ok (.putfield 15, 3) := by decide +kernel
theorem dX1_init_14 : decode cX1_init 14 = .ok (.aload_n 0, 1) := by decide +kernel
theorem dX1_init_15 : decode cX1_init 15 = .ok (.iload 4, 2) := by decide +kernel
theorem dX1_init_17 : decode cX1_init 17 = .ok (.putfield 18, 3) := by decide +kernel
theorem dX1_init_20 : decode cX1_init 20 = .ok (.aload_n 0, 1) := by decide +kernel
theorem dX1_init_21 : decode cX1_init 21 = .ok (.iload 5, 2) := by decide +kernel
theorem dX1_init_23 : decode cX1_init 23 = .ok (.putfield 21, 3) := by decide +kernel
theorem dX1_init_26 : decode cX1_init 26 = .ok (.aload_n 0, 1) := by decide +kernel
theorem dX1_init_27 : decode cX1_init 27 = .ok (.iload 6, 2) := by decide +kernel
theorem dX1_init_29 : decode cX1_init 29 = .ok (.putfield 24, 3) := by decide +kernel
theorem dX1_init_32 : decode cX1_init 32 = .ok (.aload_n 0, 1) := by decide +kernel
theorem dX1_init_33 : decode cX1_init 33 = .ok (.iconst 5, 1) := by decide +kernel
theorem dX1_init_34 : decode cX1_init 34 = .ok (.iload_n 2, 1) := by decide +kernel
theorem dX1_init_35 : decode cX1_init 35 = .ok (.iload_n 1, 1) := by decide +kernel
theorem dX1_init_36 : decode cX1_init 36 = .ok (.isub, 1) := by decide +kernel
theorem dX1_init_37 : decode cX1_init 37 = .ok (.invokestatic 27, 3) := by decide +kernel
theorem dX1_init_40 : decode cX1_init 40 = .ok (.iconst 1, 1) := by decide +kernel
theorem dX1_init_41 : decode cX1_init 41 = .ok (.iadd, 1) := by decide +kernel
theorem dX1_init_42 : decode cX1_init 42 = .ok (.imul, 1) := by decide +kernel
theorem dX1_init_43 : decode cX1_init 43 = .ok (.putfield 33, 3) := by decide +kernel
theorem dX1_init_46 : decode cX1_init 46 = .ok (.aload_n 0, 1) := by decide +kernel
theorem dX1_init_47 : decode cX1_init 47 = .ok (.iload_n 1, 1) := by decide +kernel
theorem dX1_init_48 : decode cX1_init 48 = .ok (.putfield 36, 3) := by decide +kernel
theorem dX1_init_51 : decode cX1_init 51 = .ok (.return_, 1) := by decide +kernel
theorem dX1_comeInto_0 : decode cX1_comeInto 0 = .ok (.aload_n 0, 1) := by decide +kernel
theorem dX1_comeInto_1 : decode cX1_comeInto 1 = .ok (.iload_n 1, 1) := by decide +kernel
theorem dX1_comeInto_2 : decode cX1_comeInto 2 = .ok (.putfield 36, 3) := by decide +kernel
theorem dX1_comeInto_5 : decode cX1_comeInto 5 = .ok (.aload_n 0, 1) := by decide +kernel
theorem dX1_comeInto_6 : decode cX1_comeInto 6 = .ok (.iload_n 1, 1) := by decide +kernel
theorem dX1_comeInto_7 : decode cX1_comeInto 7 = .ok (.aload_n 0, 1) := by decide +kernel
theorem dX1_comeInto_8 : decode cX1_comeInto 8 = .ok (.getfield 9, 3) := by decide +kernel
theorem dX1_comeInto_11 : decode cX1_comeInto 11 = .ok (.if_icmp .ne 7, 3) := by decide +kernel
theorem dX1_comeInto_14 : decode cX1_comeInto 14 = .ok (.iconst (-1), 1) := by decide +kernel
theorem dX1_comeInto_15 : decode cX1_comeInto 15 = .ok (.goto 9, 3) := by decide +kernel
theorem dX1_comeInto_18 : decode cX1_comeInto 18 = .ok (.iload_n 2, 1) := by decide +kernel
theorem dX1_comeInto_19 : decode cX1_comeInto 19 = .ok (.aload_n 0, 1) := by decide +kernel
theorem dX1_comeInto_20 : decode cX1_comeInto 20 = .ok (.getfield 18, 3) := by decide +kernel
theorem dX1_comeInto_23 : decode cX1_comeInto 23 = .ok (.iadd, 1) := by decide +kernel
theorem dX1_comeInto_24 : decode cX1_comeInto 24 = .ok (.putfield 39, 3) := by decide +kernel
theorem dX1_comeInto_27 : decode cX1_comeInto 27 = .ok (.return_, 1) := by decide +kernel
theorem dX1_isThere_0 : decode cX1_isThere 0 = .ok (.aload_n 0, 1) := by decide +kernel
theorem dX1_isThere_1 : decode cX1_isThere 1 = .ok (.getfield 36, 3) := by decide +kernel
theorem dX1_isThere_4 : decode cX1_isThere 4 = .ok (.aload_n 0, 1) := by decide +kernel
theorem dX1_isThere_5 : decode cX1_isThere 5 = .ok (.getfield 9, 3) := by decide +kernel
theorem dX1_isThere_8 : decode cX1_isThere 8 = .ok (.if_icmp .ne 7, 3) := by decide +kernel
theorem dX1_isThere_11 : decode cX1_isThere 11 = .ok (.iconst 1, 1) := by decide +kernel
theorem dX1_isThere_12 : decode cX1_isThere 12 = .ok (.goto 4, 3) := by decide +kernel
theorem dX1_isThere_15 : decode cX1_isThere 15 = .ok (.iconst 0, 1) := by decide +kernel
theorem dX1_isThere_16 : decode cX1_isThere 16 = .ok (.ireturn, 1) := by decide +kernel
theorem dX1_isReady_0 : decode cX1_isReady 0 = .ok (.aload_n 0, 1) := by decide +kernel
theorem dX1_isReady_1 : decode cX1_isReady 1 = .ok (.invokevirtual 42, 3) := by decide +kernel
theorem dX1_isReady_4 : decode cX1_isReady 4 = .ok (.ifCond .ne 15, 3) := by decide +kernel
theorem dX1_isReady_7 : decode cX1_isReady 7 = .ok (.aload_n 0, 1) := by decide +kernel
theorem dX1_isReady_8 : decode cX1_isReady 8 = .ok (.getfield 39, 3) := by decide +kernel
theorem dX1_isReady_11 : decode cX1_isReady 11 = .ok (.iload_n 1, 1) := by decide +kernel
theorem dX1_isReady_12 : decode cX1_isReady 12 = .ok (.if_icmp .gt 7, 3) := by decide +kernel
theorem dX1_isReady_15 : decode cX1_isReady 15 = .ok (.iconst 1, 1) := by decide +kernel
theorem dX1_isReady_16 : decode cX1_isReady 16 = .ok (.goto 4, 3) := by decide +kernel
theorem dX1_isReady_19 : decode cX1_isReady 19 = .ok (.iconst 0, 1) := by decide +kernel
theorem dX1_isReady_20 : decode cX1_isReady 20 = .ok (.ireturn, 1) := by decide +kernel
theorem dX1_nextPlace_0 : decode cX1_nextPlace 0 = .ok (.aload_n 0, 1) := by decide +kernel
theorem dX1_nextPlace_1 : decode cX1_nextPlace 1 = .ok (.getfield 9, 3) := by decide +kernel
theorem dX1_nextPlace_4 : decode cX1_nextPlace 4 = .ok (.aload_n 0, 1) := by decide +kernel
theorem dX1_nextPlace_5 : decode cX1_nextPlace 5 = .ok (.getfield 36, 3) := by decide +kernel
theorem dX1_nextPlace_8 : decode cX1_nextPlace 8 = .ok (.if_icmp .le 12, 3) := by decide +kernel
theorem dX1_nextPlace_11 : decode cX1_nextPlace 11 = .ok (.aload_n 0, 1) := by decide +kernel
theorem dX1_nextPlace_12 : decode cX1_nextPlace 12 = .ok (.getfield 36, 3) := by decide +kernel
theorem dX1_nextPlace_15 : decode cX1_nextPlace 15 = .ok (.iconst 1, 1) := by decide +kernel
theorem dX1_nextPlace_16 : decode cX1_nextPlace 16 = .ok (.iadd, 1) := by decide +kernel
theorem dX1_nextPlace_17 : decode cX1_nextPlace 17 = .ok (.goto 9, 3) := by decide +kernel
theorem dX1_nextPlace_20 : decode cX1_nextPlace 20 = .ok (.aload_n 0, 1) := by decide +kernel
theorem dX1_nextPlace_21 : decode cX1_nextPlace 21 = .ok (.getfield 36, 3) := by decide +kernel
theorem dX1_nextPlace_24 : decode cX1_nextPlace 24 = .ok (.iconst 1, 1) := by decide +kernel
theorem dX1_nextPlace_25 : decode cX1_nextPlace 25 = .ok (.isub, 1) := by decide +kernel
theorem dX1_nextPlace_26 : decode cX1_nextPlace 26 = .ok (.ireturn, 1) := by decide +kernel
theorem dX1_nextLock_0 : decode cX1_nextLock 0 = .ok (.aload_n 0, 1) := by decide +kernel
theorem dX1_nextLock_1 : decode cX1_nextLock 1 = .ok (.getfield 9, 3) := by decide +kernel
theorem dX1_nextLock_4 : decode cX1_nextLock 4 = .ok (.aload_n 0, 1) := by decide +kernel
theorem dX1_nextLock_5 : decode cX1_nextLock 5 = .ok (.getfield 36, 3) := by decide +kernel
theorem dX1_nextLock_8 : decode cX1_nextLock 8 = .ok (.if_icmp .le 10, 3) := by decide +kernel
theorem dX1_nextLock_11 : decode cX1_nextLock 11 = .ok (.aload_n 0, 1) := by decide +kernel
theorem dX1_nextLock_12 : decode cX1_nextLock 12 = .ok (.getfield 36, 3) := by decide +kernel
theorem dX1_nextLock_15 : decode cX1_nextLock 15 = .ok (.goto 9, 3) := by decide +kernel
theorem dX1_nextLock_18 : decode cX1_nextLock 18 = .ok (.aload_n 0, 1) := by decide +kernel
theorem dX1_nextLock_19 : decode cX1_nextLock 19 = .ok (.getfield 36, 3) := by decide +kernel
theorem dX1_nextLock_22 : decode cX1_nextLock 22 = .ok (.iconst 1, 1) := by decide +kernel
theorem dX1_nextLock_23 : decode cX1_nextLock 23 = .ok (.isub, 1) := by decide +kernel
theorem dX1_nextLock_24 : decode cX1_nextLock 24 = .ok (.ireturn, 1) := by decide +kernel
theorem dX1_climbs_0 : decode cX1_climbs 0 = .ok (.aload_n 0, 1) := by decide +kernel
theorem dX1_climbs_1 : decode cX1_climbs 1 = .ok (.getfield 9, 3) := by decide +kernel
theorem dX1_climbs_4 : decode cX1_climbs 4 = .ok (.aload_n 0, 1) := by decide +kernel
theorem dX1_climbs_5 : decode cX1_climbs 5 = .ok (.getfield 36, 3) := by decide +kernel
theorem dX1_climbs_8 : decode cX1_climbs 8 = .ok (.if_icmp .le 19, 3) := by decide +kernel
theorem dX1_climbs_11 : decode cX1_climbs 11 = .ok (.aload_n 0, 1) := by decide +kernel
theorem dX1_climbs_12 : decode cX1_climbs 12 = .ok (.getfield 36, 3) := by decide +kernel
theorem dX1_climbs_15 : decode cX1_climbs 15 = .ok (.iload_n 1, 1) := by decide +kernel
theorem dX1_climbs_16 : decode cX1_climbs 16 = .ok (.if_icmp .ge 7, 3) := by decide +kernel
theorem dX1_climbs_19 : decode cX1_climbs 19 = .ok (.iconst 1, 1) := by decide +kernel
theorem dX1_climbs_20 : decode cX1_climbs 20 = .ok (.goto 20, 3) := by decide +kernel
theorem dX1_climbs_23 : decode cX1_climbs 23 = .ok (.iconst 0, 1) := by decide +kernel
theorem dX1_climbs_24 : decode cX1_climbs 24 = .ok (.goto 16, 3) := by decide +kernel
theorem dX1_climbs_27 : decode cX1_climbs 27 = .ok (.aload_n 0, 1) := by decide +kernel
theorem dX1_climbs_28 : decode cX1_climbs 28 = .ok (.getfield 36, 3) := by decide +kernel
theorem dX1_climbs_31 : decode cX1_climbs 31 = .ok (.iload_n 1, 1) := by decide +kernel
theorem dX1_climbs_32 : decode cX1_climbs 32 = .ok (.if_icmp .le 7, 3) := by decide +kernel
theorem dX1_climbs_35 : decode cX1_climbs 35 = .ok (.iconst 1, 1) := by decide +kernel
theorem dX1_climbs_36 : decode cX1_climbs 36 = .ok (.goto 4, 3) := by decide +kernel
theorem dX1_climbs_39 : decode cX1_climbs 39 = .ok (.iconst 0, 1) := by decide +kernel
theorem dX1_climbs_40 : decode cX1_climbs 40 = .ok (.ireturn, 1) := by decide +kernel
theorem dX1_tonMiles_0 : decode cX1_tonMiles 0 = .ok (.aload_n 0, 1) := by decide +kernel
theorem dX1_tonMiles_1 : decode cX1_tonMiles 1 = .ok (.getfield 15, 3) := by decide +kernel
theorem dX1_tonMiles_4 : decode cX1_tonMiles 4 = .ok (.aload_n 0, 1) := by decide +kernel
theorem dX1_tonMiles_5 : decode cX1_tonMiles 5 = .ok (.getfield 33, 3) := by decide +kernel
theorem dX1_tonMiles_8 : decode cX1_tonMiles 8 = .ok (.imul, 1) := by decide +kernel
theorem dX1_tonMiles_9 : decode cX1_tonMiles 9 = .ok (.ireturn, 1) := by decide +kernel
theorem dX1_tell_0 : decode cX1_tell 0 = .ok (.iload_n 1, 1) := by decide +kernel
theorem dX1_tell_1 : decode cX1_tell 1 = .ok (.tableswitch 59 0 3 #[31, 36, 41, 54], 31) := by decide +kernel
theorem dX1_tell_32 : decode cX1_tell 32 = .ok (.aload_n 0, 1) := by decide +kernel
theorem dX1_tell_33 : decode cX1_tell 33 = .ok (.getfield 36, 3) := by decide +kernel
theorem dX1_tell_36 : decode cX1_tell 36 = .ok (.ireturn, 1) := by decide +kernel
theorem dX1_tell_37 : decode cX1_tell 37 = .ok (.aload_n 0, 1) := by decide +kernel
theorem dX1_tell_38 : decode cX1_tell 38 = .ok (.getfield 39, 3) := by decide +kernel
theorem dX1_tell_41 : decode cX1_tell 41 = .ok (.ireturn, 1) := by decide +kernel
theorem dX1_tell_42 : decode cX1_tell 42 = .ok (.aload_n 0, 1) := by decide +kernel
theorem dX1_tell_43 : decode cX1_tell 43 = .ok (.invokevirtual 42, 3) := by decide +kernel
theorem dX1_tell_46 : decode cX1_tell 46 = .ok (.ifCond .eq 7, 3) := by decide +kernel
theorem dX1_tell_49 : decode cX1_tell 49 = .ok (.iconst 1, 1) := by decide +kernel
theorem dX1_tell_50 : decode cX1_tell 50 = .ok (.goto 4, 3) := by decide +kernel
theorem dX1_tell_53 : decode cX1_tell 53 = .ok (.iconst 0, 1) := by decide +kernel
theorem dX1_tell_54 : decode cX1_tell 54 = .ok (.ireturn, 1) := by decide +kernel
theorem dX1_tell_55 : decode cX1_tell 55 = .ok (.aload_n 0, 1) := by decide +kernel
theorem dX1_tell_56 : decode cX1_tell 56 = .ok (.getfield 46, 3) := by decide +kernel
theorem dX1_tell_59 : decode cX1_tell 59 = .ok (.ireturn, 1) := by decide +kernel
theorem dX1_tell_60 : decode cX1_tell 60 = .ok (.aload_n 0, 1) := by decide +kernel
theorem dX1_tell_61 : decode cX1_tell 61 = .ok (.getfield 33, 3) := by decide +kernel
theorem dX1_tell_64 : decode cX1_tell 64 = .ok (.ireturn, 1) := by decide +kernel
theorem dX2_init_0 : decode cX2_init 0 = .ok (.aload_n 0, 1) := by decide +kernel
theorem dX2_init_1 : decode cX2_init 1 = .ok (.invokespecial 3, 3) := by decide +kernel
theorem dX2_init_4 : decode cX2_init 4 = .ok (.aload_n 0, 1) := by decide +kernel
theorem dX2_init_5 : decode cX2_init 5 = .ok (.bipush 60, 2) := by decide +kernel
theorem dX2_init_7 : decode cX2_init 7 = .ok (.newarray .byte, 2) := by decide +kernel
theorem dX2_init_9 : decode cX2_init 9 = .ok (.putfield 11, 3) := by decide +kernel
theorem dX2_init_12 : decode cX2_init 12 = .ok (.aload_n 0, 1) := by decide +kernel
theorem dX2_init_13 : decode cX2_init 13 = .ok (.bipush 16, 2) := by decide +kernel
theorem dX2_init_15 : decode cX2_init 15 = .ok (.anewarray 15, 3) := by decide +kernel
theorem dX2_init_18 : decode cX2_init 18 = .ok (.putfield 17, 3) := by decide +kernel
theorem dX2_init_21 : decode cX2_init 21 = .ok (.return_, 1) := by decide +kernel
theorem dX2_textNumbered_0 : decode cX2_textNumbered 0 = .ok (.iload_n 1, 1) := by decide +kernel
theorem dX2_textNumbered_1 : decode cX2_textNumbered 1 = .ok (.iconst 0, 1) := by decide +kernel
theorem dX2_textNumbered_2 : decode cX2_textNumbered 2 = .ok (.aload_n 0, 1) := by decide +kernel
theorem dX2_textNumbered_3 : decode cX2_textNumbered 3 = .ok (.getfield 21, 3) := by decide +kernel
theorem dX2_textNumbered_6 : decode cX2_textNumbered 6 = .ok (.iconst 1, 1) := by decide +kernel
theorem dX2_textNumbered_7 : decode cX2_textNumbered 7 = .ok (.isub, 1) := by decide +kernel
theorem dX2_textNumbered_8 : decode cX2_textNumbered 8 = .ok (.invokestatic 25, 3) := by decide +kernel
theorem dX2_textNumbered_11 : decode cX2_textNumbered 11 = .ok (.ifCond .eq 12, 3) := by decide +kernel
theorem dX2_textNumbered_14 : decode cX2_textNumbered 14 = .ok (.aload_n 0, 1) := by decide +kernel
theorem dX2_textNumbered_15 : decode cX2_textNumbered 15 = .ok (.getfield 17, 3) := by decide +kernel
theorem dX2_textNumbered_18 : decode cX2_textNumbered 18 = .ok (.iload_n 1, 1) := by decide +kernel
theorem dX2_textNumbered_19 : decode cX2_textNumbered 19 = .ok (.aaload, 1) := by decide +kernel
theorem dX2_textNumbered_20 : decode cX2_textNumbered 20 = .ok (.goto 4, 3) := by decide +kernel
theorem dX2_textNumbered_23 : decode cX2_textNumbered 23 = .ok (.aconst_null, 1) := by decide +kernel
theorem dX2_textNumbered_24 : decode cX2_textNumbered 24 = .ok (.areturn, 1) := by decide +kernel
theorem dX2_lettersIn_0 : decode cX2_lettersIn 0 = .ok (.iconst 0, 1) := by decide +kernel
theorem dX2_lettersIn_1 : decode cX2_lettersIn 1 = .ok (.istore_n 2, 1) := by decide +kernel
theorem dX2_lettersIn_2 : decode cX2_lettersIn 2 = .ok (.iconst 0, 1) := by decide +kernel
theorem dX2_lettersIn_3 : decode cX2_lettersIn 3 = .ok (.istore_n 3, 1) := by decide +kernel
theorem dX2_lettersIn_4 : decode cX2_lettersIn 4 = .ok (.iconst 0, 1) := by decide +kernel
theorem dX2_lettersIn_5 : decode cX2_lettersIn 5 = .ok (.istore 4, 2) := by decide +kernel
theorem dX2_lettersIn_7 : decode cX2_lettersIn 7 = .ok (.iload 4, 2) := by decide +kernel
theorem dX2_lettersIn_9 : decode cX2_lettersIn 9 = .ok (.bipush 8, 2) := by decide +kernel
theorem dX2_lettersIn_11 : decode cX2_lettersIn 11 = .ok (.if_icmp .ge 58, 3) := by decide +kernel
theorem dX2_lettersIn_14 : decode cX2_lettersIn 14 = .ok (.lload_n 0, 1) := by decide +kernel
theorem dX2_lettersIn_15 : decode cX2_lettersIn 15 = .ok (.iload 4, 2) := by decide +kernel
theorem dX2_lettersIn_17 : decode cX2_lettersIn 17 = .ok (.invokestatic 29, 3) := by decide +kernel
theorem dX2_lettersIn_20 : decode cX2_lettersIn 20 = .ok (.istore 5, 2) := by decide +kernel
theorem dX2_lettersIn_22 : decode cX2_lettersIn 22 = .ok (.iload 5, 2) := by decide +kernel
theorem dX2_lettersIn_24 : decode cX2_lettersIn 24 = .ok (.bipush 126, 2) := by decide +kernel
theorem dX2_lettersIn_26 : decode cX2_lettersIn 26 = .ok (.if_icmp .gt 12, 3) := by decide +kernel
theorem dX2_lettersIn_29 : decode cX2_lettersIn 29 = .ok (.iload_n 3, 1) := by decide +kernel
theorem dX2_lettersIn_30 : decode cX2_lettersIn 30 = .ok (.ifCond .eq 10, 3) := by decide +kernel
theorem dX2_lettersIn_33 : decode cX2_lettersIn 33 = .ok (.iload 5, 2) := by decide +kernel
theorem dX2_lettersIn_35 : decode cX2_lettersIn 35 = .ok (.ifCond .eq 5, 3) := by decide +kernel
theorem dX2_lettersIn_38 : decode cX2_lettersIn 38 = .ok (.iconst (-1), 1) := by decide +kernel
theorem dX2_lettersIn_39 : decode cX2_lettersIn 39 = .ok (.ireturn, 1) := by decide +kernel
theorem dX2_lettersIn_40 : decode cX2_lettersIn 40 = .ok (.iload 5, 2) := by decide +kernel
theorem dX2_lettersIn_42 : decode cX2_lettersIn 42 = .ok (.ifCond .ne 7, 3) := by decide +kernel
theorem dX2_lettersIn_45 : decode cX2_lettersIn 45 = .ok (.iconst 1, 1) := by decide +kernel
theorem dX2_lettersIn_46 : decode cX2_lettersIn 46 = .ok (.goto 4, 3) := by decide +kernel
theorem dX2_lettersIn_49 : decode cX2_lettersIn 49 = .ok (.iconst 0, 1) := by decide +kernel
theorem dX2_lettersIn_50 : decode cX2_lettersIn 50 = .ok (.istore_n 3, 1) := by decide +kernel
theorem dX2_lettersIn_51 : decode cX2_lettersIn 51 = .ok (.iload_n 2, 1) := by decide +kernel
theorem dX2_lettersIn_52 : decode cX2_lettersIn 52 = .ok (.iload_n 3, 1) := by decide +kernel
theorem dX2_lettersIn_53 : decode cX2_lettersIn 53 = .ok (.ifCond .eq 7, 3) := by decide +kernel
theorem dX2_lettersIn_56 : decode cX2_lettersIn 56 = .ok (.iconst 0, 1) := by decide +kernel
theorem dX2_lettersIn_57 : decode cX2_lettersIn 57 = .ok (.goto 4, 3) := by decide +kernel
theorem dX2_lettersIn_60 : decode cX2_lettersIn 60 = .ok (.iconst 1, 1) := by decide +kernel
theorem dX2_lettersIn_61 : decode cX2_lettersIn 61 = .ok (.iadd, 1) := by decide +kernel
theorem dX2_lettersIn_62 : decode cX2_lettersIn 62 = .ok (.istore_n 2, 1) := by decide +kernel
theorem dX2_lettersIn_63 : decode cX2_lettersIn 63 = .ok (.iinc 4 1, 3) := by decide +kernel
theorem dX2_lettersIn_66 : decode cX2_lettersIn 66 = .ok (.goto (-59), 3) := by decide +kernel
theorem dX2_lettersIn_69 : decode cX2_lettersIn 69 = .ok (.iload_n 2, 1) := by decide +kernel
theorem dX2_lettersIn_70 : decode cX2_lettersIn 70 = .ok (.ireturn, 1) := by decide +kernel
theorem dX2_letterOf_0 : decode cX2_letterOf 0 = .ok (.lload_n 0, 1) := by decide +kernel
theorem dX2_letterOf_1 : decode cX2_letterOf 1 = .ok (.bipush 8, 2) := by decide +kernel
theorem dX2_letterOf_3 : decode cX2_letterOf 3 = .ok (.iload_n 2, 1) := by decide +kernel
theorem dX2_letterOf_4 : decode cX2_letterOf 4 = .ok (.imul, 1) := by decide +kernel
theorem dX2_letterOf_5 : decode cX2_letterOf 5 = .ok (.lushr, 1) := by decide +kernel
theorem dX2_letterOf_6 : decode cX2_letterOf 6 = .ok (.l2i, 1) := by decide +kernel
theorem dX2_letterOf_7 : decode cX2_letterOf 7 = .ok (.sipush 255, 3) := by decide +kernel
theorem dX2_letterOf_10 : decode cX2_letterOf 10 = .ok (.iand, 1) := by decide +kernel
theorem dX2_letterOf_11 : decode cX2_letterOf 11 = .ok (.ireturn, 1) := by decide +kernel
theorem dX2_write_0 : decode cX2_write 0 = .ok (.iconst 0, 1) := by decide +kernel
theorem dX2_write_1 : decode cX2_write 1 = .ok (.istore 4, 2) := by decide +kernel
theorem dX2_write_3 : decode cX2_write 3 = .ok (.iload 4, 2) := by decide +kernel
theorem dX2_write_5 : decode cX2_write 5 = .ok (.iload_n 3, 1) := by decide +kernel
theorem dX2_write_6 : decode cX2_write 6 = .ok (.if_icmp .ge 44, 3) := by decide +kernel
theorem dX2_write_9 : decode cX2_write 9 = .ok (.aload_n 0, 1) := by decide +kernel
theorem dX2_write_10 : decode cX2_write 10 = .ok (.getfield 33, 3) := by decide +kernel
theorem dX2_write_13 : decode cX2_write 13 = .ok (.bipush 60, 2) := by decide +kernel
theorem dX2_write_15 : decode cX2_write 15 = .ok (.if_icmp .ge 35, 3) := by decide +kernel
theorem dX2_write_18 : decode cX2_write 18 = .ok (.aload_n 0, 1) := by decide +kernel
theorem dX2_write_19 : decode cX2_write 19 = .ok (.getfield 11, 3) := by decide +kernel
theorem dX2_write_22 : decode cX2_write 22 = .ok (.aload_n 0, 1) := by decide +kernel
theorem dX2_write_23 : decode cX2_write 23 = .ok (.getfield 33, 3) := by decide +kernel
theorem dX2_write_26 : decode cX2_write 26 = .ok (.lload_n 1, 1) := by decide +kernel
theorem dX2_write_27 : decode cX2_write 27 = .ok (.iload 4, 2) := by decide +kernel
theorem dX2_write_29 : decode cX2_write 29 = .ok (.invokestatic 29, 3) := by decide +kernel
theorem dX2_write_32 : decode cX2_write 32 = .ok (.i2b, 1) := by decide +kernel
theorem dX2_write_33 : decode cX2_write 33 = .ok (.bastore, 1) := by decide +kernel
theorem dX2_write_34 : decode cX2_write 34 = .ok (.aload_n 0, 1) := by decide +kernel
theorem dX2_write_35 : decode cX2_write 35 = .ok (.dup, 1) := by decide +kernel
theorem dX2_write_36 : decode cX2_write 36 = .ok (.getfield 33, 3) := by decide +kernel
theorem dX2_write_39 : decode cX2_write 39 = .ok (.iconst 1, 1) := by decide +kernel
theorem dX2_write_40 : decode cX2_write 40 = .ok (.iadd, 1) := by decide +kernel
theorem dX2_write_41 : decode cX2_write 41 = .ok (.putfield 33, 3) := by decide +kernel
theorem dX2_write_44 : decode cX2_write 44 = .ok (.iinc 4 1, 3) := by decide +kernel
theorem dX2_write_47 : decode cX2_write 47 = .ok (.goto (-44), 3) := by decide +kernel
theorem dX2_write_50 : decode cX2_write 50 = .ok (.return_, 1) := by decide +kernel
theorem dX2_firstFault_0 : decode cX2_firstFault 0 = .ok (.iconst 0, 1) := by decide +kernel
theorem dX2_firstFault_1 : decode cX2_firstFault 1 = .ok (.istore_n 1, 1) := by decide +kernel
theorem dX2_firstFault_2 : decode cX2_firstFault 2 = .ok (.iconst 0, 1) := by decide +kernel
theorem dX2_firstFault_3 : decode cX2_firstFault 3 = .ok (.istore_n 2, 1) := by decide +kernel
theorem dX2_firstFault_4 : decode cX2_firstFault 4 = .ok (.iload_n 2, 1) := by decide +kernel
theorem dX2_firstFault_5 : decode cX2_firstFault 5 = .ok (.aload_n 0, 1) := by decide +kernel
theorem dX2_firstFault_6 : decode cX2_firstFault 6 = .ok (.getfield 33, 3) := by decide +kernel
theorem dX2_firstFault_9 : decode cX2_firstFault 9 = .ok (.if_icmp .ge 27, 3) := by decide +kernel
theorem dX2_firstFault_12 : decode cX2_firstFault 12 = .ok (.iload_n 1, 1) := by decide +kernel
theorem dX2_firstFault_13 : decode cX2_firstFault 13 = .ok (.aload_n 0, 1) := by decide +kernel
theorem dX2_firstFault_14 : decode cX2_firstFault 14 = .ok (.getfield 11, 3) := by decide +kernel
theorem dX2_firstFault_17 : decode cX2_firstFault 17 = .ok (.iload_n 2, 1) := by decide +kernel
theorem dX2_firstFault_18 : decode cX2_firstFault 18 = .ok (.baload, 1) := by decide +kernel
theorem dX2_firstFault_19 : decode cX2_firstFault 19 = .ok (.invokestatic 36, 3) := by decide +kernel
theorem dX2_firstFault_22 : decode cX2_firstFault 22 = .ok (.istore_n 1, 1) := by decide +kernel
theorem dX2_firstFault_23 : decode cX2_firstFault 23 = .ok (.iload_n 1, 1) := by decide +kernel
theorem dX2_firstFault_24 : decode cX2_firstFault 24 = .ok (.iconst (-1), 1) := by decide +kernel
theorem dX2_firstFault_25 : decode cX2_firstFault 25 = .ok (.if_icmp .ne 5, 3) := by decide +kernel
theorem dX2_firstFault_28 : decode cX2_firstFault 28 = .ok (.iload_n 2, 1) := by decide +kernel
theorem dX2_firstFault_29 : decode cX2_firstFault 29 = .ok (.ireturn, 1) := by decide +kernel
theorem dX2_firstFault_30 : decode cX2_firstFault 30 = .ok (.iinc 2 1, 3) := by decide +kernel
theorem dX2_firstFault_33 : decode cX2_firstFault 33 = .ok (.goto (-29), 3) := by decide +kernel
theorem dX2_firstFault_36 : decode cX2_firstFault 36 = .ok (.aload_n 0, 1) := by decide +kernel
theorem dX2_firstFault_37 : decode cX2_firstFault 37 = .ok (.getfield 33, 3) := by decide +kernel
theorem dX2_firstFault_40 : decode cX2_firstFault 40 = .ok (.ireturn, 1) := by decide +kernel
theorem dX2_pageIsText_0 : decode cX2_pageIsText 0 = .ok (.iconst 0, 1) := by decide +kernel
theorem dX2_pageIsText_1 : decode cX2_pageIsText 1 = .ok (.istore_n 1, 1) := by decide +kernel
theorem dX2_pageIsText_2 : decode cX2_pageIsText 2 = .ok (.iconst 0, 1) := by decide +kernel
theorem dX2_pageIsText_3 : decode cX2_pageIsText 3 = .ok (.istore_n 2, 1) := by decide +kernel
theorem dX2_pageIsText_4 : decode cX2_pageIsText 4 = .ok (.iload_n 2, 1) := by decide +kernel
theorem dX2_pageIsText_5 : decode cX2_pageIsText 5 = .ok (.aload_n 0, 1) := by decide +kernel
theorem dX2_pageIsText_6 : decode cX2_pageIsText 6 = .ok (.getfield 33, 3) := by decide +kernel
theorem dX2_pageIsText_9 : decode cX2_pageIsText 9 = .ok (.if_icmp .ge 25, 3) := by decide +kernel
theorem dX2_pageIsText_12 : decode cX2_pageIsText 12 = .ok (.iload_n 1, 1) := by decide +kernel
theorem dX2_pageIsText_13 : decode cX2_pageIsText 13 = .ok (.iconst (-1), 1) := by decide +kernel
theorem dX2_pageIsText_14 : decode cX2_pageIsText 14 = .ok (.if_icmp .eq 20, 3) := by decide +kernel
theorem dX2_pageIsText_17 : decode cX2_pageIsText 17 = .ok (.iload_n 1, 1) := by decide +kernel
theorem dX2_pageIsText_18 : decode cX2_pageIsText 18 = .ok (.aload_n 0, 1) := by decide +kernel
theorem dX2_pageIsText_19 : decode cX2_pageIsText 19 = .ok (.getfield 11, 3) := by decide +kernel
theorem dX2_pageIsText_22 : decode cX2_pageIsText 22 = .ok (.iload_n 2, 1) := by decide +kernel
theorem dX2_pageIsText_23 : decode cX2_pageIsText 23 = .ok (.baload, 1) := by decide +kernel
theorem dX2_pageIsText_24 : decode cX2_pageIsText 24 = .ok (.invokestatic 36, 3) := by decide +kernel
theorem dX2_pageIsText_27 : decode cX2_pageIsText 27 = .ok (.istore_n 1, 1) := by decide +kernel
theorem dX2_pageIsText_28 : decode cX2_pageIsText 28 = .ok (.iinc 2 1, 3) := by decide +kernel
theorem dX2_pageIsText_31 : decode cX2_pageIsText 31 = .ok (.goto (-27), 3) := by decide +kernel
theorem dX2_pageIsText_34 : decode cX2_pageIsText 34 = .ok (.iload_n 1, 1) := by decide +kernel
theorem dX2_pageIsText_35 : decode cX2_pageIsText 35 = .ok (.iconst 3, 1) := by decide +kernel
theorem dX2_pageIsText_36 : decode cX2_pageIsText 36 = .ok (.bipush 6, 2) := by decide +kernel
theorem dX2_pageIsText_38 : decode cX2_pageIsText 38 = .ok (.invokestatic 25, 3) := by decide +kernel
theorem dX2_pageIsText_41 : decode cX2_pageIsText 41 = .ok (.ifCond .ne 14, 3) := by decide +kernel
theorem dX2_pageIsText_44 : decode cX2_pageIsText 44 = .ok (.iload_n 1, 1) := by decide +kernel
theorem dX2_pageIsText_45 : decode cX2_pageIsText 45 = .ok (.bipush 10, 2) := by decide +kernel
theorem dX2_pageIsText_47 : decode cX2_pageIsText 47 = .ok (.bipush 13, 2) := by decide +kernel
theorem dX2_pageIsText_49 : decode cX2_pageIsText 49 = .ok (.invokestatic 25, 3) := by decide +kernel
theorem dX2_pageIsText_52 : decode cX2_pageIsText 52 = .ok (.ifCond .eq 7, 3) := by decide +kernel
theorem dX2_pageIsText_55 : decode cX2_pageIsText 55 = .ok (.iconst 1, 1) := by decide +kernel
theorem dX2_pageIsText_56 : decode cX2_pageIsText 56 = .ok (.goto 4, 3) := by decide +kernel
theorem dX2_pageIsText_59 : decode cX2_pageIsText 59 = .ok (.iconst 0, 1) := by decide +kernel
theorem dX2_pageIsText_60 : decode cX2_pageIsText 60 = .ok (.ireturn, 1) := by decide +kernel
theorem dX2_step_0 : decode cX2_step 0 = .ok (.iload_n 0, 1) := by decide +kernel
theorem dX2_step_1 : decode cX2_step 1 = .ok (.bipush 16, 2) := by decide +kernel
theorem dX2_step_3 : decode cX2_step 3 = .ok (.irem, 1) := by decide +kernel
theorem dX2_step_4 : decode cX2_step 4 = .ok (.istore_n 2, 1) := by decide +kernel
theorem dX2_step_5 : decode cX2_step 5 = .ok (.iload_n 2, 1) := by decide +kernel
theorem dX2_step_6 : decode cX2_step 6 = .ok (.ifCond .ne 21, 3) := by decide +kernel
theorem dX2_step_9 : decode cX2_step 9 = .ok (.iload_n 1, 1) := by decide +kernel
theorem dX2_step_10 : decode cX2_step 10 = .ok (.bipush 84, 2) := by decide +kernel
theorem dX2_step_12 : decode cX2_step 12 = .ok (.if_icmp .eq 9, 3) := by decide +kernel
theorem dX2_step_15 : decode cX2_step 15 = .ok (.iload_n 1, 1) := by decide +kernel
theorem dX2_step_16 : decode cX2_step 16 = .ok (.bipush 67, 2) := by decide +kernel
theorem dX2_step_18 : decode cX2_step 18 = .ok (.if_icmp .ne 7, 3) := by decide +kernel
theorem dX2_step_21 : decode cX2_step 21 = .ok (.iconst 1, 1) := by decide +kernel
theorem dX2_step_22 : decode cX2_step 22 = .ok (.goto 4, 3) := by decide +kernel
theorem dX2_step_25 : decode cX2_step 25 = .ok (.iconst (-1), 1) := by decide +kernel
theorem dX2_step_26 : decode cX2_step 26 = .ok (.ireturn, 1) := by decide +kernel
theorem dX2_step_27 : decode cX2_step 27 = .ok (.iload_n 2, 1) := by decide +kernel
theorem dX2_step_28 : decode cX2_step 28 = .ok (.iconst 1, 1) := by decide +kernel
theorem dX2_step_29 : decode cX2_step 29 = .ok (.if_icmp .ne 15, 3) := by decide +kernel
theorem dX2_step_32 : decode cX2_step 32 = .ok (.iload_n 1, 1) := by decide +kernel
theorem dX2_step_33 : decode cX2_step 33 = .ok (.bipush 58, 2) := by decide +kernel
theorem dX2_step_35 : decode cX2_step 35 = .ok (.if_icmp .ne 7, 3) := by decide +kernel
theorem dX2_step_38 : decode cX2_step 38 = .ok (.iconst 2, 1) := by decide +kernel
theorem dX2_step_39 : decode cX2_step 39 = .ok (.goto 4, 3) := by decide +kernel
theorem dX2_step_42 : decode cX2_step 42 = .ok (.iconst (-1), 1) := by decide +kernel
theorem dX2_step_43 : decode cX2_step 43 = .ok (.ireturn, 1) := by decide +kernel
theorem dX2_step_44 : decode cX2_step 44 = .ok (.iload_n 2, 1) := by decide +kernel
theorem dX2_step_45 : decode cX2_step 45 = .ok (.bipush 6, 2) := by decide +kernel
theorem dX2_step_47 : decode cX2_step 47 = .ok (.if_icmp .gt 9, 3) := by decide +kernel
theorem dX2_step_50 : decode cX2_step 50 = .ok (.iload_n 0, 1) := by decide +kernel
theorem dX2_step_51 : decode cX2_step 51 = .ok (.iload_n 1, 1) := by decide +kernel
theorem dX2_step_52 : decode cX2_step 52 = .ok (.invokestatic 40, 3) := by decide +kernel
theorem dX2_step_55 : decode cX2_step 55 = .ok (.ireturn, 1) := by decide +kernel
theorem dX2_step_56 : decode cX2_step 56 = .ok (.iload_n 2, 1) := by decide +kernel
theorem dX2_step_57 : decode cX2_step 57 = .ok (.bipush 7, 2) := by decide +kernel
theorem dX2_step_59 : decode cX2_step 59 = .ok (.if_icmp .ne 9, 3) := by decide +kernel
theorem dX2_step_62 : decode cX2_step 62 = .ok (.iload_n 0, 1) := by decide +kernel
theorem dX2_step_63 : decode cX2_step 63 = .ok (.iload_n 1, 1) := by decide +kernel
theorem dX2_step_64 : decode cX2_step 64 = .ok (.invokestatic 43, 3) := by decide +kernel
theorem dX2_step_67 : decode cX2_step 67 = .ok (.ireturn, 1) := by decide +kernel
theorem dX2_step_68 : decode cX2_step 68 = .ok (.iload_n 2, 1) := by decide +kernel
theorem dX2_step_69 : decode cX2_step 69 = .ok (.bipush 8, 2) := by decide +kernel
theorem dX2_step_71 : decode cX2_step 71 = .ok (.if_icmp .ne 22, 3) := by decide +kernel
theorem dX2_step_74 : decode cX2_step 74 = .ok (.iload_n 1, 1) := by decide +kernel
theorem dX2_step_75 : decode cX2_step 75 = .ok (.invokestatic 46, 3) := by decide +kernel
theorem dX2_step_78 : decode cX2_step 78 = .ok (.ifCond .eq 13, 3) := by decide +kernel
theorem dX2_step_81 : decode cX2_step 81 = .ok (.iload_n 0, 1) := by decide +kernel
theorem dX2_step_82 : decode cX2_step 82 = .ok (.bipush 8, 2) := by decide +kernel
theorem dX2_step_84 : decode cX2_step 84 = .ok (.isub, 1) := by decide +kernel
theorem dX2_step_85 : decode cX2_step 85 = .ok (.bipush 9, 2) := by decide +kernel
theorem dX2_step_87 : decode cX2_step 87 = .ok (.iadd, 1) := by decide +kernel
theorem dX2_step_88 : decode cX2_step 88 = .ok (.goto 4, 3) := by decide +kernel
theorem dX2_step_91 : decode cX2_step 91 = .ok (.iconst (-1), 1) := by decide +kernel
theorem dX2_step_92 : decode cX2_step 92 = .ok (.ireturn, 1) := by decide +kernel
theorem dX2_step_93 : decode cX2_step 93 = .ok (.iload_n 2, 1) := by decide +kernel
theorem dX2_step_94 : decode cX2_step 94 = .ok (.bipush 12, 2) := by decide +kernel
theorem dX2_step_96 : decode cX2_step 96 = .ok (.if_icmp .ge 14, 3) := by decide +kernel
theorem dX2_step_99 : decode cX2_step 99 = .ok (.iload_n 1, 1) := by decide +kernel
theorem dX2_step_100 : decode cX2_step 100 = .ok (.invokestatic 50, 3) := by decide +kernel
theorem dX2_step_103 : decode cX2_step 103 = .ok (.ifCond .eq 7, 3) := by decide +kernel
theorem dX2_step_106 : decode cX2_step 106 = .ok (.iload_n 0, 1) := by decide +kernel
theorem dX2_step_107 : decode cX2_step 107 = .ok (.iconst 1, 1) := by decide +kernel
theorem dX2_step_108 : decode cX2_step 108 = .ok (.iadd, 1) := by decide +kernel
theorem dX2_step_109 : decode cX2_step 109 = .ok (.ireturn, 1) := by decide +kernel
theorem dX2_step_110 : decode cX2_step 110 = .ok (.iload_n 2, 1) := by decide +kernel
theorem dX2_step_111 : decode cX2_step 111 = .ok (.bipush 9, 2) := by decide +kernel
theorem dX2_step_113 : decode cX2_step 113 = .ok (.if_icmp .ne 7, 3) := by decide +kernel
theorem dX2_step_116 : decode cX2_step 116 = .ok (.iconst (-1), 1) := by decide +kernel
theorem dX2_step_117 : decode cX2_step 117 = .ok (.goto 10, 3) := by decide +kernel
theorem dX2_step_120 : decode cX2_step 120 = .ok (.iload_n 0, 1) := by decide +kernel
theorem dX2_step_121 : decode cX2_step 121 = .ok (.iload_n 2, 1) := by decide +kernel
theorem dX2_step_122 : decode cX2_step 122 = .ok (.isub, 1) := by decide +kernel
theorem dX2_step_123 : decode cX2_step 123 = .ok (.iload_n 1, 1) := by decide +kernel
theorem dX2_step_124 : decode cX2_step 124 = .ok (.invokestatic 53, 3) := by decide +kernel
theorem dX2_step_127 : decode cX2_step 127 = .ok (.ireturn, 1) := by decide +kernel
theorem dX2_stepInNumber_0 : decode cX2_stepInNumber 0 = .ok (.iload_n 0, 1) := by decide +kernel
theorem dX2_stepInNumber_1 : decode cX2_stepInNumber 1 = .ok (.bipush 6, 2) := by decide +kernel
theorem dX2_stepInNumber_3 : decode cX2_stepInNumber 3 = .ok (.if_icmp .ge 14, 3) := by decide +kernel
theorem dX2_stepInNumber_6 : decode cX2_stepInNumber 6 = .ok (.iload_n 1, 1) := by decide +kernel
theorem dX2_stepInNumber_7 : decode cX2_stepInNumber 7 = .ok (.invokestatic 50, 3) := by decide +kernel
theorem dX2_stepInNumber_10 : decode cX2_stepInNumber 10 = .ok (.ifCond .eq 7, 3) := by decide +kernel
theorem dX2_stepInNumber_13 : decode cX2_stepInNumber 13 = .ok (.iload_n 0, 1) := by decide +kernel
theorem dX2_stepInNumber_14 : decode cX2_stepInNumber 14 = .ok (.iconst 1, 1) := by decide +kernel
theorem dX2_stepInNumber_15 : decode cX2_stepInNumber 15 = .ok (.iadd, 1) := by decide +kernel
theorem dX2_stepInNumber_16 : decode cX2_stepInNumber 16 = .ok (.ireturn, 1) := by decide +kernel
theorem dX2_stepInNumber_17 : decode cX2_stepInNumber 17 = .ok (.iload_n 0, 1) := by decide +kernel
theorem dX2_stepInNumber_18 : decode cX2_stepInNumber 18 = .ok (.iconst 2, 1) := by decide +kernel
theorem dX2_stepInNumber_19 : decode cX2_stepInNumber 19 = .ok (.if_icmp .le 14, 3) := by decide +kernel
theorem dX2_stepInNumber_22 : decode cX2_stepInNumber 22 = .ok (.iload_n 1, 1) := by decide +kernel
theorem dX2_stepInNumber_23 : decode cX2_stepInNumber 23 = .ok (.bipush 63, 2) := by decide +kernel
theorem dX2_stepInNumber_25 : decode cX2_stepInNumber 25 = .ok (.if_icmp .ne 8, 3) := by decide +kernel
theorem dX2_stepInNumber_28 : decode cX2_stepInNumber 28 = .ok (.bipush 7, 2) := by decide +kernel
theorem dX2_stepInNumber_30 : decode cX2_stepInNumber 30 = .ok (.goto 4, 3) := by decide +kernel
theorem dX2_stepInNumber_33 : decode cX2_stepInNumber 33 = .ok (.iconst (-1), 1) := by decide +kernel
theorem dX2_stepInNumber_34 : decode cX2_stepInNumber 34 = .ok (.ireturn, 1) := by decide +kernel
theorem dX2_stepAtFactor_0 : decode cX2_stepAtFactor 0 = .ok (.iload_n 1, 1) := by decide +kernel
theorem dX2_stepAtFactor_1 : decode cX2_stepAtFactor 1 = .ok (.bipush 33, 2) := by decide +kernel
theorem dX2_stepAtFactor_3 : decode cX2_stepAtFactor 3 = .ok (.if_icmp .ne 5, 3) := by decide +kernel
theorem dX2_stepAtFactor_6 : decode cX2_stepAtFactor 6 = .ok (.iload_n 0, 1) := by decide +kernel
theorem dX2_stepAtFactor_7 : decode cX2_stepAtFactor 7 = .ok (.ireturn, 1) := by decide +kernel
theorem dX2_stepAtFactor_8 : decode cX2_stepAtFactor 8 = .ok (.iload_n 1, 1) := by decide +kernel
theorem dX2_stepAtFactor_9 : decode cX2_stepAtFactor 9 = .ok (.bipush 40, 2) := by decide +kernel
theorem dX2_stepAtFactor_11 : decode cX2_stepAtFactor 11 = .ok (.if_icmp .ne 8, 3) := by decide +kernel
theorem dX2_stepAtFactor_14 : decode cX2_stepAtFactor 14 = .ok (.iload_n 0, 1) := by decide +kernel
theorem dX2_stepAtFactor_15 : decode cX2_stepAtFactor 15 = .ok (.bipush 16, 2) := by decide +kernel
theorem dX2_stepAtFactor_17 : decode cX2_stepAtFactor 17 = .ok (.iadd, 1) := by decide +kernel
theorem dX2_stepAtFactor_18 : decode cX2_stepAtFactor 18 = .ok (.ireturn, 1) := by decide +kernel
theorem dX2_stepAtFactor_19 : decode cX2_stepAtFactor 19 = .ok (.iload_n 1, 1) := by decide +kernel
theorem dX2_stepAtFactor_20 : decode cX2_stepAtFactor 20 = .ok (.invokestatic 56, 3) := by decide +kernel
theorem dX2_stepAtFactor_23 : decode cX2_stepAtFactor 23 = .ok (.ifCond .eq 13, 3) := by decide +kernel
theorem dX2_stepAtFactor_26 : decode cX2_stepAtFactor 26 = .ok (.iload_n 0, 1) := by decide +kernel
theorem dX2_stepAtFactor_27 : decode cX2_stepAtFactor 27 = .ok (.bipush 7, 2) := by decide +kernel
theorem dX2_stepAtFactor_29 : decode cX2_stepAtFactor 29 = .ok (.isub, 1) := by decide +kernel
theorem dX2_stepAtFactor_30 : decode cX2_stepAtFactor 30 = .ok (.bipush 8, 2) := by decide +kernel
theorem dX2_stepAtFactor_32 : decode cX2_stepAtFactor 32 = .ok (.iadd, 1) := by decide +kernel
theorem dX2_stepAtFactor_33 : decode cX2_stepAtFactor 33 = .ok (.goto 4, 3) := by decide +kernel
theorem dX2_stepAtFactor_36 : decode cX2_stepAtFactor 36 = .ok (.iconst (-1), 1) := by decide +kernel
theorem dX2_stepAtFactor_37 : decode cX2_stepAtFactor 37 = .ok (.ireturn, 1) := by decide +kernel
theorem dX2_stepBehindFactor_0 : decode cX2_stepBehindFactor 0 = .ok (.iload_n 1, 1) := by decide +kernel
theorem dX2_stepBehindFactor_1 : decode cX2_stepBehindFactor 1 = .ok (.bipush 124, 2) := by decide +kernel
theorem dX2_stepBehindFactor_3 : decode cX2_stepBehindFactor 3 = .ok (.if_icmp .eq 9, 3) := by decide +kernel
theorem dX2_stepBehindFactor_6 : decode cX2_stepBehindFactor 6 = .ok (.iload_n 1, 1) := by decide +kernel
theorem dX2_stepBehindFactor_7 : decode cX2_stepBehindFactor 7 = .ok (.bipush 38, 2) := by decide +kernel
theorem dX2_stepBehindFactor_9 : decode cX2_stepBehindFactor 9 = .ok (.if_icmp .ne 8, 3) := by decide +kernel
theorem dX2_stepBehindFactor_12 : decode cX2_stepBehindFactor 12 = .ok (.iload_n 0, 1) := by decide +kernel
theorem dX2_stepBehindFactor_13 : decode cX2_stepBehindFactor 13 = .ok (.bipush 7, 2) := by decide +kernel
theorem dX2_stepBehindFactor_15 : decode cX2_stepBehindFactor 15 = .ok (.iadd, 1) := by decide +kernel
theorem dX2_stepBehindFactor_16 : decode cX2_stepBehindFactor 16 = .ok (.ireturn, 1) := by decide +kernel
theorem dX2_stepBehindFactor_17 : decode cX2_stepBehindFactor 17 = .ok (.iload_n 1, 1) := by decide +kernel
theorem dX2_stepBehindFactor_18 : decode cX2_stepBehindFactor 18 = .ok (.bipush 41, 2) := by decide +kernel
theorem dX2_stepBehindFactor_20 : decode cX2_stepBehindFactor 20 = .ok (.if_icmp .ne 17, 3) := by decide +kernel
theorem dX2_stepBehindFactor_23 : decode cX2_stepBehindFactor 23 = .ok (.iload_n 0, 1) := by decide +kernel
theorem dX2_stepBehindFactor_24 : decode cX2_stepBehindFactor 24 = .ok (.ifCond .le 13, 3) := by decide +kernel
theorem dX2_stepBehindFactor_27 : decode cX2_stepBehindFactor 27 = .ok (.iload_n 0, 1) := by decide +kernel
theorem dX2_stepBehindFactor_28 : decode cX2_stepBehindFactor 28 = .ok (.bipush 16, 2) := by decide +kernel
theorem dX2_stepBehindFactor_30 : decode cX2_stepBehindFactor 30 = .ok (.isub, 1) := by decide +kernel
theorem dX2_stepBehindFactor_31 : decode cX2_stepBehindFactor 31 = .ok (.bipush 13, 2) := by decide +kernel
theorem dX2_stepBehindFactor_33 : decode cX2_stepBehindFactor 33 = .ok (.iadd, 1) := by decide +kernel
theorem dX2_stepBehindFactor_34 : decode cX2_stepBehindFactor 34 = .ok (.goto 4, 3) := by decide +kernel
theorem dX2_stepBehindFactor_37 : decode cX2_stepBehindFactor 37 = .ok (.iconst (-1), 1) := by decide +kernel
theorem dX2_stepBehindFactor_38 : decode cX2_stepBehindFactor 38 = .ok (.ireturn, 1) := by decide +kernel
theorem dX2_isDigit_0 : decode cX2_isDigit 0 = .ok (.iload_n 0, 1) := by decide +kernel
theorem dX2_isDigit_1 : decode cX2_isDigit 1 = .ok (.bipush 48, 2) := by decide +kernel
theorem dX2_isDigit_3 : decode cX2_isDigit 3 = .ok (.if_icmp .lt 13, 3) := by decide +kernel
theorem dX2_isDigit_6 : decode cX2_isDigit 6 = .ok (.iload_n 0, 1) := by decide +kernel
theorem dX2_isDigit_7 : decode cX2_isDigit 7 = .ok (.bipush 57, 2) := by decide +kernel
theorem dX2_isDigit_9 : decode cX2_isDigit 9 = .ok (.if_icmp .gt 7, 3) := by decide +kernel
theorem dX2_isDigit_12 : decode cX2_isDigit 12 = .ok (.iconst 1, 1) := by decide +kernel
theorem dX2_isDigit_13 : decode cX2_isDigit 13 = .ok (.goto 4, 3) := by decide +kernel
theorem dX2_isDigit_16 : decode cX2_isDigit 16 = .ok (.iconst 0, 1) := by decide +kernel
theorem dX2_isDigit_17 : decode cX2_isDigit 17 = .ok (.ireturn, 1) := by decide +kernel
theorem dX2_isName_0 : decode cX2_isName 0 = .ok (.iload_n 0, 1) := by decide +kernel
theorem dX2_isName_1 : decode cX2_isName 1 = .ok (.bipush 108, 2) := by decide +kernel
theorem dX2_isName_3 : decode cX2_isName 3 = .ok (.if_icmp .eq 27, 3) := by decide +kernel
theorem dX2_isName_6 : decode cX2_isName 6 = .ok (.iload_n 0, 1) := by decide +kernel
theorem dX2_isName_7 : decode cX2_isName 7 = .ok (.bipush 109, 2) := by decide +kernel
theorem dX2_isName_9 : decode cX2_isName 9 = .ok (.if_icmp .eq 21, 3) := by decide +kernel
theorem dX2_isName_12 : decode cX2_isName 12 = .ok (.iload_n 0, 1) := by decide +kernel
theorem dX2_isName_13 : decode cX2_isName 13 = .ok (.bipush 103, 2) := by decide +kernel
theorem dX2_isName_15 : decode cX2_isName 15 = .ok (.if_icmp .eq 15, 3) := by decide +kernel
theorem dX2_isName_18 : decode cX2_isName 18 = .ok (.iload_n 0, 1) := by decide +kernel
theorem dX2_isName_19 : decode cX2_isName 19 = .ok (.bipush 99, 2) := by decide +kernel
theorem dX2_isName_21 : decode cX2_isName 21 = .ok (.if_icmp .eq 9, 3) := by decide +kernel
theorem dX2_isName_24 : decode cX2_isName 24 = .ok (.iload_n 0, 1) := by decide +kernel
theorem dX2_isName_25 : decode cX2_isName 25 = .ok (.bipush 100, 2) := by decide +kernel
theorem dX2_isName_27 : decode cX2_isName 27 = .ok (.if_icmp .ne 7, 3) := by decide +kernel
theorem dX2_isName_30 : decode cX2_isName 30 = .ok (.iconst 1, 1) := by decide +kernel
theorem dX2_isName_31 : decode cX2_isName 31 = .ok (.goto 4, 3) := by decide +kernel
theorem dX2_isName_34 : decode cX2_isName 34 = .ok (.iconst 0, 1) := by decide +kernel
theorem dX2_isName_35 : decode cX2_isName 35 = .ok (.ireturn, 1) := by decide +kernel
theorem dX2_takeText_0 : decode cX2_takeText 0 = .ok (.aload_n 0, 1) := by decide +kernel
theorem dX2_takeText_1 : decode cX2_takeText 1 = .ok (.getfield 21, 3) := by decide +kernel
theorem dX2_takeText_4 : decode cX2_takeText 4 = .ok (.bipush 16, 2) := by decide +kernel
theorem dX2_takeText_6 : decode cX2_takeText 6 = .ok (.if_icmp .lt 6, 3) := by decide +kernel
theorem dX2_takeText_9 : decode cX2_takeText 9 = .ok (.bipush (-104), 2) := by decide +kernel
theorem dX2_takeText_11 : decode cX2_takeText 11 = .ok (.ireturn, 1) := by decide +kernel
theorem dX2_takeText_12 : decode cX2_takeText 12 = .ok (.aload_n 0, 1) := by decide +kernel
theorem dX2_takeText_13 : decode cX2_takeText 13 = .ok (.getfield 17, 3) := by decide +kernel
theorem dX2_takeText_16 : decode cX2_takeText 16 = .ok (.aload_n 0, 1) := by decide +kernel
theorem dX2_takeText_17 : decode cX2_takeText 17 = .ok (.getfield 21, 3) := by decide +kernel
theorem dX2_takeText_20 : decode cX2_takeText 20 = .ok (.new 15, 3) := by decide +kernel
theorem dX2_takeText_23 : decode cX2_takeText 23 = .ok (.dup, 1) := by decide +kernel
theorem dX2_takeText_24 : decode cX2_takeText 24 = .ok (.aload_n 0, 1) := by decide +kernel
theorem dX2_takeText_25 : decode cX2_takeText 25 = .ok (.getfield 11, 3) := by decide +kernel
theorem dX2_takeText_28 : decode cX2_takeText 28 = .ok (.aload_n 0, 1) := by decide +kernel
theorem dX2_takeText_29 : decode cX2_takeText 29 = .ok (.getfield 33, 3) := by decide +kernel
theorem dX2_takeText_32 : decode cX2_takeText 32 = .ok (.invokestatic 59, 3) := by decide +kernel
theorem dX2_takeText_35 : decode cX2_takeText 35 = .ok (.invokespecial 65, 3) := by decide +kernel
theorem dX2_takeText_38 : decode cX2_takeText 38 = .ok (.aastore, 1) := by decide +kernel
theorem dX2_takeText_39 : decode cX2_takeText 39 = .ok (.aload_n 0, 1) := by decide +kernel
theorem dX2_takeText_40 : decode cX2_takeText 40 = .ok (.iconst 0, 1) := by decide +kernel
theorem dX2_takeText_41 : decode cX2_takeText 41 = .ok (.putfield 33, 3) := by decide +kernel
theorem dX2_takeText_44 : decode cX2_takeText 44 = .ok (.aload_n 0, 1) := by decide +kernel
theorem dX2_takeText_45 : decode cX2_takeText 45 = .ok (.dup, 1) := by decide +kernel
theorem dX2_takeText_46 : decode cX2_takeText 46 = .ok (.getfield 21, 3) := by decide +kernel
theorem dX2_takeText_49 : decode cX2_takeText 49 = .ok (.dup_x1, 1) := by decide +kernel
theorem dX2_takeText_50 : decode cX2_takeText 50 = .ok (.iconst 1, 1) := by decide +kernel
theorem dX2_takeText_51 : decode cX2_takeText 51 = .ok (.iadd, 1) := by decide +kernel
theorem dX2_takeText_52 : decode cX2_takeText 52 = .ok (.putfield 21, 3) := by decide +kernel
theorem dX2_takeText_55 : decode cX2_takeText 55 = .ok (.ireturn, 1) := by decide +kernel
theorem dX2_speaker_0 : decode cX2_speaker 0 = .ok (.aload_n 0, 1) := by decide +kernel
theorem dX2_speaker_1 : decode cX2_speaker 1 = .ok (.getfield 21, 3) := by decide +kernel
theorem dX2_speaker_4 : decode cX2_speaker 4 = .ok (.iconst 1, 1) := by decide +kernel
theorem dX2_speaker_5 : decode cX2_speaker 5 = .ok (.isub, 1) := by decide +kernel
theorem dX2_speaker_6 : decode cX2_speaker 6 = .ok (.istore 4, 2) := by decide +kernel
theorem dX2_speaker_8 : decode cX2_speaker 8 = .ok (.iload 4, 2) := by decide +kernel
theorem dX2_speaker_10 : decode cX2_speaker 10 = .ok (.ifCond .lt 28, 3) := by decide +kernel
theorem dX2_speaker_13 : decode cX2_speaker 13 = .ok (.aload_n 0, 1) := by decide +kernel
theorem dX2_speaker_14 : decode cX2_speaker 14 = .ok (.getfield 17, 3) := by decide +kernel
theorem dX2_speaker_17 : decode cX2_speaker 17 = .ok (.iload 4, 2) := by decide +kernel
theorem dX2_speaker_19 : decode cX2_speaker 19 = .ok (.aaload, 1) := by decide +kernel
theorem dX2_speaker_20 : decode cX2_speaker 20 = .ok (.iload_n 1, 1) := by decide +kernel
theorem dX2_speaker_21 : decode cX2_speaker 21 = .ok (.aload_n 2, 1) := by decide +kernel
theorem dX2_speaker_22 : decode cX2_speaker 22 = .ok (.iload_n 3, 1) := by decide +kernel
theorem dX2_speaker_23 : decode cX2_speaker 23 = .ok (.invokevirtual 68, 3) := by decide +kernel
theorem dX2_speaker_26 : decode cX2_speaker 26 = .ok (.ifCond .eq 6, 3) := by decide +kernel
theorem dX2_speaker_29 : decode cX2_speaker 29 = .ok (.iload 4, 2) := by decide +kernel
theorem dX2_speaker_31 : decode cX2_speaker 31 = .ok (.ireturn, 1) := by decide +kernel
theorem dX2_speaker_32 : decode cX2_speaker 32 = .ok (.iinc 4 (-1), 3) := by decide +kernel
theorem dX2_speaker_35 : decode cX2_speaker 35 = .ok (.goto (-27), 3) := by decide +kernel
theorem dX2_speaker_38 : decode cX2_speaker 38 = .ok (.iconst (-1), 1) := by decide +kernel
theorem dX2_speaker_39 : decode cX2_speaker 39 = .ok (.ireturn, 1) := by decide +kernel
theorem dX2_says_0 : decode cX2_says 0 = .ok (.aload_n 0, 1) := by decide +kernel
theorem dX2_says_1 : decode cX2_says 1 = .ok (.aload_n 0, 1) := by decide +kernel
theorem dX2_says_2 : decode cX2_says 2 = .ok (.iload_n 1, 1) := by decide +kernel
theorem dX2_says_3 : decode cX2_says 3 = .ok (.aload_n 2, 1) := by decide +kernel
theorem dX2_says_4 : decode cX2_says 4 = .ok (.iload_n 3, 1) := by decide +kernel
theorem dX2_says_5 : decode cX2_says 5 = .ok (.invokevirtual 72, 3) := by decide +kernel
theorem dX2_says_8 : decode cX2_says 8 = .ok (.invokevirtual 76, 3) := by decide +kernel
theorem dX2_says_11 : decode cX2_says 11 = .ok (.astore 4, 2) := by decide +kernel
theorem dX2_says_13 : decode cX2_says 13 = .ok (.aload 4, 2) := by decide +kernel
theorem dX2_says_15 : decode cX2_says 15 = .ok (.ifnonnull 7, 3) := by decide +kernel
theorem dX2_says_18 : decode cX2_says 18 = .ok (.iconst 0, 1) := by decide +kernel
theorem dX2_says_19 : decode cX2_says 19 = .ok (.goto 8, 3) := by decide +kernel
theorem dX2_says_22 : decode cX2_says 22 = .ok (.aload 4, 2) := by decide +kernel
theorem dX2_says_24 : decode cX2_says 24 = .ok (.getfield 80, 3) := by decide +kernel
theorem dX2_says_27 : decode cX2_says 27 = .ok (.ireturn, 1) := by decide +kernel
theorem dX2_quarrelling_0 : decode cX2_quarrelling 0 = .ok (.aload_n 0, 1) := by decide +kernel
theorem dX2_quarrelling_1 : decode cX2_quarrelling 1 = .ok (.iload_n 1, 1) := by decide +kernel
theorem dX2_quarrelling_2 : decode cX2_quarrelling 2 = .ok (.aload_n 2, 1) := by decide +kernel
theorem dX2_quarrelling_3 : decode cX2_quarrelling 3 = .ok (.iload_n 3, 1) := by decide +kernel
theorem dX2_quarrelling_4 : decode cX2_quarrelling 4 = .ok (.invokevirtual 72, 3) := by decide +kernel
theorem dX2_quarrelling_7 : decode cX2_quarrelling 7 = .ok (.istore 4, 2) := by decide +kernel
theorem dX2_quarrelling_9 : decode cX2_quarrelling 9 = .ok (.iconst 0, 1) := by decide +kernel
theorem dX2_quarrelling_10 : decode cX2_quarrelling 10 = .ok (.istore 5, 2) := by decide +kernel
theorem dX2_quarrelling_12 : decode cX2_quarrelling 12 = .ok (.iconst 0, 1) := by decide +kernel
theorem dX2_quarrelling_13 : decode cX2_quarrelling 13 = .ok (.istore 6, 2) := by decide +kernel
theorem dX2_quarrelling_15 : decode cX2_quarrelling 15 = .ok (.iload 6, 2) := by decide +kernel
theorem dX2_quarrelling_17 : decode cX2_quarrelling 17 = .ok (.iload 4, 2) := by decide +kernel
theorem dX2_quarrelling_19 : decode cX2_quarrelling 19 = .ok (.if_icmp .ge 51, 3) := by decide +kernel
theorem dX2_quarrelling_22 : decode cX2_quarrelling 22 = .ok (.aload_n 0, 1) := by decide +kernel
theorem dX2_quarrelling_23 : decode cX2_quarrelling 23 = .ok (.getfield 17, 3) := by decide +kernel
theorem dX2_quarrelling_26 : decode cX2_quarrelling 26 = .ok (.iload 6, 2) := by decide +kernel
theorem dX2_quarrelling_28 : decode cX2_quarrelling 28 = .ok (.aaload, 1) := by decide +kernel
theorem dX2_quarrelling_29 : decode cX2_quarrelling 29 = .ok (.getfield 80, 3) := by decide +kernel
theorem dX2_quarrelling_32 : decode cX2_quarrelling 32 = .ok (.aload_n 0, 1) := by decide +kernel
theorem dX2_quarrelling_33 : decode cX2_quarrelling 33 = .ok (.getfield 17, 3) := by decide +kernel
theorem dX2_quarrelling_36 : decode cX2_quarrelling 36 = .ok (.iload 4, 2) := by decide +kernel
theorem dX2_quarrelling_38 : decode cX2_quarrelling 38 = .ok (.aaload, 1) := by decide +kernel
theorem dX2_quarrelling_39 : decode cX2_quarrelling 39 = .ok (.getfield 80, 3) := by decide +kernel
theorem dX2_quarrelling_42 : decode cX2_quarrelling 42 = .ok (.if_icmp .eq 22, 3) := by decide +kernel
theorem dX2_quarrelling_45 : decode cX2_quarrelling 45 = .ok (.aload_n 0, 1) := by decide +kernel
theorem dX2_quarrelling_46 : decode cX2_quarrelling 46 = .ok (.getfield 17, 3) := by decide +kernel
theorem dX2_quarrelling_49 : decode cX2_quarrelling 49 = .ok (.iload 6, 2) := by decide +kernel
theorem dX2_quarrelling_51 : decode cX2_quarrelling 51 = .ok (.aaload, 1) := by decide +kernel
theorem dX2_quarrelling_52 : decode cX2_quarrelling 52 = .ok (.iload_n 1, 1) := by decide +kernel
theorem dX2_quarrelling_53 : decode cX2_quarrelling 53 = .ok (.aload_n 2, 1) := by decide +kernel
theorem dX2_quarrelling_54 : decode cX2_quarrelling 54 = .ok (.iload_n 3, 1) := by decide +kernel
theorem dX2_quarrelling_55 : decode cX2_quarrelling 55 = .ok (.invokevirtual 68, 3) := by decide +kernel
theorem dX2_quarrelling_58 : decode cX2_quarrelling 58 = .ok (.ifCond .eq 6, 3) := by decide +kernel
theorem dX2_quarrelling_61 : decode cX2_quarrelling 61 = .ok (.iinc 5 1, 3) := by decide +kernel
theorem dX2_quarrelling_64 : decode cX2_quarrelling 64 = .ok (.iinc 6 1, 3) := by decide +kernel
theorem dX2_quarrelling_67 : decode cX2_quarrelling 67 = .ok (.goto (-52), 3) := by decide +kernel
theorem dX2_quarrelling_70 : decode cX2_quarrelling 70 = .ok (.iload 5, 2) := by decide +kernel
theorem dX2_quarrelling_72 : decode cX2_quarrelling 72 = .ok (.ireturn, 1) := by decide +kernel
theorem dX2_addTextsTo_0 : decode cX2_addTextsTo 0 = .ok (.lload_n 1, 1) := by decide +kernel
theorem dX2_addTextsTo_1 : decode cX2_addTextsTo 1 = .ok (.lstore_n 3, 1) := by decide +kernel
theorem dX2_addTextsTo_2 : decode cX2_addTextsTo 2 = .ok (.iconst 0, 1) := by decide +kernel
theorem dX2_addTextsTo_3 : decode cX2_addTextsTo 3 = .ok (.istore 5, 2) := by decide +kernel
theorem dX2_addTextsTo_5 : decode cX2_addTextsTo 5 = .ok (.iload 5, 2) := by decide +kernel
theorem dX2_addTextsTo_7 : decode cX2_addTextsTo 7 = .ok (.aload_n 0, 1) := by decide +kernel
theorem dX2_addTextsTo_8 : decode cX2_addTextsTo 8 = .ok (.getfield 21, 3) := by decide +kernel
theorem dX2_addTextsTo_11 : decode cX2_addTextsTo 11 = .ok (.if_icmp .ge 47, 3) := by decide +kernel
theorem dX2_addTextsTo_14 : decode cX2_addTextsTo 14 = .ok (.aload_n 0, 1) := by decide +kernel
theorem dX2_addTextsTo_15 : decode cX2_addTextsTo 15 = .ok (.getfield 17, 3) := by decide +kernel
theorem dX2_addTextsTo_18 : decode cX2_addTextsTo 18 = .ok (.iload 5, 2) := by decide +kernel
theorem dX2_addTextsTo_20 : decode cX2_addTextsTo 20 = .ok (.aaload, 1) := by decide +kernel
theorem dX2_addTextsTo_21 : decode cX2_addTextsTo 21 = .ok (.astore 6, 2) := by decide +kernel
theorem dX2_addTextsTo_23 : decode cX2_addTextsTo 23 = .ok (.lload_n 3, 1) := by decide +kernel
theorem dX2_addTextsTo_24 : decode cX2_addTextsTo 24 = .ok (.aload 6, 2) := by decide +kernel
theorem dX2_addTextsTo_26 : decode cX2_addTextsTo 26 = .ok (.getfield 83, 3) := by decide +kernel
theorem dX2_addTextsTo_29 : decode cX2_addTextsTo 29 = .ok (.i2l, 1) := by decide +kernel
theorem dX2_addTextsTo_30 : decode cX2_addTextsTo 30 = .ok (.invokestatic 86, 3) := by decide +kernel
theorem dX2_addTextsTo_33 : decode cX2_addTextsTo 33 = .ok (.aload 6, 2) := by decide +kernel
theorem dX2_addTextsTo_35 : decode cX2_addTextsTo 35 = .ok (.getfield 90, 3) := by decide +kernel
theorem dX2_addTextsTo_38 : decode cX2_addTextsTo 38 = .ok (.i2l, 1) := by decide +kernel
theorem dX2_addTextsTo_39 : decode cX2_addTextsTo 39 = .ok (.invokestatic 86, 3) := by decide +kernel
theorem dX2_addTextsTo_42 : decode cX2_addTextsTo 42 = .ok (.aload 6, 2) := by decide +kernel
theorem dX2_addTextsTo_44 : decode cX2_addTextsTo 44 = .ok (.getfield 80, 3) := by decide +kernel
theorem dX2_addTextsTo_47 : decode cX2_addTextsTo 47 = .ok (.i2l, 1) := by decide +kernel
theorem dX2_addTextsTo_48 : decode cX2_addTextsTo 48 = .ok (.invokestatic 86, 3) := by decide +kernel
theorem dX2_addTextsTo_51 : decode cX2_addTextsTo 51 = .ok (.lstore_n 3, 1) := by decide +kernel
theorem dX2_addTextsTo_52 : decode cX2_addTextsTo 52 = .ok (.iinc 5 1, 3) := by decide +kernel
theorem dX2_addTextsTo_55 : decode cX2_addTextsTo 55 = .ok (.goto (-50), 3) := by decide +kernel
theorem dX2_addTextsTo_58 : decode cX2_addTextsTo 58 = .ok (.lload_n 3, 1) := by decide +kernel
theorem dX2_addTextsTo_59 : decode cX2_addTextsTo 59 = .ok (.lreturn, 1) := by decide +kernel
theorem dX2_addPageTo_0 : decode cX2_addPageTo 0 = .ok (.lload_n 1, 1) := by decide +kernel
theorem dX2_addPageTo_1 : decode cX2_addPageTo 1 = .ok (.lstore_n 3, 1) := by decide +kernel
theorem dX2_addPageTo_2 : decode cX2_addPageTo 2 = .ok (.iconst 0, 1) := by decide +kernel
theorem dX2_addPageTo_3 : decode cX2_addPageTo 3 = .ok (.istore 5, 2) := by decide +kernel
theorem dX2_addPageTo_5 : decode cX2_addPageTo 5 = .ok (.iload 5, 2) := by decide +kernel
theorem dX2_addPageTo_7 : decode cX2_addPageTo 7 = .ok (.aload_n 0, 1) := by decide +kernel
theorem dX2_addPageTo_8 : decode cX2_addPageTo 8 = .ok (.getfield 33, 3) := by decide +kernel
theorem dX2_addPageTo_11 : decode cX2_addPageTo 11 = .ok (.if_icmp .ge 22, 3) := by decide +kernel
theorem dX2_addPageTo_14 : decode cX2_addPageTo 14 = .ok (.lload_n 3, 1) := by decide +kernel
theorem dX2_addPageTo_15 : decode cX2_addPageTo 15 = .ok (.aload_n 0, 1) := by decide +kernel
theorem dX2_addPageTo_16 : decode cX2_addPageTo 16 = .ok (.getfield 11, 3) := by decide +kernel
theorem dX2_addPageTo_19 : decode cX2_addPageTo 19 = .ok (.iload 5, 2) := by decide +kernel
theorem dX2_addPageTo_21 : decode cX2_addPageTo 21 = .ok (.baload, 1) := by decide +kernel
theorem dX2_addPageTo_22 : decode cX2_addPageTo 22 = .ok (.i2l, 1) := by decide +kernel
theorem dX2_addPageTo_23 : decode cX2_addPageTo 23 = .ok (.invokestatic 86, 3) := by decide +kernel
theorem dX2_addPageTo_26 : decode cX2_addPageTo 26 = .ok (.lstore_n 3, 1) := by decide +kernel
theorem dX2_addPageTo_27 : decode cX2_addPageTo 27 = .ok (.iinc 5 1, 3) := by decide +kernel
theorem dX2_addPageTo_30 : decode cX2_addPageTo 30 = .ok (.goto (-25), 3) := by decide +kernel
theorem dX2_addPageTo_33 : decode cX2_addPageTo 33 = .ok (.lload_n 3, 1) := by decide +kernel
theorem dX2_addPageTo_34 : decode cX2_addPageTo 34 = .ok (.lreturn, 1) := by decide +kernel
theorem dX3_init_0 : decode cX3_init 0 = .ok (.aload_n 0, 1) := by decide +kernel
theorem dX3_init_1 : decode cX3_init 1 = .ok (.invokespecial 3, 3) := by decide +kernel
theorem dX3_init_4 : decode cX3_init 4 = .ok (.aload_n 0, 1) := by decide +kernel
theorem dX3_init_5 : decode cX3_init 5 = .ok (.bipush 8, 2) := by decide +kernel
theorem dX3_init_7 : decode cX3_init 7 = .ok (.anewarray 9, 3) := by decide +kernel
theorem dX3_init_10 : decode cX3_init 10 = .ok (.putfield 11, 3) := by decide +kernel
theorem dX3_init_13 : decode cX3_init 13 = .ok (.aload_n 0, 1) := by decide +kernel
theorem dX3_init_14 : decode cX3_init 14 = .ok (.bipush 7, 2) := by decide +kernel
theorem dX3_init_16 : decode cX3_init 16 = .ok (.anewarray 17, 3) := by decide +kernel
theorem dX3_init_19 : decode cX3_init 19 = .ok (.putfield 19, 3) := by decide +kernel
theorem dX3_init_22 : decode cX3_init 22 = .ok (.aload_n 0, 1) := by decide +kernel
theorem dX3_init_23 : decode cX3_init 23 = .ok (.bipush 12, 2) := by decide +kernel
theorem dX3_init_25 : decode cX3_init 25 = .ok (.anewarray 23, 3) := by decide +kernel
theorem dX3_init_28 : decode cX3_init 28 = .ok (.putfield 25, 3) := by decide +kernel
theorem dX3_init_31 : decode cX3_init 31 = .ok (.aload_n 0, 1) := by decide +kernel
theorem dX3_init_32 : decode cX3_init 32 = .ok (.bipush 12, 2) := by decide +kernel
theorem dX3_init_34 : decode cX3_init 34 = .ok (.anewarray 23, 3) := by decide +kernel
theorem dX3_init_37 : decode cX3_init 37 = .ok (.putfield 29, 3) := by decide +kernel
theorem dX3_init_40 : decode cX3_init 40 = .ok (.aload_n 0, 1) := by decide +kernel
theorem dX3_init_41 : decode cX3_init 41 = .ok (.bipush 12, 2) := by decide +kernel
theorem dX3_init_43 : decode cX3_init 43 = .ok (.anewarray 32, 3) := by decide +kernel
theorem dX3_init_46 : decode cX3_init 46 = .ok (.putfield 34, 3) := by decide +kernel
theorem dX3_init_49 : decode cX3_init 49 = .ok (.aload_n 0, 1) := by decide +kernel
theorem dX3_init_50 : decode cX3_init 50 = .ok (.iconst 3, 1) := by decide +kernel
theorem dX3_init_51 : decode cX3_init 51 = .ok (.putfield 38, 3) := by decide +kernel
theorem dX3_init_54 : decode cX3_init 54 = .ok (.iconst 0, 1) := by decide +kernel
theorem dX3_init_55 : decode cX3_init 55 = .ok (.istore_n 1, 1) := by decide +kernel
theorem dX3_init_56 : decode cX3_init 56 = .ok (.iload_n 1, 1) := by decide +kernel
theorem dX3_init_57 : decode cX3_init 57 = .ok (.bipush 8, 2) := by decide +kernel
theorem dX3_init_59 : decode cX3_init 59 = .ok (.if_icmp .ge 22, 3) := by decide +kernel
theorem dX3_init_62 : decode cX3_init 62 = .ok (.aload_n 0, 1) := by decide +kernel
theorem dX3_init_63 : decode cX3_init 63 = .ok (.getfield 11, 3) := by decide +kernel
theorem dX3_init_66 : decode cX3_init 66 = .ok (.iload_n 1, 1) := by decide +kernel
theorem dX3_init_67 : decode cX3_init 67 = .ok (.new 9, 3) := by decide +kernel
theorem dX3_init_70 : decode cX3_init 70 = .ok (.dup, 1) := by decide +kernel
theorem dX3_init_71 : decode cX3_init 71 = .ok (.invokespecial 42, 3) := by decide +kernel
theorem dX3_init_74 : decode cX3_init 74 = .ok (.aastore, 1) := by decide +kernel
theorem dX3_init_75 : decode cX3_init 75 = .ok (.iinc 1 1, 3) := by decide +kernel
theorem dX3_init_78 : decode cX3_init 78 = .ok (.goto (-22), 3) := by decide +kernel
theorem dX3_init_81 : decode cX3_init 81 = .ok (.iconst 0, 1) := by decide +kernel
theorem dX3_init_82 : decode cX3_init 82 = .ok (.istore_n 1, 1) := by decide +kernel
theorem dX3_init_83 : decode cX3_init 83 = .ok (.iload_n 1, 1) := by decide +kernel
theorem dX3_init_84 : decode cX3_init 84 = .ok (.bipush 7, 2) := by decide +kernel
theorem dX3_init_86 : decode cX3_init 86 = .ok (.if_icmp .ge 22, 3) := by decide +kernel
theorem dX3_init_89 : decode cX3_init 89 = .ok (.aload_n 0, 1) := by decide +kernel
theorem dX3_init_90 : decode cX3_init 90 = .ok (.getfield 19, 3) := by decide +kernel
theorem dX3_init_93 : decode cX3_init 93 = .ok (.iload_n 1, 1) := by decide +kernel
theorem dX3_init_94 : decode cX3_init 94 = .ok (.new 17, 3) := by decide +kernel
theorem dX3_init_97 : decode cX3_init 97 = .ok (.dup, 1) := by decide +kernel
theorem dX3_init_98 : decode cX3_init 98 = .ok (.invokespecial 43, 3) := by decide +kernel
theorem dX3_init_101 : decode cX3_init 101 = .ok (.aastore, 1) := by decide +kernel
theorem dX3_init_102 : decode cX3_init 102 = .ok (.iinc 1 1, 3) := by decide +kernel
theorem dX3_init_105 : decode cX3_init 105 = .ok (.goto (-22), 3) := by decide +kernel
theorem dX3_init_108 : decode cX3_init 108 = .ok (.return_, 1) := by decide +kernel
theorem dX3_poundNumbered_0 : decode cX3_poundNumbered 0 = .ok (.iload_n 1, 1) := by decide +kernel
theorem dX3_poundNumbered_1 : decode cX3_poundNumbered 1 = .ok (.iconst 0, 1) := by decide +kernel
theorem dX3_poundNumbered_2 : decode cX3_poundNumbered 2 = .ok (.bipush 7, 2) := by decide +kernel
theorem dX3_poundNumbered_4 : decode cX3_poundNumbered 4 = .ok (.invokestatic 44, 3) := by decide +kernel
theorem dX3_poundNumbered_7 : decode cX3_poundNumbered 7 = .ok (.ifCond .eq 12, 3) := by decide +kernel
theorem dX3_poundNumbered_10 : decode cX3_poundNumbered 10 = .ok (.aload_n 0, 1) := by decide +kernel
theorem dX3_poundNumbered_11 : decode cX3_poundNumbered 11 = .ok (.getfield 11, 3) := by decide +kernel
theorem dX3_poundNumbered_14 : decode cX3_poundNumbered 14 = .ok (.iload_n 1, 1) := by decide +kernel
theorem dX3_poundNumbered_15 : decode cX3_poundNumbered 15 = .ok (.aaload, 1) := by decide +kernel
theorem dX3_poundNumbered_16 : decode cX3_poundNumbered 16 = .ok (.goto 4, 3) := by decide +kernel
theorem dX3_poundNumbered_19 : decode cX3_poundNumbered 19 = .ok (.aconst_null, 1) := by decide +kernel
theorem dX3_poundNumbered_20 : decode cX3_poundNumbered 20 = .ok (.areturn, 1) := by decide +kernel
theorem dX3_lockNumbered_0 : decode cX3_lockNumbered 0 = .ok (.iload_n 1, 1) := by decide +kernel
theorem dX3_lockNumbered_1 : decode cX3_lockNumbered 1 = .ok (.iconst 0, 1) := by decide +kernel
theorem dX3_lockNumbered_2 : decode cX3_lockNumbered 2 = .ok (.bipush 6, 2) := by decide +kernel
theorem dX3_lockNumbered_4 : decode cX3_lockNumbered 4 = .ok (.invokestatic 44, 3) := by decide +kernel
theorem dX3_lockNumbered_7 : decode cX3_lockNumbered 7 = .ok (.ifCond .eq 12, 3) := by decide +kernel
theorem dX3_lockNumbered_10 : decode cX3_lockNumbered 10 = .ok (.aload_n 0, 1) := by decide +kernel
theorem dX3_lockNumbered_11 : decode cX3_lockNumbered 11 = .ok (.getfield 19, 3) := by decide +kernel
theorem dX3_lockNumbered_14 : decode cX3_lockNumbered 14 = .ok (.iload_n 1, 1) := by decide +kernel
theorem dX3_lockNumbered_15 : decode cX3_lockNumbered 15 = .ok (.aaload, 1) := by decide +kernel
theorem dX3_lockNumbered_16 : decode cX3_lockNumbered 16 = .ok (.goto 4, 3) := by decide +kernel
theorem dX3_lockNumbered_19 : decode cX3_lockNumbered 19 = .ok (.aconst_null, 1) := by decide +kernel
theorem dX3_lockNumbered_20 : decode cX3_lockNumbered 20 = .ok (.areturn, 1) := by decide +kernel
theorem dX3_takerNumbered_0 : decode cX3_takerNumbered 0 = .ok (.iload_n 1, 1) := by decide +kernel
theorem dX3_takerNumbered_1 : decode cX3_takerNumbered 1 = .ok (.iconst 0, 1) := by decide +kernel
theorem dX3_takerNumbered_2 : decode cX3_takerNumbered 2 = .ok (.aload_n 0, 1) := by decide +kernel
theorem dX3_takerNumbered_3 : decode cX3_takerNumbered 3 = .ok (.getfield 48, 3) := by decide +kernel
theorem dX3_takerNumbered_6 : decode cX3_takerNumbered 6 = .ok (.iconst 1, 1) := by decide +kernel
theorem dX3_takerNumbered_7 : decode cX3_takerNumbered 7 = .ok (.isub, 1) := by decide +kernel
theorem dX3_takerNumbered_8 : decode cX3_takerNumbered 8 = .ok (.invokestatic 44, 3) := by decide +kernel
theorem dX3_takerNumbered_11 : decode cX3_takerNumbered 11 = .ok (.ifCond .eq 12, 3) := by decide +kernel
theorem dX3_takerNumbered_14 : decode cX3_takerNumbered 14 = .ok (.aload_n 0, 1) := by decide +kernel
theorem dX3_takerNumbered_15 : decode cX3_takerNumbered 15 = .ok (.getfield 25, 3) := by decide +kernel
theorem dX3_takerNumbered_18 : decode cX3_takerNumbered 18 = .ok (.iload_n 1, 1) := by decide +kernel
theorem dX3_takerNumbered_19 : decode cX3_takerNumbered 19 = .ok (.aaload, 1) := by decide +kernel
theorem dX3_takerNumbered_20 : decode cX3_takerNumbered 20 = .ok (.goto 4, 3) := by decide +kernel
theorem dX3_takerNumbered_23 : decode cX3_takerNumbered 23 = .ok (.aconst_null, 1) := by decide +kernel
theorem dX3_takerNumbered_24 : decode cX3_takerNumbered 24 = .ok (.areturn, 1) := by decide +kernel
theorem dX3_boatNumbered_0 : decode cX3_boatNumbered 0 = .ok (.iload_n 1, 1) := by decide +kernel
theorem dX3_boatNumbered_1 : decode cX3_boatNumbered 1 = .ok (.iconst 0, 1) := by decide +kernel
theorem dX3_boatNumbered_2 : decode cX3_boatNumbered 2 = .ok (.aload_n 0, 1) := by decide +kernel
theorem dX3_boatNumbered_3 : decode cX3_boatNumbered 3 = .ok (.getfield 51, 3) := by decide +kernel
theorem dX3_boatNumbered_6 : decode cX3_boatNumbered 6 = .ok (.iconst 1, 1) := by decide +kernel
theorem dX3_boatNumbered_7 : decode cX3_boatNumbered 7 = .ok (.isub, 1) := by decide +kernel
theorem dX3_boatNumbered_8 : decode cX3_boatNumbered 8 = .ok (.invokestatic 44, 3) := by decide +kernel
theorem dX3_boatNumbered_11 : decode cX3_boatNumbered 11 = .ok (.ifCond .eq 12, 3) := by decide +kernel
theorem dX3_boatNumbered_14 : decode cX3_boatNumbered 14 = .ok (.aload_n 0, 1) := by decide +kernel
theorem dX3_boatNumbered_15 : decode cX3_boatNumbered 15 = .ok (.getfield 34, 3) := by decide +kernel
theorem dX3_boatNumbered_18 : decode cX3_boatNumbered 18 = .ok (.iload_n 1, 1) := by decide +kernel
theorem dX3_boatNumbered_19 : decode cX3_boatNumbered 19 = .ok (.aaload, 1) := by decide +kernel
theorem dX3_boatNumbered_20 : decode cX3_boatNumbered 20 = .ok (.goto 4, 3) := by decide +kernel
theorem dX3_boatNumbered_23 : decode cX3_boatNumbered 23 = .ok (.aconst_null, 1) := by decide +kernel
theorem dX3_boatNumbered_24 : decode cX3_boatNumbered 24 = .ok (.areturn, 1) := by decide +kernel
theorem dX3_addTaker_0 : decode cX3_addTaker 0 = .ok (.aload_n 0, 1) := by decide +kernel
theorem dX3_addTaker_1 : decode cX3_addTaker 1 = .ok (.getfield 48, 3) := by decide +kernel
theorem dX3_addTaker_4 : decode cX3_addTaker 4 = .ok (.istore_n 2, 1) := by decide +kernel
theorem dX3_addTaker_5 : decode cX3_addTaker 5 = .ok (.iload_n 2, 1) := by decide +kernel
theorem dX3_addTaker_6 : decode cX3_addTaker 6 = .ok (.ifCond .le 41, 3) := by decide +kernel
theorem dX3_addTaker_9 : decode cX3_addTaker 9 = .ok (.aload_n 0, 1) := by decide +kernel
theorem dX3_addTaker_10 : decode cX3_addTaker 10 = .ok (.getfield 29, 3) := by decide +kernel
theorem dX3_addTaker_13 : decode cX3_addTaker 13 = .ok (.iload_n 2, 1) := by decide +kernel
theorem dX3_addTaker_14 : decode cX3_addTaker 14 = .ok (.iconst 1, 1) := by decide +kernel
theorem dX3_addTaker_15 : decode cX3_addTaker 15 = .ok (.isub, 1) := by decide +kernel
theorem dX3_addTaker_16 : decode cX3_addTaker 16 = .ok (.aaload, 1) := by decide +kernel
theorem dX3_addTaker_17 : decode cX3_addTaker 17 = .ok (.getfield 54, 3) := by decide +kernel
theorem dX3_addTaker_20 : decode cX3_addTaker 20 = .ok (.aload_n 1, 1) := by decide +kernel
theorem dX3_addTaker_21 : decode cX3_addTaker 21 = .ok (.getfield 54, 3) := by decide +kernel
theorem dX3_addTaker_24 : decode cX3_addTaker 24 = .ok (.if_icmp .le 23, 3) := by decide +kernel
theorem dX3_addTaker_27 : decode cX3_addTaker 27 = .ok (.aload_n 0, 1) := by decide +kernel
theorem dX3_addTaker_28 : decode cX3_addTaker 28 = .ok (.getfield 29, 3) := by decide +kernel
theorem dX3_addTaker_31 : decode cX3_addTaker 31 = .ok (.iload_n 2, 1) := by decide +kernel
theorem dX3_addTaker_32 : decode cX3_addTaker 32 = .ok (.aload_n 0, 1) := by decide +kernel
theorem dX3_addTaker_33 : decode cX3_addTaker 33 = .ok (.getfield 29, 3) := by decide +kernel
theorem dX3_addTaker_36 : decode cX3_addTaker 36 = .ok (.iload_n 2, 1) := by decide +kernel
theorem dX3_addTaker_37 : decode cX3_addTaker 37 = .ok (.iconst 1, 1) := by decide +kernel
theorem dX3_addTaker_38 : decode cX3_addTaker 38 = .ok (.isub, 1) := by decide +kernel
theorem dX3_addTaker_39 : decode cX3_addTaker 39 = .ok (.aaload, 1) := by decide +kernel
theorem dX3_addTaker_40 : decode cX3_addTaker 40 = .ok (.aastore, 1) := by decide +kernel
theorem dX3_addTaker_41 : decode cX3_addTaker 41 = .ok (.iinc 2 (-1), 3) := by decide +kernel
theorem dX3_addTaker_44 : decode cX3_addTaker 44 = .ok (.goto (-39), 3) := by decide +kernel
theorem dX3_addTaker_47 : decode cX3_addTaker 47 = .ok (.aload_n 0, 1) := by decide +kernel
theorem dX3_addTaker_48 : decode cX3_addTaker 48 = .ok (.getfield 29, 3) := by decide +kernel
theorem dX3_addTaker_51 : decode cX3_addTaker 51 = .ok (.iload_n 2, 1) := by decide +kernel
theorem dX3_addTaker_52 : decode cX3_addTaker 52 = .ok (.aload_n 1, 1) := by decide +kernel
theorem dX3_addTaker_53 : decode cX3_addTaker 53 = .ok (.aastore, 1) := by decide +kernel
theorem dX3_addTaker_54 : decode cX3_addTaker 54 = .ok (.aload_n 0, 1) := by decide +kernel
theorem dX3_addTaker_55 : decode cX3_addTaker 55 = .ok (.getfield 25, 3) := by decide +kernel
theorem dX3_addTaker_58 : decode cX3_addTaker 58 = .ok (.aload_n 0, 1) := by decide +kernel
theorem dX3_addTaker_59 : decode cX3_addTaker 59 = .ok (.getfield 48, 3) := by decide +kernel
theorem dX3_addTaker_62 : decode cX3_addTaker 62 = .ok (.aload_n 1, 1) := by decide +kernel
theorem dX3_addTaker_63 : decode cX3_addTaker 63 = .ok (.aastore, 1) := by decide +kernel
theorem dX3_addTaker_64 : decode cX3_addTaker 64 = .ok (.aload_n 0, 1) := by decide +kernel
theorem dX3_addTaker_65 : decode cX3_addTaker 65 = .ok (.dup, 1) := by decide +kernel
theorem dX3_addTaker_66 : decode cX3_addTaker 66 = .ok (.getfield 48, 3) := by decide +kernel
theorem dX3_addTaker_69 : decode cX3_addTaker 69 = .ok (.dup_x1, 1) := by decide +kernel
theorem dX3_addTaker_70 : decode cX3_addTaker 70 = .ok (.iconst 1, 1) := by decide +kernel
theorem dX3_addTaker_71 : decode cX3_addTaker 71 = .ok (.iadd, 1) := by decide +kernel
theorem dX3_addTaker_72 : decode cX3_addTaker 72 = .ok (.putfield 48, 3) := by decide +kernel
theorem dX3_addTaker_75 : decode cX3_addTaker 75 = .ok (.ireturn, 1) := by decide +kernel
theorem dX3_addBoat_0 : decode cX3_addBoat 0 = .ok (.aload_n 1, 1) := by decide +kernel
theorem dX3_addBoat_1 : decode cX3_addBoat 1 = .ok (.aload_n 1, 1) := by decide +kernel
theorem dX3_addBoat_2 : decode cX3_addBoat 2 = .ok (.getfield 57, 3) := by decide +kernel
theorem dX3_addBoat_5 : decode cX3_addBoat 5 = .ok (.aload_n 0, 1) := by decide +kernel
theorem dX3_addBoat_6 : decode cX3_addBoat 6 = .ok (.getfield 60, 3) := by decide +kernel
theorem dX3_addBoat_9 : decode cX3_addBoat 9 = .ok (.invokevirtual 63, 3) := by decide +kernel
theorem dX3_addBoat_12 : decode cX3_addBoat 12 = .ok (.aload_n 0, 1) := by decide +kernel
theorem dX3_addBoat_13 : decode cX3_addBoat 13 = .ok (.getfield 34, 3) := by decide +kernel
theorem dX3_addBoat_16 : decode cX3_addBoat 16 = .ok (.aload_n 0, 1) := by decide +kernel
theorem dX3_addBoat_17 : decode cX3_addBoat 17 = .ok (.getfield 51, 3) := by decide +kernel
theorem dX3_addBoat_20 : decode cX3_addBoat 20 = .ok (.aload_n 1, 1) := by decide +kernel
theorem dX3_addBoat_21 : decode cX3_addBoat 21 = .ok (.aastore, 1) := by decide +kernel
theorem dX3_addBoat_22 : decode cX3_addBoat 22 = .ok (.aload_n 0, 1) := by decide +kernel
theorem dX3_addBoat_23 : decode cX3_addBoat 23 = .ok (.dup, 1) := by decide +kernel
theorem dX3_addBoat_24 : decode cX3_addBoat 24 = .ok (.getfield 51, 3) := by decide +kernel
theorem dX3_addBoat_27 : decode cX3_addBoat 27 = .ok (.dup_x1, 1) := by decide +kernel
theorem dX3_addBoat_28 : decode cX3_addBoat 28 = .ok (.iconst 1, 1) := by decide +kernel
theorem dX3_addBoat_29 : decode cX3_addBoat 29 = .ok (.iadd, 1) := by decide +kernel
theorem dX3_addBoat_30 : decode cX3_addBoat 30 = .ok (.putfield 51, 3) := by decide +kernel
theorem dX3_addBoat_33 : decode cX3_addBoat 33 = .ok (.ireturn, 1) := by decide +kernel
theorem dX3_wantedBy_0 : decode cX3_wantedBy 0 = .ok (.aload_n 1, 1) := by decide +kernel
theorem dX3_wantedBy_1 : decode cX3_wantedBy 1 = .ok (.iload_n 2, 1) := by decide +kernel
theorem dX3_wantedBy_2 : decode cX3_wantedBy 2 = .ok (.aload_n 0, 1) := by decide +kernel
theorem dX3_wantedBy_3 : decode cX3_wantedBy 3 = .ok (.getfield 11, 3) := by decide +kernel
theorem dX3_wantedBy_6 : decode cX3_wantedBy 6 = .ok (.aload_n 1, 1) := by decide +kernel
theorem dX3_wantedBy_7 : decode cX3_wantedBy 7 = .ok (.getfield 67, 3) := by decide +kernel
theorem dX3_wantedBy_10 : decode cX3_wantedBy 10 = .ok (.aaload, 1) := by decide +kernel
theorem dX3_wantedBy_11 : decode cX3_wantedBy 11 = .ok (.invokevirtual 68, 3) := by decide +kernel
theorem dX3_wantedBy_14 : decode cX3_wantedBy 14 = .ok (.ireturn, 1) := by decide +kernel
theorem dX3_goByAnHour_0 : decode cX3_goByAnHour 0 = .ok (.aload_n 0, 1) := by decide +kernel
theorem dX3_goByAnHour_1 : decode cX3_goByAnHour 1 = .ok (.iload_n 1, 1) := by decide +kernel
theorem dX3_goByAnHour_2 : decode cX3_goByAnHour 2 = .ok (.invokevirtual 72, 3) := by decide +kernel
theorem dX3_goByAnHour_5 : decode cX3_goByAnHour 5 = .ok (.iconst 0, 1) := by decide +kernel
theorem dX3_goByAnHour_6 : decode cX3_goByAnHour 6 = .ok (.istore_n 2, 1) := by decide +kernel
theorem dX3_goByAnHour_7 : decode cX3_goByAnHour 7 = .ok (.iload_n 2, 1) := by decide +kernel
theorem dX3_goByAnHour_8 : decode cX3_goByAnHour 8 = .ok (.aload_n 0, 1) := by decide +kernel
theorem dX3_goByAnHour_9 : decode cX3_goByAnHour 9 = .ok (.getfield 48, 3) := by decide +kernel
theorem dX3_goByAnHour_12 : decode cX3_goByAnHour 12 = .ok (.if_icmp .ge 19, 3) := by decide +kernel
theorem dX3_goByAnHour_15 : decode cX3_goByAnHour 15 = .ok (.aload_n 0, 1) := by decide +kernel
theorem dX3_goByAnHour_16 : decode cX3_goByAnHour 16 = .ok (.aload_n 0, 1) := by decide +kernel
theorem dX3_goByAnHour_17 : decode cX3_goByAnHour 17 = .ok (.getfield 29, 3) := by decide +kernel
theorem dX3_goByAnHour_20 : decode cX3_goByAnHour 20 = .ok (.iload_n 2, 1) := by decide +kernel
theorem dX3_goByAnHour_21 : decode cX3_goByAnHour 21 = .ok (.aaload, 1) := by decide +kernel
theorem dX3_goByAnHour_22 : decode cX3_goByAnHour 22 = .ok (.invokevirtual 76, 3) := by decide +kernel
theorem dX3_goByAnHour_25 : decode cX3_goByAnHour 25 = .ok (.iinc 2 1, 3) := by decide +kernel
theorem dX3_goByAnHour_28 : decode cX3_goByAnHour 28 = .ok (.goto (-21), 3) := by decide +kernel
theorem dX3_goByAnHour_31 : decode cX3_goByAnHour 31 = .ok (.iconst 0, 1) := by decide +kernel
theorem dX3_goByAnHour_32 : decode cX3_goByAnHour 32 = .ok (.istore_n 2, 1) := by decide +kernel
theorem dX3_goByAnHour_33 : decode cX3_goByAnHour 33 = .ok (.iconst 0, 1) := by decide +kernel
theorem dX3_goByAnHour_34 : decode cX3_goByAnHour 34 = .ok (.istore_n 3, 1) := by decide +kernel
theorem dX3_goByAnHour_35 : decode cX3_goByAnHour 35 = .ok (.iload_n 3, 1) := by decide +kernel
theorem dX3_goByAnHour_36 : decode cX3_goByAnHour 36 = .ok (.bipush 7, 2) := by decide +kernel
theorem dX3_goByAnHour_38 : decode cX3_goByAnHour 38 = .ok (.if_icmp .ge 25, 3) := by decide +kernel
theorem dX3_goByAnHour_41 : decode cX3_goByAnHour 41 = .ok (.iload_n 2, 1) := by decide +kernel
theorem dX3_goByAnHour_42 : decode cX3_goByAnHour 42 = .ok (.aload_n 0, 1) := by decide +kernel
theorem dX3_goByAnHour_43 : decode cX3_goByAnHour 43 = .ok (.iload_n 3, 1) := by decide +kernel
theorem dX3_goByAnHour_44 : decode cX3_goByAnHour 44 = .ok (.invokevirtual 80, 3) := by decide +kernel
theorem dX3_goByAnHour_47 : decode cX3_goByAnHour 47 = .ok (.ifCond .eq 7, 3) := by decide +kernel
theorem dX3_goByAnHour_50 : decode cX3_goByAnHour 50 = .ok (.iconst 1, 1) := by decide +kernel
theorem dX3_goByAnHour_51 : decode cX3_goByAnHour 51 = .ok (.goto 4, 3) := by decide +kernel
theorem dX3_goByAnHour_54 : decode cX3_goByAnHour 54 = .ok (.iconst 0, 1) := by decide +kernel
theorem dX3_goByAnHour_55 : decode cX3_goByAnHour 55 = .ok (.iadd, 1) := by decide +kernel
theorem dX3_goByAnHour_56 : decode cX3_goByAnHour 56 = .ok (.istore_n 2, 1) := by decide +kernel
theorem dX3_goByAnHour_57 : decode cX3_goByAnHour 57 = .ok (.iinc 3 1, 3) := by decide +kernel
theorem dX3_goByAnHour_60 : decode cX3_goByAnHour 60 = .ok (.goto (-25), 3) := by decide +kernel
theorem dX3_goByAnHour_63 : decode cX3_goByAnHour 63 = .ok (.aload_n 0, 1) := by decide +kernel
theorem dX3_goByAnHour_64 : decode cX3_goByAnHour 64 = .ok (.invokevirtual 84, 3) := by decide +kernel
theorem dX3_goByAnHour_67 : decode cX3_goByAnHour 67 = .ok (.aload_n 0, 1) := by decide +kernel
theorem dX3_goByAnHour_68 : decode cX3_goByAnHour 68 = .ok (.dup, 1) := by decide +kernel
theorem dX3_goByAnHour_69 : decode cX3_goByAnHour 69 = .ok (.getfield 60, 3) := by decide +kernel
theorem dX3_goByAnHour_72 : decode cX3_goByAnHour 72 = .ok (.iconst 1, 1) := by decide +kernel
theorem dX3_goByAnHour_73 : decode cX3_goByAnHour 73 = .ok (.iadd, 1) := by decide +kernel
theorem dX3_goByAnHour_74 : decode cX3_goByAnHour 74 = .ok (.putfield 60, 3) := by decide +kernel
theorem dX3_goByAnHour_77 : decode cX3_goByAnHour 77 = .ok (.iload_n 2, 1) := by decide +kernel
theorem dX3_goByAnHour_78 : decode cX3_goByAnHour 78 = .ok (.ireturn, 1) := by decide +kernel
theorem dX3_rainOn_0 : decode cX3_rainOn 0 = .ok (.iconst 0, 1) := by decide +kernel
theorem dX3_rainOn_1 : decode cX3_rainOn 1 = .ok (.istore_n 2, 1) := by decide +kernel
theorem dX3_rainOn_2 : decode cX3_rainOn 2 = .ok (.iload_n 2, 1) := by decide +kernel
theorem dX3_rainOn_3 : decode cX3_rainOn 3 = .ok (.bipush 8, 2) := by decide +kernel
theorem dX3_rainOn_5 : decode cX3_rainOn 5 = .ok (.if_icmp .ge 54, 3) := by decide +kernel
theorem dX3_rainOn_8 : decode cX3_rainOn 8 = .ok (.aload_n 0, 1) := by decide +kernel
theorem dX3_rainOn_9 : decode cX3_rainOn 9 = .ok (.getfield 11, 3) := by decide +kernel
theorem dX3_rainOn_12 : decode cX3_rainOn 12 = .ok (.iload_n 2, 1) := by decide +kernel
theorem dX3_rainOn_13 : decode cX3_rainOn 13 = .ok (.aaload, 1) := by decide +kernel
theorem dX3_rainOn_14 : decode cX3_rainOn 14 = .ok (.dup, 1) := by decide +kernel
theorem dX3_rainOn_15 : decode cX3_rainOn 15 = .ok (.getfield 87, 3) := by decide +kernel
theorem dX3_rainOn_18 : decode cX3_rainOn 18 = .ok (.iload_n 1, 1) := by decide +kernel
theorem dX3_rainOn_19 : decode cX3_rainOn 19 = .ok (.iadd, 1) := by decide +kernel
theorem dX3_rainOn_20 : decode cX3_rainOn 20 = .ok (.putfield 87, 3) := by decide +kernel
theorem dX3_rainOn_23 : decode cX3_rainOn 23 = .ok (.aload_n 0, 1) := by decide +kernel
theorem dX3_rainOn_24 : decode cX3_rainOn 24 = .ok (.dup, 1) := by decide +kernel
theorem dX3_rainOn_25 : decode cX3_rainOn 25 = .ok (.getfield 90, 3) := by decide +kernel
theorem dX3_rainOn_28 : decode cX3_rainOn 28 = .ok (.aload_n 0, 1) := by decide +kernel
theorem dX3_rainOn_29 : decode cX3_rainOn 29 = .ok (.getfield 11, 3) := by decide +kernel
theorem dX3_rainOn_32 : decode cX3_rainOn 32 = .ok (.iload_n 2, 1) := by decide +kernel
theorem dX3_rainOn_33 : decode cX3_rainOn 33 = .ok (.aaload, 1) := by decide +kernel
theorem dX3_rainOn_34 : decode cX3_rainOn 34 = .ok (.invokevirtual 94, 3) := by decide +kernel
theorem dX3_rainOn_37 : decode cX3_rainOn 37 = .ok (.i2l, 1) := by decide +kernel
theorem dX3_rainOn_38 : decode cX3_rainOn 38 = .ok (.ladd, 1) := by decide +kernel
theorem dX3_rainOn_39 : decode cX3_rainOn 39 = .ok (.putfield 90, 3) := by decide +kernel
theorem dX3_rainOn_42 : decode cX3_rainOn 42 = .ok (.aload_n 0, 1) := by decide +kernel
theorem dX3_rainOn_43 : decode cX3_rainOn 43 = .ok (.dup, 1) := by decide +kernel
theorem dX3_rainOn_44 : decode cX3_rainOn 44 = .ok (.getfield 98, 3) := by decide +kernel
theorem dX3_rainOn_47 : decode cX3_rainOn 47 = .ok (.iload_n 1, 1) := by decide +kernel
theorem dX3_rainOn_48 : decode cX3_rainOn 48 = .ok (.i2l, 1) := by decide +kernel
theorem dX3_rainOn_49 : decode cX3_rainOn 49 = .ok (.ladd, 1) := by decide +kernel
theorem dX3_rainOn_50 : decode cX3_rainOn 50 = .ok (.putfield 98, 3) := by decide +kernel
theorem dX3_rainOn_53 : decode cX3_rainOn 53 = .ok (.iinc 2 1, 3) := by decide +kernel
theorem dX3_rainOn_56 : decode cX3_rainOn 56 = .ok (.goto (-54), 3) := by decide +kernel
theorem dX3_rainOn_59 : decode cX3_rainOn 59 = .ok (.return_, 1) := by decide +kernel
theorem dX3_serve_0 : decode cX3_serve 0 = .ok (.aload_n 0, 1) := by decide +kernel
theorem dX3_serve_1 : decode cX3_serve 1 = .ok (.getfield 11, 3) := by decide +kernel
theorem dX3_serve_4 : decode cX3_serve 4 = .ok (.aload_n 1, 1) := by decide +kernel
theorem dX3_serve_5 : decode cX3_serve 5 = .ok (.getfield 67, 3) := by decide +kernel
theorem dX3_serve_8 : decode cX3_serve 8 = .ok (.aaload, 1) := by decide +kernel
theorem dX3_serve_9 : decode cX3_serve 9 = .ok (.astore_n 2, 1) := by decide +kernel
theorem dX3_serve_10 : decode cX3_serve 10 = .ok (.aload_n 0, 1) := by decide +kernel
theorem dX3_serve_11 : decode cX3_serve 11 = .ok (.aload_n 1, 1) := by decide +kernel
theorem dX3_serve_12 : decode cX3_serve 12 = .ok (.aload_n 0, 1) := by decide +kernel
theorem dX3_serve_13 : decode cX3_serve 13 = .ok (.getfield 60, 3) := by decide +kernel
theorem dX3_serve_16 : decode cX3_serve 16 = .ok (.invokevirtual 101, 3) := by decide +kernel
theorem dX3_serve_19 : decode cX3_serve 19 = .ok (.aload_n 2, 1) := by decide +kernel
theorem dX3_serve_20 : decode cX3_serve 20 = .ok (.getfield 87, 3) := by decide +kernel
theorem dX3_serve_23 : decode cX3_serve 23 = .ok (.invokestatic 105, 3) := by decide +kernel
theorem dX3_serve_26 : decode cX3_serve 26 = .ok (.istore_n 3, 1) := by decide +kernel
theorem dX3_serve_27 : decode cX3_serve 27 = .ok (.aload_n 2, 1) := by decide +kernel
theorem dX3_serve_28 : decode cX3_serve 28 = .ok (.dup, 1) := by decide +kernel
theorem dX3_serve_29 : decode cX3_serve 29 = .ok (.getfield 87, 3) := by decide +kernel
theorem dX3_serve_32 : decode cX3_serve 32 = .ok (.iload_n 3, 1) := by decide +kernel
theorem dX3_serve_33 : decode cX3_serve 33 = .ok (.isub, 1) := by decide +kernel
theorem dX3_serve_34 : decode cX3_serve 34 = .ok (.putfield 87, 3) := by decide +kernel
theorem dX3_serve_37 : decode cX3_serve 37 = .ok (.aload_n 1, 1) := by decide +kernel
theorem dX3_serve_38 : decode cX3_serve 38 = .ok (.dup, 1) := by decide +kernel
theorem dX3_serve_39 : decode cX3_serve 39 = .ok (.getfield 111, 3) := by decide +kernel
theorem dX3_serve_42 : decode cX3_serve 42 = .ok (.iload_n 3, 1) := by decide +kernel
theorem dX3_serve_43 : decode cX3_serve 43 = .ok (.iadd, 1) := by decide +kernel
theorem dX3_serve_44 : decode cX3_serve 44 = .ok (.putfield 111, 3) := by decide +kernel
theorem dX3_serve_47 : decode cX3_serve 47 = .ok (.aload_n 0, 1) := by decide +kernel
theorem dX3_serve_48 : decode cX3_serve 48 = .ok (.dup, 1) := by decide +kernel
theorem dX3_serve_49 : decode cX3_serve 49 = .ok (.getfield 90, 3) := by decide +kernel
theorem dX3_serve_52 : decode cX3_serve 52 = .ok (.aload_n 2, 1) := by decide +kernel
theorem dX3_serve_53 : decode cX3_serve 53 = .ok (.invokevirtual 94, 3) := by decide +kernel
theorem dX3_serve_56 : decode cX3_serve 56 = .ok (.i2l, 1) := by decide +kernel
theorem dX3_serve_57 : decode cX3_serve 57 = .ok (.ladd, 1) := by decide +kernel
theorem dX3_serve_58 : decode cX3_serve 58 = .ok (.putfield 90, 3) := by decide +kernel
theorem dX3_serve_61 : decode cX3_serve 61 = .ok (.return_, 1) := by decide +kernel
theorem dX3_workLock_0 : decode cX3_workLock 0 = .ok (.aload_n 0, 1) := by decide +kernel
theorem dX3_workLock_1 : decode cX3_workLock 1 = .ok (.iload_n 1, 1) := by decide +kernel
theorem dX3_workLock_2 : decode cX3_workLock 2 = .ok (.invokevirtual 114, 3) := by decide +kernel
theorem dX3_workLock_5 : decode cX3_workLock 5 = .ok (.astore_n 2, 1) := by decide +kernel
theorem dX3_workLock_6 : decode cX3_workLock 6 = .ok (.aload_n 2, 1) := by decide +kernel
theorem dX3_workLock_7 : decode cX3_workLock 7 = .ok (.ifnonnull 5, 3) := by decide +kernel
theorem dX3_workLock_10 : decode cX3_workLock 10 = .ok (.iconst 0, 1) := by decide +kernel
theorem dX3_workLock_11 : decode cX3_workLock 11 = .ok (.ireturn, 1) := by decide +kernel
theorem dX3_workLock_12 : decode cX3_workLock 12 = .ok (.aload_n 2, 1) := by decide +kernel
theorem dX3_workLock_13 : decode cX3_workLock 13 = .ok (.aload_n 0, 1) := by decide +kernel
theorem dX3_workLock_14 : decode cX3_workLock 14 = .ok (.getfield 38, 3) := by decide +kernel
theorem dX3_workLock_17 : decode cX3_workLock 17 = .ok (.invokevirtual 118, 3) := by decide +kernel
theorem dX3_workLock_20 : decode cX3_workLock 20 = .ok (.istore_n 3, 1) := by decide +kernel
theorem dX3_workLock_21 : decode cX3_workLock 21 = .ok (.aload_n 0, 1) := by decide +kernel
theorem dX3_workLock_22 : decode cX3_workLock 22 = .ok (.getfield 11, 3) := by decide +kernel
theorem dX3_workLock_25 : decode cX3_workLock 25 = .ok (.aload_n 2, 1) := by decide +kernel
theorem dX3_workLock_26 : decode cX3_workLock 26 = .ok (.invokevirtual 121, 3) := by decide +kernel
theorem dX3_workLock_29 : decode cX3_workLock 29 = .ok (.aaload, 1) := by decide +kernel
theorem dX3_workLock_30 : decode cX3_workLock 30 = .ok (.astore 4, 2) := by decide +kernel
theorem dX3_workLock_32 : decode cX3_workLock 32 = .ok (.aload_n 0, 1) := by decide +kernel
theorem dX3_workLock_33 : decode cX3_workLock 33 = .ok (.getfield 11, 3) := by decide +kernel
theorem dX3_workLock_36 : decode cX3_workLock 36 = .ok (.aload_n 2, 1) := by decide +kernel
theorem dX3_workLock_37 : decode cX3_workLock 37 = .ok (.getfield 57, 3) := by decide +kernel
theorem dX3_workLock_40 : decode cX3_workLock 40 = .ok (.aaload, 1) := by decide +kernel
theorem dX3_workLock_41 : decode cX3_workLock 41 = .ok (.astore 5, 2) := by decide +kernel
theorem dX3_workLock_43 : decode cX3_workLock 43 = .ok (.iload_n 3, 1) := by decide +kernel
theorem dX3_workLock_44 : decode cX3_workLock 44 = .ok (.ifCond .eq 8, 3) := by decide +kernel
theorem dX3_workLock_47 : decode cX3_workLock 47 = .ok (.aload 4, 2) := by decide +kernel
theorem dX3_workLock_49 : decode cX3_workLock 49 = .ok (.goto 5, 3) := by decide +kernel
theorem dX3_workLock_52 : decode cX3_workLock 52 = .ok (.aload 5, 2) := by decide +kernel
theorem dX3_workLock_54 : decode cX3_workLock 54 = .ok (.astore 6, 2) := by decide +kernel
theorem dX3_workLock_56 : decode cX3_workLock 56 = .ok (.aload 6, 2) := by decide +kernel
theorem dX3_workLock_58 : decode cX3_workLock 58 = .ok (.getfield 87, 3) := by decide +kernel
theorem dX3_workLock_61 : decode cX3_workLock 61 = .ok (.aload_n 0, 1) := by decide +kernel
theorem dX3_workLock_62 : decode cX3_workLock 62 = .ok (.getfield 19, 3) := by decide +kernel
theorem dX3_workLock_65 : decode cX3_workLock 65 = .ok (.iload_n 1, 1) := by decide +kernel
theorem dX3_workLock_66 : decode cX3_workLock 66 = .ok (.aaload, 1) := by decide +kernel
theorem dX3_workLock_67 : decode cX3_workLock 67 = .ok (.iload_n 3, 1) := by decide +kernel
theorem dX3_workLock_68 : decode cX3_workLock 68 = .ok (.invokevirtual 124, 3) := by decide +kernel
theorem dX3_workLock_71 : decode cX3_workLock 71 = .ok (.if_icmp .lt 23, 3) := by decide +kernel
theorem dX3_workLock_74 : decode cX3_workLock 74 = .ok (.aload 4, 2) := by decide +kernel
theorem dX3_workLock_76 : decode cX3_workLock 76 = .ok (.getfield 87, 3) := by decide +kernel
theorem dX3_workLock_79 : decode cX3_workLock 79 = .ok (.aload 4, 2) := by decide +kernel
theorem dX3_workLock_81 : decode cX3_workLock 81 = .ok (.getfield 128, 3) := by decide +kernel
theorem dX3_workLock_84 : decode cX3_workLock 84 = .ok (.iconst 5, 1) := by decide +kernel
theorem dX3_workLock_85 : decode cX3_workLock 85 = .ok (.aload_n 2, 1) := by decide +kernel
theorem dX3_workLock_86 : decode cX3_workLock 86 = .ok (.getfield 131, 3) := by decide +kernel
theorem dX3_workLock_89 : decode cX3_workLock 89 = .ok (.imul, 1) := by decide +kernel
theorem dX3_workLock_90 : decode cX3_workLock 90 = .ok (.iadd, 1) := by decide +kernel
theorem dX3_workLock_91 : decode cX3_workLock 91 = .ok (.if_icmp .ge 5, 3) := by decide +kernel
theorem dX3_workLock_94 : decode cX3_workLock 94 = .ok (.iconst 0, 1) := by decide +kernel
theorem dX3_workLock_95 : decode cX3_workLock 95 = .ok (.ireturn, 1) := by decide +kernel
theorem dX3_workLock_96 : decode cX3_workLock 96 = .ok (.aload_n 0, 1) := by decide +kernel
theorem dX3_workLock_97 : decode cX3_workLock 97 = .ok (.dup, 1) := by decide +kernel
theorem dX3_workLock_98 : decode cX3_workLock 98 = .ok (.getfield 90, 3) := by decide +kernel
theorem dX3_workLock_101 : decode cX3_workLock 101 = .ok (.aload_n 0, 1) := by decide +kernel
theorem dX3_workLock_102 : decode cX3_workLock 102 = .ok (.getfield 19, 3) := by decide +kernel
theorem dX3_workLock_105 : decode cX3_workLock 105 = .ok (.iload_n 1, 1) := by decide +kernel
theorem dX3_workLock_106 : decode cX3_workLock 106 = .ok (.aaload, 1) := by decide +kernel
theorem dX3_workLock_107 : decode cX3_workLock 107 = .ok (.iload_n 3, 1) := by decide +kernel
theorem dX3_workLock_108 : decode cX3_workLock 108 = .ok (.aload 6, 2) := by decide +kernel
theorem dX3_workLock_110 : decode cX3_workLock 110 = .ok (.iload_n 3, 1) := by decide +kernel
theorem dX3_workLock_111 : decode cX3_workLock 111 = .ok (.ifCond .eq 8, 3) := by decide +kernel
theorem dX3_workLock_114 : decode cX3_workLock 114 = .ok (.aload 5, 2) := by decide +kernel
theorem dX3_workLock_116 : decode cX3_workLock 116 = .ok (.goto 5, 3) := by decide +kernel
theorem dX3_workLock_119 : decode cX3_workLock 119 = .ok (.aload 4, 2) := by decide +kernel
theorem dX3_workLock_121 : decode cX3_workLock 121 = .ok (.invokevirtual 134, 3) := by decide +kernel
theorem dX3_workLock_124 : decode cX3_workLock 124 = .ok (.i2l, 1) := by decide +kernel
theorem dX3_workLock_125 : decode cX3_workLock 125 = .ok (.ladd, 1) := by decide +kernel
theorem dX3_workLock_126 : decode cX3_workLock 126 = .ok (.putfield 90, 3) := by decide +kernel
theorem dX3_workLock_129 : decode cX3_workLock 129 = .ok (.aload_n 2, 1) := by decide +kernel
theorem dX3_workLock_130 : decode cX3_workLock 130 = .ok (.aload_n 2, 1) := by decide +kernel
theorem dX3_workLock_131 : decode cX3_workLock 131 = .ok (.invokevirtual 121, 3) := by decide +kernel
theorem dX3_workLock_134 : decode cX3_workLock 134 = .ok (.aload_n 0, 1) := by decide +kernel
theorem dX3_workLock_135 : decode cX3_workLock 135 = .ok (.getfield 60, 3) := by decide +kernel
theorem dX3_workLock_138 : decode cX3_workLock 138 = .ok (.invokevirtual 63, 3) := by decide +kernel
theorem dX3_workLock_141 : decode cX3_workLock 141 = .ok (.iconst 1, 1) := by decide +kernel
theorem dX3_workLock_142 : decode cX3_workLock 142 = .ok (.ireturn, 1) := by decide +kernel
theorem dX3_firstAt_0 : decode cX3_firstAt 0 = .ok (.aconst_null, 1) := by decide +kernel
theorem dX3_firstAt_1 : decode cX3_firstAt 1 = .ok (.astore_n 2, 1) := by decide +kernel
theorem dX3_firstAt_2 : decode cX3_firstAt 2 = .ok (.iconst 0, 1) := by decide +kernel
theorem dX3_firstAt_3 : decode cX3_firstAt 3 = .ok (.istore_n 3, 1) := by decide +kernel
theorem dX3_firstAt_4 : decode cX3_firstAt 4 = .ok (.iload_n 3, 1) := by decide +kernel
theorem dX3_firstAt_5 : decode cX3_firstAt 5 = .ok (.aload_n 0, 1) := by decide +kernel
theorem dX3_firstAt_6 : decode cX3_firstAt 6 = .ok (.getfield 51, 3) := by decide +kernel
theorem dX3_firstAt_9 : decode cX3_firstAt 9 = .ok (.if_icmp .ge 61, 3) := by decide +kernel
theorem dX3_firstAt_12 : decode cX3_firstAt 12 = .ok (.aload_n 0, 1) := by decide +kernel
theorem dX3_firstAt_13 : decode cX3_firstAt 13 = .ok (.getfield 34, 3) := by decide +kernel
theorem dX3_firstAt_16 : decode cX3_firstAt 16 = .ok (.iload_n 3, 1) := by decide +kernel
theorem dX3_firstAt_17 : decode cX3_firstAt 17 = .ok (.aaload, 1) := by decide +kernel
theorem dX3_firstAt_18 : decode cX3_firstAt 18 = .ok (.astore 4, 2) := by decide +kernel
theorem dX3_firstAt_20 : decode cX3_firstAt 20 = .ok (.aload 4, 2) := by decide +kernel
theorem dX3_firstAt_22 : decode cX3_firstAt 22 = .ok (.aload_n 0, 1) := by decide +kernel
theorem dX3_firstAt_23 : decode cX3_firstAt 23 = .ok (.getfield 60, 3) := by decide +kernel
theorem dX3_firstAt_26 : decode cX3_firstAt 26 = .ok (.invokevirtual 138, 3) := by decide +kernel
theorem dX3_firstAt_29 : decode cX3_firstAt 29 = .ok (.ifCond .eq 35, 3) := by decide +kernel
theorem dX3_firstAt_32 : decode cX3_firstAt 32 = .ok (.aload 4, 2) := by decide +kernel
theorem dX3_firstAt_34 : decode cX3_firstAt 34 = .ok (.invokevirtual 141, 3) := by decide +kernel
theorem dX3_firstAt_37 : decode cX3_firstAt 37 = .ok (.iload_n 1, 1) := by decide +kernel
theorem dX3_firstAt_38 : decode cX3_firstAt 38 = .ok (.if_icmp .ne 26, 3) := by decide +kernel
theorem dX3_firstAt_41 : decode cX3_firstAt 41 = .ok (.aload_n 2, 1) := by decide +kernel
theorem dX3_firstAt_42 : decode cX3_firstAt 42 = .ok (.ifnull 19, 3) := by decide +kernel
theorem dX3_firstAt_45 : decode cX3_firstAt 45 = .ok (.aload_n 0, 1) := by decide +kernel
theorem dX3_firstAt_46 : decode cX3_firstAt 46 = .ok (.aload 4, 2) := by decide +kernel
theorem dX3_firstAt_48 : decode cX3_firstAt 48 = .ok (.aload_n 2, 1) := by decide +kernel
theorem dX3_firstAt_49 : decode cX3_firstAt 49 = .ok (.aload_n 0, 1) := by decide +kernel
theorem dX3_firstAt_50 : decode cX3_firstAt 50 = .ok (.getfield 19, 3) := by decide +kernel
theorem dX3_firstAt_53 : decode cX3_firstAt 53 = .ok (.iload_n 1, 1) := by decide +kernel
theorem dX3_firstAt_54 : decode cX3_firstAt 54 = .ok (.aaload, 1) := by decide +kernel
theorem dX3_firstAt_55 : decode cX3_firstAt 55 = .ok (.invokevirtual 144, 3) := by decide +kernel
theorem dX3_firstAt_58 : decode cX3_firstAt 58 = .ok (.ifCond .eq 6, 3) := by decide +kernel
theorem dX3_firstAt_61 : decode cX3_firstAt 61 = .ok (.aload 4, 2) := by decide +kernel
theorem dX3_firstAt_63 : decode cX3_firstAt 63 = .ok (.astore_n 2, 1) := by decide +kernel
theorem dX3_firstAt_64 : decode cX3_firstAt 64 = .ok (.iinc 3 1, 3) := by decide +kernel
theorem dX3_firstAt_67 : decode cX3_firstAt 67 = .ok (.goto (-63), 3) := by decide +kernel
theorem dX3_firstAt_70 : decode cX3_firstAt 70 = .ok (.aload_n 2, 1) := by decide +kernel
theorem dX3_firstAt_71 : decode cX3_firstAt 71 = .ok (.areturn, 1) := by decide +kernel
theorem dX3_goesAhead_0 : decode cX3_goesAhead 0 = .ok (.aload_n 3, 1) := by decide +kernel
theorem dX3_goesAhead_1 : decode cX3_goesAhead 1 = .ok (.getfield 148, 3) := by decide +kernel
theorem dX3_goesAhead_4 : decode cX3_goesAhead 4 = .ok (.lookupswitch 81 #[(1, 28), (2, 45)], 28) := by decide +kernel
theorem dX3_goesAhead_32 : decode cX3_goesAhead 32 = .ok (.aload_n 1, 1) := by decide +kernel
theorem dX3_goesAhead_33 : decode cX3_goesAhead 33 = .ok (.getfield 131, 3) := by decide +kernel
theorem dX3_goesAhead_36 : decode cX3_goesAhead 36 = .ok (.aload_n 2, 1) := by decide +kernel
theorem dX3_goesAhead_37 : decode cX3_goesAhead 37 = .ok (.getfield 131, 3) := by decide +kernel
theorem dX3_goesAhead_40 : decode cX3_goesAhead 40 = .ok (.if_icmp .le 7, 3) := by decide +kernel
theorem dX3_goesAhead_43 : decode cX3_goesAhead 43 = .ok (.iconst 1, 1) := by decide +kernel
theorem dX3_goesAhead_44 : decode cX3_goesAhead 44 = .ok (.goto 4, 3) := by decide +kernel
theorem dX3_goesAhead_47 : decode cX3_goesAhead 47 = .ok (.iconst 0, 1) := by decide +kernel
theorem dX3_goesAhead_48 : decode cX3_goesAhead 48 = .ok (.ireturn, 1) := by decide +kernel
theorem dX3_goesAhead_49 : decode cX3_goesAhead 49 = .ok (.aload_n 3, 1) := by decide +kernel
theorem dX3_goesAhead_50 : decode cX3_goesAhead 50 = .ok (.getfield 151, 3) := by decide +kernel
theorem dX3_goesAhead_53 : decode cX3_goesAhead 53 = .ok (.aload_n 1, 1) := by decide +kernel
theorem dX3_goesAhead_54 : decode cX3_goesAhead 54 = .ok (.aload_n 0, 1) := by decide +kernel
theorem dX3_goesAhead_55 : decode cX3_goesAhead 55 = .ok (.getfield 38, 3) := by decide +kernel
theorem dX3_goesAhead_58 : decode cX3_goesAhead 58 = .ok (.invokevirtual 118, 3) := by decide +kernel
theorem dX3_goesAhead_61 : decode cX3_goesAhead 61 = .ok (.if_icmp .eq 22, 3) := by decide +kernel
theorem dX3_goesAhead_64 : decode cX3_goesAhead 64 = .ok (.aload_n 3, 1) := by decide +kernel
theorem dX3_goesAhead_65 : decode cX3_goesAhead 65 = .ok (.getfield 151, 3) := by decide +kernel
theorem dX3_goesAhead_68 : decode cX3_goesAhead 68 = .ok (.aload_n 2, 1) := by decide +kernel
theorem dX3_goesAhead_69 : decode cX3_goesAhead 69 = .ok (.aload_n 0, 1) := by decide +kernel
theorem dX3_goesAhead_70 : decode cX3_goesAhead 70 = .ok (.getfield 38, 3) := by decide +kernel
theorem dX3_goesAhead_73 : decode cX3_goesAhead 73 = .ok (.invokevirtual 118, 3) := by decide +kernel
theorem dX3_goesAhead_76 : decode cX3_goesAhead 76 = .ok (.if_icmp .ne 7, 3) := by decide +kernel
theorem dX3_goesAhead_79 : decode cX3_goesAhead 79 = .ok (.iconst 1, 1) := by decide +kernel
theorem dX3_goesAhead_80 : decode cX3_goesAhead 80 = .ok (.goto 4, 3) := by decide +kernel
theorem dX3_goesAhead_83 : decode cX3_goesAhead 83 = .ok (.iconst 0, 1) := by decide +kernel
theorem dX3_goesAhead_84 : decode cX3_goesAhead 84 = .ok (.ireturn, 1) := by decide +kernel
theorem dX3_goesAhead_85 : decode cX3_goesAhead 85 = .ok (.iconst 0, 1) := by decide +kernel
theorem dX3_goesAhead_86 : decode cX3_goesAhead 86 = .ok (.ireturn, 1) := by decide +kernel
theorem dX3_countWaiting_0 : decode cX3_countWaiting 0 = .ok (.iconst 0, 1) := by decide +kernel
theorem dX3_countWaiting_1 : decode cX3_countWaiting 1 = .ok (.istore_n 1, 1) := by decide +kernel
theorem dX3_countWaiting_2 : decode cX3_countWaiting 2 = .ok (.iload_n 1, 1) := by decide +kernel
theorem dX3_countWaiting_3 : decode cX3_countWaiting 3 = .ok (.aload_n 0, 1) := by decide +kernel
theorem dX3_countWaiting_4 : decode cX3_countWaiting 4 = .ok (.getfield 51, 3) := by decide +kernel
theorem dX3_countWaiting_7 : decode cX3_countWaiting 7 = .ok (.if_icmp .ge 40, 3) := by decide +kernel
theorem dX3_countWaiting_10 : decode cX3_countWaiting 10 = .ok (.aload_n 0, 1) := by decide +kernel
theorem dX3_countWaiting_11 : decode cX3_countWaiting 11 = .ok (.getfield 34, 3) := by decide +kernel
theorem dX3_countWaiting_14 : decode cX3_countWaiting 14 = .ok (.iload_n 1, 1) := by decide +kernel
theorem dX3_countWaiting_15 : decode cX3_countWaiting 15 = .ok (.aaload, 1) := by decide +kernel
theorem dX3_countWaiting_16 : decode cX3_countWaiting 16 = .ok (.aload_n 0, 1) := by decide +kernel
theorem dX3_countWaiting_17 : decode cX3_countWaiting 17 = .ok (.getfield 60, 3) := by decide +kernel
theorem dX3_countWaiting_20 : decode cX3_countWaiting 20 = .ok (.invokevirtual 138, 3) := by decide +kernel
theorem dX3_countWaiting_23 : decode cX3_countWaiting 23 = .ok (.ifCond .eq 18, 3) := by decide +kernel
theorem dX3_countWaiting_26 : decode cX3_countWaiting 26 = .ok (.aload_n 0, 1) := by decide +kernel
theorem dX3_countWaiting_27 : decode cX3_countWaiting 27 = .ok (.getfield 34, 3) := by decide +kernel
theorem dX3_countWaiting_30 : decode cX3_countWaiting 30 = .ok (.iload_n 1, 1) := by decide +kernel
theorem dX3_countWaiting_31 : decode cX3_countWaiting 31 = .ok (.aaload, 1) := by decide +kernel
theorem dX3_countWaiting_32 : decode cX3_countWaiting 32 = .ok (.dup, 1) := by decide +kernel
theorem dX3_countWaiting_33 : decode cX3_countWaiting 33 = .ok (.getfield 155, 3) := by decide +kernel
theorem dX3_countWaiting_36 : decode cX3_countWaiting 36 = .ok (.iconst 1, 1) := by decide +kernel
theorem dX3_countWaiting_37 : decode cX3_countWaiting 37 = .ok (.iadd, 1) := by decide +kernel
theorem dX3_countWaiting_38 : decode cX3_countWaiting 38 = .ok (.putfield 155, 3) := by decide +kernel
theorem dX3_countWaiting_41 : decode cX3_countWaiting 41 = .ok (.iinc 1 1, 3) := by decide +kernel
theorem dX3_countWaiting_44 : decode cX3_countWaiting 44 = .ok (.goto (-42), 3) := by decide +kernel
theorem dX3_countWaiting_47 : decode cX3_countWaiting 47 = .ok (.return_, 1) := by decide +kernel
theorem dX3_boatsThere_0 : decode cX3_boatsThere 0 = .ok (.iconst 0, 1) := by decide +kernel
theorem dX3_boatsThere_1 : decode cX3_boatsThere 1 = .ok (.istore_n 1, 1) := by decide +kernel
theorem dX3_boatsThere_2 : decode cX3_boatsThere 2 = .ok (.iconst 0, 1) := by decide +kernel
theorem dX3_boatsThere_3 : decode cX3_boatsThere 3 = .ok (.istore_n 2, 1) := by decide +kernel
theorem dX3_boatsThere_4 : decode cX3_boatsThere 4 = .ok (.iload_n 2, 1) := by decide +kernel
theorem dX3_boatsThere_5 : decode cX3_boatsThere 5 = .ok (.aload_n 0, 1) := by decide +kernel
theorem dX3_boatsThere_6 : decode cX3_boatsThere 6 = .ok (.getfield 51, 3) := by decide +kernel
theorem dX3_boatsThere_9 : decode cX3_boatsThere 9 = .ok (.if_icmp .ge 29, 3) := by decide +kernel
theorem dX3_boatsThere_12 : decode cX3_boatsThere 12 = .ok (.iload_n 1, 1) := by decide +kernel
theorem dX3_boatsThere_13 : decode cX3_boatsThere 13 = .ok (.aload_n 0, 1) := by decide +kernel
theorem dX3_boatsThere_14 : decode cX3_boatsThere 14 = .ok (.getfield 34, 3) := by decide +kernel
theorem dX3_boatsThere_17 : decode cX3_boatsThere 17 = .ok (.iload_n 2, 1) := by decide +kernel
theorem dX3_boatsThere_18 : decode cX3_boatsThere 18 = .ok (.aaload, 1) := by decide +kernel
theorem dX3_boatsThere_19 : decode cX3_boatsThere 19 = .ok (.invokevirtual 158, 3) := by decide +kernel
theorem dX3_boatsThere_22 : decode cX3_boatsThere 22 = .ok (.ifCond .eq 7, 3) := by decide +kernel
theorem dX3_boatsThere_25 : decode cX3_boatsThere 25 = .ok (.iconst 1, 1) := by decide +kernel
theorem dX3_boatsThere_26 : decode cX3_boatsThere 26 = .ok (.goto 4, 3) := by decide +kernel
theorem dX3_boatsThere_29 : decode cX3_boatsThere 29 = .ok (.iconst 0, 1) := by decide +kernel
theorem dX3_boatsThere_30 : decode cX3_boatsThere 30 = .ok (.iadd, 1) := by decide +kernel
theorem dX3_boatsThere_31 : decode cX3_boatsThere 31 = .ok (.istore_n 1, 1) := by decide +kernel
theorem dX3_boatsThere_32 : decode cX3_boatsThere 32 = .ok (.iinc 2 1, 3) := by decide +kernel
theorem dX3_boatsThere_35 : decode cX3_boatsThere 35 = .ok (.goto (-31), 3) := by decide +kernel
theorem dX3_boatsThere_38 : decode cX3_boatsThere 38 = .ok (.iload_n 1, 1) := by decide +kernel
theorem dX3_boatsThere_39 : decode cX3_boatsThere 39 = .ok (.ireturn, 1) := by decide +kernel
theorem dX3_takenInAll_0 : decode cX3_takenInAll 0 = .ok (.lconst 0, 1) := by decide +kernel
theorem dX3_takenInAll_1 : decode cX3_takenInAll 1 = .ok (.lstore_n 1, 1) := by decide +kernel
theorem dX3_takenInAll_2 : decode cX3_takenInAll 2 = .ok (.iconst 0, 1) := by decide +kernel
theorem dX3_takenInAll_3 : decode cX3_takenInAll 3 = .ok (.istore_n 3, 1) := by decide +kernel
theorem dX3_takenInAll_4 : decode cX3_takenInAll 4 = .ok (.iload_n 3, 1) := by decide +kernel
theorem dX3_takenInAll_5 : decode cX3_takenInAll 5 = .ok (.aload_n 0, 1) := by decide +kernel
theorem dX3_takenInAll_6 : decode cX3_takenInAll 6 = .ok (.getfield 48, 3) := by decide +kernel
theorem dX3_takenInAll_9 : decode cX3_takenInAll 9 = .ok (.if_icmp .ge 22, 3) := by decide +kernel
theorem dX3_takenInAll_12 : decode cX3_takenInAll 12 = .ok (.lload_n 1, 1) := by decide +kernel
theorem dX3_takenInAll_13 : decode cX3_takenInAll 13 = .ok (.aload_n 0, 1) := by decide +kernel
theorem dX3_takenInAll_14 : decode cX3_takenInAll 14 = .ok (.getfield 25, 3) := by decide +kernel
theorem dX3_takenInAll_17 : decode cX3_takenInAll 17 = .ok (.iload_n 3, 1) := by decide +kernel
theorem dX3_takenInAll_18 : decode cX3_takenInAll 18 = .ok (.aaload, 1) := by decide +kernel
theorem dX3_takenInAll_19 : decode cX3_takenInAll 19 = .ok (.getfield 111, 3) := by decide +kernel
theorem dX3_takenInAll_22 : decode cX3_takenInAll 22 = .ok (.i2l, 1) := by decide +kernel
theorem dX3_takenInAll_23 : decode cX3_takenInAll 23 = .ok (.ladd, 1) := by decide +kernel
theorem dX3_takenInAll_24 : decode cX3_takenInAll 24 = .ok (.lstore_n 1, 1) := by decide +kernel
theorem dX3_takenInAll_25 : decode cX3_takenInAll 25 = .ok (.iinc 3 1, 3) := by decide +kernel
theorem dX3_takenInAll_28 : decode cX3_takenInAll 28 = .ok (.goto (-24), 3) := by decide +kernel
theorem dX3_takenInAll_31 : decode cX3_takenInAll 31 = .ok (.lload_n 1, 1) := by decide +kernel
theorem dX3_takenInAll_32 : decode cX3_takenInAll 32 = .ok (.lreturn, 1) := by decide +kernel
theorem dX3_inPounds_0 : decode cX3_inPounds 0 = .ok (.lconst 0, 1) := by decide +kernel
theorem dX3_inPounds_1 : decode cX3_inPounds 1 = .ok (.lstore_n 1, 1) := by decide +kernel
theorem dX3_inPounds_2 : decode cX3_inPounds 2 = .ok (.iconst 0, 1) := by decide +kernel
theorem dX3_inPounds_3 : decode cX3_inPounds 3 = .ok (.istore_n 3, 1) := by decide +kernel
theorem dX3_inPounds_4 : decode cX3_inPounds 4 = .ok (.iload_n 3, 1) := by decide +kernel
theorem dX3_inPounds_5 : decode cX3_inPounds 5 = .ok (.bipush 8, 2) := by decide +kernel
theorem dX3_inPounds_7 : decode cX3_inPounds 7 = .ok (.if_icmp .ge 22, 3) := by decide +kernel
theorem dX3_inPounds_10 : decode cX3_inPounds 10 = .ok (.lload_n 1, 1) := by decide +kernel
theorem dX3_inPounds_11 : decode cX3_inPounds 11 = .ok (.aload_n 0, 1) := by decide +kernel
theorem dX3_inPounds_12 : decode cX3_inPounds 12 = .ok (.getfield 11, 3) := by decide +kernel
theorem dX3_inPounds_15 : decode cX3_inPounds 15 = .ok (.iload_n 3, 1) := by decide +kernel
theorem dX3_inPounds_16 : decode cX3_inPounds 16 = .ok (.aaload, 1) := by decide +kernel
theorem dX3_inPounds_17 : decode cX3_inPounds 17 = .ok (.getfield 87, 3) := by decide +kernel
theorem dX3_inPounds_20 : decode cX3_inPounds 20 = .ok (.i2l, 1) := by decide +kernel
theorem dX3_inPounds_21 : decode cX3_inPounds 21 = .ok (.ladd, 1) := by decide +kernel
theorem dX3_inPounds_22 : decode cX3_inPounds 22 = .ok (.lstore_n 1, 1) := by decide +kernel
theorem dX3_inPounds_23 : decode cX3_inPounds 23 = .ok (.iinc 3 1, 3) := by decide +kernel
theorem dX3_inPounds_26 : decode cX3_inPounds 26 = .ok (.goto (-22), 3) := by decide +kernel
theorem dX3_inPounds_29 : decode cX3_inPounds 29 = .ok (.lload_n 1, 1) := by decide +kernel
theorem dX3_inPounds_30 : decode cX3_inPounds 30 = .ok (.lreturn, 1) := by decide +kernel
theorem dX3_inLocks_0 : decode cX3_inLocks 0 = .ok (.lconst 0, 1) := by decide +kernel
theorem dX3_inLocks_1 : decode cX3_inLocks 1 = .ok (.lstore_n 1, 1) := by decide +kernel
theorem dX3_inLocks_2 : decode cX3_inLocks 2 = .ok (.iconst 0, 1) := by decide +kernel
theorem dX3_inLocks_3 : decode cX3_inLocks 3 = .ok (.istore_n 3, 1) := by decide +kernel
theorem dX3_inLocks_4 : decode cX3_inLocks 4 = .ok (.iload_n 3, 1) := by decide +kernel
theorem dX3_inLocks_5 : decode cX3_inLocks 5 = .ok (.bipush 7, 2) := by decide +kernel
theorem dX3_inLocks_7 : decode cX3_inLocks 7 = .ok (.if_icmp .ge 22, 3) := by decide +kernel
theorem dX3_inLocks_10 : decode cX3_inLocks 10 = .ok (.lload_n 1, 1) := by decide +kernel
theorem dX3_inLocks_11 : decode cX3_inLocks 11 = .ok (.aload_n 0, 1) := by decide +kernel
theorem dX3_inLocks_12 : decode cX3_inLocks 12 = .ok (.getfield 19, 3) := by decide +kernel
theorem dX3_inLocks_15 : decode cX3_inLocks 15 = .ok (.iload_n 3, 1) := by decide +kernel
theorem dX3_inLocks_16 : decode cX3_inLocks 16 = .ok (.aaload, 1) := by decide +kernel
theorem dX3_inLocks_17 : decode cX3_inLocks 17 = .ok (.invokevirtual 162, 3) := by decide +kernel
theorem dX3_inLocks_20 : decode cX3_inLocks 20 = .ok (.i2l, 1) := by decide +kernel
theorem dX3_inLocks_21 : decode cX3_inLocks 21 = .ok (.ladd, 1) := by decide +kernel
theorem dX3_inLocks_22 : decode cX3_inLocks 22 = .ok (.lstore_n 1, 1) := by decide +kernel
theorem dX3_inLocks_23 : decode cX3_inLocks 23 = .ok (.iinc 3 1, 3) := by decide +kernel
theorem dX3_inLocks_26 : decode cX3_inLocks 26 = .ok (.goto (-22), 3) := by decide +kernel
theorem dX3_inLocks_29 : decode cX3_inLocks 29 = .ok (.lload_n 1, 1) := by decide +kernel
theorem dX3_inLocks_30 : decode cX3_inLocks 30 = .ok (.lreturn, 1) := by decide +kernel
theorem dX3_addTo_0 : decode cX3_addTo 0 = .ok (.lload_n 1, 1) := by decide +kernel
theorem dX3_addTo_1 : decode cX3_addTo 1 = .ok (.aload_n 0, 1) := by decide +kernel
theorem dX3_addTo_2 : decode cX3_addTo 2 = .ok (.getfield 38, 3) := by decide +kernel
theorem dX3_addTo_5 : decode cX3_addTo 5 = .ok (.i2l, 1) := by decide +kernel
theorem dX3_addTo_6 : decode cX3_addTo 6 = .ok (.invokestatic 165, 3) := by decide +kernel
theorem dX3_addTo_9 : decode cX3_addTo 9 = .ok (.lstore_n 3, 1) := by decide +kernel
theorem dX3_addTo_10 : decode cX3_addTo 10 = .ok (.iconst 0, 1) := by decide +kernel
theorem dX3_addTo_11 : decode cX3_addTo 11 = .ok (.istore 5, 2) := by decide +kernel
theorem dX3_addTo_13 : decode cX3_addTo 13 = .ok (.iload 5, 2) := by decide +kernel
theorem dX3_addTo_15 : decode cX3_addTo 15 = .ok (.bipush 8, 2) := by decide +kernel
theorem dX3_addTo_17 : decode cX3_addTo 17 = .ok (.if_icmp .ge 42, 3) := by decide +kernel
theorem dX3_addTo_20 : decode cX3_addTo 20 = .ok (.iconst 0, 1) := by decide +kernel
theorem dX3_addTo_21 : decode cX3_addTo 21 = .ok (.istore 6, 2) := by decide +kernel
theorem dX3_addTo_23 : decode cX3_addTo 23 = .ok (.iload 6, 2) := by decide +kernel
theorem dX3_addTo_25 : decode cX3_addTo 25 = .ok (.iconst 3, 1) := by decide +kernel
theorem dX3_addTo_26 : decode cX3_addTo 26 = .ok (.if_icmp .ge 27, 3) := by decide +kernel
theorem dX3_addTo_29 : decode cX3_addTo 29 = .ok (.lload_n 3, 1) := by decide +kernel
theorem dX3_addTo_30 : decode cX3_addTo 30 = .ok (.aload_n 0, 1) := by decide +kernel
theorem dX3_addTo_31 : decode cX3_addTo 31 = .ok (.getfield 11, 3) := by decide +kernel
theorem dX3_addTo_34 : decode cX3_addTo 34 = .ok (.iload 5, 2) := by decide +kernel
theorem dX3_addTo_36 : decode cX3_addTo 36 = .ok (.aaload, 1) := by decide +kernel
theorem dX3_addTo_37 : decode cX3_addTo 37 = .ok (.iload 6, 2) := by decide +kernel
theorem dX3_addTo_39 : decode cX3_addTo 39 = .ok (.invokevirtual 169, 3) := by decide +kernel
theorem dX3_addTo_42 : decode cX3_addTo 42 = .ok (.i2l, 1) := by decide +kernel
theorem dX3_addTo_43 : decode cX3_addTo 43 = .ok (.invokestatic 165, 3) := by decide +kernel
theorem dX3_addTo_46 : decode cX3_addTo 46 = .ok (.lstore_n 3, 1) := by decide +kernel
theorem dX3_addTo_47 : decode cX3_addTo 47 = .ok (.iinc 6 1, 3) := by decide +kernel
theorem dX3_addTo_50 : decode cX3_addTo 50 = .ok (.goto (-27), 3) := by decide +kernel
theorem dX3_addTo_53 : decode cX3_addTo 53 = .ok (.iinc 5 1, 3) := by decide +kernel
theorem dX3_addTo_56 : decode cX3_addTo 56 = .ok (.goto (-43), 3) := by decide +kernel
theorem dX3_addTo_59 : decode cX3_addTo 59 = .ok (.iconst 0, 1) := by decide +kernel
theorem dX3_addTo_60 : decode cX3_addTo 60 = .ok (.istore 5, 2) := by decide +kernel
theorem dX3_addTo_62 : decode cX3_addTo 62 = .ok (.iload 5, 2) := by decide +kernel
theorem dX3_addTo_64 : decode cX3_addTo 64 = .ok (.bipush 7, 2) := by decide +kernel
theorem dX3_addTo_66 : decode cX3_addTo 66 = .ok (.if_icmp .ge 75, 3) := by decide +kernel
theorem dX3_addTo_69 : decode cX3_addTo 69 = .ok (.iconst 0, 1) := by decide +kernel
theorem dX3_addTo_70 : decode cX3_addTo 70 = .ok (.istore 6, 2) := by decide +kernel
theorem dX3_addTo_72 : decode cX3_addTo 72 = .ok (.iload 6, 2) := by decide +kernel
theorem dX3_addTo_74 : decode cX3_addTo 74 = .ok (.iconst 3, 1) := by decide +kernel
theorem dX3_addTo_75 : decode cX3_addTo 75 = .ok (.if_icmp .ge 27, 3) := by decide +kernel
theorem dX3_addTo_78 : decode cX3_addTo 78 = .ok (.lload_n 3, 1) := by decide +kernel
theorem dX3_addTo_79 : decode cX3_addTo 79 = .ok (.aload_n 0, 1) := by decide +kernel
theorem dX3_addTo_80 : decode cX3_addTo 80 = .ok (.getfield 19, 3) := by decide +kernel
theorem dX3_addTo_83 : decode cX3_addTo 83 = .ok (.iload 5, 2) := by decide +kernel
theorem dX3_addTo_85 : decode cX3_addTo 85 = .ok (.aaload, 1) := by decide +kernel
theorem dX3_addTo_86 : decode cX3_addTo 86 = .ok (.iload 6, 2) := by decide +kernel
theorem dX3_addTo_88 : decode cX3_addTo 88 = .ok (.invokevirtual 173, 3) := by decide +kernel
theorem dX3_addTo_91 : decode cX3_addTo 91 = .ok (.i2l, 1) := by decide +kernel
theorem dX3_addTo_92 : decode cX3_addTo 92 = .ok (.invokestatic 165, 3) := by decide +kernel
theorem dX3_addTo_95 : decode cX3_addTo 95 = .ok (.lstore_n 3, 1) := by decide +kernel
theorem dX3_addTo_96 : decode cX3_addTo 96 = .ok (.iinc 6 1, 3) := by decide +kernel
theorem dX3_addTo_99 : decode cX3_addTo 99 = .ok (.goto (-27), 3) := by decide +kernel
theorem dX3_addTo_102 : decode cX3_addTo 102 = .ok (.iconst 0, 1) := by decide +kernel
theorem dX3_addTo_103 : decode cX3_addTo 103 = .ok (.istore 6, 2) := by decide +kernel
theorem dX3_addTo_105 : decode cX3_addTo 105 = .ok (.iload 6, 2) := by decide +kernel
theorem dX3_addTo_107 : decode cX3_addTo 107 = .ok (.iconst 4, 1) := by decide +kernel
theorem dX3_addTo_108 : decode cX3_addTo 108 = .ok (.if_icmp .ge 27, 3) := by decide +kernel
theorem dX3_addTo_111 : decode cX3_addTo 111 = .ok (.lload_n 3, 1) := by decide +kernel
theorem dX3_addTo_112 : decode cX3_addTo 112 = .ok (.aload_n 0, 1) := by decide +kernel
theorem dX3_addTo_113 : decode cX3_addTo 113 = .ok (.getfield 19, 3) := by decide +kernel
theorem dX3_addTo_116 : decode cX3_addTo 116 = .ok (.iload 5, 2) := by decide +kernel
theorem dX3_addTo_118 : decode cX3_addTo 118 = .ok (.aaload, 1) := by decide +kernel
theorem dX3_addTo_119 : decode cX3_addTo 119 = .ok (.iload 6, 2) := by decide +kernel
theorem dX3_addTo_121 : decode cX3_addTo 121 = .ok (.invokevirtual 174, 3) := by decide +kernel
theorem dX3_addTo_124 : decode cX3_addTo 124 = .ok (.i2l, 1) := by decide +kernel
theorem dX3_addTo_125 : decode cX3_addTo 125 = .ok (.invokestatic 165, 3) := by decide +kernel
theorem dX3_addTo_128 : decode cX3_addTo 128 = .ok (.lstore_n 3, 1) := by decide +kernel
theorem dX3_addTo_129 : decode cX3_addTo 129 = .ok (.iinc 6 1, 3) := by decide +kernel
theorem dX3_addTo_132 : decode cX3_addTo 132 = .ok (.goto (-27), 3) := by decide +kernel
theorem dX3_addTo_135 : decode cX3_addTo 135 = .ok (.iinc 5 1, 3) := by decide +kernel
theorem dX3_addTo_138 : decode cX3_addTo 138 = .ok (.goto (-76), 3) := by decide +kernel
theorem dX3_addTo_141 : decode cX3_addTo 141 = .ok (.aload_n 0, 1) := by decide +kernel
theorem dX3_addTo_142 : decode cX3_addTo 142 = .ok (.aload_n 0, 1) := by decide +kernel
theorem dX3_addTo_143 : decode cX3_addTo 143 = .ok (.lload_n 3, 1) := by decide +kernel
theorem dX3_addTo_144 : decode cX3_addTo 144 = .ok (.invokevirtual 177, 3) := by decide +kernel
theorem dX3_addTo_147 : decode cX3_addTo 147 = .ok (.invokevirtual 181, 3) := by decide +kernel
theorem dX3_addTo_150 : decode cX3_addTo 150 = .ok (.lreturn, 1) := by decide +kernel
theorem dX3_addTakersTo_0 : decode cX3_addTakersTo 0 = .ok (.lload_n 1, 1) := by decide +kernel
theorem dX3_addTakersTo_1 : decode cX3_addTakersTo 1 = .ok (.lstore_n 3, 1) := by decide +kernel
theorem dX3_addTakersTo_2 : decode cX3_addTakersTo 2 = .ok (.iconst 0, 1) := by decide +kernel
theorem dX3_addTakersTo_3 : decode cX3_addTakersTo 3 = .ok (.istore 5, 2) := by decide +kernel
theorem dX3_addTakersTo_5 : decode cX3_addTakersTo 5 = .ok (.iload 5, 2) := by decide +kernel
theorem dX3_addTakersTo_7 : decode cX3_addTakersTo 7 = .ok (.aload_n 0, 1) := by decide +kernel
theorem dX3_addTakersTo_8 : decode cX3_addTakersTo 8 = .ok (.getfield 48, 3) := by decide +kernel
theorem dX3_addTakersTo_11 : decode cX3_addTakersTo 11 = .ok (.if_icmp .ge 69, 3) := by decide +kernel
theorem dX3_addTakersTo_14 : decode cX3_addTakersTo 14 = .ok (.aload_n 0, 1) := by decide +kernel
theorem dX3_addTakersTo_15 : decode cX3_addTakersTo 15 = .ok (.getfield 25, 3) := by decide +kernel
theorem dX3_addTakersTo_18 : decode cX3_addTakersTo 18 = .ok (.iload 5, 2) := by decide +kernel
theorem dX3_addTakersTo_20 : decode cX3_addTakersTo 20 = .ok (.aaload, 1) := by decide +kernel
theorem dX3_addTakersTo_21 : decode cX3_addTakersTo 21 = .ok (.astore 6, 2) := by decide +kernel
theorem dX3_addTakersTo_23 : decode cX3_addTakersTo 23 = .ok (.lload_n 3, 1) := by decide +kernel
theorem dX3_addTakersTo_24 : decode cX3_addTakersTo 24 = .ok (.aload 6, 2) := by decide +kernel
theorem dX3_addTakersTo_26 : decode cX3_addTakersTo 26 = .ok (.getfield 184, 3) := by decide +kernel
theorem dX3_addTakersTo_29 : decode cX3_addTakersTo 29 = .ok (.i2l, 1) := by decide +kernel
theorem dX3_addTakersTo_30 : decode cX3_addTakersTo 30 = .ok (.invokestatic 165, 3) := by decide +kernel
theorem dX3_addTakersTo_33 : decode cX3_addTakersTo 33 = .ok (.aload 6, 2) := by decide +kernel
theorem dX3_addTakersTo_35 : decode cX3_addTakersTo 35 = .ok (.getfield 67, 3) := by decide +kernel
theorem dX3_addTakersTo_38 : decode cX3_addTakersTo 38 = .ok (.i2l, 1) := by decide +kernel
theorem dX3_addTakersTo_39 : decode cX3_addTakersTo 39 = .ok (.invokestatic 165, 3) := by decide +kernel
theorem dX3_addTakersTo_42 : decode cX3_addTakersTo 42 = .ok (.lstore_n 3, 1) := by decide +kernel
theorem dX3_addTakersTo_43 : decode cX3_addTakersTo 43 = .ok (.lload_n 3, 1) := by decide +kernel
theorem dX3_addTakersTo_44 : decode cX3_addTakersTo 44 = .ok (.aload 6, 2) := by decide +kernel
theorem dX3_addTakersTo_46 : decode cX3_addTakersTo 46 = .ok (.getfield 187, 3) := by decide +kernel
theorem dX3_addTakersTo_49 : decode cX3_addTakersTo 49 = .ok (.i2l, 1) := by decide +kernel
theorem dX3_addTakersTo_50 : decode cX3_addTakersTo 50 = .ok (.invokestatic 165, 3) := by decide +kernel
theorem dX3_addTakersTo_53 : decode cX3_addTakersTo 53 = .ok (.aload 6, 2) := by decide +kernel
theorem dX3_addTakersTo_55 : decode cX3_addTakersTo 55 = .ok (.getfield 54, 3) := by decide +kernel
theorem dX3_addTakersTo_58 : decode cX3_addTakersTo 58 = .ok (.i2l, 1) := by decide +kernel
theorem dX3_addTakersTo_59 : decode cX3_addTakersTo 59 = .ok (.invokestatic 165, 3) := by decide +kernel
theorem dX3_addTakersTo_62 : decode cX3_addTakersTo 62 = .ok (.lstore_n 3, 1) := by decide +kernel
theorem dX3_addTakersTo_63 : decode cX3_addTakersTo 63 = .ok (.lload_n 3, 1) := by decide +kernel
theorem dX3_addTakersTo_64 : decode cX3_addTakersTo 64 = .ok (.aload 6, 2) := by decide +kernel
theorem dX3_addTakersTo_66 : decode cX3_addTakersTo 66 = .ok (.getfield 111, 3) := by decide +kernel
theorem dX3_addTakersTo_69 : decode cX3_addTakersTo 69 = .ok (.i2l, 1) := by decide +kernel
theorem dX3_addTakersTo_70 : decode cX3_addTakersTo 70 = .ok (.invokestatic 165, 3) := by decide +kernel
theorem dX3_addTakersTo_73 : decode cX3_addTakersTo 73 = .ok (.lstore_n 3, 1) := by decide +kernel
theorem dX3_addTakersTo_74 : decode cX3_addTakersTo 74 = .ok (.iinc 5 1, 3) := by decide +kernel
theorem dX3_addTakersTo_77 : decode cX3_addTakersTo 77 = .ok (.goto (-72), 3) := by decide +kernel
theorem dX3_addTakersTo_80 : decode cX3_addTakersTo 80 = .ok (.lload_n 3, 1) := by decide +kernel
theorem dX3_addTakersTo_81 : decode cX3_addTakersTo 81 = .ok (.lreturn, 1) := by decide +kernel
theorem dX3_addBoatsTo_0 : decode cX3_addBoatsTo 0 = .ok (.lload_n 1, 1) := by decide +kernel
theorem dX3_addBoatsTo_1 : decode cX3_addBoatsTo 1 = .ok (.lstore_n 3, 1) := by decide +kernel
theorem dX3_addBoatsTo_2 : decode cX3_addBoatsTo 2 = .ok (.iconst 0, 1) := by decide +kernel
theorem dX3_addBoatsTo_3 : decode cX3_addBoatsTo 3 = .ok (.istore 5, 2) := by decide +kernel
theorem dX3_addBoatsTo_5 : decode cX3_addBoatsTo 5 = .ok (.iload 5, 2) := by decide +kernel
theorem dX3_addBoatsTo_7 : decode cX3_addBoatsTo 7 = .ok (.aload_n 0, 1) := by decide +kernel
theorem dX3_addBoatsTo_8 : decode cX3_addBoatsTo 8 = .ok (.getfield 51, 3) := by decide +kernel
theorem dX3_addBoatsTo_11 : decode cX3_addBoatsTo 11 = .ok (.if_icmp .ge 75, 3) := by decide +kernel
theorem dX3_addBoatsTo_14 : decode cX3_addBoatsTo 14 = .ok (.aload_n 0, 1) := by decide +kernel
theorem dX3_addBoatsTo_15 : decode cX3_addBoatsTo 15 = .ok (.getfield 34, 3) := by decide +kernel
theorem dX3_addBoatsTo_18 : decode cX3_addBoatsTo 18 = .ok (.iload 5, 2) := by decide +kernel
theorem dX3_addBoatsTo_20 : decode cX3_addBoatsTo 20 = .ok (.aaload, 1) := by decide +kernel
theorem dX3_addBoatsTo_21 : decode cX3_addBoatsTo 21 = .ok (.astore 6, 2) := by decide +kernel
theorem dX3_addBoatsTo_23 : decode cX3_addBoatsTo 23 = .ok (.iconst 0, 1) := by decide +kernel
theorem dX3_addBoatsTo_24 : decode cX3_addBoatsTo 24 = .ok (.istore 7, 2) := by decide +kernel
theorem dX3_addBoatsTo_26 : decode cX3_addBoatsTo 26 = .ok (.iload 7, 2) := by decide +kernel
theorem dX3_addBoatsTo_28 : decode cX3_addBoatsTo 28 = .ok (.iconst 5, 1) := by decide +kernel
theorem dX3_addBoatsTo_29 : decode cX3_addBoatsTo 29 = .ok (.if_icmp .ge 22, 3) := by decide +kernel
theorem dX3_addBoatsTo_32 : decode cX3_addBoatsTo 32 = .ok (.lload_n 3, 1) := by decide +kernel
theorem dX3_addBoatsTo_33 : decode cX3_addBoatsTo 33 = .ok (.aload 6, 2) := by decide +kernel
theorem dX3_addBoatsTo_35 : decode cX3_addBoatsTo 35 = .ok (.iload 7, 2) := by decide +kernel
theorem dX3_addBoatsTo_37 : decode cX3_addBoatsTo 37 = .ok (.invokevirtual 190, 3) := by decide +kernel
theorem dX3_addBoatsTo_40 : decode cX3_addBoatsTo 40 = .ok (.i2l, 1) := by decide +kernel
theorem dX3_addBoatsTo_41 : decode cX3_addBoatsTo 41 = .ok (.invokestatic 165, 3) := by decide +kernel
theorem dX3_addBoatsTo_44 : decode cX3_addBoatsTo 44 = .ok (.lstore_n 3, 1) := by decide +kernel
theorem dX3_addBoatsTo_45 : decode cX3_addBoatsTo 45 = .ok (.iinc 7 1, 3) := by decide +kernel
theorem dX3_addBoatsTo_48 : decode cX3_addBoatsTo 48 = .ok (.goto (-22), 3) := by decide +kernel
theorem dX3_addBoatsTo_51 : decode cX3_addBoatsTo 51 = .ok (.lload_n 3, 1) := by decide +kernel
theorem dX3_addBoatsTo_52 : decode cX3_addBoatsTo 52 = .ok (.aload 6, 2) := by decide +kernel
theorem dX3_addBoatsTo_54 : decode cX3_addBoatsTo 54 = .ok (.getfield 131, 3) := by decide +kernel
theorem dX3_addBoatsTo_57 : decode cX3_addBoatsTo 57 = .ok (.i2l, 1) := by decide +kernel
theorem dX3_addBoatsTo_58 : decode cX3_addBoatsTo 58 = .ok (.invokestatic 165, 3) := by decide +kernel
theorem dX3_addBoatsTo_61 : decode cX3_addBoatsTo 61 = .ok (.aload 6, 2) := by decide +kernel
theorem dX3_addBoatsTo_63 : decode cX3_addBoatsTo 63 = .ok (.getfield 191, 3) := by decide +kernel
theorem dX3_addBoatsTo_66 : decode cX3_addBoatsTo 66 = .ok (.i2l, 1) := by decide +kernel
theorem dX3_addBoatsTo_67 : decode cX3_addBoatsTo 67 = .ok (.invokestatic 165, 3) := by decide +kernel
theorem dX3_addBoatsTo_70 : decode cX3_addBoatsTo 70 = .ok (.aload 6, 2) := by decide +kernel
theorem dX3_addBoatsTo_72 : decode cX3_addBoatsTo 72 = .ok (.getfield 194, 3) := by decide +kernel
theorem dX3_addBoatsTo_75 : decode cX3_addBoatsTo 75 = .ok (.i2l, 1) := by decide +kernel
theorem dX3_addBoatsTo_76 : decode cX3_addBoatsTo 76 = .ok (.invokestatic 165, 3) := by decide +kernel
theorem dX3_addBoatsTo_79 : decode cX3_addBoatsTo 79 = .ok (.lstore_n 3, 1) := by decide +kernel
theorem dX3_addBoatsTo_80 : decode cX3_addBoatsTo 80 = .ok (.iinc 5 1, 3) := by decide +kernel
theorem dX3_addBoatsTo_83 : decode cX3_addBoatsTo 83 = .ok (.goto (-78), 3) := by decide +kernel
theorem dX3_addBoatsTo_86 : decode cX3_addBoatsTo 86 = .ok (.lload_n 3, 1) := by decide +kernel
theorem dX3_addBoatsTo_87 : decode cX3_addBoatsTo 87 = .ok (.lreturn, 1) := by decide +kernel
theorem dX4_init_0 : decode cX4_init 0 = .ok (.aload_n 0, 1) := by decide +kernel
theorem dX4_init_1 : decode cX4_init 1 = .ok (.invokespecial 1, 3) := by decide +kernel
theorem dX4_init_4 : decode cX4_init 4 = .ok (.aload_n 0, 1) := by decide +kernel
theorem dX4_init_5 : decode cX4_init 5 = .ok (.bipush 100, 2) := by decide +kernel
theorem dX4_init_7 : decode cX4_init 7 = .ok (.putfield 7, 3) := by decide +kernel
theorem dX4_init_10 : decode cX4_init 10 = .ok (.return_, 1) := by decide +kernel
theorem dX4_allows_0 : decode cX4_allows 0 = .ok (.iload_n 1, 1) := by decide +kernel
theorem dX4_allows_1 : decode cX4_allows 1 = .ok (.ifCond .ne 13, 3) := by decide +kernel
theorem dX4_allows_4 : decode cX4_allows 4 = .ok (.iload_n 2, 1) := by decide +kernel
theorem dX4_allows_5 : decode cX4_allows 5 = .ok (.bipush 10, 2) := by decide +kernel
theorem dX4_allows_7 : decode cX4_allows 7 = .ok (.sipush 200, 3) := by decide +kernel
theorem dX4_allows_10 : decode cX4_allows 10 = .ok (.invokestatic 13, 3) := by decide +kernel
theorem dX4_allows_13 : decode cX4_allows 13 = .ok (.ireturn, 1) := by decide +kernel
theorem dX4_allows_14 : decode cX4_allows 14 = .ok (.iload_n 2, 1) := by decide +kernel
theorem dX4_allows_15 : decode cX4_allows 15 = .ok (.iconst 0, 1) := by decide +kernel
theorem dX4_allows_16 : decode cX4_allows 16 = .ok (.iload_n 1, 1) := by decide +kernel
theorem dX4_allows_17 : decode cX4_allows 17 = .ok (.iconst 1, 1) := by decide +kernel
theorem dX4_allows_18 : decode cX4_allows 18 = .ok (.if_icmp .ne 7, 3) := by decide +kernel
theorem dX4_allows_21 : decode cX4_allows 21 = .ok (.iconst 1, 1) := by decide +kernel
theorem dX4_allows_22 : decode cX4_allows 22 = .ok (.goto 4, 3) := by decide +kernel
theorem dX4_allows_25 : decode cX4_allows 25 = .ok (.iconst 2, 1) := by decide +kernel
theorem dX4_allows_26 : decode cX4_allows 26 = .ok (.invokestatic 13, 3) := by decide +kernel
theorem dX4_allows_29 : decode cX4_allows 29 = .ok (.ireturn, 1) := by decide +kernel
theorem dX4_tell_0 : decode cX4_tell 0 = .ok (.iload_n 1, 1) := by decide +kernel
theorem dX4_tell_1 : decode cX4_tell 1 = .ok (.ifCond .ne 8, 3) := by decide +kernel
theorem dX4_tell_4 : decode cX4_tell 4 = .ok (.aload_n 0, 1) := by decide +kernel
theorem dX4_tell_5 : decode cX4_tell 5 = .ok (.getfield 7, 3) := by decide +kernel
theorem dX4_tell_8 : decode cX4_tell 8 = .ok (.ireturn, 1) := by decide +kernel
theorem dX4_tell_9 : decode cX4_tell 9 = .ok (.iload_n 1, 1) := by decide +kernel
theorem dX4_tell_10 : decode cX4_tell 10 = .ok (.iconst 1, 1) := by decide +kernel
theorem dX4_tell_11 : decode cX4_tell 11 = .ok (.if_icmp .ne 18, 3) := by decide +kernel
theorem dX4_tell_14 : decode cX4_tell 14 = .ok (.aload_n 0, 1) := by decide +kernel
theorem dX4_tell_15 : decode cX4_tell 15 = .ok (.getfield 19, 3) := by decide +kernel
theorem dX4_tell_18 : decode cX4_tell 18 = .ok (.ifCond .eq 7, 3) := by decide +kernel
theorem dX4_tell_21 : decode cX4_tell 21 = .ok (.iconst 1, 1) := by decide +kernel
theorem dX4_tell_22 : decode cX4_tell 22 = .ok (.goto 11, 3) := by decide +kernel
theorem dX4_tell_25 : decode cX4_tell 25 = .ok (.iconst 0, 1) := by decide +kernel
theorem dX4_tell_26 : decode cX4_tell 26 = .ok (.goto 7, 3) := by decide +kernel
theorem dX4_tell_29 : decode cX4_tell 29 = .ok (.aload_n 0, 1) := by decide +kernel
theorem dX4_tell_30 : decode cX4_tell 30 = .ok (.getfield 23, 3) := by decide +kernel
theorem dX4_tell_33 : decode cX4_tell 33 = .ok (.ireturn, 1) := by decide +kernel
theorem dX4_replace_0 : decode cX4_replace 0 = .ok (.aload_n 0, 1) := by decide +kernel
theorem dX4_replace_1 : decode cX4_replace 1 = .ok (.iload_n 1, 1) := by decide +kernel
theorem dX4_replace_2 : decode cX4_replace 2 = .ok (.invokevirtual 26, 3) := by decide +kernel
theorem dX4_replace_5 : decode cX4_replace 5 = .ok (.istore_n 3, 1) := by decide +kernel
theorem dX4_replace_6 : decode cX4_replace 6 = .ok (.iload_n 1, 1) := by decide +kernel
theorem dX4_replace_7 : decode cX4_replace 7 = .ok (.ifCond .ne 11, 3) := by decide +kernel
theorem dX4_replace_10 : decode cX4_replace 10 = .ok (.aload_n 0, 1) := by decide +kernel
theorem dX4_replace_11 : decode cX4_replace 11 = .ok (.iload_n 2, 1) := by decide +kernel
theorem dX4_replace_12 : decode cX4_replace 12 = .ok (.putfield 7, 3) := by decide +kernel
theorem dX4_replace_15 : decode cX4_replace 15 = .ok (.goto 30, 3) := by decide +kernel
theorem dX4_replace_18 : decode cX4_replace 18 = .ok (.iload_n 1, 1) := by decide +kernel
theorem dX4_replace_19 : decode cX4_replace 19 = .ok (.iconst 1, 1) := by decide +kernel
theorem dX4_replace_20 : decode cX4_replace 20 = .ok (.if_icmp .ne 20, 3) := by decide +kernel
theorem dX4_replace_23 : decode cX4_replace 23 = .ok (.aload_n 0, 1) := by decide +kernel
theorem dX4_replace_24 : decode cX4_replace 24 = .ok (.iload_n 2, 1) := by decide +kernel
theorem dX4_replace_25 : decode cX4_replace 25 = .ok (.iconst 1, 1) := by decide +kernel
theorem dX4_replace_26 : decode cX4_replace 26 = .ok (.if_icmp .ne 7, 3) := by decide +kernel
theorem dX4_replace_29 : decode cX4_replace 29 = .ok (.iconst 1, 1) := by decide +kernel
theorem dX4_replace_30 : decode cX4_replace 30 = .ok (.goto 4, 3) := by decide +kernel
theorem dX4_replace_33 : decode cX4_replace 33 = .ok (.iconst 0, 1) := by decide +kernel
theorem dX4_replace_34 : decode cX4_replace 34 = .ok (.putfield 19, 3) := by decide +kernel
theorem dX4_replace_37 : decode cX4_replace 37 = .ok (.goto 8, 3) := by decide +kernel
theorem dX4_replace_40 : decode cX4_replace 40 = .ok (.aload_n 0, 1) := by decide +kernel
theorem dX4_replace_41 : decode cX4_replace 41 = .ok (.iload_n 2, 1) := by decide +kernel
theorem dX4_replace_42 : decode cX4_replace 42 = .ok (.putfield 23, 3) := by decide +kernel
theorem dX4_replace_45 : decode cX4_replace 45 = .ok (.iload_n 3, 1) := by decide +kernel
theorem dX4_replace_46 : decode cX4_replace 46 = .ok (.ireturn, 1) := by decide +kernel
theorem dX4_standing_0 : decode cX4_standing 0 = .ok (.iload_n 1, 1) := by decide +kernel
theorem dX4_standing_1 : decode cX4_standing 1 = .ok (.tableswitch 50 0 2 #[27, 40, 45], 27) := by decide +kernel
theorem dX4_standing_28 : decode cX4_standing 28 = .ok (.aload_n 0, 1) := by decide +kernel
theorem dX4_standing_29 : decode cX4_standing 29 = .ok (.getfield 30, 3) := by decide +kernel
theorem dX4_standing_32 : decode cX4_standing 32 = .ok (.ifCond .eq 7, 3) := by decide +kernel
theorem dX4_standing_35 : decode cX4_standing 35 = .ok (.iconst 1, 1) := by decide +kernel
theorem dX4_standing_36 : decode cX4_standing 36 = .ok (.goto 4, 3) := by decide +kernel
theorem dX4_standing_39 : decode cX4_standing 39 = .ok (.iconst 0, 1) := by decide +kernel
theorem dX4_standing_40 : decode cX4_standing 40 = .ok (.ireturn, 1) := by decide +kernel
theorem dX4_standing_41 : decode cX4_standing 41 = .ok (.aload_n 0, 1) := by decide +kernel
theorem dX4_standing_42 : decode cX4_standing 42 = .ok (.getfield 33, 3) := by decide +kernel
theorem dX4_standing_45 : decode cX4_standing 45 = .ok (.ireturn, 1) := by decide +kernel
theorem dX4_standing_46 : decode cX4_standing 46 = .ok (.aload_n 0, 1) := by decide +kernel
theorem dX4_standing_47 : decode cX4_standing 47 = .ok (.getfield 36, 3) := by decide +kernel
theorem dX4_standing_50 : decode cX4_standing 50 = .ok (.ireturn, 1) := by decide +kernel
theorem dX4_standing_51 : decode cX4_standing 51 = .ok (.aload_n 0, 1) := by decide +kernel
theorem dX4_standing_52 : decode cX4_standing 52 = .ok (.getfield 39, 3) := by decide +kernel
theorem dX4_standing_55 : decode cX4_standing 55 = .ok (.ireturn, 1) := by decide +kernel
theorem dX4_holds_0 : decode cX4_holds 0 = .ok (.aload_n 0, 1) := by decide +kernel
theorem dX4_holds_1 : decode cX4_holds 1 = .ok (.getfield 30, 3) := by decide +kernel
theorem dX4_holds_4 : decode cX4_holds 4 = .ok (.ifCond .eq 15, 3) := by decide +kernel
theorem dX4_holds_7 : decode cX4_holds 7 = .ok (.aload_n 0, 1) := by decide +kernel
theorem dX4_holds_8 : decode cX4_holds 8 = .ok (.getfield 7, 3) := by decide +kernel
theorem dX4_holds_11 : decode cX4_holds 11 = .ok (.aload_n 0, 1) := by decide +kernel
theorem dX4_holds_12 : decode cX4_holds 12 = .ok (.getfield 33, 3) := by decide +kernel
theorem dX4_holds_15 : decode cX4_holds 15 = .ok (.iadd, 1) := by decide +kernel
theorem dX4_holds_16 : decode cX4_holds 16 = .ok (.goto 7, 3) := by decide +kernel
theorem dX4_holds_19 : decode cX4_holds 19 = .ok (.aload_n 0, 1) := by decide +kernel
theorem dX4_holds_20 : decode cX4_holds 20 = .ok (.getfield 33, 3) := by decide +kernel
theorem dX4_holds_23 : decode cX4_holds 23 = .ok (.ireturn, 1) := by decide +kernel
theorem dX4_keepable_0 : decode cX4_keepable 0 = .ok (.aload_n 0, 1) := by decide +kernel
theorem dX4_keepable_1 : decode cX4_keepable 1 = .ok (.getfield 19, 3) := by decide +kernel
theorem dX4_keepable_4 : decode cX4_keepable 4 = .ok (.ifCond .eq 21, 3) := by decide +kernel
theorem dX4_keepable_7 : decode cX4_keepable 7 = .ok (.iconst 0, 1) := by decide +kernel
theorem dX4_keepable_8 : decode cX4_keepable 8 = .ok (.aload_n 0, 1) := by decide +kernel
theorem dX4_keepable_9 : decode cX4_keepable 9 = .ok (.getfield 7, 3) := by decide +kernel
theorem dX4_keepable_12 : decode cX4_keepable 12 = .ok (.iconst 2, 1) := by decide +kernel
theorem dX4_keepable_13 : decode cX4_keepable 13 = .ok (.idiv, 1) := by decide +kernel
theorem dX4_keepable_14 : decode cX4_keepable 14 = .ok (.aload_n 0, 1) := by decide +kernel
theorem dX4_keepable_15 : decode cX4_keepable 15 = .ok (.getfield 33, 3) := by decide +kernel
theorem dX4_keepable_18 : decode cX4_keepable 18 = .ok (.isub, 1) := by decide +kernel
theorem dX4_keepable_19 : decode cX4_keepable 19 = .ok (.invokestatic 42, 3) := by decide +kernel
theorem dX4_keepable_22 : decode cX4_keepable 22 = .ok (.goto 4, 3) := by decide +kernel
theorem dX4_keepable_25 : decode cX4_keepable 25 = .ok (.iconst 0, 1) := by decide +kernel
theorem dX4_keepable_26 : decode cX4_keepable 26 = .ok (.ireturn, 1) := by decide +kernel
theorem dX4_draws_0 : decode cX4_draws 0 = .ok (.aload_n 0, 1) := by decide +kernel
theorem dX4_draws_1 : decode cX4_draws 1 = .ok (.getfield 30, 3) := by decide +kernel
theorem dX4_draws_4 : decode cX4_draws 4 = .ok (.ifCond .ne 13, 3) := by decide +kernel
theorem dX4_draws_7 : decode cX4_draws 7 = .ok (.aload_n 0, 1) := by decide +kernel
theorem dX4_draws_8 : decode cX4_draws 8 = .ok (.getfield 7, 3) := by decide +kernel
theorem dX4_draws_11 : decode cX4_draws 11 = .ok (.aload_n 0, 1) := by decide +kernel
theorem dX4_draws_12 : decode cX4_draws 12 = .ok (.getfield 33, 3) := by decide +kernel
theorem dX4_draws_15 : decode cX4_draws 15 = .ok (.isub, 1) := by decide +kernel
theorem dX4_draws_16 : decode cX4_draws 16 = .ok (.ireturn, 1) := by decide +kernel
theorem dX4_draws_17 : decode cX4_draws 17 = .ok (.iload_n 1, 1) := by decide +kernel
theorem dX4_draws_18 : decode cX4_draws 18 = .ok (.ifCond .eq 20, 3) := by decide +kernel
theorem dX4_draws_21 : decode cX4_draws 21 = .ok (.aload_n 0, 1) := by decide +kernel
theorem dX4_draws_22 : decode cX4_draws 22 = .ok (.getfield 7, 3) := by decide +kernel
theorem dX4_draws_25 : decode cX4_draws 25 = .ok (.aload_n 0, 1) := by decide +kernel
theorem dX4_draws_26 : decode cX4_draws 26 = .ok (.getfield 33, 3) := by decide +kernel
theorem dX4_draws_29 : decode cX4_draws 29 = .ok (.isub, 1) := by decide +kernel
theorem dX4_draws_30 : decode cX4_draws 30 = .ok (.aload_n 0, 1) := by decide +kernel
theorem dX4_draws_31 : decode cX4_draws 31 = .ok (.invokevirtual 48, 3) := by decide +kernel
theorem dX4_draws_34 : decode cX4_draws 34 = .ok (.isub, 1) := by decide +kernel
theorem dX4_draws_35 : decode cX4_draws 35 = .ok (.goto 4, 3) := by decide +kernel
theorem dX4_draws_38 : decode cX4_draws 38 = .ok (.iconst 0, 1) := by decide +kernel
theorem dX4_draws_39 : decode cX4_draws 39 = .ok (.ireturn, 1) := by decide +kernel
theorem dX4_letThrough_0 : decode cX4_letThrough 0 = .ok (.aload_n 0, 1) := by decide +kernel
theorem dX4_letThrough_1 : decode cX4_letThrough 1 = .ok (.dup, 1) := by decide +kernel
theorem dX4_letThrough_2 : decode cX4_letThrough 2 = .ok (.getfield 36, 3) := by decide +kernel
theorem dX4_letThrough_5 : decode cX4_letThrough 5 = .ok (.iconst 1, 1) := by decide +kernel
theorem dX4_letThrough_6 : decode cX4_letThrough 6 = .ok (.iadd, 1) := by decide +kernel
theorem dX4_letThrough_7 : decode cX4_letThrough 7 = .ok (.putfield 36, 3) := by decide +kernel
theorem dX4_letThrough_10 : decode cX4_letThrough 10 = .ok (.iload_n 1, 1) := by decide +kernel
theorem dX4_letThrough_11 : decode cX4_letThrough 11 = .ok (.ifCond .eq 29, 3) := by decide +kernel
theorem dX4_letThrough_14 : decode cX4_letThrough 14 = .ok (.aload_n 0, 1) := by decide +kernel
theorem dX4_letThrough_15 : decode cX4_letThrough 15 = .ok (.getfield 30, 3) := by decide +kernel
theorem dX4_letThrough_18 : decode cX4_letThrough 18 = .ok (.ifCond .eq 11, 3) := by decide +kernel
theorem dX4_letThrough_21 : decode cX4_letThrough 21 = .ok (.aload_n 0, 1) := by decide +kernel
theorem dX4_letThrough_22 : decode cX4_letThrough 22 = .ok (.aload_n 3, 1) := by decide +kernel
theorem dX4_letThrough_23 : decode cX4_letThrough 23 = .ok (.invokevirtual 52, 3) := by decide +kernel
theorem dX4_letThrough_26 : decode cX4_letThrough 26 = .ok (.goto 4, 3) := by decide +kernel
theorem dX4_letThrough_29 : decode cX4_letThrough 29 = .ok (.iconst 0, 1) := by decide +kernel
theorem dX4_letThrough_30 : decode cX4_letThrough 30 = .ok (.istore 4, 2) := by decide +kernel
theorem dX4_letThrough_32 : decode cX4_letThrough 32 = .ok (.aload_n 0, 1) := by decide +kernel
theorem dX4_letThrough_33 : decode cX4_letThrough 33 = .ok (.aload_n 2, 1) := by decide +kernel
theorem dX4_letThrough_34 : decode cX4_letThrough 34 = .ok (.invokevirtual 56, 3) := by decide +kernel
theorem dX4_letThrough_37 : decode cX4_letThrough 37 = .ok (.iload 4, 2) := by decide +kernel
theorem dX4_letThrough_39 : decode cX4_letThrough 39 = .ok (.ireturn, 1) := by decide +kernel
theorem dX4_letThrough_40 : decode cX4_letThrough 40 = .ok (.aload_n 0, 1) := by decide +kernel
theorem dX4_letThrough_41 : decode cX4_letThrough 41 = .ok (.getfield 30, 3) := by decide +kernel
theorem dX4_letThrough_44 : decode cX4_letThrough 44 = .ok (.ifCond .ne 8, 3) := by decide +kernel
theorem dX4_letThrough_47 : decode cX4_letThrough 47 = .ok (.aload_n 0, 1) := by decide +kernel
theorem dX4_letThrough_48 : decode cX4_letThrough 48 = .ok (.aload_n 2, 1) := by decide +kernel
theorem dX4_letThrough_49 : decode cX4_letThrough 49 = .ok (.invokevirtual 56, 3) := by decide +kernel
theorem dX4_letThrough_52 : decode cX4_letThrough 52 = .ok (.aload_n 0, 1) := by decide +kernel
theorem dX4_letThrough_53 : decode cX4_letThrough 53 = .ok (.aload_n 3, 1) := by decide +kernel
theorem dX4_letThrough_54 : decode cX4_letThrough 54 = .ok (.invokevirtual 52, 3) := by decide +kernel
theorem dX4_letThrough_57 : decode cX4_letThrough 57 = .ok (.ireturn, 1) := by decide +kernel
theorem dX4_fillFrom_0 : decode cX4_fillFrom 0 = .ok (.aload_n 1, 1) := by decide +kernel
theorem dX4_fillFrom_1 : decode cX4_fillFrom 1 = .ok (.dup, 1) := by decide +kernel
theorem dX4_fillFrom_2 : decode cX4_fillFrom 2 = .ok (.getfield 60, 3) := by decide +kernel
theorem dX4_fillFrom_5 : decode cX4_fillFrom 5 = .ok (.aload_n 0, 1) := by decide +kernel
theorem dX4_fillFrom_6 : decode cX4_fillFrom 6 = .ok (.getfield 7, 3) := by decide +kernel
theorem dX4_fillFrom_9 : decode cX4_fillFrom 9 = .ok (.aload_n 0, 1) := by decide +kernel
theorem dX4_fillFrom_10 : decode cX4_fillFrom 10 = .ok (.getfield 33, 3) := by decide +kernel
theorem dX4_fillFrom_13 : decode cX4_fillFrom 13 = .ok (.isub, 1) := by decide +kernel
theorem dX4_fillFrom_14 : decode cX4_fillFrom 14 = .ok (.isub, 1) := by decide +kernel
theorem dX4_fillFrom_15 : decode cX4_fillFrom 15 = .ok (.putfield 60, 3) := by decide +kernel
theorem dX4_fillFrom_18 : decode cX4_fillFrom 18 = .ok (.aload_n 0, 1) := by decide +kernel
theorem dX4_fillFrom_19 : decode cX4_fillFrom 19 = .ok (.iconst 0, 1) := by decide +kernel
theorem dX4_fillFrom_20 : decode cX4_fillFrom 20 = .ok (.putfield 33, 3) := by decide +kernel
theorem dX4_fillFrom_23 : decode cX4_fillFrom 23 = .ok (.aload_n 0, 1) := by decide +kernel
theorem dX4_fillFrom_24 : decode cX4_fillFrom 24 = .ok (.iconst 1, 1) := by decide +kernel
theorem dX4_fillFrom_25 : decode cX4_fillFrom 25 = .ok (.putfield 30, 3) := by decide +kernel
theorem dX4_fillFrom_28 : decode cX4_fillFrom 28 = .ok (.aload_n 0, 1) := by decide +kernel
theorem dX4_fillFrom_29 : decode cX4_fillFrom 29 = .ok (.dup, 1) := by decide +kernel
theorem dX4_fillFrom_30 : decode cX4_fillFrom 30 = .ok (.getfield 39, 3) := by decide +kernel
theorem dX4_fillFrom_33 : decode cX4_fillFrom 33 = .ok (.iconst 1, 1) := by decide +kernel
theorem dX4_fillFrom_34 : decode cX4_fillFrom 34 = .ok (.iadd, 1) := by decide +kernel
theorem dX4_fillFrom_35 : decode cX4_fillFrom 35 = .ok (.putfield 39, 3) := by decide +kernel
theorem dX4_fillFrom_38 : decode cX4_fillFrom 38 = .ok (.return_, 1) := by decide +kernel
theorem dX4_drainInto_0 : decode cX4_drainInto 0 = .ok (.aload_n 0, 1) := by decide +kernel
theorem dX4_drainInto_1 : decode cX4_drainInto 1 = .ok (.invokevirtual 48, 3) := by decide +kernel
theorem dX4_drainInto_4 : decode cX4_drainInto 4 = .ok (.istore_n 2, 1) := by decide +kernel
theorem dX4_drainInto_5 : decode cX4_drainInto 5 = .ok (.aload_n 0, 1) := by decide +kernel
theorem dX4_drainInto_6 : decode cX4_drainInto 6 = .ok (.dup, 1) := by decide +kernel
theorem dX4_drainInto_7 : decode cX4_drainInto 7 = .ok (.getfield 33, 3) := by decide +kernel
theorem dX4_drainInto_10 : decode cX4_drainInto 10 = .ok (.iload_n 2, 1) := by decide +kernel
theorem dX4_drainInto_11 : decode cX4_drainInto 11 = .ok (.iadd, 1) := by decide +kernel
theorem dX4_drainInto_12 : decode cX4_drainInto 12 = .ok (.putfield 33, 3) := by decide +kernel
theorem dX4_drainInto_15 : decode cX4_drainInto 15 = .ok (.aload_n 1, 1) := by decide +kernel
theorem dX4_drainInto_16 : decode cX4_drainInto 16 = .ok (.dup, 1) := by decide +kernel
theorem dX4_drainInto_17 : decode cX4_drainInto 17 = .ok (.getfield 60, 3) := by decide +kernel
theorem dX4_drainInto_20 : decode cX4_drainInto 20 = .ok (.aload_n 0, 1) := by decide +kernel
theorem dX4_drainInto_21 : decode cX4_drainInto 21 = .ok (.getfield 7, 3) := by decide +kernel
theorem dX4_drainInto_24 : decode cX4_drainInto 24 = .ok (.iload_n 2, 1) := by decide +kernel
theorem dX4_drainInto_25 : decode cX4_drainInto 25 = .ok (.isub, 1) := by decide +kernel
theorem dX4_drainInto_26 : decode cX4_drainInto 26 = .ok (.iadd, 1) := by decide +kernel
theorem dX4_drainInto_27 : decode cX4_drainInto 27 = .ok (.putfield 60, 3) := by decide +kernel
theorem dX4_drainInto_30 : decode cX4_drainInto 30 = .ok (.aload_n 0, 1) := by decide +kernel
theorem dX4_drainInto_31 : decode cX4_drainInto 31 = .ok (.iconst 0, 1) := by decide +kernel
theorem dX4_drainInto_32 : decode cX4_drainInto 32 = .ok (.putfield 30, 3) := by decide +kernel
theorem dX4_drainInto_35 : decode cX4_drainInto 35 = .ok (.aload_n 1, 1) := by decide +kernel
theorem dX4_drainInto_36 : decode cX4_drainInto 36 = .ok (.invokevirtual 65, 3) := by decide +kernel
theorem dX4_drainInto_39 : decode cX4_drainInto 39 = .ok (.ireturn, 1) := by decide +kernel
theorem dX5_init_0 : decode cX5_init 0 = .ok (.aload_n 0, 1) := by decide +kernel
theorem dX5_init_1 : decode cX5_init 1 = .ok (.invokespecial 3, 3) := by decide +kernel
theorem dX5_init_4 : decode cX5_init 4 = .ok (.aload_n 0, 1) := by decide +kernel
theorem dX5_init_5 : decode cX5_init 5 = .ok (.iconst 4, 1) := by decide +kernel
theorem dX5_init_6 : decode cX5_init 6 = .ok (.newarray .int, 2) := by decide +kernel
theorem dX5_init_8 : decode cX5_init 8 = .ok (.putfield 9, 3) := by decide +kernel
theorem dX5_init_11 : decode cX5_init 11 = .ok (.aload_n 0, 1) := by decide +kernel
theorem dX5_init_12 : decode cX5_init 12 = .ok (.bipush 12, 2) := by decide +kernel
theorem dX5_init_14 : decode cX5_init 14 = .ok (.newarray .int, 2) := by decide +kernel
theorem dX5_init_16 : decode cX5_init 16 = .ok (.putfield 15, 3) := by decide +kernel
theorem dX5_init_19 : decode cX5_init 19 = .ok (.aload_n 0, 1) := by decide +kernel
theorem dX5_init_20 : decode cX5_init 20 = .ok (.bipush 6, 2) := by decide +kernel
theorem dX5_init_22 : decode cX5_init 22 = .ok (.newarray .int, 2) := by decide +kernel
theorem dX5_init_24 : decode cX5_init 24 = .ok (.putfield 18, 3) := by decide +kernel
theorem dX5_init_27 : decode cX5_init 27 = .ok (.aload_n 0, 1) := by decide +kernel
theorem dX5_init_28 : decode cX5_init 28 = .ok (.bipush 24, 2) := by decide +kernel
theorem dX5_init_30 : decode cX5_init 30 = .ok (.newarray .int, 2) := by decide +kernel
theorem dX5_init_32 : decode cX5_init 32 = .ok (.putfield 21, 3) := by decide +kernel
theorem dX5_init_35 : decode cX5_init 35 = .ok (.aload_n 0, 1) := by decide +kernel
theorem dX5_init_36 : decode cX5_init 36 = .ok (.bipush 24, 2) := by decide +kernel
theorem dX5_init_38 : decode cX5_init 38 = .ok (.newarray .int, 2) := by decide +kernel
theorem dX5_init_40 : decode cX5_init 40 = .ok (.putfield 24, 3) := by decide +kernel
theorem dX5_init_43 : decode cX5_init 43 = .ok (.aload_n 0, 1) := by decide +kernel
theorem dX5_init_44 : decode cX5_init 44 = .ok (.bipush 24, 2) := by decide +kernel
theorem dX5_init_46 : decode cX5_init 46 = .ok (.newarray .int, 2) := by decide +kernel
theorem dX5_init_48 : decode cX5_init 48 = .ok (.putfield 27, 3) := by decide +kernel
theorem dX5_init_51 : decode cX5_init 51 = .ok (.aload_n 0, 1) := by decide +kernel
theorem dX5_init_52 : decode cX5_init 52 = .ok (.bipush 24, 2) := by decide +kernel
theorem dX5_init_54 : decode cX5_init 54 = .ok (.newarray .int, 2) := by decide +kernel
theorem dX5_init_56 : decode cX5_init 56 = .ok (.putfield 30, 3) := by decide +kernel
theorem dX5_init_59 : decode cX5_init 59 = .ok (.aload_n 0, 1) := by decide +kernel
theorem dX5_init_60 : decode cX5_init 60 = .ok (.bipush 9, 2) := by decide +kernel
theorem dX5_init_62 : decode cX5_init 62 = .ok (.putfield 33, 3) := by decide +kernel
theorem dX5_init_65 : decode cX5_init 65 = .ok (.return_, 1) := by decide +kernel
theorem dX5_debtOf_0 : decode cX5_debtOf 0 = .ok (.aload_n 0, 1) := by decide +kernel
theorem dX5_debtOf_1 : decode cX5_debtOf 1 = .ok (.getfield 15, 3) := by decide +kernel
theorem dX5_debtOf_4 : decode cX5_debtOf 4 = .ok (.iload_n 1, 1) := by decide +kernel
theorem dX5_debtOf_5 : decode cX5_debtOf 5 = .ok (.iconst 3, 1) := by decide +kernel
theorem dX5_debtOf_6 : decode cX5_debtOf 6 = .ok (.imul, 1) := by decide +kernel
theorem dX5_debtOf_7 : decode cX5_debtOf 7 = .ok (.iload_n 2, 1) := by decide +kernel
theorem dX5_debtOf_8 : decode cX5_debtOf 8 = .ok (.iadd, 1) := by decide +kernel
theorem dX5_debtOf_9 : decode cX5_debtOf 9 = .ok (.iaload, 1) := by decide +kernel
theorem dX5_debtOf_10 : decode cX5_debtOf 10 = .ok (.ireturn, 1) := by decide +kernel
theorem dX5_replaceDebt_0 : decode cX5_replaceDebt 0 = .ok (.aload_n 0, 1) := by decide +kernel
theorem dX5_replaceDebt_1 : decode cX5_replaceDebt 1 = .ok (.iload_n 1, 1) := by decide +kernel
theorem dX5_replaceDebt_2 : decode cX5_replaceDebt 2 = .ok (.iload_n 2, 1) := by decide +kernel
theorem dX5_replaceDebt_3 : decode cX5_replaceDebt 3 = .ok (.invokevirtual 37, 3) := by decide +kernel
theorem dX5_replaceDebt_6 : decode cX5_replaceDebt 6 = .ok (.istore 4, 2) := by decide +kernel
theorem dX5_replaceDebt_8 : decode cX5_replaceDebt 8 = .ok (.aload_n 0, 1) := by decide +kernel
theorem dX5_replaceDebt_9 : decode cX5_replaceDebt 9 = .ok (.getfield 15, 3) := by decide +kernel
theorem dX5_replaceDebt_12 : decode cX5_replaceDebt 12 = .ok (.iload_n 1, 1) := by decide +kernel
theorem dX5_replaceDebt_13 : decode cX5_replaceDebt 13 = .ok (.iconst 3, 1) := by decide +kernel
theorem dX5_replaceDebt_14 : decode cX5_replaceDebt 14 = .ok (.imul, 1) := by decide +kernel
theorem dX5_replaceDebt_15 : decode cX5_replaceDebt 15 = .ok (.iload_n 2, 1) := by decide +kernel
theorem dX5_replaceDebt_16 : decode cX5_replaceDebt 16 = .ok (.iadd, 1) := by decide +kernel
theorem dX5_replaceDebt_17 : decode cX5_replaceDebt 17 = .ok (.iload_n 3, 1) := by decide +kernel
theorem dX5_replaceDebt_18 : decode cX5_replaceDebt 18 = .ok (.iastore, 1) := by decide +kernel
theorem dX5_replaceDebt_19 : decode cX5_replaceDebt 19 = .ok (.iload 4, 2) := by decide +kernel
theorem dX5_replaceDebt_21 : decode cX5_replaceDebt 21 = .ok (.ireturn, 1) := by decide +kernel
theorem dX5_paidTo_0 : decode cX5_paidTo 0 = .ok (.iload_n 2, 1) := by decide +kernel
theorem dX5_paidTo_1 : decode cX5_paidTo 1 = .ok (.istore_n 3, 1) := by decide +kernel
theorem dX5_paidTo_2 : decode cX5_paidTo 2 = .ok (.iconst 0, 1) := by decide +kernel
theorem dX5_paidTo_3 : decode cX5_paidTo 3 = .ok (.istore 4, 2) := by decide +kernel
theorem dX5_paidTo_5 : decode cX5_paidTo 5 = .ok (.iconst 0, 1) := by decide +kernel
theorem dX5_paidTo_6 : decode cX5_paidTo 6 = .ok (.istore 5, 2) := by decide +kernel
theorem dX5_paidTo_8 : decode cX5_paidTo 8 = .ok (.iload 5, 2) := by decide +kernel
theorem dX5_paidTo_10 : decode cX5_paidTo 10 = .ok (.iconst 3, 1) := by decide +kernel
theorem dX5_paidTo_11 : decode cX5_paidTo 11 = .ok (.if_icmp .ge 57, 3) := by decide +kernel
theorem dX5_paidTo_14 : decode cX5_paidTo 14 = .ok (.aload_n 0, 1) := by decide +kernel
theorem dX5_paidTo_15 : decode cX5_paidTo 15 = .ok (.iload 5, 2) := by decide +kernel
theorem dX5_paidTo_17 : decode cX5_paidTo 17 = .ok (.invokevirtual 41, 3) := by decide +kernel
theorem dX5_paidTo_20 : decode cX5_paidTo 20 = .ok (.istore 6, 2) := by decide +kernel
theorem dX5_paidTo_22 : decode cX5_paidTo 22 = .ok (.iload 4, 2) := by decide +kernel
theorem dX5_paidTo_24 : decode cX5_paidTo 24 = .ok (.iload 6, 2) := by decide +kernel
theorem dX5_paidTo_26 : decode cX5_paidTo 26 = .ok (.iload_n 3, 1) := by decide +kernel
theorem dX5_paidTo_27 : decode cX5_paidTo 27 = .ok (.if_icmp .gt 13, 3) := by decide +kernel
theorem dX5_paidTo_30 : decode cX5_paidTo 30 = .ok (.aload_n 0, 1) := by decide +kernel
theorem dX5_paidTo_31 : decode cX5_paidTo 31 = .ok (.iload_n 1, 1) := by decide +kernel
theorem dX5_paidTo_32 : decode cX5_paidTo 32 = .ok (.iload 5, 2) := by decide +kernel
theorem dX5_paidTo_34 : decode cX5_paidTo 34 = .ok (.invokevirtual 37, 3) := by decide +kernel
theorem dX5_paidTo_37 : decode cX5_paidTo 37 = .ok (.goto 13, 3) := by decide +kernel
theorem dX5_paidTo_40 : decode cX5_paidTo 40 = .ok (.aload_n 0, 1) := by decide +kernel
theorem dX5_paidTo_41 : decode cX5_paidTo 41 = .ok (.iload_n 1, 1) := by decide +kernel
theorem dX5_paidTo_42 : decode cX5_paidTo 42 = .ok (.iload 5, 2) := by decide +kernel
theorem dX5_paidTo_44 : decode cX5_paidTo 44 = .ok (.iload_n 3, 1) := by decide +kernel
theorem dX5_paidTo_45 : decode cX5_paidTo 45 = .ok (.iload 6, 2) := by decide +kernel
theorem dX5_paidTo_47 : decode cX5_paidTo 47 = .ok (.invokevirtual 45, 3) := by decide +kernel
theorem dX5_paidTo_50 : decode cX5_paidTo 50 = .ok (.iadd, 1) := by decide +kernel
theorem dX5_paidTo_51 : decode cX5_paidTo 51 = .ok (.istore 4, 2) := by decide +kernel
theorem dX5_paidTo_53 : decode cX5_paidTo 53 = .ok (.iconst 0, 1) := by decide +kernel
theorem dX5_paidTo_54 : decode cX5_paidTo 54 = .ok (.iload_n 3, 1) := by decide +kernel
theorem dX5_paidTo_55 : decode cX5_paidTo 55 = .ok (.iload 6, 2) := by decide +kernel
theorem dX5_paidTo_57 : decode cX5_paidTo 57 = .ok (.isub, 1) := by decide +kernel
theorem dX5_paidTo_58 : decode cX5_paidTo 58 = .ok (.invokestatic 49, 3) := by decide +kernel
theorem dX5_paidTo_61 : decode cX5_paidTo 61 = .ok (.istore_n 3, 1) := by decide +kernel
theorem dX5_paidTo_62 : decode cX5_paidTo 62 = .ok (.iinc 5 1, 3) := by decide +kernel
theorem dX5_paidTo_65 : decode cX5_paidTo 65 = .ok (.goto (-57), 3) := by decide +kernel
theorem dX5_paidTo_68 : decode cX5_paidTo 68 = .ok (.iload 4, 2) := by decide +kernel
theorem dX5_paidTo_70 : decode cX5_paidTo 70 = .ok (.ireturn, 1) := by decide +kernel
theorem dX5_allOf_0 : decode cX5_allOf 0 = .ok (.iconst 0, 1) := by decide +kernel
theorem dX5_allOf_1 : decode cX5_allOf 1 = .ok (.istore_n 2, 1) := by decide +kernel
theorem dX5_allOf_2 : decode cX5_allOf 2 = .ok (.iconst 0, 1) := by decide +kernel
theorem dX5_allOf_3 : decode cX5_allOf 3 = .ok (.istore_n 3, 1) := by decide +kernel
theorem dX5_allOf_4 : decode cX5_allOf 4 = .ok (.iload_n 3, 1) := by decide +kernel
theorem dX5_allOf_5 : decode cX5_allOf 5 = .ok (.iconst 4, 1) := by decide +kernel
theorem dX5_allOf_6 : decode cX5_allOf 6 = .ok (.if_icmp .ge 18, 3) := by decide +kernel
theorem dX5_allOf_9 : decode cX5_allOf 9 = .ok (.iload_n 2, 1) := by decide +kernel
theorem dX5_allOf_10 : decode cX5_allOf 10 = .ok (.aload_n 0, 1) := by decide +kernel
theorem dX5_allOf_11 : decode cX5_allOf 11 = .ok (.iload_n 3, 1) := by decide +kernel
theorem dX5_allOf_12 : decode cX5_allOf 12 = .ok (.iload_n 1, 1) := by decide +kernel
theorem dX5_allOf_13 : decode cX5_allOf 13 = .ok (.invokevirtual 37, 3) := by decide +kernel
theorem dX5_allOf_16 : decode cX5_allOf 16 = .ok (.iadd, 1) := by decide +kernel
theorem dX5_allOf_17 : decode cX5_allOf 17 = .ok (.istore_n 2, 1) := by decide +kernel
theorem dX5_allOf_18 : decode cX5_allOf 18 = .ok (.iinc 3 1, 3) := by decide +kernel
theorem dX5_allOf_21 : decode cX5_allOf 21 = .ok (.goto (-17), 3) := by decide +kernel
theorem dX5_allOf_24 : decode cX5_allOf 24 = .ok (.iload_n 2, 1) := by decide +kernel
theorem dX5_allOf_25 : decode cX5_allOf 25 = .ok (.ireturn, 1) := by decide +kernel
theorem dX5_partOfRank_0 : decode cX5_partOfRank 0 = .ok (.iload 4, 2) := by decide +kernel
theorem dX5_partOfRank_2 : decode cX5_partOfRank 2 = .ok (.ifCond .le 12, 3) := by decide +kernel
theorem dX5_partOfRank_5 : decode cX5_partOfRank 5 = .ok (.aload_n 0, 1) := by decide +kernel
theorem dX5_partOfRank_6 : decode cX5_partOfRank 6 = .ok (.iload_n 1, 1) := by decide +kernel
theorem dX5_partOfRank_7 : decode cX5_partOfRank 7 = .ok (.iload_n 2, 1) := by decide +kernel
theorem dX5_partOfRank_8 : decode cX5_partOfRank 8 = .ok (.invokevirtual 37, 3) := by decide +kernel
theorem dX5_partOfRank_11 : decode cX5_partOfRank 11 = .ok (.ifCond .ne 5, 3) := by decide +kernel
theorem dX5_partOfRank_14 : decode cX5_partOfRank 14 = .ok (.iconst 0, 1) := by decide +kernel
theorem dX5_partOfRank_15 : decode cX5_partOfRank 15 = .ok (.ireturn, 1) := by decide +kernel
theorem dX5_partOfRank_16 : decode cX5_partOfRank 16 = .ok (.iload_n 3, 1) := by decide +kernel
theorem dX5_partOfRank_17 : decode cX5_partOfRank 17 = .ok (.istore 5, 2) := by decide +kernel
theorem dX5_partOfRank_19 : decode cX5_partOfRank 19 = .ok (.iconst 0, 1) := by decide +kernel
theorem dX5_partOfRank_20 : decode cX5_partOfRank 20 = .ok (.istore 6, 2) := by decide +kernel
theorem dX5_partOfRank_22 : decode cX5_partOfRank 22 = .ok (.iconst 0, 1) := by decide +kernel
theorem dX5_partOfRank_23 : decode cX5_partOfRank 23 = .ok (.istore 7, 2) := by decide +kernel
theorem dX5_partOfRank_25 : decode cX5_partOfRank 25 = .ok (.iload 7, 2) := by decide +kernel
theorem dX5_partOfRank_27 : decode cX5_partOfRank 27 = .ok (.iconst 4, 1) := by decide +kernel
theorem dX5_partOfRank_28 : decode cX5_partOfRank 28 = .ok (.if_icmp .ge 52, 3) := by decide +kernel
theorem dX5_partOfRank_31 : decode cX5_partOfRank 31 = .ok (.iload 5, 2) := by decide +kernel
theorem dX5_partOfRank_33 : decode cX5_partOfRank 33 = .ok (.iload_n 3, 1) := by decide +kernel
theorem dX5_partOfRank_34 : decode cX5_partOfRank 34 = .ok (.aload_n 0, 1) := by decide +kernel
theorem dX5_partOfRank_35 : decode cX5_partOfRank 35 = .ok (.iload 7, 2) := by decide +kernel
theorem dX5_partOfRank_37 : decode cX5_partOfRank 37 = .ok (.iload_n 2, 1) := by decide +kernel
theorem dX5_partOfRank_38 : decode cX5_partOfRank 38 = .ok (.invokevirtual 37, 3) := by decide +kernel
theorem dX5_partOfRank_41 : decode cX5_partOfRank 41 = .ok (.imul, 1) := by decide +kernel
theorem dX5_partOfRank_42 : decode cX5_partOfRank 42 = .ok (.iload 4, 2) := by decide +kernel
theorem dX5_partOfRank_44 : decode cX5_partOfRank 44 = .ok (.idiv, 1) := by decide +kernel
theorem dX5_partOfRank_45 : decode cX5_partOfRank 45 = .ok (.isub, 1) := by decide +kernel
theorem dX5_partOfRank_46 : decode cX5_partOfRank 46 = .ok (.istore 5, 2) := by decide +kernel
theorem dX5_partOfRank_48 : decode cX5_partOfRank 48 = .ok (.iload 6, 2) := by decide +kernel
theorem dX5_partOfRank_50 : decode cX5_partOfRank 50 = .ok (.iload 7, 2) := by decide +kernel
theorem dX5_partOfRank_52 : decode cX5_partOfRank 52 = .ok (.iload_n 1, 1) := by decide +kernel
theorem dX5_partOfRank_53 : decode cX5_partOfRank 53 = .ok (.if_icmp .ge 17, 3) := by decide +kernel
theorem dX5_partOfRank_56 : decode cX5_partOfRank 56 = .ok (.aload_n 0, 1) := by decide +kernel
theorem dX5_partOfRank_57 : decode cX5_partOfRank 57 = .ok (.iload 7, 2) := by decide +kernel
theorem dX5_partOfRank_59 : decode cX5_partOfRank 59 = .ok (.iload_n 2, 1) := by decide +kernel
theorem dX5_partOfRank_60 : decode cX5_partOfRank 60 = .ok (.invokevirtual 37, 3) := by decide +kernel
theorem dX5_partOfRank_63 : decode cX5_partOfRank 63 = .ok (.ifCond .le 7, 3) := by decide +kernel
theorem dX5_partOfRank_66 : decode cX5_partOfRank 66 = .ok (.iconst 1, 1) := by decide +kernel
theorem dX5_partOfRank_67 : decode cX5_partOfRank 67 = .ok (.goto 4, 3) := by decide +kernel
theorem dX5_partOfRank_70 : decode cX5_partOfRank 70 = .ok (.iconst 0, 1) := by decide +kernel
theorem dX5_partOfRank_71 : decode cX5_partOfRank 71 = .ok (.iadd, 1) := by decide +kernel
theorem dX5_partOfRank_72 : decode cX5_partOfRank 72 = .ok (.istore 6, 2) := by decide +kernel
theorem dX5_partOfRank_74 : decode cX5_partOfRank 74 = .ok (.iinc 7 1, 3) := by decide +kernel
theorem dX5_partOfRank_77 : decode cX5_partOfRank 77 = .ok (.goto (-52), 3) := by decide +kernel
theorem dX5_partOfRank_80 : decode cX5_partOfRank 80 = .ok (.iload_n 3, 1) := by decide +kernel
theorem dX5_partOfRank_81 : decode cX5_partOfRank 81 = .ok (.aload_n 0, 1) := by decide +kernel
theorem dX5_partOfRank_82 : decode cX5_partOfRank 82 = .ok (.iload_n 1, 1) := by decide +kernel
theorem dX5_partOfRank_83 : decode cX5_partOfRank 83 = .ok (.iload_n 2, 1) := by decide +kernel
theorem dX5_partOfRank_84 : decode cX5_partOfRank 84 = .ok (.invokevirtual 37, 3) := by decide +kernel
theorem dX5_partOfRank_87 : decode cX5_partOfRank 87 = .ok (.imul, 1) := by decide +kernel
theorem dX5_partOfRank_88 : decode cX5_partOfRank 88 = .ok (.iload 4, 2) := by decide +kernel
theorem dX5_partOfRank_90 : decode cX5_partOfRank 90 = .ok (.idiv, 1) := by decide +kernel
theorem dX5_partOfRank_91 : decode cX5_partOfRank 91 = .ok (.iload 6, 2) := by decide +kernel
theorem dX5_partOfRank_93 : decode cX5_partOfRank 93 = .ok (.iload 5, 2) := by decide +kernel
theorem dX5_partOfRank_95 : decode cX5_partOfRank 95 = .ok (.if_icmp .ge 7, 3) := by decide +kernel
theorem dX5_partOfRank_98 : decode cX5_partOfRank 98 = .ok (.iconst 1, 1) := by decide +kernel
theorem dX5_partOfRank_99 : decode cX5_partOfRank 99 = .ok (.goto 4, 3) := by decide +kernel
theorem dX5_partOfRank_102 : decode cX5_partOfRank 102 = .ok (.iconst 0, 1) := by decide +kernel
theorem dX5_partOfRank_103 : decode cX5_partOfRank 103 = .ok (.iadd, 1) := by decide +kernel
theorem dX5_partOfRank_104 : decode cX5_partOfRank 104 = .ok (.ireturn, 1) := by decide +kernel
theorem dX5_latestDay_0 : decode cX5_latestDay 0 = .ok (.aload_n 0, 1) := by decide +kernel
theorem dX5_latestDay_1 : decode cX5_latestDay 1 = .ok (.getfield 54, 3) := by decide +kernel
theorem dX5_latestDay_4 : decode cX5_latestDay 4 = .ok (.ifCond .ne 7, 3) := by decide +kernel
theorem dX5_latestDay_7 : decode cX5_latestDay 7 = .ok (.iconst 0, 1) := by decide +kernel
theorem dX5_latestDay_8 : decode cX5_latestDay 8 = .ok (.goto 14, 3) := by decide +kernel
theorem dX5_latestDay_11 : decode cX5_latestDay 11 = .ok (.aload_n 0, 1) := by decide +kernel
theorem dX5_latestDay_12 : decode cX5_latestDay 12 = .ok (.getfield 30, 3) := by decide +kernel
theorem dX5_latestDay_15 : decode cX5_latestDay 15 = .ok (.aload_n 0, 1) := by decide +kernel
theorem dX5_latestDay_16 : decode cX5_latestDay 16 = .ok (.getfield 54, 3) := by decide +kernel
theorem dX5_latestDay_19 : decode cX5_latestDay 19 = .ok (.iconst 1, 1) := by decide +kernel
theorem dX5_latestDay_20 : decode cX5_latestDay 20 = .ok (.isub, 1) := by decide +kernel
theorem dX5_latestDay_21 : decode cX5_latestDay 21 = .ok (.iaload, 1) := by decide +kernel
theorem dX5_latestDay_22 : decode cX5_latestDay 22 = .ok (.ireturn, 1) := by decide +kernel
theorem dX5_addPass_0 : decode cX5_addPass 0 = .ok (.aload_n 0, 1) := by decide +kernel
theorem dX5_addPass_1 : decode cX5_addPass 1 = .ok (.getfield 54, 3) := by decide +kernel
theorem dX5_addPass_4 : decode cX5_addPass 4 = .ok (.bipush 24, 2) := by decide +kernel
theorem dX5_addPass_6 : decode cX5_addPass 6 = .ok (.if_icmp .lt 6, 3) := by decide +kernel
theorem dX5_addPass_9 : decode cX5_addPass 9 = .ok (.bipush (-104), 2) := by decide +kernel
theorem dX5_addPass_11 : decode cX5_addPass 11 = .ok (.ireturn, 1) := by decide +kernel
theorem dX5_addPass_12 : decode cX5_addPass 12 = .ok (.aload_n 0, 1) := by decide +kernel
theorem dX5_addPass_13 : decode cX5_addPass 13 = .ok (.getfield 21, 3) := by decide +kernel
theorem dX5_addPass_16 : decode cX5_addPass 16 = .ok (.aload_n 0, 1) := by decide +kernel
theorem dX5_addPass_17 : decode cX5_addPass 17 = .ok (.getfield 54, 3) := by decide +kernel
theorem dX5_addPass_20 : decode cX5_addPass 20 = .ok (.iload_n 1, 1) := by decide +kernel
theorem dX5_addPass_21 : decode cX5_addPass 21 = .ok (.iastore, 1) := by decide +kernel
theorem dX5_addPass_22 : decode cX5_addPass 22 = .ok (.aload_n 0, 1) := by decide +kernel
theorem dX5_addPass_23 : decode cX5_addPass 23 = .ok (.getfield 24, 3) := by decide +kernel
theorem dX5_addPass_26 : decode cX5_addPass 26 = .ok (.aload_n 0, 1) := by decide +kernel
theorem dX5_addPass_27 : decode cX5_addPass 27 = .ok (.getfield 54, 3) := by decide +kernel
theorem dX5_addPass_30 : decode cX5_addPass 30 = .ok (.iload_n 2, 1) := by decide +kernel
theorem dX5_addPass_31 : decode cX5_addPass 31 = .ok (.iastore, 1) := by decide +kernel
theorem dX5_addPass_32 : decode cX5_addPass 32 = .ok (.aload_n 0, 1) := by decide +kernel
theorem dX5_addPass_33 : decode cX5_addPass 33 = .ok (.getfield 27, 3) := by decide +kernel
theorem dX5_addPass_36 : decode cX5_addPass 36 = .ok (.aload_n 0, 1) := by decide +kernel
theorem dX5_addPass_37 : decode cX5_addPass 37 = .ok (.getfield 54, 3) := by decide +kernel
theorem dX5_addPass_40 : decode cX5_addPass 40 = .ok (.iload_n 3, 1) := by decide +kernel
theorem dX5_addPass_41 : decode cX5_addPass 41 = .ok (.iastore, 1) := by decide +kernel
theorem dX5_addPass_42 : decode cX5_addPass 42 = .ok (.aload_n 0, 1) := by decide +kernel
theorem dX5_addPass_43 : decode cX5_addPass 43 = .ok (.getfield 30, 3) := by decide +kernel
theorem dX5_addPass_46 : decode cX5_addPass 46 = .ok (.aload_n 0, 1) := by decide +kernel
theorem dX5_addPass_47 : decode cX5_addPass 47 = .ok (.getfield 54, 3) := by decide +kernel
theorem dX5_addPass_50 : decode cX5_addPass 50 = .ok (.iload 4, 2) := by decide +kernel
theorem dX5_addPass_52 : decode cX5_addPass 52 = .ok (.iastore, 1) := by decide +kernel
theorem dX5_addPass_53 : decode cX5_addPass 53 = .ok (.aload_n 0, 1) := by decide +kernel
theorem dX5_addPass_54 : decode cX5_addPass 54 = .ok (.dup, 1) := by decide +kernel
theorem dX5_addPass_55 : decode cX5_addPass 55 = .ok (.getfield 54, 3) := by decide +kernel
theorem dX5_addPass_58 : decode cX5_addPass 58 = .ok (.iconst 1, 1) := by decide +kernel
theorem dX5_addPass_59 : decode cX5_addPass 59 = .ok (.iadd, 1) := by decide +kernel
theorem dX5_addPass_60 : decode cX5_addPass 60 = .ok (.putfield 54, 3) := by decide +kernel
theorem dX5_addPass_63 : decode cX5_addPass 63 = .ok (.aload_n 0, 1) := by decide +kernel
theorem dX5_addPass_64 : decode cX5_addPass 64 = .ok (.getfield 54, 3) := by decide +kernel
theorem dX5_addPass_67 : decode cX5_addPass 67 = .ok (.ireturn, 1) := by decide +kernel
theorem dX5_held_0 : decode cX5_held 0 = .ok (.aload_n 0, 1) := by decide +kernel
theorem dX5_held_1 : decode cX5_held 1 = .ok (.getfield 18, 3) := by decide +kernel
theorem dX5_held_4 : decode cX5_held 4 = .ok (.iload_n 1, 1) := by decide +kernel
theorem dX5_held_5 : decode cX5_held 5 = .ok (.iaload, 1) := by decide +kernel
theorem dX5_held_6 : decode cX5_held 6 = .ok (.istore_n 3, 1) := by decide +kernel
theorem dX5_held_7 : decode cX5_held 7 = .ok (.iconst 0, 1) := by decide +kernel
theorem dX5_held_8 : decode cX5_held 8 = .ok (.istore 4, 2) := by decide +kernel
theorem dX5_held_10 : decode cX5_held 10 = .ok (.iload 4, 2) := by decide +kernel
theorem dX5_held_12 : decode cX5_held 12 = .ok (.aload_n 0, 1) := by decide +kernel
theorem dX5_held_13 : decode cX5_held 13 = .ok (.getfield 54, 3) := by decide +kernel
theorem dX5_held_16 : decode cX5_held 16 = .ok (.if_icmp .ge 65, 3) := by decide +kernel
theorem dX5_held_19 : decode cX5_held 19 = .ok (.aload_n 0, 1) := by decide +kernel
theorem dX5_held_20 : decode cX5_held 20 = .ok (.getfield 30, 3) := by decide +kernel
theorem dX5_held_23 : decode cX5_held 23 = .ok (.iload 4, 2) := by decide +kernel
theorem dX5_held_25 : decode cX5_held 25 = .ok (.iaload, 1) := by decide +kernel
theorem dX5_held_26 : decode cX5_held 26 = .ok (.iload_n 2, 1) := by decide +kernel
theorem dX5_held_27 : decode cX5_held 27 = .ok (.if_icmp .gt 54, 3) := by decide +kernel
theorem dX5_held_30 : decode cX5_held 30 = .ok (.aload_n 0, 1) := by decide +kernel
theorem dX5_held_31 : decode cX5_held 31 = .ok (.getfield 21, 3) := by decide +kernel
theorem dX5_held_34 : decode cX5_held 34 = .ok (.iload 4, 2) := by decide +kernel
theorem dX5_held_36 : decode cX5_held 36 = .ok (.iaload, 1) := by decide +kernel
theorem dX5_held_37 : decode cX5_held 37 = .ok (.iload_n 1, 1) := by decide +kernel
theorem dX5_held_38 : decode cX5_held 38 = .ok (.if_icmp .ne 16, 3) := by decide +kernel
theorem dX5_held_41 : decode cX5_held 41 = .ok (.iload_n 3, 1) := by decide +kernel
theorem dX5_held_42 : decode cX5_held 42 = .ok (.aload_n 0, 1) := by decide +kernel
theorem dX5_held_43 : decode cX5_held 43 = .ok (.getfield 27, 3) := by decide +kernel
theorem dX5_held_46 : decode cX5_held 46 = .ok (.iload 4, 2) := by decide +kernel
theorem dX5_held_48 : decode cX5_held 48 = .ok (.iaload, 1) := by decide +kernel
theorem dX5_held_49 : decode cX5_held 49 = .ok (.isub, 1) := by decide +kernel
theorem dX5_held_50 : decode cX5_held 50 = .ok (.istore_n 3, 1) := by decide +kernel
theorem dX5_held_51 : decode cX5_held 51 = .ok (.goto 24, 3) := by decide +kernel
theorem dX5_held_54 : decode cX5_held 54 = .ok (.aload_n 0, 1) := by decide +kernel
theorem dX5_held_55 : decode cX5_held 55 = .ok (.getfield 24, 3) := by decide +kernel
theorem dX5_held_58 : decode cX5_held 58 = .ok (.iload 4, 2) := by decide +kernel
theorem dX5_held_60 : decode cX5_held 60 = .ok (.iaload, 1) := by decide +kernel
theorem dX5_held_61 : decode cX5_held 61 = .ok (.iload_n 1, 1) := by decide +kernel
theorem dX5_held_62 : decode cX5_held 62 = .ok (.if_icmp .ne 13, 3) := by decide +kernel
theorem dX5_held_65 : decode cX5_held 65 = .ok (.iload_n 3, 1) := by decide +kernel
theorem dX5_held_66 : decode cX5_held 66 = .ok (.aload_n 0, 1) := by decide +kernel
theorem dX5_held_67 : decode cX5_held 67 = .ok (.getfield 27, 3) := by decide +kernel
theorem dX5_held_70 : decode cX5_held 70 = .ok (.iload 4, 2) := by decide +kernel
theorem dX5_held_72 : decode cX5_held 72 = .ok (.iaload, 1) := by decide +kernel
theorem dX5_held_73 : decode cX5_held 73 = .ok (.iadd, 1) := by decide +kernel
theorem dX5_held_74 : decode cX5_held 74 = .ok (.istore_n 3, 1) := by decide +kernel
theorem dX5_held_75 : decode cX5_held 75 = .ok (.iinc 4 1, 3) := by decide +kernel
theorem dX5_held_78 : decode cX5_held 78 = .ok (.goto (-68), 3) := by decide +kernel
theorem dX5_held_81 : decode cX5_held 81 = .ok (.iload_n 3, 1) := by decide +kernel
theorem dX5_held_82 : decode cX5_held 82 = .ok (.ireturn, 1) := by decide +kernel
theorem dX5_allShares_0 : decode cX5_allShares 0 = .ok (.iconst 0, 1) := by decide +kernel
theorem dX5_allShares_1 : decode cX5_allShares 1 = .ok (.istore_n 1, 1) := by decide +kernel
theorem dX5_allShares_2 : decode cX5_allShares 2 = .ok (.iconst 0, 1) := by decide +kernel
theorem dX5_allShares_3 : decode cX5_allShares 3 = .ok (.istore_n 2, 1) := by decide +kernel
theorem dX5_allShares_4 : decode cX5_allShares 4 = .ok (.iload_n 2, 1) := by decide +kernel
theorem dX5_allShares_5 : decode cX5_allShares 5 = .ok (.bipush 6, 2) := by decide +kernel
theorem dX5_allShares_7 : decode cX5_allShares 7 = .ok (.if_icmp .ge 18, 3) := by decide +kernel
theorem dX5_allShares_10 : decode cX5_allShares 10 = .ok (.iload_n 1, 1) := by decide +kernel
theorem dX5_allShares_11 : decode cX5_allShares 11 = .ok (.aload_n 0, 1) := by decide +kernel
theorem dX5_allShares_12 : decode cX5_allShares 12 = .ok (.getfield 18, 3) := by decide +kernel
theorem dX5_allShares_15 : decode cX5_allShares 15 = .ok (.iload_n 2, 1) := by decide +kernel
theorem dX5_allShares_16 : decode cX5_allShares 16 = .ok (.iaload, 1) := by decide +kernel
theorem dX5_allShares_17 : decode cX5_allShares 17 = .ok (.iadd, 1) := by decide +kernel
theorem dX5_allShares_18 : decode cX5_allShares 18 = .ok (.istore_n 1, 1) := by decide +kernel
theorem dX5_allShares_19 : decode cX5_allShares 19 = .ok (.iinc 2 1, 3) := by decide +kernel
theorem dX5_allShares_22 : decode cX5_allShares 22 = .ok (.goto (-18), 3) := by decide +kernel
theorem dX5_allShares_25 : decode cX5_allShares 25 = .ok (.iload_n 1, 1) := by decide +kernel
theorem dX5_allShares_26 : decode cX5_allShares 26 = .ok (.ireturn, 1) := by decide +kernel
theorem dX5_partOf_0 : decode cX5_partOf 0 = .ok (.iload 4, 2) := by decide +kernel
theorem dX5_partOf_2 : decode cX5_partOf 2 = .ok (.ifCond .gt 5, 3) := by decide +kernel
theorem dX5_partOf_5 : decode cX5_partOf 5 = .ok (.iconst 0, 1) := by decide +kernel
theorem dX5_partOf_6 : decode cX5_partOf 6 = .ok (.ireturn, 1) := by decide +kernel
theorem dX5_partOf_7 : decode cX5_partOf 7 = .ok (.iload_n 2, 1) := by decide +kernel
theorem dX5_partOf_8 : decode cX5_partOf 8 = .ok (.i2l, 1) := by decide +kernel
theorem dX5_partOf_9 : decode cX5_partOf 9 = .ok (.aload_n 0, 1) := by decide +kernel
theorem dX5_partOf_10 : decode cX5_partOf 10 = .ok (.iload_n 1, 1) := by decide +kernel
theorem dX5_partOf_11 : decode cX5_partOf 11 = .ok (.iload_n 3, 1) := by decide +kernel
theorem dX5_partOf_12 : decode cX5_partOf 12 = .ok (.invokevirtual 57, 3) := by decide +kernel
theorem dX5_partOf_15 : decode cX5_partOf 15 = .ok (.i2l, 1) := by decide +kernel
theorem dX5_partOf_16 : decode cX5_partOf 16 = .ok (.lmul, 1) := by decide +kernel
theorem dX5_partOf_17 : decode cX5_partOf 17 = .ok (.lstore 5, 2) := by decide +kernel
theorem dX5_partOf_19 : decode cX5_partOf 19 = .ok (.iload_n 2, 1) := by decide +kernel
theorem dX5_partOf_20 : decode cX5_partOf 20 = .ok (.i2l, 1) := by decide +kernel
theorem dX5_partOf_21 : decode cX5_partOf 21 = .ok (.lstore 7, 2) := by decide +kernel
theorem dX5_partOf_23 : decode cX5_partOf 23 = .ok (.iconst 0, 1) := by decide +kernel
theorem dX5_partOf_24 : decode cX5_partOf 24 = .ok (.istore 9, 2) := by decide +kernel
theorem dX5_partOf_26 : decode cX5_partOf 26 = .ok (.iconst 0, 1) := by decide +kernel
theorem dX5_partOf_27 : decode cX5_partOf 27 = .ok (.istore 10, 2) := by decide +kernel
theorem dX5_partOf_29 : decode cX5_partOf 29 = .ok (.iload 10, 2) := by decide +kernel
theorem dX5_partOf_31 : decode cX5_partOf 31 = .ok (.bipush 6, 2) := by decide +kernel
theorem dX5_partOf_33 : decode cX5_partOf 33 = .ok (.if_icmp .ge 74, 3) := by decide +kernel
theorem dX5_partOf_36 : decode cX5_partOf 36 = .ok (.iload_n 2, 1) := by decide +kernel
theorem dX5_partOf_37 : decode cX5_partOf 37 = .ok (.i2l, 1) := by decide +kernel
theorem dX5_partOf_38 : decode cX5_partOf 38 = .ok (.aload_n 0, 1) := by decide +kernel
theorem dX5_partOf_39 : decode cX5_partOf 39 = .ok (.iload 10, 2) := by decide +kernel
theorem dX5_partOf_41 : decode cX5_partOf 41 = .ok (.iload_n 3, 1) := by decide +kernel
theorem dX5_partOf_42 : decode cX5_partOf 42 = .ok (.invokevirtual 57, 3) := by decide +kernel
theorem dX5_partOf_45 : decode cX5_partOf 45 = .ok (.i2l, 1) := by decide +kernel
theorem dX5_partOf_46 : decode cX5_partOf 46 = .ok (.lmul, 1) := by decide +kernel
theorem dX5_partOf_47 : decode cX5_partOf 47 = .ok (.lstore 11, 2) := by decide +kernel
theorem dX5_partOf_49 : decode cX5_partOf 49 = .ok (.lload 7, 2) := by decide +kernel
theorem dX5_partOf_51 : decode cX5_partOf 51 = .ok (.lload 11, 2) := by decide +kernel
theorem dX5_partOf_53 : decode cX5_partOf 53 = .ok (.iload 4, 2) := by decide +kernel
theorem dX5_partOf_55 : decode cX5_partOf 55 = .ok (.i2l, 1) := by decide +kernel
theorem dX5_partOf_56 : decode cX5_partOf 56 = .ok (.ldiv, 1) := by decide +kernel
theorem dX5_partOf_57 : decode cX5_partOf 57 = .ok (.lsub, 1) := by decide +kernel
theorem dX5_partOf_58 : decode cX5_partOf 58 = .ok (.lstore 7, 2) := by decide +kernel
theorem dX5_partOf_60 : decode cX5_partOf 60 = .ok (.lload 11, 2) := by decide +kernel
theorem dX5_partOf_62 : decode cX5_partOf 62 = .ok (.iload 4, 2) := by decide +kernel
theorem dX5_partOf_64 : decode cX5_partOf 64 = .ok (.i2l, 1) := by decide +kernel
theorem dX5_partOf_65 : decode cX5_partOf 65 = .ok (.lrem, 1) := by decide +kernel
theorem dX5_partOf_66 : decode cX5_partOf 66 = .ok (.lload 5, 2) := by decide +kernel
theorem dX5_partOf_68 : decode cX5_partOf 68 = .ok (.iload 4, 2) := by decide +kernel
theorem dX5_partOf_70 : decode cX5_partOf 70 = .ok (.i2l, 1) := by decide +kernel
theorem dX5_partOf_71 : decode cX5_partOf 71 = .ok (.lrem, 1) := by decide +kernel
theorem dX5_partOf_72 : decode cX5_partOf 72 = .ok (.lcmp, 1) := by decide +kernel
theorem dX5_partOf_73 : decode cX5_partOf 73 = .ok (.ifCond .gt 25, 3) := by decide +kernel
theorem dX5_partOf_76 : decode cX5_partOf 76 = .ok (.lload 11, 2) := by decide +kernel
theorem dX5_partOf_78 : decode cX5_partOf 78 = .ok (.iload 4, 2) := by decide +kernel
theorem dX5_partOf_80 : decode cX5_partOf 80 = .ok (.i2l, 1) := by decide +kernel
theorem dX5_partOf_81 : decode cX5_partOf 81 = .ok (.lrem, 1) := by decide +kernel
theorem dX5_partOf_82 : decode cX5_partOf 82 = .ok (.lload 5, 2) := by decide +kernel
theorem dX5_partOf_84 : decode cX5_partOf 84 = .ok (.iload 4, 2) := by decide +kernel
theorem dX5_partOf_86 : decode cX5_partOf 86 = .ok (.i2l, 1) := by decide +kernel
theorem dX5_partOf_87 : decode cX5_partOf 87 = .ok (.lrem, 1) := by decide +kernel
theorem dX5_partOf_88 : decode cX5_partOf 88 = .ok (.lcmp, 1) := by decide +kernel
theorem dX5_partOf_89 : decode cX5_partOf 89 = .ok (.ifCond .ne 12, 3) := by decide +kernel
theorem dX5_partOf_92 : decode cX5_partOf 92 = .ok (.iload 10, 2) := by decide +kernel
theorem dX5_partOf_94 : decode cX5_partOf 94 = .ok (.iload_n 1, 1) := by decide +kernel
theorem dX5_partOf_95 : decode cX5_partOf 95 = .ok (.if_icmp .ge 6, 3) := by decide +kernel
theorem dX5_partOf_98 : decode cX5_partOf 98 = .ok (.iinc 9 1, 3) := by decide +kernel
theorem dX5_partOf_101 : decode cX5_partOf 101 = .ok (.iinc 10 1, 3) := by decide +kernel
theorem dX5_partOf_104 : decode cX5_partOf 104 = .ok (.goto (-75), 3) := by decide +kernel
theorem dX5_partOf_107 : decode cX5_partOf 107 = .ok (.lload 5, 2) := by decide +kernel
theorem dX5_partOf_109 : decode cX5_partOf 109 = .ok (.iload 4, 2) := by decide +kernel
theorem dX5_partOf_111 : decode cX5_partOf 111 = .ok (.i2l, 1) := by decide +kernel
theorem dX5_partOf_112 : decode cX5_partOf 112 = .ok (.ldiv, 1) := by decide +kernel
theorem dX5_partOf_113 : decode cX5_partOf 113 = .ok (.l2i, 1) := by decide +kernel
theorem dX5_partOf_114 : decode cX5_partOf 114 = .ok (.iload 9, 2) := by decide +kernel
theorem dX5_partOf_116 : decode cX5_partOf 116 = .ok (.i2l, 1) := by decide +kernel
theorem dX5_partOf_117 : decode cX5_partOf 117 = .ok (.lload 7, 2) := by decide +kernel
theorem dX5_partOf_119 : decode cX5_partOf 119 = .ok (.lcmp, 1) := by decide +kernel
theorem dX5_partOf_120 : decode cX5_partOf 120 = .ok (.ifCond .ge 7, 3) := by decide +kernel
theorem dX5_partOf_123 : decode cX5_partOf 123 = .ok (.iconst 1, 1) := by decide +kernel
theorem dX5_partOf_124 : decode cX5_partOf 124 = .ok (.goto 4, 3) := by decide +kernel
theorem dX5_partOf_127 : decode cX5_partOf 127 = .ok (.iconst 0, 1) := by decide +kernel
theorem dX5_partOf_128 : decode cX5_partOf 128 = .ok (.iadd, 1) := by decide +kernel
theorem dX5_partOf_129 : decode cX5_partOf 129 = .ok (.ireturn, 1) := by decide +kernel
theorem dX5_goesOver_0 : decode cX5_goesOver 0 = .ok (.aload_n 0, 1) := by decide +kernel
theorem dX5_goesOver_1 : decode cX5_goesOver 1 = .ok (.getfield 33, 3) := by decide +kernel
theorem dX5_goesOver_4 : decode cX5_goesOver 4 = .ok (.aload_n 1, 1) := by decide +kernel
theorem dX5_goesOver_5 : decode cX5_goesOver 5 = .ok (.invokevirtual 60, 3) := by decide +kernel
theorem dX5_goesOver_8 : decode cX5_goesOver 8 = .ok (.imul, 1) := by decide +kernel
theorem dX5_goesOver_9 : decode cX5_goesOver 9 = .ok (.bipush 10, 2) := by decide +kernel
theorem dX5_goesOver_11 : decode cX5_goesOver 11 = .ok (.idiv, 1) := by decide +kernel
theorem dX5_goesOver_12 : decode cX5_goesOver 12 = .ok (.iload_n 2, 1) := by decide +kernel
theorem dX5_goesOver_13 : decode cX5_goesOver 13 = .ok (.aload_n 1, 1) := by decide +kernel
theorem dX5_goesOver_14 : decode cX5_goesOver 14 = .ok (.invokevirtual 60, 3) := by decide +kernel
theorem dX5_goesOver_17 : decode cX5_goesOver 17 = .ok (.imul, 1) := by decide +kernel
theorem dX5_goesOver_18 : decode cX5_goesOver 18 = .ok (.if_icmp .ge 7, 3) := by decide +kernel
theorem dX5_goesOver_21 : decode cX5_goesOver 21 = .ok (.iconst 1, 1) := by decide +kernel
theorem dX5_goesOver_22 : decode cX5_goesOver 22 = .ok (.goto 4, 3) := by decide +kernel
theorem dX5_goesOver_25 : decode cX5_goesOver 25 = .ok (.iconst 0, 1) := by decide +kernel
theorem dX5_goesOver_26 : decode cX5_goesOver 26 = .ok (.ireturn, 1) := by decide +kernel
theorem dX5_addTo_0 : decode cX5_addTo 0 = .ok (.lload_n 1, 1) := by decide +kernel
theorem dX5_addTo_1 : decode cX5_addTo 1 = .ok (.lstore_n 3, 1) := by decide +kernel
theorem dX5_addTo_2 : decode cX5_addTo 2 = .ok (.iconst 0, 1) := by decide +kernel
theorem dX5_addTo_3 : decode cX5_addTo 3 = .ok (.istore 5, 2) := by decide +kernel
theorem dX5_addTo_5 : decode cX5_addTo 5 = .ok (.iload 5, 2) := by decide +kernel
theorem dX5_addTo_7 : decode cX5_addTo 7 = .ok (.iconst 4, 1) := by decide +kernel
theorem dX5_addTo_8 : decode cX5_addTo 8 = .ok (.if_icmp .ge 22, 3) := by decide +kernel
theorem dX5_addTo_11 : decode cX5_addTo 11 = .ok (.lload_n 3, 1) := by decide +kernel
theorem dX5_addTo_12 : decode cX5_addTo 12 = .ok (.aload_n 0, 1) := by decide +kernel
theorem dX5_addTo_13 : decode cX5_addTo 13 = .ok (.getfield 9, 3) := by decide +kernel
theorem dX5_addTo_16 : decode cX5_addTo 16 = .ok (.iload 5, 2) := by decide +kernel
theorem dX5_addTo_18 : decode cX5_addTo 18 = .ok (.iaload, 1) := by decide +kernel
theorem dX5_addTo_19 : decode cX5_addTo 19 = .ok (.i2l, 1) := by decide +kernel
theorem dX5_addTo_20 : decode cX5_addTo 20 = .ok (.invokestatic 66, 3) := by decide +kernel
theorem dX5_addTo_23 : decode cX5_addTo 23 = .ok (.lstore_n 3, 1) := by decide +kernel
theorem dX5_addTo_24 : decode cX5_addTo 24 = .ok (.iinc 5 1, 3) := by decide +kernel
theorem dX5_addTo_27 : decode cX5_addTo 27 = .ok (.goto (-22), 3) := by decide +kernel
theorem dX5_addTo_30 : decode cX5_addTo 30 = .ok (.iconst 0, 1) := by decide +kernel
theorem dX5_addTo_31 : decode cX5_addTo 31 = .ok (.istore 5, 2) := by decide +kernel
theorem dX5_addTo_33 : decode cX5_addTo 33 = .ok (.iload 5, 2) := by decide +kernel
theorem dX5_addTo_35 : decode cX5_addTo 35 = .ok (.bipush 12, 2) := by decide +kernel
theorem dX5_addTo_37 : decode cX5_addTo 37 = .ok (.if_icmp .ge 22, 3) := by decide +kernel
theorem dX5_addTo_40 : decode cX5_addTo 40 = .ok (.lload_n 3, 1) := by decide +kernel
theorem dX5_addTo_41 : decode cX5_addTo 41 = .ok (.aload_n 0, 1) := by decide +kernel
theorem dX5_addTo_42 : decode cX5_addTo 42 = .ok (.getfield 15, 3) := by decide +kernel
theorem dX5_addTo_45 : decode cX5_addTo 45 = .ok (.iload 5, 2) := by decide +kernel
theorem dX5_addTo_47 : decode cX5_addTo 47 = .ok (.iaload, 1) := by decide +kernel
theorem dX5_addTo_48 : decode cX5_addTo 48 = .ok (.i2l, 1) := by decide +kernel
theorem dX5_addTo_49 : decode cX5_addTo 49 = .ok (.invokestatic 66, 3) := by decide +kernel
theorem dX5_addTo_52 : decode cX5_addTo 52 = .ok (.lstore_n 3, 1) := by decide +kernel
theorem dX5_addTo_53 : decode cX5_addTo 53 = .ok (.iinc 5 1, 3) := by decide +kernel
theorem dX5_addTo_56 : decode cX5_addTo 56 = .ok (.goto (-23), 3) := by decide +kernel
theorem dX5_addTo_59 : decode cX5_addTo 59 = .ok (.iconst 0, 1) := by decide +kernel
theorem dX5_addTo_60 : decode cX5_addTo 60 = .ok (.istore 5, 2) := by decide +kernel
theorem dX5_addTo_62 : decode cX5_addTo 62 = .ok (.iload 5, 2) := by decide +kernel
theorem dX5_addTo_64 : decode cX5_addTo 64 = .ok (.bipush 6, 2) := by decide +kernel
theorem dX5_addTo_66 : decode cX5_addTo 66 = .ok (.if_icmp .ge 23, 3) := by decide +kernel
theorem dX5_addTo_69 : decode cX5_addTo 69 = .ok (.lload_n 3, 1) := by decide +kernel
theorem dX5_addTo_70 : decode cX5_addTo 70 = .ok (.aload_n 0, 1) := by decide +kernel
theorem dX5_addTo_71 : decode cX5_addTo 71 = .ok (.iload 5, 2) := by decide +kernel
theorem dX5_addTo_73 : decode cX5_addTo 73 = .ok (.bipush 99, 2) := by decide +kernel
theorem dX5_addTo_75 : decode cX5_addTo 75 = .ok (.invokevirtual 57, 3) := by decide +kernel
theorem dX5_addTo_78 : decode cX5_addTo 78 = .ok (.i2l, 1) := by decide +kernel
theorem dX5_addTo_79 : decode cX5_addTo 79 = .ok (.invokestatic 66, 3) := by decide +kernel
theorem dX5_addTo_82 : decode cX5_addTo 82 = .ok (.lstore_n 3, 1) := by decide +kernel
theorem dX5_addTo_83 : decode cX5_addTo 83 = .ok (.iinc 5 1, 3) := by decide +kernel
theorem dX5_addTo_86 : decode cX5_addTo 86 = .ok (.goto (-24), 3) := by decide +kernel
theorem dX5_addTo_89 : decode cX5_addTo 89 = .ok (.lload_n 3, 1) := by decide +kernel
theorem dX5_addTo_90 : decode cX5_addTo 90 = .ok (.aload_n 0, 1) := by decide +kernel
theorem dX5_addTo_91 : decode cX5_addTo 91 = .ok (.getfield 33, 3) := by decide +kernel
theorem dX5_addTo_94 : decode cX5_addTo 94 = .ok (.i2l, 1) := by decide +kernel
theorem dX5_addTo_95 : decode cX5_addTo 95 = .ok (.invokestatic 66, 3) := by decide +kernel
theorem dX5_addTo_98 : decode cX5_addTo 98 = .ok (.lreturn, 1) := by decide +kernel
theorem dX6_init_0 : decode cX6_init 0 = .ok (.aload_n 0, 1) := by decide +kernel
theorem dX6_init_1 : decode cX6_init 1 = .ok (.invokespecial 3, 3) := by decide +kernel
theorem dX6_init_4 : decode cX6_init 4 = .ok (.aload_n 0, 1) := by decide +kernel
theorem dX6_init_5 : decode cX6_init 5 = .ok (.sipush 1000, 3) := by decide +kernel
theorem dX6_init_8 : decode cX6_init 8 = .ok (.putfield 9, 3) := by decide +kernel
theorem dX6_init_11 : decode cX6_init 11 = .ok (.aload_n 0, 1) := by decide +kernel
theorem dX6_init_12 : decode cX6_init 12 = .ok (.sipush 1000, 3) := by decide +kernel
theorem dX6_init_15 : decode cX6_init 15 = .ok (.putfield 15, 3) := by decide +kernel
theorem dX6_init_18 : decode cX6_init 18 = .ok (.aload_n 0, 1) := by decide +kernel
theorem dX6_init_19 : decode cX6_init 19 = .ok (.sipush 500, 3) := by decide +kernel
theorem dX6_init_22 : decode cX6_init 22 = .ok (.putfield 18, 3) := by decide +kernel
theorem dX6_init_25 : decode cX6_init 25 = .ok (.return_, 1) := by decide +kernel
theorem dX6_allows_0 : decode cX6_allows 0 = .ok (.iload_n 1, 1) := by decide +kernel
theorem dX6_allows_1 : decode cX6_allows 1 = .ok (.ifCond .ne 13, 3) := by decide +kernel
theorem dX6_allows_4 : decode cX6_allows 4 = .ok (.iload_n 2, 1) := by decide +kernel
theorem dX6_allows_5 : decode cX6_allows 5 = .ok (.iconst 0, 1) := by decide +kernel
theorem dX6_allows_6 : decode cX6_allows 6 = .ok (.aload_n 0, 1) := by decide +kernel
theorem dX6_allows_7 : decode cX6_allows 7 = .ok (.getfield 15, 3) := by decide +kernel
theorem dX6_allows_10 : decode cX6_allows 10 = .ok (.invokestatic 21, 3) := by decide +kernel
theorem dX6_allows_13 : decode cX6_allows 13 = .ok (.ireturn, 1) := by decide +kernel
theorem dX6_allows_14 : decode cX6_allows 14 = .ok (.iload_n 2, 1) := by decide +kernel
theorem dX6_allows_15 : decode cX6_allows 15 = .ok (.iload_n 1, 1) := by decide +kernel
theorem dX6_allows_16 : decode cX6_allows 16 = .ok (.iconst 1, 1) := by decide +kernel
theorem dX6_allows_17 : decode cX6_allows 17 = .ok (.if_icmp .ne 15, 3) := by decide +kernel
theorem dX6_allows_20 : decode cX6_allows 20 = .ok (.bipush 100, 2) := by decide +kernel
theorem dX6_allows_22 : decode cX6_allows 22 = .ok (.aload_n 0, 1) := by decide +kernel
theorem dX6_allows_23 : decode cX6_allows 23 = .ok (.getfield 9, 3) := by decide +kernel
theorem dX6_allows_26 : decode cX6_allows 26 = .ok (.invokestatic 25, 3) := by decide +kernel
theorem dX6_allows_29 : decode cX6_allows 29 = .ok (.goto 4, 3) := by decide +kernel
theorem dX6_allows_32 : decode cX6_allows 32 = .ok (.iconst 0, 1) := by decide +kernel
theorem dX6_allows_33 : decode cX6_allows 33 = .ok (.sipush 9999, 3) := by decide +kernel
theorem dX6_allows_36 : decode cX6_allows 36 = .ok (.invokestatic 21, 3) := by decide +kernel
theorem dX6_allows_39 : decode cX6_allows 39 = .ok (.ireturn, 1) := by decide +kernel
theorem dX6_tell_0 : decode cX6_tell 0 = .ok (.iload_n 1, 1) := by decide +kernel
theorem dX6_tell_1 : decode cX6_tell 1 = .ok (.ifCond .ne 8, 3) := by decide +kernel
theorem dX6_tell_4 : decode cX6_tell 4 = .ok (.aload_n 0, 1) := by decide +kernel
theorem dX6_tell_5 : decode cX6_tell 5 = .ok (.getfield 9, 3) := by decide +kernel
theorem dX6_tell_8 : decode cX6_tell 8 = .ok (.ireturn, 1) := by decide +kernel
theorem dX6_tell_9 : decode cX6_tell 9 = .ok (.iload_n 1, 1) := by decide +kernel
theorem dX6_tell_10 : decode cX6_tell 10 = .ok (.iconst 1, 1) := by decide +kernel
theorem dX6_tell_11 : decode cX6_tell 11 = .ok (.if_icmp .ne 10, 3) := by decide +kernel
theorem dX6_tell_14 : decode cX6_tell 14 = .ok (.aload_n 0, 1) := by decide +kernel
theorem dX6_tell_15 : decode cX6_tell 15 = .ok (.getfield 15, 3) := by decide +kernel
theorem dX6_tell_18 : decode cX6_tell 18 = .ok (.goto 7, 3) := by decide +kernel
theorem dX6_tell_21 : decode cX6_tell 21 = .ok (.aload_n 0, 1) := by decide +kernel
theorem dX6_tell_22 : decode cX6_tell 22 = .ok (.getfield 18, 3) := by decide +kernel
theorem dX6_tell_25 : decode cX6_tell 25 = .ok (.ireturn, 1) := by decide +kernel
theorem dX6_replace_0 : decode cX6_replace 0 = .ok (.aload_n 0, 1) := by decide +kernel
theorem dX6_replace_1 : decode cX6_replace 1 = .ok (.iload_n 1, 1) := by decide +kernel
theorem dX6_replace_2 : decode cX6_replace 2 = .ok (.invokevirtual 31, 3) := by decide +kernel
theorem dX6_replace_5 : decode cX6_replace 5 = .ok (.istore_n 3, 1) := by decide +kernel
theorem dX6_replace_6 : decode cX6_replace 6 = .ok (.iload_n 1, 1) := by decide +kernel
theorem dX6_replace_7 : decode cX6_replace 7 = .ok (.ifCond .ne 11, 3) := by decide +kernel
theorem dX6_replace_10 : decode cX6_replace 10 = .ok (.aload_n 0, 1) := by decide +kernel
theorem dX6_replace_11 : decode cX6_replace 11 = .ok (.iload_n 2, 1) := by decide +kernel
theorem dX6_replace_12 : decode cX6_replace 12 = .ok (.putfield 9, 3) := by decide +kernel
theorem dX6_replace_15 : decode cX6_replace 15 = .ok (.goto 21, 3) := by decide +kernel
theorem dX6_replace_18 : decode cX6_replace 18 = .ok (.iload_n 1, 1) := by decide +kernel
theorem dX6_replace_19 : decode cX6_replace 19 = .ok (.iconst 1, 1) := by decide +kernel
theorem dX6_replace_20 : decode cX6_replace 20 = .ok (.if_icmp .ne 11, 3) := by decide +kernel
theorem dX6_replace_23 : decode cX6_replace 23 = .ok (.aload_n 0, 1) := by decide +kernel
theorem dX6_replace_24 : decode cX6_replace 24 = .ok (.iload_n 2, 1) := by decide +kernel
theorem dX6_replace_25 : decode cX6_replace 25 = .ok (.putfield 15, 3) := by decide +kernel
theorem dX6_replace_28 : decode cX6_replace 28 = .ok (.goto 8, 3) := by decide +kernel
theorem dX6_replace_31 : decode cX6_replace 31 = .ok (.aload_n 0, 1) := by decide +kernel
theorem dX6_replace_32 : decode cX6_replace 32 = .ok (.iload_n 2, 1) := by decide +kernel
theorem dX6_replace_33 : decode cX6_replace 33 = .ok (.putfield 18, 3) := by decide +kernel
theorem dX6_replace_36 : decode cX6_replace 36 = .ok (.iload_n 3, 1) := by decide +kernel
theorem dX6_replace_37 : decode cX6_replace 37 = .ok (.ireturn, 1) := by decide +kernel
theorem dX6_spill_0 : decode cX6_spill 0 = .ok (.iconst 0, 1) := by decide +kernel
theorem dX6_spill_1 : decode cX6_spill 1 = .ok (.aload_n 0, 1) := by decide +kernel
theorem dX6_spill_2 : decode cX6_spill 2 = .ok (.getfield 9, 3) := by decide +kernel
theorem dX6_spill_5 : decode cX6_spill 5 = .ok (.aload_n 0, 1) := by decide +kernel
theorem dX6_spill_6 : decode cX6_spill 6 = .ok (.getfield 15, 3) := by decide +kernel
theorem dX6_spill_9 : decode cX6_spill 9 = .ok (.isub, 1) := by decide +kernel
theorem dX6_spill_10 : decode cX6_spill 10 = .ok (.invokestatic 25, 3) := by decide +kernel
theorem dX6_spill_13 : decode cX6_spill 13 = .ok (.istore_n 1, 1) := by decide +kernel
theorem dX6_spill_14 : decode cX6_spill 14 = .ok (.aload_n 0, 1) := by decide +kernel
theorem dX6_spill_15 : decode cX6_spill 15 = .ok (.dup, 1) := by decide +kernel
theorem dX6_spill_16 : decode cX6_spill 16 = .ok (.getfield 9, 3) := by decide +kernel
theorem dX6_spill_19 : decode cX6_spill 19 = .ok (.iload_n 1, 1) := by decide +kernel
theorem dX6_spill_20 : decode cX6_spill 20 = .ok (.isub, 1) := by decide +kernel
theorem dX6_spill_21 : decode cX6_spill 21 = .ok (.putfield 9, 3) := by decide +kernel
theorem dX6_spill_24 : decode cX6_spill 24 = .ok (.iload_n 1, 1) := by decide +kernel
theorem dX6_spill_25 : decode cX6_spill 25 = .ok (.ireturn, 1) := by decide +kernel
theorem dX6_firstDryDay_0 : decode cX6_firstDryDay 0 = .ok (.aload_n 0, 1) := by decide +kernel
theorem dX6_firstDryDay_1 : decode cX6_firstDryDay 1 = .ok (.getfield 9, 3) := by decide +kernel
theorem dX6_firstDryDay_4 : decode cX6_firstDryDay 4 = .ok (.istore_n 3, 1) := by decide +kernel
theorem dX6_firstDryDay_5 : decode cX6_firstDryDay 5 = .ok (.iconst 0, 1) := by decide +kernel
theorem dX6_firstDryDay_6 : decode cX6_firstDryDay 6 = .ok (.istore 4, 2) := by decide +kernel
theorem dX6_firstDryDay_8 : decode cX6_firstDryDay 8 = .ok (.iload 4, 2) := by decide +kernel
theorem dX6_firstDryDay_10 : decode cX6_firstDryDay 10 = .ok (.sipush 400, 3) := by decide +kernel
theorem dX6_firstDryDay_13 : decode cX6_firstDryDay 13 = .ok (.if_icmp .ge 37, 3) := by decide +kernel
theorem dX6_firstDryDay_16 : decode cX6_firstDryDay 16 = .ok (.aload_n 0, 1) := by decide +kernel
theorem dX6_firstDryDay_17 : decode cX6_firstDryDay 17 = .ok (.getfield 15, 3) := by decide +kernel
theorem dX6_firstDryDay_20 : decode cX6_firstDryDay 20 = .ok (.iconst 0, 1) := by decide +kernel
theorem dX6_firstDryDay_21 : decode cX6_firstDryDay 21 = .ok (.iload_n 3, 1) := by decide +kernel
theorem dX6_firstDryDay_22 : decode cX6_firstDryDay 22 = .ok (.iload_n 1, 1) := by decide +kernel
theorem dX6_firstDryDay_23 : decode cX6_firstDryDay 23 = .ok (.isub, 1) := by decide +kernel
theorem dX6_firstDryDay_24 : decode cX6_firstDryDay 24 = .ok (.invokestatic 25, 3) := by decide +kernel
theorem dX6_firstDryDay_27 : decode cX6_firstDryDay 27 = .ok (.iload_n 2, 1) := by decide +kernel
theorem dX6_firstDryDay_28 : decode cX6_firstDryDay 28 = .ok (.iadd, 1) := by decide +kernel
theorem dX6_firstDryDay_29 : decode cX6_firstDryDay 29 = .ok (.invokestatic 35, 3) := by decide +kernel
theorem dX6_firstDryDay_32 : decode cX6_firstDryDay 32 = .ok (.istore_n 3, 1) := by decide +kernel
theorem dX6_firstDryDay_33 : decode cX6_firstDryDay 33 = .ok (.iload_n 3, 1) := by decide +kernel
theorem dX6_firstDryDay_34 : decode cX6_firstDryDay 34 = .ok (.aload_n 0, 1) := by decide +kernel
theorem dX6_firstDryDay_35 : decode cX6_firstDryDay 35 = .ok (.getfield 18, 3) := by decide +kernel
theorem dX6_firstDryDay_38 : decode cX6_firstDryDay 38 = .ok (.if_icmp .ge 6, 3) := by decide +kernel
theorem dX6_firstDryDay_41 : decode cX6_firstDryDay 41 = .ok (.iload 4, 2) := by decide +kernel
theorem dX6_firstDryDay_43 : decode cX6_firstDryDay 43 = .ok (.ireturn, 1) := by decide +kernel
theorem dX6_firstDryDay_44 : decode cX6_firstDryDay 44 = .ok (.iinc 4 1, 3) := by decide +kernel
theorem dX6_firstDryDay_47 : decode cX6_firstDryDay 47 = .ok (.goto (-39), 3) := by decide +kernel
theorem dX6_firstDryDay_50 : decode cX6_firstDryDay 50 = .ok (.iconst (-1), 1) := by decide +kernel
theorem dX6_firstDryDay_51 : decode cX6_firstDryDay 51 = .ok (.ireturn, 1) := by decide +kernel
theorem dX7_init_0 : decode cX7_init 0 = .ok (.aload_n 0, 1) := by decide +kernel
theorem dX7_init_1 : decode cX7_init 1 = .ok (.invokespecial 1, 3) := by decide +kernel
theorem dX7_init_4 : decode cX7_init 4 = .ok (.aload_n 0, 1) := by decide +kernel
theorem dX7_init_5 : decode cX7_init 5 = .ok (.iload_n 1, 1) := by decide +kernel
theorem dX7_init_6 : decode cX7_init 6 = .ok (.putfield 7, 3) := by decide +kernel
theorem dX7_init_9 : decode cX7_init 9 = .ok (.aload_n 0, 1) := by decide +kernel
theorem dX7_init_10 : decode cX7_init 10 = .ok (.iload_n 2, 1) := by decide +kernel
theorem dX7_init_11 : decode cX7_init 11 = .ok (.putfield 13, 3) := by decide +kernel
theorem dX7_init_14 : decode cX7_init 14 = .ok (.aload_n 0, 1) := by decide +kernel
theorem dX7_init_15 : decode cX7_init 15 = .ok (.iload_n 3, 1) := by decide +kernel
theorem dX7_init_16 : decode cX7_init 16 = .ok (.putfield 16, 3) := by decide +kernel
theorem dX7_init_19 : decode cX7_init 19 = .ok (.aload_n 0, 1) := by decide +kernel
theorem dX7_init_20 : decode cX7_init 20 = .ok (.iload 4, 2) := by decide +kernel
theorem dX7_init_22 : decode cX7_init 22 = .ok (.putfield 19, 3) := by decide +kernel
theorem dX7_init_25 : decode cX7_init 25 = .ok (.return_, 1) := by decide +kernel
theorem dX7_isA_0 : decode cX7_isA 0 = .ok (.iload_n 1, 1) := by decide +kernel
theorem dX7_isA_1 : decode cX7_isA 1 = .ok (.ifCond .eq 24, 3) := by decide +kernel
theorem dX7_isA_4 : decode cX7_isA 4 = .ok (.iload_n 1, 1) := by decide +kernel
theorem dX7_isA_5 : decode cX7_isA 5 = .ok (.aload_n 0, 1) := by decide +kernel
theorem dX7_isA_6 : decode cX7_isA 6 = .ok (.getfield 7, 3) := by decide +kernel
theorem dX7_isA_9 : decode cX7_isA 9 = .ok (.if_icmp .eq 16, 3) := by decide +kernel
theorem dX7_isA_12 : decode cX7_isA 12 = .ok (.iload_n 1, 1) := by decide +kernel
theorem dX7_isA_13 : decode cX7_isA 13 = .ok (.iconst 3, 1) := by decide +kernel
theorem dX7_isA_14 : decode cX7_isA 14 = .ok (.if_icmp .ne 15, 3) := by decide +kernel
theorem dX7_isA_17 : decode cX7_isA 17 = .ok (.aload_n 0, 1) := by decide +kernel
theorem dX7_isA_18 : decode cX7_isA 18 = .ok (.getfield 7, 3) := by decide +kernel
theorem dX7_isA_21 : decode cX7_isA 21 = .ok (.iconst 4, 1) := by decide +kernel
theorem dX7_isA_22 : decode cX7_isA 22 = .ok (.if_icmp .ne 7, 3) := by decide +kernel
theorem dX7_isA_25 : decode cX7_isA 25 = .ok (.iconst 1, 1) := by decide +kernel
theorem dX7_isA_26 : decode cX7_isA 26 = .ok (.goto 4, 3) := by decide +kernel
theorem dX7_isA_29 : decode cX7_isA 29 = .ok (.iconst 0, 1) := by decide +kernel
theorem dX7_isA_30 : decode cX7_isA 30 = .ok (.ireturn, 1) := by decide +kernel
theorem dX7_takes_0 : decode cX7_takes 0 = .ok (.aload_n 0, 1) := by decide +kernel
theorem dX7_takes_1 : decode cX7_takes 1 = .ok (.getfield 7, 3) := by decide +kernel
theorem dX7_takes_4 : decode cX7_takes 4 = .ok (.tableswitch 95 1 4 #[32, 55, 81, 87], 32) := by decide +kernel
theorem dX7_takes_36 : decode cX7_takes 36 = .ok (.iload_n 1, 1) := by decide +kernel
theorem dX7_takes_37 : decode cX7_takes 37 = .ok (.bipush 24, 2) := by decide +kernel
theorem dX7_takes_39 : decode cX7_takes 39 = .ok (.irem, 1) := by decide +kernel
theorem dX7_takes_40 : decode cX7_takes 40 = .ok (.bipush 6, 2) := by decide +kernel
theorem dX7_takes_42 : decode cX7_takes 42 = .ok (.bipush 17, 2) := by decide +kernel
theorem dX7_takes_44 : decode cX7_takes 44 = .ok (.invokestatic 22, 3) := by decide +kernel
theorem dX7_takes_47 : decode cX7_takes 47 = .ok (.ifCond .eq 10, 3) := by decide +kernel
theorem dX7_takes_50 : decode cX7_takes 50 = .ok (.aload_n 0, 1) := by decide +kernel
theorem dX7_takes_51 : decode cX7_takes 51 = .ok (.getfield 16, 3) := by decide +kernel
theorem dX7_takes_54 : decode cX7_takes 54 = .ok (.goto 4, 3) := by decide +kernel
theorem dX7_takes_57 : decode cX7_takes 57 = .ok (.iconst 0, 1) := by decide +kernel
theorem dX7_takes_58 : decode cX7_takes 58 = .ok (.ireturn, 1) := by decide +kernel
theorem dX7_takes_59 : decode cX7_takes 59 = .ok (.aload_n 2, 1) := by decide +kernel
theorem dX7_takes_60 : decode cX7_takes 60 = .ok (.getfield 28, 3) := by decide +kernel
theorem dX7_takes_63 : decode cX7_takes 63 = .ok (.ifCond .ne 7, 3) := by decide +kernel
theorem dX7_takes_66 : decode cX7_takes 66 = .ok (.iconst 0, 1) := by decide +kernel
theorem dX7_takes_67 : decode cX7_takes 67 = .ok (.goto 17, 3) := by decide +kernel
theorem dX7_takes_70 : decode cX7_takes 70 = .ok (.aload_n 0, 1) := by decide +kernel
theorem dX7_takes_71 : decode cX7_takes 71 = .ok (.getfield 16, 3) := by decide +kernel
theorem dX7_takes_74 : decode cX7_takes 74 = .ok (.aload_n 2, 1) := by decide +kernel
theorem dX7_takes_75 : decode cX7_takes 75 = .ok (.getfield 33, 3) := by decide +kernel
theorem dX7_takes_78 : decode cX7_takes 78 = .ok (.imul, 1) := by decide +kernel
theorem dX7_takes_79 : decode cX7_takes 79 = .ok (.aload_n 2, 1) := by decide +kernel
theorem dX7_takes_80 : decode cX7_takes 80 = .ok (.getfield 28, 3) := by decide +kernel
theorem dX7_takes_83 : decode cX7_takes 83 = .ok (.idiv, 1) := by decide +kernel
theorem dX7_takes_84 : decode cX7_takes 84 = .ok (.ireturn, 1) := by decide +kernel
theorem dX7_takes_85 : decode cX7_takes 85 = .ok (.aload_n 0, 1) := by decide +kernel
theorem dX7_takes_86 : decode cX7_takes 86 = .ok (.getfield 16, 3) := by decide +kernel
theorem dX7_takes_89 : decode cX7_takes 89 = .ok (.ineg, 1) := by decide +kernel
theorem dX7_takes_90 : decode cX7_takes 90 = .ok (.ireturn, 1) := by decide +kernel
theorem dX7_takes_91 : decode cX7_takes 91 = .ok (.bipush (-2), 2) := by decide +kernel
theorem dX7_takes_93 : decode cX7_takes 93 = .ok (.aload_n 0, 1) := by decide +kernel
theorem dX7_takes_94 : decode cX7_takes 94 = .ok (.getfield 16, 3) := by decide +kernel
theorem dX7_takes_97 : decode cX7_takes 97 = .ok (.imul, 1) := by decide +kernel
theorem dX7_takes_98 : decode cX7_takes 98 = .ok (.ireturn, 1) := by decide +kernel
theorem dX7_takes_99 : decode cX7_takes 99 = .ok (.aload_n 0, 1) := by decide +kernel
theorem dX7_takes_100 : decode cX7_takes 100 = .ok (.getfield 16, 3) := by decide +kernel
theorem dX7_takes_103 : decode cX7_takes 103 = .ok (.ireturn, 1) := by decide +kernel
theorem dX7_cost_0 : decode cX7_cost 0 = .ok (.aload_n 0, 1) := by decide +kernel
theorem dX7_cost_1 : decode cX7_cost 1 = .ok (.getfield 7, 3) := by decide +kernel
theorem dX7_cost_4 : decode cX7_cost 4 = .ok (.tableswitch 46 1 4 #[32, 46, 34, 36], 32) := by decide +kernel
theorem dX7_cost_36 : decode cX7_cost 36 = .ok (.iconst 3, 1) := by decide +kernel
theorem dX7_cost_37 : decode cX7_cost 37 = .ok (.ireturn, 1) := by decide +kernel
theorem dX7_cost_38 : decode cX7_cost 38 = .ok (.iconst 1, 1) := by decide +kernel
theorem dX7_cost_39 : decode cX7_cost 39 = .ok (.ireturn, 1) := by decide +kernel
theorem dX7_cost_40 : decode cX7_cost 40 = .ok (.iconst 1, 1) := by decide +kernel
theorem dX7_cost_41 : decode cX7_cost 41 = .ok (.aload_n 0, 1) := by decide +kernel
theorem dX7_cost_42 : decode cX7_cost 42 = .ok (.getfield 16, 3) := by decide +kernel
theorem dX7_cost_45 : decode cX7_cost 45 = .ok (.bipush 10, 2) := by decide +kernel
theorem dX7_cost_47 : decode cX7_cost 47 = .ok (.idiv, 1) := by decide +kernel
theorem dX7_cost_48 : decode cX7_cost 48 = .ok (.iadd, 1) := by decide +kernel
theorem dX7_cost_49 : decode cX7_cost 49 = .ok (.ireturn, 1) := by decide +kernel
theorem dX7_cost_50 : decode cX7_cost 50 = .ok (.iconst 0, 1) := by decide +kernel
theorem dX7_cost_51 : decode cX7_cost 51 = .ok (.ireturn, 1) := by decide +kernel
theorem dX8_init_0 : decode cX8_init 0 = .ok (.aload_n 0, 1) := by decide +kernel
theorem dX8_init_1 : decode cX8_init 1 = .ok (.invokespecial 3, 3) := by decide +kernel
theorem dX8_init_4 : decode cX8_init 4 = .ok (.aload_n 0, 1) := by decide +kernel
theorem dX8_init_5 : decode cX8_init 5 = .ok (.bipush 99, 2) := by decide +kernel
theorem dX8_init_7 : decode cX8_init 7 = .ok (.putfield 9, 3) := by decide +kernel
theorem dX8_init_10 : decode cX8_init 10 = .ok (.aload_n 0, 1) := by decide +kernel
theorem dX8_init_11 : decode cX8_init 11 = .ok (.aload_n 1, 1) := by decide +kernel
theorem dX8_init_12 : decode cX8_init 12 = .ok (.putfield 15, 3) := by decide +kernel
theorem dX8_init_15 : decode cX8_init 15 = .ok (.aload_n 0, 1) := by decide +kernel
theorem dX8_init_16 : decode cX8_init 16 = .ok (.aload_n 1, 1) := by decide +kernel
theorem dX8_init_17 : decode cX8_init 17 = .ok (.arraylength, 1) := by decide +kernel
theorem dX8_init_18 : decode cX8_init 18 = .ok (.ifCond .le 15, 3) := by decide +kernel
theorem dX8_init_21 : decode cX8_init 21 = .ok (.aload_n 1, 1) := by decide +kernel
theorem dX8_init_22 : decode cX8_init 22 = .ok (.iconst 0, 1) := by decide +kernel
theorem dX8_init_23 : decode cX8_init 23 = .ok (.baload, 1) := by decide +kernel
theorem dX8_init_24 : decode cX8_init 24 = .ok (.bipush 67, 2) := by decide +kernel
theorem dX8_init_26 : decode cX8_init 26 = .ok (.if_icmp .ne 7, 3) := by decide +kernel
theorem dX8_init_29 : decode cX8_init 29 = .ok (.iconst 1, 1) := by decide +kernel
theorem dX8_init_30 : decode cX8_init 30 = .ok (.goto 4, 3) := by decide +kernel
theorem dX8_init_33 : decode cX8_init 33 = .ok (.iconst 0, 1) := by decide +kernel
theorem dX8_init_34 : decode cX8_init 34 = .ok (.putfield 19, 3) := by decide +kernel
theorem dX8_init_37 : decode cX8_init 37 = .ok (.iconst 2, 1) := by decide +kernel
theorem dX8_init_38 : decode cX8_init 38 = .ok (.istore_n 2, 1) := by decide +kernel
theorem dX8_init_39 : decode cX8_init 39 = .ok (.iconst 0, 1) := by decide +kernel
theorem dX8_init_40 : decode cX8_init 40 = .ok (.istore_n 3, 1) := by decide +kernel
theorem dX8_init_41 : decode cX8_init 41 = .ok (.iload_n 2, 1) := by decide +kernel
theorem dX8_init_42 : decode cX8_init 42 = .ok (.aload_n 1, 1) := by decide +kernel
theorem dX8_init_43 : decode cX8_init 43 = .ok (.arraylength, 1) := by decide +kernel
theorem dX8_init_44 : decode cX8_init 44 = .ok (.if_icmp .ge 30, 3) := by decide +kernel
theorem dX8_init_47 : decode cX8_init 47 = .ok (.aload_n 1, 1) := by decide +kernel
theorem dX8_init_48 : decode cX8_init 48 = .ok (.iload_n 2, 1) := by decide +kernel
theorem dX8_init_49 : decode cX8_init 49 = .ok (.baload, 1) := by decide +kernel
theorem dX8_init_50 : decode cX8_init 50 = .ok (.invokestatic 22, 3) := by decide +kernel
theorem dX8_init_53 : decode cX8_init 53 = .ok (.ifCond .eq 21, 3) := by decide +kernel
theorem dX8_init_56 : decode cX8_init 56 = .ok (.bipush 10, 2) := by decide +kernel
theorem dX8_init_58 : decode cX8_init 58 = .ok (.iload_n 3, 1) := by decide +kernel
theorem dX8_init_59 : decode cX8_init 59 = .ok (.imul, 1) := by decide +kernel
theorem dX8_init_60 : decode cX8_init 60 = .ok (.aload_n 1, 1) := by decide +kernel
theorem dX8_init_61 : decode cX8_init 61 = .ok (.iload_n 2, 1) := by decide +kernel
theorem dX8_init_62 : decode cX8_init 62 = .ok (.baload, 1) := by decide +kernel
theorem dX8_init_63 : decode cX8_init 63 = .ok (.iadd, 1) := by decide +kernel
theorem dX8_init_64 : decode cX8_init 64 = .ok (.bipush 48, 2) := by decide +kernel
theorem dX8_init_66 : decode cX8_init 66 = .ok (.isub, 1) := by decide +kernel
theorem dX8_init_67 : decode cX8_init 67 = .ok (.istore_n 3, 1) := by decide +kernel
theorem dX8_init_68 : decode cX8_init 68 = .ok (.iinc 2 1, 3) := by decide +kernel
theorem dX8_init_71 : decode cX8_init 71 = .ok (.goto (-30), 3) := by decide +kernel
theorem dX8_init_74 : decode cX8_init 74 = .ok (.aload_n 0, 1) := by decide +kernel
theorem dX8_init_75 : decode cX8_init 75 = .ok (.iload_n 3, 1) := by decide +kernel
theorem dX8_init_76 : decode cX8_init 76 = .ok (.putfield 28, 3) := by decide +kernel
theorem dX8_init_79 : decode cX8_init 79 = .ok (.aload_n 0, 1) := by decide +kernel
theorem dX8_init_80 : decode cX8_init 80 = .ok (.iload_n 2, 1) := by decide +kernel
theorem dX8_init_81 : decode cX8_init 81 = .ok (.iconst 1, 1) := by decide +kernel
theorem dX8_init_82 : decode cX8_init 82 = .ok (.iadd, 1) := by decide +kernel
theorem dX8_init_83 : decode cX8_init 83 = .ok (.putfield 31, 3) := by decide +kernel
theorem dX8_init_86 : decode cX8_init 86 = .ok (.return_, 1) := by decide +kernel
theorem dX8_speaksFor_0 : decode cX8_speaksFor 0 = .ok (.aload_n 0, 1) := by decide +kernel
theorem dX8_speaksFor_1 : decode cX8_speaksFor 1 = .ok (.getfield 19, 3) := by decide +kernel
theorem dX8_speaksFor_4 : decode cX8_speaksFor 4 = .ok (.iload_n 1, 1) := by decide +kernel
theorem dX8_speaksFor_5 : decode cX8_speaksFor 5 = .ok (.if_icmp .ne 43, 3) := by decide +kernel
theorem dX8_speaksFor_8 : decode cX8_speaksFor 8 = .ok (.iload_n 3, 1) := by decide +kernel
theorem dX8_speaksFor_9 : decode cX8_speaksFor 9 = .ok (.aload_n 0, 1) := by decide +kernel
theorem dX8_speaksFor_10 : decode cX8_speaksFor 10 = .ok (.getfield 34, 3) := by decide +kernel
theorem dX8_speaksFor_13 : decode cX8_speaksFor 13 = .ok (.aload_n 0, 1) := by decide +kernel
theorem dX8_speaksFor_14 : decode cX8_speaksFor 14 = .ok (.getfield 9, 3) := by decide +kernel
theorem dX8_speaksFor_17 : decode cX8_speaksFor 17 = .ok (.invokestatic 37, 3) := by decide +kernel
theorem dX8_speaksFor_20 : decode cX8_speaksFor 20 = .ok (.ifCond .eq 28, 3) := by decide +kernel
theorem dX8_speaksFor_23 : decode cX8_speaksFor 23 = .ok (.aload_n 0, 1) := by decide +kernel
theorem dX8_speaksFor_24 : decode cX8_speaksFor 24 = .ok (.getfield 31, 3) := by decide +kernel
theorem dX8_speaksFor_27 : decode cX8_speaksFor 27 = .ok (.aload_n 0, 1) := by decide +kernel
theorem dX8_speaksFor_28 : decode cX8_speaksFor 28 = .ok (.getfield 15, 3) := by decide +kernel
theorem dX8_speaksFor_31 : decode cX8_speaksFor 31 = .ok (.arraylength, 1) := by decide +kernel
theorem dX8_speaksFor_32 : decode cX8_speaksFor 32 = .ok (.if_icmp .ge 12, 3) := by decide +kernel
theorem dX8_speaksFor_35 : decode cX8_speaksFor 35 = .ok (.aload_n 0, 1) := by decide +kernel
theorem dX8_speaksFor_36 : decode cX8_speaksFor 36 = .ok (.aload_n 2, 1) := by decide +kernel
theorem dX8_speaksFor_37 : decode cX8_speaksFor 37 = .ok (.iload_n 3, 1) := by decide +kernel
theorem dX8_speaksFor_38 : decode cX8_speaksFor 38 = .ok (.invokevirtual 41, 3) := by decide +kernel
theorem dX8_speaksFor_41 : decode cX8_speaksFor 41 = .ok (.ifCond .eq 7, 3) := by decide +kernel
theorem dX8_speaksFor_44 : decode cX8_speaksFor 44 = .ok (.iconst 1, 1) := by decide +kernel
theorem dX8_speaksFor_45 : decode cX8_speaksFor 45 = .ok (.goto 4, 3) := by decide +kernel
theorem dX8_speaksFor_48 : decode cX8_speaksFor 48 = .ok (.iconst 0, 1) := by decide +kernel
theorem dX8_speaksFor_49 : decode cX8_speaksFor 49 = .ok (.ireturn, 1) := by decide +kernel
theorem dX8_conditionHolds_0 : decode cX8_conditionHolds 0 = .ok (.lconst 0, 1) := by decide +kernel
theorem dX8_conditionHolds_1 : decode cX8_conditionHolds 1 = .ok (.lstore_n 3, 1) := by decide +kernel
theorem dX8_conditionHolds_2 : decode cX8_conditionHolds 2 = .ok (.lconst 1, 1) := by decide +kernel
theorem dX8_conditionHolds_3 : decode cX8_conditionHolds 3 = .ok (.lstore 5, 2) := by decide +kernel
theorem dX8_conditionHolds_5 : decode cX8_conditionHolds 5 = .ok (.lconst 0, 1) := by decide +kernel
theorem dX8_conditionHolds_6 : decode cX8_conditionHolds 6 = .ok (.lstore 7, 2) := by decide +kernel
theorem dX8_conditionHolds_8 : decode cX8_conditionHolds 8 = .ok (.aload_n 0, 1) := by decide +kernel
theorem dX8_conditionHolds_9 : decode cX8_conditionHolds 9 = .ok (.getfield 31, 3) := by decide +kernel
theorem dX8_conditionHolds_12 : decode cX8_conditionHolds 12 = .ok (.istore 9, 2) := by decide +kernel
theorem dX8_conditionHolds_14 : decode cX8_conditionHolds 14 = .ok (.iload 9, 2) := by decide +kernel
theorem dX8_conditionHolds_16 : decode cX8_conditionHolds 16 = .ok (.aload_n 0, 1) := by decide +kernel
theorem dX8_conditionHolds_17 : decode cX8_conditionHolds 17 = .ok (.getfield 15, 3) := by decide +kernel
theorem dX8_conditionHolds_20 : decode cX8_conditionHolds 20 = .ok (.arraylength, 1) := by decide +kernel
theorem dX8_conditionHolds_21 : decode cX8_conditionHolds 21 = .ok (.if_icmp .ge 216, 3) := by decide +kernel
theorem dX8_conditionHolds_24 : decode cX8_conditionHolds 24 = .ok (.aload_n 0, 1) := by decide +kernel
theorem dX8_conditionHolds_25 : decode cX8_conditionHolds 25 = .ok (.getfield 15, 3) := by decide +kernel
theorem dX8_conditionHolds_28 : decode cX8_conditionHolds 28 = .ok (.iload 9, 2) := by decide +kernel
theorem dX8_conditionHolds_30 : decode cX8_conditionHolds 30 = .ok (.baload, 1) := by decide +kernel
theorem dX8_conditionHolds_31 : decode cX8_conditionHolds 31 = .ok (.istore 10, 2) := by decide +kernel
theorem dX8_conditionHolds_33 : decode cX8_conditionHolds 33 = .ok (.iconst 0, 1) := by decide +kernel
theorem dX8_conditionHolds_34 : decode cX8_conditionHolds 34 = .ok (.istore 11, 2) := by decide +kernel
theorem dX8_conditionHolds_36 : decode cX8_conditionHolds 36 = .ok (.iconst 0, 1) := by decide +kernel
theorem dX8_conditionHolds_37 : decode cX8_conditionHolds 37 = .ok (.istore 12, 2) := by decide +kernel
theorem dX8_conditionHolds_39 : decode cX8_conditionHolds 39 = .ok (.iload 10, 2) := by decide +kernel
theorem dX8_conditionHolds_41 : decode cX8_conditionHolds 41 = .ok (.bipush 33, 2) := by decide +kernel
theorem dX8_conditionHolds_43 : decode cX8_conditionHolds 43 = .ok (.if_icmp .ne 12, 3) := by decide +kernel
theorem dX8_conditionHolds_46 : decode cX8_conditionHolds 46 = .ok (.lload 7, 2) := by decide +kernel
theorem dX8_conditionHolds_48 : decode cX8_conditionHolds 48 = .ok (.lconst 1, 1) := by decide +kernel
theorem dX8_conditionHolds_49 : decode cX8_conditionHolds 49 = .ok (.lxor, 1) := by decide +kernel
theorem dX8_conditionHolds_50 : decode cX8_conditionHolds 50 = .ok (.lstore 7, 2) := by decide +kernel
theorem dX8_conditionHolds_52 : decode cX8_conditionHolds 52 = .ok (.goto 122, 3) := by decide +kernel
theorem dX8_conditionHolds_55 : decode cX8_conditionHolds 55 = .ok (.iload 10, 2) := by decide +kernel
theorem dX8_conditionHolds_57 : decode cX8_conditionHolds 57 = .ok (.bipush 40, 2) := by decide +kernel
theorem dX8_conditionHolds_59 : decode cX8_conditionHolds 59 = .ok (.if_icmp .ne 24, 3) := by decide +kernel
theorem dX8_conditionHolds_62 : decode cX8_conditionHolds 62 = .ok (.lload_n 3, 1) := by decide +kernel
theorem dX8_conditionHolds_63 : decode cX8_conditionHolds 63 = .ok (.iconst 1, 1) := by decide +kernel
theorem dX8_conditionHolds_64 : decode cX8_conditionHolds 64 = .ok (.lshl, 1) := by decide +kernel
theorem dX8_conditionHolds_65 : decode cX8_conditionHolds 65 = .ok (.lstore_n 3, 1) := by decide +kernel
theorem dX8_conditionHolds_66 : decode cX8_conditionHolds 66 = .ok (.lload 5, 2) := by decide +kernel
theorem dX8_conditionHolds_68 : decode cX8_conditionHolds 68 = .ok (.iconst 1, 1) := by decide +kernel
theorem dX8_conditionHolds_69 : decode cX8_conditionHolds 69 = .ok (.lshl, 1) := by decide +kernel
theorem dX8_conditionHolds_70 : decode cX8_conditionHolds 70 = .ok (.lconst 1, 1) := by decide +kernel
theorem dX8_conditionHolds_71 : decode cX8_conditionHolds 71 = .ok (.lor, 1) := by decide +kernel
theorem dX8_conditionHolds_72 : decode cX8_conditionHolds 72 = .ok (.lstore 5, 2) := by decide +kernel
theorem dX8_conditionHolds_74 : decode cX8_conditionHolds 74 = .ok (.lload 7, 2) := by decide +kernel
theorem dX8_conditionHolds_76 : decode cX8_conditionHolds 76 = .ok (.iconst 1, 1) := by decide +kernel
theorem dX8_conditionHolds_77 : decode cX8_conditionHolds 77 = .ok (.lshl, 1) := by decide +kernel
theorem dX8_conditionHolds_78 : decode cX8_conditionHolds 78 = .ok (.lstore 7, 2) := by decide +kernel
theorem dX8_conditionHolds_80 : decode cX8_conditionHolds 80 = .ok (.goto 94, 3) := by decide +kernel
theorem dX8_conditionHolds_83 : decode cX8_conditionHolds 83 = .ok (.iload 10, 2) := by decide +kernel
theorem dX8_conditionHolds_85 : decode cX8_conditionHolds 85 = .ok (.bipush 41, 2) := by decide +kernel
theorem dX8_conditionHolds_87 : decode cX8_conditionHolds 87 = .ok (.if_icmp .ne 43, 3) := by decide +kernel
theorem dX8_conditionHolds_90 : decode cX8_conditionHolds 90 = .ok (.lload_n 3, 1) := by decide +kernel
theorem dX8_conditionHolds_91 : decode cX8_conditionHolds 91 = .ok (.lload 5, 2) := by decide +kernel
theorem dX8_conditionHolds_93 : decode cX8_conditionHolds 93 = .ok (.lor, 1) := by decide +kernel
theorem dX8_conditionHolds_94 : decode cX8_conditionHolds 94 = .ok (.lconst 1, 1) := by decide +kernel
theorem dX8_conditionHolds_95 : decode cX8_conditionHolds 95 = .ok (.land, 1) := by decide +kernel
theorem dX8_conditionHolds_96 : decode cX8_conditionHolds 96 = .ok (.lconst 0, 1) := by decide +kernel
theorem dX8_conditionHolds_97 : decode cX8_conditionHolds 97 = .ok (.lcmp, 1) := by decide +kernel
theorem dX8_conditionHolds_98 : decode cX8_conditionHolds 98 = .ok (.ifCond .eq 7, 3) := by decide +kernel
theorem dX8_conditionHolds_101 : decode cX8_conditionHolds 101 = .ok (.iconst 1, 1) := by decide +kernel
theorem dX8_conditionHolds_102 : decode cX8_conditionHolds 102 = .ok (.goto 4, 3) := by decide +kernel
theorem dX8_conditionHolds_105 : decode cX8_conditionHolds 105 = .ok (.iconst 0, 1) := by decide +kernel
theorem dX8_conditionHolds_106 : decode cX8_conditionHolds 106 = .ok (.istore 12, 2) := by decide +kernel
theorem dX8_conditionHolds_108 : decode cX8_conditionHolds 108 = .ok (.iconst 1, 1) := by decide +kernel
theorem dX8_conditionHolds_109 : decode cX8_conditionHolds 109 = .ok (.istore 11, 2) := by decide +kernel
theorem dX8_conditionHolds_111 : decode cX8_conditionHolds 111 = .ok (.lload_n 3, 1) := by decide +kernel
theorem dX8_conditionHolds_112 : decode cX8_conditionHolds 112 = .ok (.iconst 1, 1) := by decide +kernel
theorem dX8_conditionHolds_113 : decode cX8_conditionHolds 113 = .ok (.lushr, 1) := by decide +kernel
theorem dX8_conditionHolds_114 : decode cX8_conditionHolds 114 = .ok (.lstore_n 3, 1) := by decide +kernel
theorem dX8_conditionHolds_115 : decode cX8_conditionHolds 115 = .ok (.lload 5, 2) := by decide +kernel
theorem dX8_conditionHolds_117 : decode cX8_conditionHolds 117 = .ok (.iconst 1, 1) := by decide +kernel
theorem dX8_conditionHolds_118 : decode cX8_conditionHolds 118 = .ok (.lushr, 1) := by decide +kernel
theorem dX8_conditionHolds_119 : decode cX8_conditionHolds 119 = .ok (.lstore 5, 2) := by decide +kernel
theorem dX8_conditionHolds_121 : decode cX8_conditionHolds 121 = .ok (.lload 7, 2) := by decide +kernel
theorem dX8_conditionHolds_123 : decode cX8_conditionHolds 123 = .ok (.iconst 1, 1) := by decide +kernel
theorem dX8_conditionHolds_124 : decode cX8_conditionHolds 124 = .ok (.lushr, 1) := by decide +kernel
theorem dX8_conditionHolds_125 : decode cX8_conditionHolds 125 = .ok (.lstore 7, 2) := by decide +kernel
theorem dX8_conditionHolds_127 : decode cX8_conditionHolds 127 = .ok (.goto 47, 3) := by decide +kernel
theorem dX8_conditionHolds_130 : decode cX8_conditionHolds 130 = .ok (.iload 10, 2) := by decide +kernel
theorem dX8_conditionHolds_132 : decode cX8_conditionHolds 132 = .ok (.bipush 124, 2) := by decide +kernel
theorem dX8_conditionHolds_134 : decode cX8_conditionHolds 134 = .ok (.if_icmp .ne 19, 3) := by decide +kernel
theorem dX8_conditionHolds_137 : decode cX8_conditionHolds 137 = .ok (.lload_n 3, 1) := by decide +kernel
theorem dX8_conditionHolds_138 : decode cX8_conditionHolds 138 = .ok (.lload 5, 2) := by decide +kernel
theorem dX8_conditionHolds_140 : decode cX8_conditionHolds 140 = .ok (.lconst 1, 1) := by decide +kernel
theorem dX8_conditionHolds_141 : decode cX8_conditionHolds 141 = .ok (.land, 1) := by decide +kernel
theorem dX8_conditionHolds_142 : decode cX8_conditionHolds 142 = .ok (.lor, 1) := by decide +kernel
theorem dX8_conditionHolds_143 : decode cX8_conditionHolds 143 = .ok (.lstore_n 3, 1) := by decide +kernel
theorem dX8_conditionHolds_144 : decode cX8_conditionHolds 144 = .ok (.lload 5, 2) := by decide +kernel
theorem dX8_conditionHolds_146 : decode cX8_conditionHolds 146 = .ok (.lconst 1, 1) := by decide +kernel
theorem dX8_conditionHolds_147 : decode cX8_conditionHolds 147 = .ok (.lor, 1) := by decide +kernel
theorem dX8_conditionHolds_148 : decode cX8_conditionHolds 148 = .ok (.lstore 5, 2) := by decide +kernel
theorem dX8_conditionHolds_150 : decode cX8_conditionHolds 150 = .ok (.goto 24, 3) := by decide +kernel
theorem dX8_conditionHolds_153 : decode cX8_conditionHolds 153 = .ok (.iload 10, 2) := by decide +kernel
theorem dX8_conditionHolds_155 : decode cX8_conditionHolds 155 = .ok (.invokestatic 45, 3) := by decide +kernel
theorem dX8_conditionHolds_158 : decode cX8_conditionHolds 158 = .ok (.ifCond .eq 16, 3) := by decide +kernel
theorem dX8_conditionHolds_161 : decode cX8_conditionHolds 161 = .ok (.aload_n 0, 1) := by decide +kernel
theorem dX8_conditionHolds_162 : decode cX8_conditionHolds 162 = .ok (.iload 9, 2) := by decide +kernel
theorem dX8_conditionHolds_164 : decode cX8_conditionHolds 164 = .ok (.aload_n 1, 1) := by decide +kernel
theorem dX8_conditionHolds_165 : decode cX8_conditionHolds 165 = .ok (.iload_n 2, 1) := by decide +kernel
theorem dX8_conditionHolds_166 : decode cX8_conditionHolds 166 = .ok (.invokevirtual 48, 3) := by decide +kernel
theorem dX8_conditionHolds_169 : decode cX8_conditionHolds 169 = .ok (.istore 12, 2) := by decide +kernel
theorem dX8_conditionHolds_171 : decode cX8_conditionHolds 171 = .ok (.iconst 1, 1) := by decide +kernel
theorem dX8_conditionHolds_172 : decode cX8_conditionHolds 172 = .ok (.istore 11, 2) := by decide +kernel
theorem dX8_conditionHolds_174 : decode cX8_conditionHolds 174 = .ok (.iload 11, 2) := by decide +kernel
theorem dX8_conditionHolds_176 : decode cX8_conditionHolds 176 = .ok (.ifCond .eq 55, 3) := by decide +kernel
theorem dX8_conditionHolds_179 : decode cX8_conditionHolds 179 = .ok (.iload 12, 2) := by decide +kernel
theorem dX8_conditionHolds_181 : decode cX8_conditionHolds 181 = .ok (.lload 7, 2) := by decide +kernel
theorem dX8_conditionHolds_183 : decode cX8_conditionHolds 183 = .ok (.lconst 1, 1) := by decide +kernel
theorem dX8_conditionHolds_184 : decode cX8_conditionHolds 184 = .ok (.land, 1) := by decide +kernel
theorem dX8_conditionHolds_185 : decode cX8_conditionHolds 185 = .ok (.lconst 0, 1) := by decide +kernel
theorem dX8_conditionHolds_186 : decode cX8_conditionHolds 186 = .ok (.lcmp, 1) := by decide +kernel
theorem dX8_conditionHolds_187 : decode cX8_conditionHolds 187 = .ok (.ifCond .eq 7, 3) := by decide +kernel
theorem dX8_conditionHolds_190 : decode cX8_conditionHolds 190 = .ok (.iconst 1, 1) := by decide +kernel
theorem dX8_conditionHolds_191 : decode cX8_conditionHolds 191 = .ok (.goto 4, 3) := by decide +kernel
theorem dX8_conditionHolds_194 : decode cX8_conditionHolds 194 = .ok (.iconst 0, 1) := by decide +kernel
theorem dX8_conditionHolds_195 : decode cX8_conditionHolds 195 = .ok (.if_icmp .eq 7, 3) := by decide +kernel
theorem dX8_conditionHolds_198 : decode cX8_conditionHolds 198 = .ok (.iconst 1, 1) := by decide +kernel
theorem dX8_conditionHolds_199 : decode cX8_conditionHolds 199 = .ok (.goto 4, 3) := by decide +kernel
theorem dX8_conditionHolds_202 : decode cX8_conditionHolds 202 = .ok (.iconst 0, 1) := by decide +kernel
theorem dX8_conditionHolds_203 : decode cX8_conditionHolds 203 = .ok (.istore 13, 2) := by decide +kernel
theorem dX8_conditionHolds_205 : decode cX8_conditionHolds 205 = .ok (.iload 13, 2) := by decide +kernel
theorem dX8_conditionHolds_207 : decode cX8_conditionHolds 207 = .ok (.ifCond .eq 8, 3) := by decide +kernel
theorem dX8_conditionHolds_210 : decode cX8_conditionHolds 210 = .ok (.lload 5, 2) := by decide +kernel
theorem dX8_conditionHolds_212 : decode cX8_conditionHolds 212 = .ok (.goto 9, 3) := by decide +kernel
theorem dX8_conditionHolds_215 : decode cX8_conditionHolds 215 = .ok (.lload 5, 2) := by decide +kernel
theorem dX8_conditionHolds_217 : decode cX8_conditionHolds 217 = .ok (.ldc2_w 52, 3) := by decide +kernel
theorem dX8_conditionHolds_220 : decode cX8_conditionHolds 220 = .ok (.land, 1) := by decide +kernel
theorem dX8_conditionHolds_221 : decode cX8_conditionHolds 221 = .ok (.lstore 5, 2) := by decide +kernel
theorem dX8_conditionHolds_223 : decode cX8_conditionHolds 223 = .ok (.lload 7, 2) := by decide +kernel
theorem dX8_conditionHolds_225 : decode cX8_conditionHolds 225 = .ok (.ldc2_w 52, 3) := by decide +kernel
theorem dX8_conditionHolds_228 : decode cX8_conditionHolds 228 = .ok (.land, 1) := by decide +kernel
theorem dX8_conditionHolds_229 : decode cX8_conditionHolds 229 = .ok (.lstore 7, 2) := by decide +kernel
theorem dX8_conditionHolds_231 : decode cX8_conditionHolds 231 = .ok (.iinc 9 1, 3) := by decide +kernel
theorem dX8_conditionHolds_234 : decode cX8_conditionHolds 234 = .ok (.goto (-220), 3) := by decide +kernel
theorem dX8_conditionHolds_237 : decode cX8_conditionHolds 237 = .ok (.lload_n 3, 1) := by decide +kernel
theorem dX8_conditionHolds_238 : decode cX8_conditionHolds 238 = .ok (.lload 5, 2) := by decide +kernel
theorem dX8_conditionHolds_240 : decode cX8_conditionHolds 240 = .ok (.lor, 1) := by decide +kernel
theorem dX8_conditionHolds_241 : decode cX8_conditionHolds 241 = .ok (.lconst 1, 1) := by decide +kernel
theorem dX8_conditionHolds_242 : decode cX8_conditionHolds 242 = .ok (.land, 1) := by decide +kernel
theorem dX8_conditionHolds_243 : decode cX8_conditionHolds 243 = .ok (.lconst 0, 1) := by decide +kernel
theorem dX8_conditionHolds_244 : decode cX8_conditionHolds 244 = .ok (.lcmp, 1) := by decide +kernel
theorem dX8_conditionHolds_245 : decode cX8_conditionHolds 245 = .ok (.ifCond .eq 7, 3) := by decide +kernel
theorem dX8_conditionHolds_248 : decode cX8_conditionHolds 248 = .ok (.iconst 1, 1) := by decide +kernel
theorem dX8_conditionHolds_249 : decode cX8_conditionHolds 249 = .ok (.goto 4, 3) := by decide +kernel
theorem dX8_conditionHolds_252 : decode cX8_conditionHolds 252 = .ok (.iconst 0, 1) := by decide +kernel
theorem dX8_conditionHolds_253 : decode cX8_conditionHolds 253 = .ok (.ireturn, 1) := by decide +kernel
theorem dX8_compares_0 : decode cX8_compares 0 = .ok (.iload_n 1, 1) := by decide +kernel
theorem dX8_compares_1 : decode cX8_compares 1 = .ok (.ifCond .le 14, 3) := by decide +kernel
theorem dX8_compares_4 : decode cX8_compares 4 = .ok (.aload_n 0, 1) := by decide +kernel
theorem dX8_compares_5 : decode cX8_compares 5 = .ok (.getfield 15, 3) := by decide +kernel
theorem dX8_compares_8 : decode cX8_compares 8 = .ok (.iload_n 1, 1) := by decide +kernel
theorem dX8_compares_9 : decode cX8_compares 9 = .ok (.iconst 1, 1) := by decide +kernel
theorem dX8_compares_10 : decode cX8_compares 10 = .ok (.isub, 1) := by decide +kernel
theorem dX8_compares_11 : decode cX8_compares 11 = .ok (.baload, 1) := by decide +kernel
theorem dX8_compares_12 : decode cX8_compares 12 = .ok (.goto 4, 3) := by decide +kernel
theorem dX8_compares_15 : decode cX8_compares 15 = .ok (.iconst 0, 1) := by decide +kernel
theorem dX8_compares_16 : decode cX8_compares 16 = .ok (.aload_n 2, 1) := by decide +kernel
theorem dX8_compares_17 : decode cX8_compares 17 = .ok (.iload_n 3, 1) := by decide +kernel
theorem dX8_compares_18 : decode cX8_compares 18 = .ok (.invokestatic 54, 3) := by decide +kernel
theorem dX8_compares_21 : decode cX8_compares 21 = .ok (.istore 4, 2) := by decide +kernel
theorem dX8_compares_23 : decode cX8_compares 23 = .ok (.iconst 0, 1) := by decide +kernel
theorem dX8_compares_24 : decode cX8_compares 24 = .ok (.istore 5, 2) := by decide +kernel
theorem dX8_compares_26 : decode cX8_compares 26 = .ok (.iload_n 1, 1) := by decide +kernel
theorem dX8_compares_27 : decode cX8_compares 27 = .ok (.iconst 1, 1) := by decide +kernel
theorem dX8_compares_28 : decode cX8_compares 28 = .ok (.iadd, 1) := by decide +kernel
theorem dX8_compares_29 : decode cX8_compares 29 = .ok (.istore 6, 2) := by decide +kernel
theorem dX8_compares_31 : decode cX8_compares 31 = .ok (.iload 6, 2) := by decide +kernel
theorem dX8_compares_33 : decode cX8_compares 33 = .ok (.aload_n 0, 1) := by decide +kernel
theorem dX8_compares_34 : decode cX8_compares 34 = .ok (.getfield 15, 3) := by decide +kernel
theorem dX8_compares_37 : decode cX8_compares 37 = .ok (.arraylength, 1) := by decide +kernel
theorem dX8_compares_38 : decode cX8_compares 38 = .ok (.if_icmp .ge 40, 3) := by decide +kernel
theorem dX8_compares_41 : decode cX8_compares 41 = .ok (.aload_n 0, 1) := by decide +kernel
theorem dX8_compares_42 : decode cX8_compares 42 = .ok (.getfield 15, 3) := by decide +kernel
theorem dX8_compares_45 : decode cX8_compares 45 = .ok (.iload 6, 2) := by decide +kernel
theorem dX8_compares_47 : decode cX8_compares 47 = .ok (.baload, 1) := by decide +kernel
theorem dX8_compares_48 : decode cX8_compares 48 = .ok (.invokestatic 22, 3) := by decide +kernel
theorem dX8_compares_51 : decode cX8_compares 51 = .ok (.ifCond .eq 27, 3) := by decide +kernel
theorem dX8_compares_54 : decode cX8_compares 54 = .ok (.bipush 10, 2) := by decide +kernel
theorem dX8_compares_56 : decode cX8_compares 56 = .ok (.iload 5, 2) := by decide +kernel
theorem dX8_compares_58 : decode cX8_compares 58 = .ok (.imul, 1) := by decide +kernel
theorem dX8_compares_59 : decode cX8_compares 59 = .ok (.aload_n 0, 1) := by decide +kernel
theorem dX8_compares_60 : decode cX8_compares 60 = .ok (.getfield 15, 3) := by decide +kernel
theorem dX8_compares_63 : decode cX8_compares 63 = .ok (.iload 6, 2) := by decide +kernel
theorem dX8_compares_65 : decode cX8_compares 65 = .ok (.baload, 1) := by decide +kernel
theorem dX8_compares_66 : decode cX8_compares 66 = .ok (.iadd, 1) := by decide +kernel
theorem dX8_compares_67 : decode cX8_compares 67 = .ok (.bipush 48, 2) := by decide +kernel
theorem dX8_compares_69 : decode cX8_compares 69 = .ok (.isub, 1) := by decide +kernel
theorem dX8_compares_70 : decode cX8_compares 70 = .ok (.istore 5, 2) := by decide +kernel
theorem dX8_compares_72 : decode cX8_compares 72 = .ok (.iinc 6 1, 3) := by decide +kernel
theorem dX8_compares_75 : decode cX8_compares 75 = .ok (.goto (-44), 3) := by decide +kernel
theorem dX8_compares_78 : decode cX8_compares 78 = .ok (.aload_n 0, 1) := by decide +kernel
theorem dX8_compares_79 : decode cX8_compares 79 = .ok (.getfield 15, 3) := by decide +kernel
theorem dX8_compares_82 : decode cX8_compares 82 = .ok (.iload_n 1, 1) := by decide +kernel
theorem dX8_compares_83 : decode cX8_compares 83 = .ok (.baload, 1) := by decide +kernel
theorem dX8_compares_84 : decode cX8_compares 84 = .ok (.bipush 60, 2) := by decide +kernel
theorem dX8_compares_86 : decode cX8_compares 86 = .ok (.if_icmp .ne 16, 3) := by decide +kernel
theorem dX8_compares_89 : decode cX8_compares 89 = .ok (.iload 4, 2) := by decide +kernel
theorem dX8_compares_91 : decode cX8_compares 91 = .ok (.iload 5, 2) := by decide +kernel
theorem dX8_compares_93 : decode cX8_compares 93 = .ok (.if_icmp .ge 7, 3) := by decide +kernel
theorem dX8_compares_96 : decode cX8_compares 96 = .ok (.iconst 1, 1) := by decide +kernel
theorem dX8_compares_97 : decode cX8_compares 97 = .ok (.goto 4, 3) := by decide +kernel
theorem dX8_compares_100 : decode cX8_compares 100 = .ok (.iconst 0, 1) := by decide +kernel
theorem dX8_compares_101 : decode cX8_compares 101 = .ok (.ireturn, 1) := by decide +kernel
theorem dX8_compares_102 : decode cX8_compares 102 = .ok (.aload_n 0, 1) := by decide +kernel
theorem dX8_compares_103 : decode cX8_compares 103 = .ok (.getfield 15, 3) := by decide +kernel
theorem dX8_compares_106 : decode cX8_compares 106 = .ok (.iload_n 1, 1) := by decide +kernel
theorem dX8_compares_107 : decode cX8_compares 107 = .ok (.baload, 1) := by decide +kernel
theorem dX8_compares_108 : decode cX8_compares 108 = .ok (.bipush 61, 2) := by decide +kernel
theorem dX8_compares_110 : decode cX8_compares 110 = .ok (.if_icmp .ne 18, 3) := by decide +kernel
theorem dX8_compares_113 : decode cX8_compares 113 = .ok (.iload 4, 2) := by decide +kernel
theorem dX8_compares_115 : decode cX8_compares 115 = .ok (.iload 5, 2) := by decide +kernel
theorem dX8_compares_117 : decode cX8_compares 117 = .ok (.if_icmp .ne 7, 3) := by decide +kernel
theorem dX8_compares_120 : decode cX8_compares 120 = .ok (.iconst 1, 1) := by decide +kernel
theorem dX8_compares_121 : decode cX8_compares 121 = .ok (.goto 19, 3) := by decide +kernel
theorem dX8_compares_124 : decode cX8_compares 124 = .ok (.iconst 0, 1) := by decide +kernel
theorem dX8_compares_125 : decode cX8_compares 125 = .ok (.goto 15, 3) := by decide +kernel
theorem dX8_compares_128 : decode cX8_compares 128 = .ok (.iload 4, 2) := by decide +kernel
theorem dX8_compares_130 : decode cX8_compares 130 = .ok (.iload 5, 2) := by decide +kernel
theorem dX8_compares_132 : decode cX8_compares 132 = .ok (.if_icmp .le 7, 3) := by decide +kernel
theorem dX8_compares_135 : decode cX8_compares 135 = .ok (.iconst 1, 1) := by decide +kernel
theorem dX8_compares_136 : decode cX8_compares 136 = .ok (.goto 4, 3) := by decide +kernel
theorem dX8_compares_139 : decode cX8_compares 139 = .ok (.iconst 0, 1) := by decide +kernel
theorem dX8_compares_140 : decode cX8_compares 140 = .ok (.ireturn, 1) := by decide +kernel
theorem dX8_valueOf_0 : decode cX8_valueOf 0 = .ok (.iload_n 0, 1) := by decide +kernel
theorem dX8_valueOf_1 : decode cX8_valueOf 1 = .ok (.lookupswitch 63 #[(99, 58), (103, 53), (108, 43), (109, 48)], 43) := by decide +kernel
theorem dX8_valueOf_44 : decode cX8_valueOf 44 = .ok (.aload_n 1, 1) := by decide +kernel
theorem dX8_valueOf_45 : decode cX8_valueOf 45 = .ok (.getfield 58, 3) := by decide +kernel
theorem dX8_valueOf_48 : decode cX8_valueOf 48 = .ok (.ireturn, 1) := by decide +kernel
theorem dX8_valueOf_49 : decode cX8_valueOf 49 = .ok (.aload_n 1, 1) := by decide +kernel
theorem dX8_valueOf_50 : decode cX8_valueOf 50 = .ok (.getfield 63, 3) := by decide +kernel
theorem dX8_valueOf_53 : decode cX8_valueOf 53 = .ok (.ireturn, 1) := by decide +kernel
theorem dX8_valueOf_54 : decode cX8_valueOf 54 = .ok (.aload_n 1, 1) := by decide +kernel
theorem dX8_valueOf_55 : decode cX8_valueOf 55 = .ok (.getfield 66, 3) := by decide +kernel
theorem dX8_valueOf_58 : decode cX8_valueOf 58 = .ok (.ireturn, 1) := by decide +kernel
theorem dX8_valueOf_59 : decode cX8_valueOf 59 = .ok (.aload_n 1, 1) := by decide +kernel
theorem dX8_valueOf_60 : decode cX8_valueOf 60 = .ok (.getfield 69, 3) := by decide +kernel
theorem dX8_valueOf_63 : decode cX8_valueOf 63 = .ok (.ireturn, 1) := by decide +kernel
theorem dX8_valueOf_64 : decode cX8_valueOf 64 = .ok (.iload_n 2, 1) := by decide +kernel
theorem dX8_valueOf_65 : decode cX8_valueOf 65 = .ok (.ireturn, 1) := by decide +kernel
theorem dX8_isSign_0 : decode cX8_isSign 0 = .ok (.iload_n 0, 1) := by decide +kernel
theorem dX8_isSign_1 : decode cX8_isSign 1 = .ok (.bipush 60, 2) := by decide +kernel
theorem dX8_isSign_3 : decode cX8_isSign 3 = .ok (.if_icmp .eq 15, 3) := by decide +kernel
theorem dX8_isSign_6 : decode cX8_isSign 6 = .ok (.iload_n 0, 1) := by decide +kernel
theorem dX8_isSign_7 : decode cX8_isSign 7 = .ok (.bipush 61, 2) := by decide +kernel
theorem dX8_isSign_9 : decode cX8_isSign 9 = .ok (.if_icmp .eq 9, 3) := by decide +kernel
theorem dX8_isSign_12 : decode cX8_isSign 12 = .ok (.iload_n 0, 1) := by decide +kernel
theorem dX8_isSign_13 : decode cX8_isSign 13 = .ok (.bipush 62, 2) := by decide +kernel
theorem dX8_isSign_15 : decode cX8_isSign 15 = .ok (.if_icmp .ne 7, 3) := by decide +kernel
theorem dX8_isSign_18 : decode cX8_isSign 18 = .ok (.iconst 1, 1) := by decide +kernel
theorem dX8_isSign_19 : decode cX8_isSign 19 = .ok (.goto 4, 3) := by decide +kernel
theorem dX8_isSign_22 : decode cX8_isSign 22 = .ok (.iconst 0, 1) := by decide +kernel
theorem dX8_isSign_23 : decode cX8_isSign 23 = .ok (.ireturn, 1) := by decide +kernel
theorem dX9_init_0 : decode cX9_init 0 = .ok (.aload_n 0, 1) := by decide +kernel
theorem dX9_init_1 : decode cX9_init 1 = .ok (.invokespecial 5, 3) := by decide +kernel
theorem dX9_init_4 : decode cX9_init 4 = .ok (.aload_n 0, 1) := by decide +kernel
theorem dX9_init_5 : decode cX9_init 5 = .ok (.bipush 8, 2) := by decide +kernel
theorem dX9_init_7 : decode cX9_init 7 = .ok (.newarray .boolean, 2) := by decide +kernel
theorem dX9_init_9 : decode cX9_init 9 = .ok (.putfield 11, 3) := by decide +kernel
theorem dX9_init_12 : decode cX9_init 12 = .ok (.aload_n 0, 1) := by decide +kernel
theorem dX9_init_13 : decode cX9_init 13 = .ok (.bipush 8, 2) := by decide +kernel
theorem dX9_init_15 : decode cX9_init 15 = .ok (.newarray .int, 2) := by decide +kernel
theorem dX9_init_17 : decode cX9_init 17 = .ok (.putfield 15, 3) := by decide +kernel
theorem dX9_init_20 : decode cX9_init 20 = .ok (.aload_n 0, 1) := by decide +kernel
theorem dX9_init_21 : decode cX9_init 21 = .ok (.bipush 8, 2) := by decide +kernel
theorem dX9_init_23 : decode cX9_init 23 = .ok (.newarray .int, 2) := by decide +kernel
theorem dX9_init_25 : decode cX9_init 25 = .ok (.putfield 19, 3) := by decide +kernel
theorem dX9_init_28 : decode cX9_init 28 = .ok (.aload_n 0, 1) := by decide +kernel
theorem dX9_init_29 : decode cX9_init 29 = .ok (.bipush 8, 2) := by decide +kernel
theorem dX9_init_31 : decode cX9_init 31 = .ok (.newarray .int, 2) := by decide +kernel
theorem dX9_init_33 : decode cX9_init 33 = .ok (.putfield 22, 3) := by decide +kernel
theorem dX9_init_36 : decode cX9_init 36 = .ok (.return_, 1) := by decide +kernel
theorem dX9_add_0 : decode cX9_add 0 = .ok (.aload_n 0, 1) := by decide +kernel
theorem dX9_add_1 : decode cX9_add 1 = .ok (.getfield 25, 3) := by decide +kernel
theorem dX9_add_4 : decode cX9_add 4 = .ok (.bipush 8, 2) := by decide +kernel
theorem dX9_add_6 : decode cX9_add 6 = .ok (.if_icmp .lt 6, 3) := by decide +kernel
theorem dX9_add_9 : decode cX9_add 9 = .ok (.bipush (-104), 2) := by decide +kernel
theorem dX9_add_11 : decode cX9_add 11 = .ok (.ireturn, 1) := by decide +kernel
theorem dX9_add_12 : decode cX9_add 12 = .ok (.aload_n 0, 1) := by decide +kernel
theorem dX9_add_13 : decode cX9_add 13 = .ok (.getfield 11, 3) := by decide +kernel
theorem dX9_add_16 : decode cX9_add 16 = .ok (.aload_n 0, 1) := by decide +kernel
theorem dX9_add_17 : decode cX9_add 17 = .ok (.getfield 25, 3) := by decide +kernel
theorem dX9_add_20 : decode cX9_add 20 = .ok (.iload_n 1, 1) := by decide +kernel
theorem dX9_add_21 : decode cX9_add 21 = .ok (.bastore, 1) := by decide +kernel
theorem dX9_add_22 : decode cX9_add 22 = .ok (.aload_n 0, 1) := by decide +kernel
theorem dX9_add_23 : decode cX9_add 23 = .ok (.getfield 15, 3) := by decide +kernel
theorem dX9_add_26 : decode cX9_add 26 = .ok (.aload_n 0, 1) := by decide +kernel
theorem dX9_add_27 : decode cX9_add 27 = .ok (.getfield 25, 3) := by decide +kernel
theorem dX9_add_30 : decode cX9_add 30 = .ok (.iload_n 2, 1) := by decide +kernel
theorem dX9_add_31 : decode cX9_add 31 = .ok (.iastore, 1) := by decide +kernel
theorem dX9_add_32 : decode cX9_add 32 = .ok (.aload_n 0, 1) := by decide +kernel
theorem dX9_add_33 : decode cX9_add 33 = .ok (.getfield 19, 3) := by decide +kernel
theorem dX9_add_36 : decode cX9_add 36 = .ok (.aload_n 0, 1) := by decide +kernel
theorem dX9_add_37 : decode cX9_add 37 = .ok (.getfield 25, 3) := by decide +kernel
theorem dX9_add_40 : decode cX9_add 40 = .ok (.iload_n 3, 1) := by decide +kernel
theorem dX9_add_41 : decode cX9_add 41 = .ok (.iastore, 1) := by decide +kernel
theorem dX9_add_42 : decode cX9_add 42 = .ok (.aload_n 0, 1) := by decide +kernel
theorem dX9_add_43 : decode cX9_add 43 = .ok (.iconst 0, 1) := by decide +kernel
theorem dX9_add_44 : decode cX9_add 44 = .ok (.putfield 29, 3) := by decide +kernel
theorem dX9_add_47 : decode cX9_add 47 = .ok (.aload_n 0, 1) := by decide +kernel
theorem dX9_add_48 : decode cX9_add 48 = .ok (.dup, 1) := by decide +kernel
theorem dX9_add_49 : decode cX9_add 49 = .ok (.getfield 25, 3) := by decide +kernel
theorem dX9_add_52 : decode cX9_add 52 = .ok (.dup_x1, 1) := by decide +kernel
theorem dX9_add_53 : decode cX9_add 53 = .ok (.iconst 1, 1) := by decide +kernel
theorem dX9_add_54 : decode cX9_add 54 = .ok (.iadd, 1) := by decide +kernel
theorem dX9_add_55 : decode cX9_add 55 = .ok (.putfield 25, 3) := by decide +kernel
theorem dX9_add_58 : decode cX9_add 58 = .ok (.ireturn, 1) := by decide +kernel
theorem dX9_removeAll_0 : decode cX9_removeAll 0 = .ok (.aload_n 0, 1) := by decide +kernel
theorem dX9_removeAll_1 : decode cX9_removeAll 1 = .ok (.getfield 25, 3) := by decide +kernel
theorem dX9_removeAll_4 : decode cX9_removeAll 4 = .ok (.istore_n 1, 1) := by decide +kernel
theorem dX9_removeAll_5 : decode cX9_removeAll 5 = .ok (.aload_n 0, 1) := by decide +kernel
theorem dX9_removeAll_6 : decode cX9_removeAll 6 = .ok (.iconst 0, 1) := by decide +kernel
theorem dX9_removeAll_7 : decode cX9_removeAll 7 = .ok (.putfield 25, 3) := by decide +kernel
theorem dX9_removeAll_10 : decode cX9_removeAll 10 = .ok (.aload_n 0, 1) := by decide +kernel
theorem dX9_removeAll_11 : decode cX9_removeAll 11 = .ok (.iconst 0, 1) := by decide +kernel
theorem dX9_removeAll_12 : decode cX9_removeAll 12 = .ok (.putfield 29, 3) := by decide +kernel
theorem dX9_removeAll_15 : decode cX9_removeAll 15 = .ok (.iload_n 1, 1) := by decide +kernel
theorem dX9_removeAll_16 : decode cX9_removeAll 16 = .ok (.ireturn, 1) := by decide +kernel
theorem dX9_bestAt_0 : decode cX9_bestAt 0 = .ok (.aload_n 0, 1) := by decide +kernel
theorem dX9_bestAt_1 : decode cX9_bestAt 1 = .ok (.getfield 33, 3) := by decide +kernel
theorem dX9_bestAt_4 : decode cX9_bestAt 4 = .ok (.iconst (-1), 1) := by decide +kernel
theorem dX9_bestAt_5 : decode cX9_bestAt 5 = .ok (.if_icmp .eq 26, 3) := by decide +kernel
theorem dX9_bestAt_8 : decode cX9_bestAt 8 = .ok (.iload_n 1, 1) := by decide +kernel
theorem dX9_bestAt_9 : decode cX9_bestAt 9 = .ok (.iconst 0, 1) := by decide +kernel
theorem dX9_bestAt_10 : decode cX9_bestAt 10 = .ok (.aload_n 0, 1) := by decide +kernel
theorem dX9_bestAt_11 : decode cX9_bestAt 11 = .ok (.getfield 25, 3) := by decide +kernel
theorem dX9_bestAt_14 : decode cX9_bestAt 14 = .ok (.iconst 1, 1) := by decide +kernel
theorem dX9_bestAt_15 : decode cX9_bestAt 15 = .ok (.isub, 1) := by decide +kernel
theorem dX9_bestAt_16 : decode cX9_bestAt 16 = .ok (.invokestatic 36, 3) := by decide +kernel
theorem dX9_bestAt_19 : decode cX9_bestAt 19 = .ok (.ifCond .eq 12, 3) := by decide +kernel
theorem dX9_bestAt_22 : decode cX9_bestAt 22 = .ok (.aload_n 0, 1) := by decide +kernel
theorem dX9_bestAt_23 : decode cX9_bestAt 23 = .ok (.getfield 22, 3) := by decide +kernel
theorem dX9_bestAt_26 : decode cX9_bestAt 26 = .ok (.iload_n 1, 1) := by decide +kernel
theorem dX9_bestAt_27 : decode cX9_bestAt 27 = .ok (.iaload, 1) := by decide +kernel
theorem dX9_bestAt_28 : decode cX9_bestAt 28 = .ok (.goto 4, 3) := by decide +kernel
theorem dX9_bestAt_31 : decode cX9_bestAt 31 = .ok (.iconst (-1), 1) := by decide +kernel
theorem dX9_bestAt_32 : decode cX9_bestAt 32 = .ok (.ireturn, 1) := by decide +kernel
theorem dX9_isOrder_0 : decode cX9_isOrder 0 = .ok (.iload_n 1, 1) := by decide +kernel
theorem dX9_isOrder_1 : decode cX9_isOrder 1 = .ok (.iconst 0, 1) := by decide +kernel
theorem dX9_isOrder_2 : decode cX9_isOrder 2 = .ok (.iconst 1, 1) := by decide +kernel
theorem dX9_isOrder_3 : decode cX9_isOrder 3 = .ok (.iconst 3, 1) := by decide +kernel
theorem dX9_isOrder_4 : decode cX9_isOrder 4 = .ok (.aload_n 0, 1) := by decide +kernel
theorem dX9_isOrder_5 : decode cX9_isOrder 5 = .ok (.getfield 25, 3) := by decide +kernel
theorem dX9_isOrder_8 : decode cX9_isOrder 8 = .ok (.imul, 1) := by decide +kernel
theorem dX9_isOrder_9 : decode cX9_isOrder 9 = .ok (.ishl, 1) := by decide +kernel
theorem dX9_isOrder_10 : decode cX9_isOrder 10 = .ok (.iconst 1, 1) := by decide +kernel
theorem dX9_isOrder_11 : decode cX9_isOrder 11 = .ok (.isub, 1) := by decide +kernel
theorem dX9_isOrder_12 : decode cX9_isOrder 12 = .ok (.invokestatic 36, 3) := by decide +kernel
theorem dX9_isOrder_15 : decode cX9_isOrder 15 = .ok (.ifCond .ne 5, 3) := by decide +kernel
theorem dX9_isOrder_18 : decode cX9_isOrder 18 = .ok (.iconst 0, 1) := by decide +kernel
theorem dX9_isOrder_19 : decode cX9_isOrder 19 = .ok (.ireturn, 1) := by decide +kernel
theorem dX9_isOrder_20 : decode cX9_isOrder 20 = .ok (.iconst 0, 1) := by decide +kernel
theorem dX9_isOrder_21 : decode cX9_isOrder 21 = .ok (.istore_n 2, 1) := by decide +kernel
theorem dX9_isOrder_22 : decode cX9_isOrder 22 = .ok (.iconst 0, 1) := by decide +kernel
theorem dX9_isOrder_23 : decode cX9_isOrder 23 = .ok (.istore_n 3, 1) := by decide +kernel
theorem dX9_isOrder_24 : decode cX9_isOrder 24 = .ok (.iload_n 3, 1) := by decide +kernel
theorem dX9_isOrder_25 : decode cX9_isOrder 25 = .ok (.aload_n 0, 1) := by decide +kernel
theorem dX9_isOrder_26 : decode cX9_isOrder 26 = .ok (.getfield 25, 3) := by decide +kernel
theorem dX9_isOrder_29 : decode cX9_isOrder 29 = .ok (.if_icmp .ge 20, 3) := by decide +kernel
theorem dX9_isOrder_32 : decode cX9_isOrder 32 = .ok (.iload_n 2, 1) := by decide +kernel
theorem dX9_isOrder_33 : decode cX9_isOrder 33 = .ok (.iconst 1, 1) := by decide +kernel
theorem dX9_isOrder_34 : decode cX9_isOrder 34 = .ok (.aload_n 0, 1) := by decide +kernel
theorem dX9_isOrder_35 : decode cX9_isOrder 35 = .ok (.iload_n 1, 1) := by decide +kernel
theorem dX9_isOrder_36 : decode cX9_isOrder 36 = .ok (.iload_n 3, 1) := by decide +kernel
theorem dX9_isOrder_37 : decode cX9_isOrder 37 = .ok (.invokevirtual 40, 3) := by decide +kernel
theorem dX9_isOrder_40 : decode cX9_isOrder 40 = .ok (.ishl, 1) := by decide +kernel
theorem dX9_isOrder_41 : decode cX9_isOrder 41 = .ok (.ior, 1) := by decide +kernel
theorem dX9_isOrder_42 : decode cX9_isOrder 42 = .ok (.istore_n 2, 1) := by decide +kernel
theorem dX9_isOrder_43 : decode cX9_isOrder 43 = .ok (.iinc 3 1, 3) := by decide +kernel
theorem dX9_isOrder_46 : decode cX9_isOrder 46 = .ok (.goto (-22), 3) := by decide +kernel
theorem dX9_isOrder_49 : decode cX9_isOrder 49 = .ok (.iload_n 2, 1) := by decide +kernel
theorem dX9_isOrder_50 : decode cX9_isOrder 50 = .ok (.iconst 1, 1) := by decide +kernel
theorem dX9_isOrder_51 : decode cX9_isOrder 51 = .ok (.aload_n 0, 1) := by decide +kernel
theorem dX9_isOrder_52 : decode cX9_isOrder 52 = .ok (.getfield 25, 3) := by decide +kernel
theorem dX9_isOrder_55 : decode cX9_isOrder 55 = .ok (.ishl, 1) := by decide +kernel
theorem dX9_isOrder_56 : decode cX9_isOrder 56 = .ok (.iconst 1, 1) := by decide +kernel
theorem dX9_isOrder_57 : decode cX9_isOrder 57 = .ok (.isub, 1) := by decide +kernel
theorem dX9_isOrder_58 : decode cX9_isOrder 58 = .ok (.if_icmp .ne 7, 3) := by decide +kernel
theorem dX9_isOrder_61 : decode cX9_isOrder 61 = .ok (.iconst 1, 1) := by decide +kernel
theorem dX9_isOrder_62 : decode cX9_isOrder 62 = .ok (.goto 4, 3) := by decide +kernel
theorem dX9_isOrder_65 : decode cX9_isOrder 65 = .ok (.iconst 0, 1) := by decide +kernel
theorem dX9_isOrder_66 : decode cX9_isOrder 66 = .ok (.ireturn, 1) := by decide +kernel
theorem dX9_comerAt_0 : decode cX9_comerAt 0 = .ok (.iload_n 1, 1) := by decide +kernel
theorem dX9_comerAt_1 : decode cX9_comerAt 1 = .ok (.iconst 3, 1) := by decide +kernel
theorem dX9_comerAt_2 : decode cX9_comerAt 2 = .ok (.aload_n 0, 1) := by decide +kernel
theorem dX9_comerAt_3 : decode cX9_comerAt 3 = .ok (.getfield 25, 3) := by decide +kernel
theorem dX9_comerAt_6 : decode cX9_comerAt 6 = .ok (.iconst 1, 1) := by decide +kernel
theorem dX9_comerAt_7 : decode cX9_comerAt 7 = .ok (.isub, 1) := by decide +kernel
theorem dX9_comerAt_8 : decode cX9_comerAt 8 = .ok (.iload_n 2, 1) := by decide +kernel
theorem dX9_comerAt_9 : decode cX9_comerAt 9 = .ok (.isub, 1) := by decide +kernel
theorem dX9_comerAt_10 : decode cX9_comerAt 10 = .ok (.imul, 1) := by decide +kernel
theorem dX9_comerAt_11 : decode cX9_comerAt 11 = .ok (.ishr, 1) := by decide +kernel
theorem dX9_comerAt_12 : decode cX9_comerAt 12 = .ok (.bipush 7, 2) := by decide +kernel
theorem dX9_comerAt_14 : decode cX9_comerAt 14 = .ok (.iand, 1) := by decide +kernel
theorem dX9_comerAt_15 : decode cX9_comerAt 15 = .ok (.ireturn, 1) := by decide +kernel
theorem dX9_fillingsOf_0 : decode cX9_fillingsOf 0 = .ok (.iconst (-1), 1) := by decide +kernel
theorem dX9_fillingsOf_1 : decode cX9_fillingsOf 1 = .ok (.istore_n 2, 1) := by decide +kernel
theorem dX9_fillingsOf_2 : decode cX9_fillingsOf 2 = .ok (.iconst 0, 1) := by decide +kernel
theorem dX9_fillingsOf_3 : decode cX9_fillingsOf 3 = .ok (.istore_n 3, 1) := by decide +kernel
theorem dX9_fillingsOf_4 : decode cX9_fillingsOf 4 = .ok (.iconst 0, 1) := by decide +kernel
theorem dX9_fillingsOf_5 : decode cX9_fillingsOf 5 = .ok (.istore 4, 2) := by decide +kernel
theorem dX9_fillingsOf_7 : decode cX9_fillingsOf 7 = .ok (.iconst 0, 1) := by decide +kernel
theorem dX9_fillingsOf_8 : decode cX9_fillingsOf 8 = .ok (.istore 5, 2) := by decide +kernel
theorem dX9_fillingsOf_10 : decode cX9_fillingsOf 10 = .ok (.iload 5, 2) := by decide +kernel
theorem dX9_fillingsOf_12 : decode cX9_fillingsOf 12 = .ok (.aload_n 0, 1) := by decide +kernel
theorem dX9_fillingsOf_13 : decode cX9_fillingsOf 13 = .ok (.getfield 25, 3) := by decide +kernel
theorem dX9_fillingsOf_16 : decode cX9_fillingsOf 16 = .ok (.if_icmp .ge 63, 3) := by decide +kernel
theorem dX9_fillingsOf_19 : decode cX9_fillingsOf 19 = .ok (.aload_n 0, 1) := by decide +kernel
theorem dX9_fillingsOf_20 : decode cX9_fillingsOf 20 = .ok (.iload_n 1, 1) := by decide +kernel
theorem dX9_fillingsOf_21 : decode cX9_fillingsOf 21 = .ok (.iload 5, 2) := by decide +kernel
theorem dX9_fillingsOf_23 : decode cX9_fillingsOf 23 = .ok (.invokevirtual 40, 3) := by decide +kernel
theorem dX9_fillingsOf_26 : decode cX9_fillingsOf 26 = .ok (.istore 6, 2) := by decide +kernel
theorem dX9_fillingsOf_28 : decode cX9_fillingsOf 28 = .ok (.aload_n 0, 1) := by decide +kernel
theorem dX9_fillingsOf_29 : decode cX9_fillingsOf 29 = .ok (.iload 6, 2) := by decide +kernel
theorem dX9_fillingsOf_31 : decode cX9_fillingsOf 31 = .ok (.iload_n 2, 1) := by decide +kernel
theorem dX9_fillingsOf_32 : decode cX9_fillingsOf 32 = .ok (.invokevirtual 44, 3) := by decide +kernel
theorem dX9_fillingsOf_35 : decode cX9_fillingsOf 35 = .ok (.istore_n 2, 1) := by decide +kernel
theorem dX9_fillingsOf_36 : decode cX9_fillingsOf 36 = .ok (.iload_n 2, 1) := by decide +kernel
theorem dX9_fillingsOf_37 : decode cX9_fillingsOf 37 = .ok (.aload_n 0, 1) := by decide +kernel
theorem dX9_fillingsOf_38 : decode cX9_fillingsOf 38 = .ok (.getfield 19, 3) := by decide +kernel
theorem dX9_fillingsOf_41 : decode cX9_fillingsOf 41 = .ok (.iload 6, 2) := by decide +kernel
theorem dX9_fillingsOf_43 : decode cX9_fillingsOf 43 = .ok (.iaload, 1) := by decide +kernel
theorem dX9_fillingsOf_44 : decode cX9_fillingsOf 44 = .ok (.if_icmp .le 10, 3) := by decide +kernel
theorem dX9_fillingsOf_47 : decode cX9_fillingsOf 47 = .ok (.sipush (-1000), 3) := by decide +kernel
theorem dX9_fillingsOf_50 : decode cX9_fillingsOf 50 = .ok (.iload 5, 2) := by decide +kernel
theorem dX9_fillingsOf_52 : decode cX9_fillingsOf 52 = .ok (.isub, 1) := by decide +kernel
theorem dX9_fillingsOf_53 : decode cX9_fillingsOf 53 = .ok (.ireturn, 1) := by decide +kernel
theorem dX9_fillingsOf_54 : decode cX9_fillingsOf 54 = .ok (.iload 4, 2) := by decide +kernel
theorem dX9_fillingsOf_56 : decode cX9_fillingsOf 56 = .ok (.aload_n 0, 1) := by decide +kernel
theorem dX9_fillingsOf_57 : decode cX9_fillingsOf 57 = .ok (.iload 6, 2) := by decide +kernel
theorem dX9_fillingsOf_59 : decode cX9_fillingsOf 59 = .ok (.iload_n 3, 1) := by decide +kernel
theorem dX9_fillingsOf_60 : decode cX9_fillingsOf 60 = .ok (.invokevirtual 47, 3) := by decide +kernel
theorem dX9_fillingsOf_63 : decode cX9_fillingsOf 63 = .ok (.iadd, 1) := by decide +kernel
theorem dX9_fillingsOf_64 : decode cX9_fillingsOf 64 = .ok (.istore 4, 2) := by decide +kernel
theorem dX9_fillingsOf_66 : decode cX9_fillingsOf 66 = .ok (.aload_n 0, 1) := by decide +kernel
theorem dX9_fillingsOf_67 : decode cX9_fillingsOf 67 = .ok (.iload 6, 2) := by decide +kernel
theorem dX9_fillingsOf_69 : decode cX9_fillingsOf 69 = .ok (.invokevirtual 50, 3) := by decide +kernel
theorem dX9_fillingsOf_72 : decode cX9_fillingsOf 72 = .ok (.istore_n 3, 1) := by decide +kernel
theorem dX9_fillingsOf_73 : decode cX9_fillingsOf 73 = .ok (.iinc 5 1, 3) := by decide +kernel
theorem dX9_fillingsOf_76 : decode cX9_fillingsOf 76 = .ok (.goto (-66), 3) := by decide +kernel
theorem dX9_fillingsOf_79 : decode cX9_fillingsOf 79 = .ok (.iload 4, 2) := by decide +kernel
theorem dX9_fillingsOf_81 : decode cX9_fillingsOf 81 = .ok (.ireturn, 1) := by decide +kernel
theorem dX9_hourOf_0 : decode cX9_hourOf 0 = .ok (.iload_n 2, 1) := by decide +kernel
theorem dX9_hourOf_1 : decode cX9_hourOf 1 = .ok (.iconst 1, 1) := by decide +kernel
theorem dX9_hourOf_2 : decode cX9_hourOf 2 = .ok (.iadd, 1) := by decide +kernel
theorem dX9_hourOf_3 : decode cX9_hourOf 3 = .ok (.aload_n 0, 1) := by decide +kernel
theorem dX9_hourOf_4 : decode cX9_hourOf 4 = .ok (.getfield 15, 3) := by decide +kernel
theorem dX9_hourOf_7 : decode cX9_hourOf 7 = .ok (.iload_n 1, 1) := by decide +kernel
theorem dX9_hourOf_8 : decode cX9_hourOf 8 = .ok (.iaload, 1) := by decide +kernel
theorem dX9_hourOf_9 : decode cX9_hourOf 9 = .ok (.invokestatic 54, 3) := by decide +kernel
theorem dX9_hourOf_12 : decode cX9_hourOf 12 = .ok (.ireturn, 1) := by decide +kernel
theorem dX9_spends_0 : decode cX9_spends 0 = .ok (.aload_n 0, 1) := by decide +kernel
theorem dX9_spends_1 : decode cX9_spends 1 = .ok (.getfield 11, 3) := by decide +kernel
theorem dX9_spends_4 : decode cX9_spends 4 = .ok (.iload_n 1, 1) := by decide +kernel
theorem dX9_spends_5 : decode cX9_spends 5 = .ok (.baload, 1) := by decide +kernel
theorem dX9_spends_6 : decode cX9_spends 6 = .ok (.ifCond .ne 7, 3) := by decide +kernel
theorem dX9_spends_9 : decode cX9_spends 9 = .ok (.iload_n 2, 1) := by decide +kernel
theorem dX9_spends_10 : decode cX9_spends 10 = .ok (.ifCond .ne 7, 3) := by decide +kernel
theorem dX9_spends_13 : decode cX9_spends 13 = .ok (.iconst 1, 1) := by decide +kernel
theorem dX9_spends_14 : decode cX9_spends 14 = .ok (.goto 4, 3) := by decide +kernel
theorem dX9_spends_17 : decode cX9_spends 17 = .ok (.iconst 0, 1) := by decide +kernel
theorem dX9_spends_18 : decode cX9_spends 18 = .ok (.ireturn, 1) := by decide +kernel
theorem dX9_stateBehind_0 : decode cX9_stateBehind 0 = .ok (.aload_n 0, 1) := by decide +kernel
theorem dX9_stateBehind_1 : decode cX9_stateBehind 1 = .ok (.getfield 11, 3) := by decide +kernel
theorem dX9_stateBehind_4 : decode cX9_stateBehind 4 = .ok (.iload_n 1, 1) := by decide +kernel
theorem dX9_stateBehind_5 : decode cX9_stateBehind 5 = .ok (.baload, 1) := by decide +kernel
theorem dX9_stateBehind_6 : decode cX9_stateBehind 6 = .ok (.ifCond .eq 7, 3) := by decide +kernel
theorem dX9_stateBehind_9 : decode cX9_stateBehind 9 = .ok (.iconst 1, 1) := by decide +kernel
theorem dX9_stateBehind_10 : decode cX9_stateBehind 10 = .ok (.goto 4, 3) := by decide +kernel
theorem dX9_stateBehind_13 : decode cX9_stateBehind 13 = .ok (.iconst 0, 1) := by decide +kernel
theorem dX9_stateBehind_14 : decode cX9_stateBehind 14 = .ok (.ireturn, 1) := by decide +kernel
theorem dX9_cell_0 : decode cX9_cell 0 = .ok (.iconst 2, 1) := by decide +kernel
theorem dX9_cell_1 : decode cX9_cell 1 = .ok (.iload_n 0, 1) := by decide +kernel
theorem dX9_cell_2 : decode cX9_cell 2 = .ok (.imul, 1) := by decide +kernel
theorem dX9_cell_3 : decode cX9_cell 3 = .ok (.iload_n 1, 1) := by decide +kernel
theorem dX9_cell_4 : decode cX9_cell 4 = .ok (.iadd, 1) := by decide +kernel
theorem dX9_cell_5 : decode cX9_cell 5 = .ok (.bipush 9, 2) := by decide +kernel
theorem dX9_cell_7 : decode cX9_cell 7 = .ok (.imul, 1) := by decide +kernel
theorem dX9_cell_8 : decode cX9_cell 8 = .ok (.iload_n 2, 1) := by decide +kernel
theorem dX9_cell_9 : decode cX9_cell 9 = .ok (.iadd, 1) := by decide +kernel
theorem dX9_cell_10 : decode cX9_cell 10 = .ok (.ireturn, 1) := by decide +kernel
theorem dX9_solve_0 : decode cX9_solve 0 = .ok (.aload_n 0, 1) := by decide +kernel
theorem dX9_solve_1 : decode cX9_solve 1 = .ok (.getfield 29, 3) := by decide +kernel
theorem dX9_solve_4 : decode cX9_solve 4 = .ok (.ifCond .eq 4, 3) := by decide +kernel
theorem dX9_solve_7 : decode cX9_solve 7 = .ok (.return_, 1) := by decide +kernel
theorem dX9_solve_8 : decode cX9_solve 8 = .ok (.aload_n 0, 1) := by decide +kernel
theorem dX9_solve_9 : decode cX9_solve 9 = .ok (.iconst 1, 1) := by decide +kernel
theorem dX9_solve_10 : decode cX9_solve 10 = .ok (.putfield 29, 3) := by decide +kernel
theorem dX9_solve_13 : decode cX9_solve 13 = .ok (.aload_n 0, 1) := by decide +kernel
theorem dX9_solve_14 : decode cX9_solve 14 = .ok (.getfield 59, 3) := by decide +kernel
theorem dX9_solve_17 : decode cX9_solve 17 = .ok (.ifnonnull 12, 3) := by decide +kernel
theorem dX9_solve_20 : decode cX9_solve 20 = .ok (.aload_n 0, 1) := by decide +kernel
theorem dX9_solve_21 : decode cX9_solve 21 = .ok (.sipush 4608, 3) := by decide +kernel
theorem dX9_solve_24 : decode cX9_solve 24 = .ok (.newarray .int, 2) := by decide +kernel
theorem dX9_solve_26 : decode cX9_solve 26 = .ok (.putfield 59, 3) := by decide +kernel
theorem dX9_solve_29 : decode cX9_solve 29 = .ok (.aload_n 0, 1) := by decide +kernel
theorem dX9_solve_30 : decode cX9_solve 30 = .ok (.invokevirtual 62, 3) := by decide +kernel
theorem dX9_solve_33 : decode cX9_solve 33 = .ok (.aload_n 0, 1) := by decide +kernel
theorem dX9_solve_34 : decode cX9_solve 34 = .ok (.invokevirtual 65, 3) := by decide +kernel
theorem dX9_solve_37 : decode cX9_solve 37 = .ok (.aload_n 0, 1) := by decide +kernel
theorem dX9_solve_38 : decode cX9_solve 38 = .ok (.getfield 33, 3) := by decide +kernel
theorem dX9_solve_41 : decode cX9_solve 41 = .ok (.iconst (-1), 1) := by decide +kernel
theorem dX9_solve_42 : decode cX9_solve 42 = .ok (.if_icmp .eq 11, 3) := by decide +kernel
theorem dX9_solve_45 : decode cX9_solve 45 = .ok (.aload_n 0, 1) := by decide +kernel
theorem dX9_solve_46 : decode cX9_solve 46 = .ok (.invokevirtual 68, 3) := by decide +kernel
theorem dX9_solve_49 : decode cX9_solve 49 = .ok (.aload_n 0, 1) := by decide +kernel
theorem dX9_solve_50 : decode cX9_solve 50 = .ok (.invokevirtual 71, 3) := by decide +kernel
theorem dX9_solve_53 : decode cX9_solve 53 = .ok (.return_, 1) := by decide +kernel
theorem dX9_fillEarliest_0 : decode cX9_fillEarliest 0 = .ok (.aload_n 0, 1) := by decide +kernel
theorem dX9_fillEarliest_1 : decode cX9_fillEarliest 1 = .ok (.getfield 59, 3) := by decide +kernel
theorem dX9_fillEarliest_4 : decode cX9_fillEarliest 4 = .ok (.sipush 1000, 3) := by decide +kernel
theorem dX9_fillEarliest_7 : decode cX9_fillEarliest 7 = .ok (.invokestatic 74, 3) := by decide +kernel
theorem dX9_fillEarliest_10 : decode cX9_fillEarliest 10 = .ok (.aload_n 0, 1) := by decide +kernel
theorem dX9_fillEarliest_11 : decode cX9_fillEarliest 11 = .ok (.getfield 59, 3) := by decide +kernel
theorem dX9_fillEarliest_14 : decode cX9_fillEarliest 14 = .ok (.iconst 0, 1) := by decide +kernel
theorem dX9_fillEarliest_15 : decode cX9_fillEarliest 15 = .ok (.iconst 0, 1) := by decide +kernel
theorem dX9_fillEarliest_16 : decode cX9_fillEarliest 16 = .ok (.iconst 0, 1) := by decide +kernel
theorem dX9_fillEarliest_17 : decode cX9_fillEarliest 17 = .ok (.invokestatic 80, 3) := by decide +kernel
theorem dX9_fillEarliest_20 : decode cX9_fillEarliest 20 = .ok (.iconst (-1), 1) := by decide +kernel
theorem dX9_fillEarliest_21 : decode cX9_fillEarliest 21 = .ok (.iastore, 1) := by decide +kernel
theorem dX9_fillEarliest_22 : decode cX9_fillEarliest 22 = .ok (.iconst 0, 1) := by decide +kernel
theorem dX9_fillEarliest_23 : decode cX9_fillEarliest 23 = .ok (.istore_n 1, 1) := by decide +kernel
theorem dX9_fillEarliest_24 : decode cX9_fillEarliest 24 = .ok (.iload_n 1, 1) := by decide +kernel
theorem dX9_fillEarliest_25 : decode cX9_fillEarliest 25 = .ok (.iconst 1, 1) := by decide +kernel
theorem dX9_fillEarliest_26 : decode cX9_fillEarliest 26 = .ok (.aload_n 0, 1) := by decide +kernel
theorem dX9_fillEarliest_27 : decode cX9_fillEarliest 27 = .ok (.getfield 25, 3) := by decide +kernel
theorem dX9_fillEarliest_30 : decode cX9_fillEarliest 30 = .ok (.ishl, 1) := by decide +kernel
theorem dX9_fillEarliest_31 : decode cX9_fillEarliest 31 = .ok (.if_icmp .ge 39, 3) := by decide +kernel
theorem dX9_fillEarliest_34 : decode cX9_fillEarliest 34 = .ok (.iconst 0, 1) := by decide +kernel
theorem dX9_fillEarliest_35 : decode cX9_fillEarliest 35 = .ok (.istore_n 2, 1) := by decide +kernel
theorem dX9_fillEarliest_36 : decode cX9_fillEarliest 36 = .ok (.iload_n 2, 1) := by decide +kernel
theorem dX9_fillEarliest_37 : decode cX9_fillEarliest 37 = .ok (.aload_n 0, 1) := by decide +kernel
theorem dX9_fillEarliest_38 : decode cX9_fillEarliest 38 = .ok (.getfield 25, 3) := by decide +kernel
theorem dX9_fillEarliest_41 : decode cX9_fillEarliest 41 = .ok (.if_icmp .gt 23, 3) := by decide +kernel
theorem dX9_fillEarliest_44 : decode cX9_fillEarliest 44 = .ok (.aload_n 0, 1) := by decide +kernel
theorem dX9_fillEarliest_45 : decode cX9_fillEarliest 45 = .ok (.iload_n 1, 1) := by decide +kernel
theorem dX9_fillEarliest_46 : decode cX9_fillEarliest 46 = .ok (.iconst 0, 1) := by decide +kernel
theorem dX9_fillEarliest_47 : decode cX9_fillEarliest 47 = .ok (.iload_n 2, 1) := by decide +kernel
theorem dX9_fillEarliest_48 : decode cX9_fillEarliest 48 = .ok (.invokevirtual 84, 3) := by decide +kernel
theorem dX9_fillEarliest_51 : decode cX9_fillEarliest 51 = .ok (.aload_n 0, 1) := by decide +kernel
theorem dX9_fillEarliest_52 : decode cX9_fillEarliest 52 = .ok (.iload_n 1, 1) := by decide +kernel
theorem dX9_fillEarliest_53 : decode cX9_fillEarliest 53 = .ok (.iconst 1, 1) := by decide +kernel
theorem dX9_fillEarliest_54 : decode cX9_fillEarliest 54 = .ok (.iload_n 2, 1) := by decide +kernel
theorem dX9_fillEarliest_55 : decode cX9_fillEarliest 55 = .ok (.invokevirtual 84, 3) := by decide +kernel
theorem dX9_fillEarliest_58 : decode cX9_fillEarliest 58 = .ok (.iinc 2 1, 3) := by decide +kernel
theorem dX9_fillEarliest_61 : decode cX9_fillEarliest 61 = .ok (.goto (-25), 3) := by decide +kernel
theorem dX9_fillEarliest_64 : decode cX9_fillEarliest 64 = .ok (.iinc 1 1, 3) := by decide +kernel
theorem dX9_fillEarliest_67 : decode cX9_fillEarliest 67 = .ok (.goto (-43), 3) := by decide +kernel
theorem dX9_fillEarliest_70 : decode cX9_fillEarliest 70 = .ok (.return_, 1) := by decide +kernel
theorem dX9_extend_0 : decode cX9_extend 0 = .ok (.aload_n 0, 1) := by decide +kernel
theorem dX9_extend_1 : decode cX9_extend 1 = .ok (.getfield 59, 3) := by decide +kernel
theorem dX9_extend_4 : decode cX9_extend 4 = .ok (.iload_n 1, 1) := by decide +kernel
theorem dX9_extend_5 : decode cX9_extend 5 = .ok (.iload_n 2, 1) := by decide +kernel
theorem dX9_extend_6 : decode cX9_extend 6 = .ok (.iload_n 3, 1) := by decide +kernel
theorem dX9_extend_7 : decode cX9_extend 7 = .ok (.invokestatic 80, 3) := by decide +kernel
theorem dX9_extend_10 : decode cX9_extend 10 = .ok (.iaload, 1) := by decide +kernel
theorem dX9_extend_11 : decode cX9_extend 11 = .ok (.istore 4, 2) := by decide +kernel
theorem dX9_extend_13 : decode cX9_extend 13 = .ok (.iload 4, 2) := by decide +kernel
theorem dX9_extend_15 : decode cX9_extend 15 = .ok (.sipush 1000, 3) := by decide +kernel
theorem dX9_extend_18 : decode cX9_extend 18 = .ok (.if_icmp .ne 4, 3) := by decide +kernel
theorem dX9_extend_21 : decode cX9_extend 21 = .ok (.return_, 1) := by decide +kernel
theorem dX9_extend_22 : decode cX9_extend 22 = .ok (.iconst 0, 1) := by decide +kernel
theorem dX9_extend_23 : decode cX9_extend 23 = .ok (.istore 5, 2) := by decide +kernel
theorem dX9_extend_25 : decode cX9_extend 25 = .ok (.iload 5, 2) := by decide +kernel
theorem dX9_extend_27 : decode cX9_extend 27 = .ok (.aload_n 0, 1) := by decide +kernel
theorem dX9_extend_28 : decode cX9_extend 28 = .ok (.getfield 25, 3) := by decide +kernel
theorem dX9_extend_31 : decode cX9_extend 31 = .ok (.if_icmp .ge 88, 3) := by decide +kernel
theorem dX9_extend_34 : decode cX9_extend 34 = .ok (.aload_n 0, 1) := by decide +kernel
theorem dX9_extend_35 : decode cX9_extend 35 = .ok (.iload 5, 2) := by decide +kernel
theorem dX9_extend_37 : decode cX9_extend 37 = .ok (.iload 4, 2) := by decide +kernel
theorem dX9_extend_39 : decode cX9_extend 39 = .ok (.invokevirtual 44, 3) := by decide +kernel
theorem dX9_extend_42 : decode cX9_extend 42 = .ok (.istore 6, 2) := by decide +kernel
theorem dX9_extend_44 : decode cX9_extend 44 = .ok (.iload_n 1, 1) := by decide +kernel
theorem dX9_extend_45 : decode cX9_extend 45 = .ok (.iload 5, 2) := by decide +kernel
theorem dX9_extend_47 : decode cX9_extend 47 = .ok (.invokestatic 88, 3) := by decide +kernel
theorem dX9_extend_50 : decode cX9_extend 50 = .ok (.ifCond .ne 63, 3) := by decide +kernel
theorem dX9_extend_53 : decode cX9_extend 53 = .ok (.iload 6, 2) := by decide +kernel
theorem dX9_extend_55 : decode cX9_extend 55 = .ok (.aload_n 0, 1) := by decide +kernel
theorem dX9_extend_56 : decode cX9_extend 56 = .ok (.getfield 19, 3) := by decide +kernel
theorem dX9_extend_59 : decode cX9_extend 59 = .ok (.iload 5, 2) := by decide +kernel
theorem dX9_extend_61 : decode cX9_extend 61 = .ok (.iaload, 1) := by decide +kernel
theorem dX9_extend_62 : decode cX9_extend 62 = .ok (.if_icmp .le 6, 3) := by decide +kernel
theorem dX9_extend_65 : decode cX9_extend 65 = .ok (.goto 48, 3) := by decide +kernel
theorem dX9_extend_68 : decode cX9_extend 68 = .ok (.iload_n 1, 1) := by decide +kernel
theorem dX9_extend_69 : decode cX9_extend 69 = .ok (.iconst 1, 1) := by decide +kernel
theorem dX9_extend_70 : decode cX9_extend 70 = .ok (.iload 5, 2) := by decide +kernel
theorem dX9_extend_72 : decode cX9_extend 72 = .ok (.ishl, 1) := by decide +kernel
theorem dX9_extend_73 : decode cX9_extend 73 = .ok (.ior, 1) := by decide +kernel
theorem dX9_extend_74 : decode cX9_extend 74 = .ok (.aload_n 0, 1) := by decide +kernel
theorem dX9_extend_75 : decode cX9_extend 75 = .ok (.iload 5, 2) := by decide +kernel
theorem dX9_extend_77 : decode cX9_extend 77 = .ok (.invokevirtual 50, 3) := by decide +kernel
theorem dX9_extend_80 : decode cX9_extend 80 = .ok (.iload_n 3, 1) := by decide +kernel
theorem dX9_extend_81 : decode cX9_extend 81 = .ok (.aload_n 0, 1) := by decide +kernel
theorem dX9_extend_82 : decode cX9_extend 82 = .ok (.iload 5, 2) := by decide +kernel
theorem dX9_extend_84 : decode cX9_extend 84 = .ok (.iload_n 2, 1) := by decide +kernel
theorem dX9_extend_85 : decode cX9_extend 85 = .ok (.invokevirtual 47, 3) := by decide +kernel
theorem dX9_extend_88 : decode cX9_extend 88 = .ok (.iadd, 1) := by decide +kernel
theorem dX9_extend_89 : decode cX9_extend 89 = .ok (.invokestatic 80, 3) := by decide +kernel
theorem dX9_extend_92 : decode cX9_extend 92 = .ok (.istore 7, 2) := by decide +kernel
theorem dX9_extend_94 : decode cX9_extend 94 = .ok (.aload_n 0, 1) := by decide +kernel
theorem dX9_extend_95 : decode cX9_extend 95 = .ok (.getfield 59, 3) := by decide +kernel
theorem dX9_extend_98 : decode cX9_extend 98 = .ok (.iload 7, 2) := by decide +kernel
theorem dX9_extend_100 : decode cX9_extend 100 = .ok (.aload_n 0, 1) := by decide +kernel
theorem dX9_extend_101 : decode cX9_extend 101 = .ok (.getfield 59, 3) := by decide +kernel
theorem dX9_extend_104 : decode cX9_extend 104 = .ok (.iload 7, 2) := by decide +kernel
theorem dX9_extend_106 : decode cX9_extend 106 = .ok (.iaload, 1) := by decide +kernel
theorem dX9_extend_107 : decode cX9_extend 107 = .ok (.iload 6, 2) := by decide +kernel
theorem dX9_extend_109 : decode cX9_extend 109 = .ok (.invokestatic 92, 3) := by decide +kernel
theorem dX9_extend_112 : decode cX9_extend 112 = .ok (.iastore, 1) := by decide +kernel
theorem dX9_extend_113 : decode cX9_extend 113 = .ok (.iinc 5 1, 3) := by decide +kernel
theorem dX9_extend_116 : decode cX9_extend 116 = .ok (.goto (-91), 3) := by decide +kernel
theorem dX9_extend_119 : decode cX9_extend 119 = .ok (.return_, 1) := by decide +kernel
theorem dX9_chooseGoal_0 : decode cX9_chooseGoal 0 = .ok (.iconst 1, 1) := by decide +kernel
theorem dX9_chooseGoal_1 : decode cX9_chooseGoal 1 = .ok (.aload_n 0, 1) := by decide +kernel
theorem dX9_chooseGoal_2 : decode cX9_chooseGoal 2 = .ok (.getfield 25, 3) := by decide +kernel
theorem dX9_chooseGoal_5 : decode cX9_chooseGoal 5 = .ok (.ishl, 1) := by decide +kernel
theorem dX9_chooseGoal_6 : decode cX9_chooseGoal 6 = .ok (.iconst 1, 1) := by decide +kernel
theorem dX9_chooseGoal_7 : decode cX9_chooseGoal 7 = .ok (.isub, 1) := by decide +kernel
theorem dX9_chooseGoal_8 : decode cX9_chooseGoal 8 = .ok (.istore_n 1, 1) := by decide +kernel
theorem dX9_chooseGoal_9 : decode cX9_chooseGoal 9 = .ok (.aload_n 0, 1) := by decide +kernel
theorem dX9_chooseGoal_10 : decode cX9_chooseGoal 10 = .ok (.iconst (-1), 1) := by decide +kernel
theorem dX9_chooseGoal_11 : decode cX9_chooseGoal 11 = .ok (.putfield 33, 3) := by decide +kernel
theorem dX9_chooseGoal_14 : decode cX9_chooseGoal 14 = .ok (.aload_n 0, 1) := by decide +kernel
theorem dX9_chooseGoal_15 : decode cX9_chooseGoal 15 = .ok (.iconst (-1), 1) := by decide +kernel
theorem dX9_chooseGoal_16 : decode cX9_chooseGoal 16 = .ok (.putfield 95, 3) := by decide +kernel
theorem dX9_chooseGoal_19 : decode cX9_chooseGoal 19 = .ok (.iconst 0, 1) := by decide +kernel
theorem dX9_chooseGoal_20 : decode cX9_chooseGoal 20 = .ok (.istore_n 2, 1) := by decide +kernel
theorem dX9_chooseGoal_21 : decode cX9_chooseGoal 21 = .ok (.iload_n 2, 1) := by decide +kernel
theorem dX9_chooseGoal_22 : decode cX9_chooseGoal 22 = .ok (.aload_n 0, 1) := by decide +kernel
theorem dX9_chooseGoal_23 : decode cX9_chooseGoal 23 = .ok (.getfield 25, 3) := by decide +kernel
theorem dX9_chooseGoal_26 : decode cX9_chooseGoal 26 = .ok (.if_icmp .gt 60, 3) := by decide +kernel
theorem dX9_chooseGoal_29 : decode cX9_chooseGoal 29 = .ok (.aload_n 0, 1) := by decide +kernel
theorem dX9_chooseGoal_30 : decode cX9_chooseGoal 30 = .ok (.getfield 33, 3) := by decide +kernel
theorem dX9_chooseGoal_33 : decode cX9_chooseGoal 33 = .ok (.iconst (-1), 1) := by decide +kernel
theorem dX9_chooseGoal_34 : decode cX9_chooseGoal 34 = .ok (.if_icmp .ne 52, 3) := by decide +kernel
theorem dX9_chooseGoal_37 : decode cX9_chooseGoal 37 = .ok (.aload_n 0, 1) := by decide +kernel
theorem dX9_chooseGoal_38 : decode cX9_chooseGoal 38 = .ok (.getfield 59, 3) := by decide +kernel
theorem dX9_chooseGoal_41 : decode cX9_chooseGoal 41 = .ok (.iload_n 1, 1) := by decide +kernel
theorem dX9_chooseGoal_42 : decode cX9_chooseGoal 42 = .ok (.iconst 0, 1) := by decide +kernel
theorem dX9_chooseGoal_43 : decode cX9_chooseGoal 43 = .ok (.iload_n 2, 1) := by decide +kernel
theorem dX9_chooseGoal_44 : decode cX9_chooseGoal 44 = .ok (.invokestatic 80, 3) := by decide +kernel
theorem dX9_chooseGoal_47 : decode cX9_chooseGoal 47 = .ok (.iaload, 1) := by decide +kernel
theorem dX9_chooseGoal_48 : decode cX9_chooseGoal 48 = .ok (.aload_n 0, 1) := by decide +kernel
theorem dX9_chooseGoal_49 : decode cX9_chooseGoal 49 = .ok (.getfield 59, 3) := by decide +kernel
theorem dX9_chooseGoal_52 : decode cX9_chooseGoal 52 = .ok (.iload_n 1, 1) := by decide +kernel
theorem dX9_chooseGoal_53 : decode cX9_chooseGoal 53 = .ok (.iconst 1, 1) := by decide +kernel
theorem dX9_chooseGoal_54 : decode cX9_chooseGoal 54 = .ok (.iload_n 2, 1) := by decide +kernel
theorem dX9_chooseGoal_55 : decode cX9_chooseGoal 55 = .ok (.invokestatic 80, 3) := by decide +kernel
theorem dX9_chooseGoal_58 : decode cX9_chooseGoal 58 = .ok (.iaload, 1) := by decide +kernel
theorem dX9_chooseGoal_59 : decode cX9_chooseGoal 59 = .ok (.invokestatic 92, 3) := by decide +kernel
theorem dX9_chooseGoal_62 : decode cX9_chooseGoal 62 = .ok (.istore_n 3, 1) := by decide +kernel
theorem dX9_chooseGoal_63 : decode cX9_chooseGoal 63 = .ok (.iload_n 3, 1) := by decide +kernel
theorem dX9_chooseGoal_64 : decode cX9_chooseGoal 64 = .ok (.sipush 1000, 3) := by decide +kernel
theorem dX9_chooseGoal_67 : decode cX9_chooseGoal 67 = .ok (.if_icmp .eq 13, 3) := by decide +kernel
theorem dX9_chooseGoal_70 : decode cX9_chooseGoal 70 = .ok (.aload_n 0, 1) := by decide +kernel
theorem dX9_chooseGoal_71 : decode cX9_chooseGoal 71 = .ok (.iload_n 2, 1) := by decide +kernel
theorem dX9_chooseGoal_72 : decode cX9_chooseGoal 72 = .ok (.putfield 33, 3) := by decide +kernel
theorem dX9_chooseGoal_75 : decode cX9_chooseGoal 75 = .ok (.aload_n 0, 1) := by decide +kernel
theorem dX9_chooseGoal_76 : decode cX9_chooseGoal 76 = .ok (.iload_n 3, 1) := by decide +kernel
theorem dX9_chooseGoal_77 : decode cX9_chooseGoal 77 = .ok (.putfield 95, 3) := by decide +kernel
theorem dX9_chooseGoal_80 : decode cX9_chooseGoal 80 = .ok (.iinc 2 1, 3) := by decide +kernel
theorem dX9_chooseGoal_83 : decode cX9_chooseGoal 83 = .ok (.goto (-62), 3) := by decide +kernel
theorem dX9_chooseGoal_86 : decode cX9_chooseGoal 86 = .ok (.return_, 1) := by decide +kernel
theorem dX9_fillLatest_0 : decode cX9_fillLatest 0 = .ok (.aload_n 0, 1) := by decide +kernel
theorem dX9_fillLatest_1 : decode cX9_fillLatest 1 = .ok (.getfield 59, 3) := by decide +kernel
theorem dX9_fillLatest_4 : decode cX9_fillLatest 4 = .ok (.bipush (-2), 2) := by decide +kernel
theorem dX9_fillLatest_6 : decode cX9_fillLatest 6 = .ok (.invokestatic 74, 3) := by decide +kernel
theorem dX9_fillLatest_9 : decode cX9_fillLatest 9 = .ok (.aload_n 0, 1) := by decide +kernel
theorem dX9_fillLatest_10 : decode cX9_fillLatest 10 = .ok (.getfield 59, 3) := by decide +kernel
theorem dX9_fillLatest_13 : decode cX9_fillLatest 13 = .ok (.iconst 0, 1) := by decide +kernel
theorem dX9_fillLatest_14 : decode cX9_fillLatest 14 = .ok (.iconst 0, 1) := by decide +kernel
theorem dX9_fillLatest_15 : decode cX9_fillLatest 15 = .ok (.iconst 0, 1) := by decide +kernel
theorem dX9_fillLatest_16 : decode cX9_fillLatest 16 = .ok (.invokestatic 80, 3) := by decide +kernel
theorem dX9_fillLatest_19 : decode cX9_fillLatest 19 = .ok (.sipush 1000, 3) := by decide +kernel
theorem dX9_fillLatest_22 : decode cX9_fillLatest 22 = .ok (.iastore, 1) := by decide +kernel
theorem dX9_fillLatest_23 : decode cX9_fillLatest 23 = .ok (.aload_n 0, 1) := by decide +kernel
theorem dX9_fillLatest_24 : decode cX9_fillLatest 24 = .ok (.getfield 59, 3) := by decide +kernel
theorem dX9_fillLatest_27 : decode cX9_fillLatest 27 = .ok (.iconst 0, 1) := by decide +kernel
theorem dX9_fillLatest_28 : decode cX9_fillLatest 28 = .ok (.iconst 1, 1) := by decide +kernel
theorem dX9_fillLatest_29 : decode cX9_fillLatest 29 = .ok (.iconst 0, 1) := by decide +kernel
theorem dX9_fillLatest_30 : decode cX9_fillLatest 30 = .ok (.invokestatic 80, 3) := by decide +kernel
theorem dX9_fillLatest_33 : decode cX9_fillLatest 33 = .ok (.sipush 1000, 3) := by decide +kernel
theorem dX9_fillLatest_36 : decode cX9_fillLatest 36 = .ok (.iastore, 1) := by decide +kernel
theorem dX9_fillLatest_37 : decode cX9_fillLatest 37 = .ok (.iconst 1, 1) := by decide +kernel
theorem dX9_fillLatest_38 : decode cX9_fillLatest 38 = .ok (.istore_n 1, 1) := by decide +kernel
theorem dX9_fillLatest_39 : decode cX9_fillLatest 39 = .ok (.iload_n 1, 1) := by decide +kernel
theorem dX9_fillLatest_40 : decode cX9_fillLatest 40 = .ok (.iconst 1, 1) := by decide +kernel
theorem dX9_fillLatest_41 : decode cX9_fillLatest 41 = .ok (.aload_n 0, 1) := by decide +kernel
theorem dX9_fillLatest_42 : decode cX9_fillLatest 42 = .ok (.getfield 25, 3) := by decide +kernel
theorem dX9_fillLatest_45 : decode cX9_fillLatest 45 = .ok (.ishl, 1) := by decide +kernel
theorem dX9_fillLatest_46 : decode cX9_fillLatest 46 = .ok (.if_icmp .ge 61, 3) := by decide +kernel
theorem dX9_fillLatest_49 : decode cX9_fillLatest 49 = .ok (.iconst 0, 1) := by decide +kernel
theorem dX9_fillLatest_50 : decode cX9_fillLatest 50 = .ok (.istore_n 2, 1) := by decide +kernel
theorem dX9_fillLatest_51 : decode cX9_fillLatest 51 = .ok (.iload_n 2, 1) := by decide +kernel
theorem dX9_fillLatest_52 : decode cX9_fillLatest 52 = .ok (.aload_n 0, 1) := by decide +kernel
theorem dX9_fillLatest_53 : decode cX9_fillLatest 53 = .ok (.getfield 33, 3) := by decide +kernel
theorem dX9_fillLatest_56 : decode cX9_fillLatest 56 = .ok (.if_icmp .gt 45, 3) := by decide +kernel
theorem dX9_fillLatest_59 : decode cX9_fillLatest 59 = .ok (.aload_n 0, 1) := by decide +kernel
theorem dX9_fillLatest_60 : decode cX9_fillLatest 60 = .ok (.getfield 59, 3) := by decide +kernel
theorem dX9_fillLatest_63 : decode cX9_fillLatest 63 = .ok (.iload_n 1, 1) := by decide +kernel
theorem dX9_fillLatest_64 : decode cX9_fillLatest 64 = .ok (.iconst 0, 1) := by decide +kernel
theorem dX9_fillLatest_65 : decode cX9_fillLatest 65 = .ok (.iload_n 2, 1) := by decide +kernel
theorem dX9_fillLatest_66 : decode cX9_fillLatest 66 = .ok (.invokestatic 80, 3) := by decide +kernel
theorem dX9_fillLatest_69 : decode cX9_fillLatest 69 = .ok (.aload_n 0, 1) := by decide +kernel
theorem dX9_fillLatest_70 : decode cX9_fillLatest 70 = .ok (.iload_n 1, 1) := by decide +kernel
theorem dX9_fillLatest_71 : decode cX9_fillLatest 71 = .ok (.iconst 0, 1) := by decide +kernel
theorem dX9_fillLatest_72 : decode cX9_fillLatest 72 = .ok (.iload_n 2, 1) := by decide +kernel
theorem dX9_fillLatest_73 : decode cX9_fillLatest 73 = .ok (.invokevirtual 98, 3) := by decide +kernel
theorem dX9_fillLatest_76 : decode cX9_fillLatest 76 = .ok (.iastore, 1) := by decide +kernel
theorem dX9_fillLatest_77 : decode cX9_fillLatest 77 = .ok (.aload_n 0, 1) := by decide +kernel
theorem dX9_fillLatest_78 : decode cX9_fillLatest 78 = .ok (.getfield 59, 3) := by decide +kernel
theorem dX9_fillLatest_81 : decode cX9_fillLatest 81 = .ok (.iload_n 1, 1) := by decide +kernel
theorem dX9_fillLatest_82 : decode cX9_fillLatest 82 = .ok (.iconst 1, 1) := by decide +kernel
theorem dX9_fillLatest_83 : decode cX9_fillLatest 83 = .ok (.iload_n 2, 1) := by decide +kernel
theorem dX9_fillLatest_84 : decode cX9_fillLatest 84 = .ok (.invokestatic 80, 3) := by decide +kernel
theorem dX9_fillLatest_87 : decode cX9_fillLatest 87 = .ok (.aload_n 0, 1) := by decide +kernel
theorem dX9_fillLatest_88 : decode cX9_fillLatest 88 = .ok (.iload_n 1, 1) := by decide +kernel
theorem dX9_fillLatest_89 : decode cX9_fillLatest 89 = .ok (.iconst 1, 1) := by decide +kernel
theorem dX9_fillLatest_90 : decode cX9_fillLatest 90 = .ok (.iload_n 2, 1) := by decide +kernel
theorem dX9_fillLatest_91 : decode cX9_fillLatest 91 = .ok (.invokevirtual 98, 3) := by decide +kernel
theorem dX9_fillLatest_94 : decode cX9_fillLatest 94 = .ok (.iastore, 1) := by decide +kernel
theorem dX9_fillLatest_95 : decode cX9_fillLatest 95 = .ok (.iinc 2 1, 3) := by decide +kernel
theorem dX9_fillLatest_98 : decode cX9_fillLatest 98 = .ok (.goto (-47), 3) := by decide +kernel
theorem dX9_fillLatest_101 : decode cX9_fillLatest 101 = .ok (.iinc 1 1, 3) := by decide +kernel
theorem dX9_fillLatest_104 : decode cX9_fillLatest 104 = .ok (.goto (-65), 3) := by decide +kernel
theorem dX9_fillLatest_107 : decode cX9_fillLatest 107 = .ok (.return_, 1) := by decide +kernel
theorem dX9_latestAhead_0 : decode cX9_latestAhead 0 = .ok (.bipush (-2), 2) := by decide +kernel
theorem dX9_latestAhead_2 : decode cX9_latestAhead 2 = .ok (.istore 4, 2) := by decide +kernel
theorem dX9_latestAhead_4 : decode cX9_latestAhead 4 = .ok (.iconst 0, 1) := by decide +kernel
theorem dX9_latestAhead_5 : decode cX9_latestAhead 5 = .ok (.istore 5, 2) := by decide +kernel
theorem dX9_latestAhead_7 : decode cX9_latestAhead 7 = .ok (.iload 5, 2) := by decide +kernel
theorem dX9_latestAhead_9 : decode cX9_latestAhead 9 = .ok (.aload_n 0, 1) := by decide +kernel
theorem dX9_latestAhead_10 : decode cX9_latestAhead 10 = .ok (.getfield 25, 3) := by decide +kernel
theorem dX9_latestAhead_13 : decode cX9_latestAhead 13 = .ok (.if_icmp .ge 64, 3) := by decide +kernel
theorem dX9_latestAhead_16 : decode cX9_latestAhead 16 = .ok (.iload_n 1, 1) := by decide +kernel
theorem dX9_latestAhead_17 : decode cX9_latestAhead 17 = .ok (.iload 5, 2) := by decide +kernel
theorem dX9_latestAhead_19 : decode cX9_latestAhead 19 = .ok (.invokestatic 88, 3) := by decide +kernel
theorem dX9_latestAhead_22 : decode cX9_latestAhead 22 = .ok (.ifCond .eq 49, 3) := by decide +kernel
theorem dX9_latestAhead_25 : decode cX9_latestAhead 25 = .ok (.aload_n 0, 1) := by decide +kernel
theorem dX9_latestAhead_26 : decode cX9_latestAhead 26 = .ok (.iload 5, 2) := by decide +kernel
theorem dX9_latestAhead_28 : decode cX9_latestAhead 28 = .ok (.iload_n 1, 1) := by decide +kernel
theorem dX9_latestAhead_29 : decode cX9_latestAhead 29 = .ok (.iload_n 3, 1) := by decide +kernel
theorem dX9_latestAhead_30 : decode cX9_latestAhead 30 = .ok (.aload_n 0, 1) := by decide +kernel
theorem dX9_latestAhead_31 : decode cX9_latestAhead 31 = .ok (.iload 5, 2) := by decide +kernel
theorem dX9_latestAhead_33 : decode cX9_latestAhead 33 = .ok (.iload_n 2, 1) := by decide +kernel
theorem dX9_latestAhead_34 : decode cX9_latestAhead 34 = .ok (.invokevirtual 47, 3) := by decide +kernel
theorem dX9_latestAhead_37 : decode cX9_latestAhead 37 = .ok (.isub, 1) := by decide +kernel
theorem dX9_latestAhead_38 : decode cX9_latestAhead 38 = .ok (.invokevirtual 101, 3) := by decide +kernel
theorem dX9_latestAhead_41 : decode cX9_latestAhead 41 = .ok (.istore 6, 2) := by decide +kernel
theorem dX9_latestAhead_43 : decode cX9_latestAhead 43 = .ok (.aload_n 0, 1) := by decide +kernel
theorem dX9_latestAhead_44 : decode cX9_latestAhead 44 = .ok (.getfield 15, 3) := by decide +kernel
theorem dX9_latestAhead_47 : decode cX9_latestAhead 47 = .ok (.iload 5, 2) := by decide +kernel
theorem dX9_latestAhead_49 : decode cX9_latestAhead 49 = .ok (.iaload, 1) := by decide +kernel
theorem dX9_latestAhead_50 : decode cX9_latestAhead 50 = .ok (.iload 6, 2) := by decide +kernel
theorem dX9_latestAhead_52 : decode cX9_latestAhead 52 = .ok (.if_icmp .gt 15, 3) := by decide +kernel
theorem dX9_latestAhead_55 : decode cX9_latestAhead 55 = .ok (.iload 4, 2) := by decide +kernel
theorem dX9_latestAhead_57 : decode cX9_latestAhead 57 = .ok (.iload 6, 2) := by decide +kernel
theorem dX9_latestAhead_59 : decode cX9_latestAhead 59 = .ok (.iconst 1, 1) := by decide +kernel
theorem dX9_latestAhead_60 : decode cX9_latestAhead 60 = .ok (.isub, 1) := by decide +kernel
theorem dX9_latestAhead_61 : decode cX9_latestAhead 61 = .ok (.invokestatic 54, 3) := by decide +kernel
theorem dX9_latestAhead_64 : decode cX9_latestAhead 64 = .ok (.goto 5, 3) := by decide +kernel
theorem dX9_latestAhead_67 : decode cX9_latestAhead 67 = .ok (.iload 4, 2) := by decide +kernel
theorem dX9_latestAhead_69 : decode cX9_latestAhead 69 = .ok (.istore 4, 2) := by decide +kernel
theorem dX9_latestAhead_71 : decode cX9_latestAhead 71 = .ok (.iinc 5 1, 3) := by decide +kernel
theorem dX9_latestAhead_74 : decode cX9_latestAhead 74 = .ok (.goto (-67), 3) := by decide +kernel
theorem dX9_latestAhead_77 : decode cX9_latestAhead 77 = .ok (.iload 4, 2) := by decide +kernel
theorem dX9_latestAhead_79 : decode cX9_latestAhead 79 = .ok (.ireturn, 1) := by decide +kernel
theorem dX9_latestOf_0 : decode cX9_latestOf 0 = .ok (.iload_n 3, 1) := by decide +kernel
theorem dX9_latestOf_1 : decode cX9_latestOf 1 = .ok (.ifCond .ge 6, 3) := by decide +kernel
theorem dX9_latestOf_4 : decode cX9_latestOf 4 = .ok (.bipush (-2), 2) := by decide +kernel
theorem dX9_latestOf_6 : decode cX9_latestOf 6 = .ok (.ireturn, 1) := by decide +kernel
theorem dX9_latestOf_7 : decode cX9_latestOf 7 = .ok (.aload_n 0, 1) := by decide +kernel
theorem dX9_latestOf_8 : decode cX9_latestOf 8 = .ok (.getfield 19, 3) := by decide +kernel
theorem dX9_latestOf_11 : decode cX9_latestOf 11 = .ok (.iload_n 1, 1) := by decide +kernel
theorem dX9_latestOf_12 : decode cX9_latestOf 12 = .ok (.iaload, 1) := by decide +kernel
theorem dX9_latestOf_13 : decode cX9_latestOf 13 = .ok (.aload_n 0, 1) := by decide +kernel
theorem dX9_latestOf_14 : decode cX9_latestOf 14 = .ok (.getfield 95, 3) := by decide +kernel
theorem dX9_latestOf_17 : decode cX9_latestOf 17 = .ok (.invokestatic 92, 3) := by decide +kernel
theorem dX9_latestOf_20 : decode cX9_latestOf 20 = .ok (.istore 4, 2) := by decide +kernel
theorem dX9_latestOf_22 : decode cX9_latestOf 22 = .ok (.iload 4, 2) := by decide +kernel
theorem dX9_latestOf_24 : decode cX9_latestOf 24 = .ok (.aload_n 0, 1) := by decide +kernel
theorem dX9_latestOf_25 : decode cX9_latestOf 25 = .ok (.getfield 59, 3) := by decide +kernel
theorem dX9_latestOf_28 : decode cX9_latestOf 28 = .ok (.iload_n 2, 1) := by decide +kernel
theorem dX9_latestOf_29 : decode cX9_latestOf 29 = .ok (.iconst 1, 1) := by decide +kernel
theorem dX9_latestOf_30 : decode cX9_latestOf 30 = .ok (.iload_n 1, 1) := by decide +kernel
theorem dX9_latestOf_31 : decode cX9_latestOf 31 = .ok (.ishl, 1) := by decide +kernel
theorem dX9_latestOf_32 : decode cX9_latestOf 32 = .ok (.ixor, 1) := by decide +kernel
theorem dX9_latestOf_33 : decode cX9_latestOf 33 = .ok (.aload_n 0, 1) := by decide +kernel
theorem dX9_latestOf_34 : decode cX9_latestOf 34 = .ok (.iload_n 1, 1) := by decide +kernel
theorem dX9_latestOf_35 : decode cX9_latestOf 35 = .ok (.invokevirtual 50, 3) := by decide +kernel
theorem dX9_latestOf_38 : decode cX9_latestOf 38 = .ok (.iload_n 3, 1) := by decide +kernel
theorem dX9_latestOf_39 : decode cX9_latestOf 39 = .ok (.invokestatic 80, 3) := by decide +kernel
theorem dX9_latestOf_42 : decode cX9_latestOf 42 = .ok (.iaload, 1) := by decide +kernel
theorem dX9_latestOf_43 : decode cX9_latestOf 43 = .ok (.invokestatic 92, 3) := by decide +kernel
theorem dX9_latestOf_46 : decode cX9_latestOf 46 = .ok (.ireturn, 1) := by decide +kernel
theorem dX9_layOut_0 : decode cX9_layOut 0 = .ok (.iconst 1, 1) := by decide +kernel
theorem dX9_layOut_1 : decode cX9_layOut 1 = .ok (.aload_n 0, 1) := by decide +kernel
theorem dX9_layOut_2 : decode cX9_layOut 2 = .ok (.getfield 25, 3) := by decide +kernel
theorem dX9_layOut_5 : decode cX9_layOut 5 = .ok (.ishl, 1) := by decide +kernel
theorem dX9_layOut_6 : decode cX9_layOut 6 = .ok (.iconst 1, 1) := by decide +kernel
theorem dX9_layOut_7 : decode cX9_layOut 7 = .ok (.isub, 1) := by decide +kernel
theorem dX9_layOut_8 : decode cX9_layOut 8 = .ok (.istore_n 1, 1) := by decide +kernel
theorem dX9_layOut_9 : decode cX9_layOut 9 = .ok (.iconst 0, 1) := by decide +kernel
theorem dX9_layOut_10 : decode cX9_layOut 10 = .ok (.istore_n 2, 1) := by decide +kernel
theorem dX9_layOut_11 : decode cX9_layOut 11 = .ok (.aload_n 0, 1) := by decide +kernel
theorem dX9_layOut_12 : decode cX9_layOut 12 = .ok (.getfield 33, 3) := by decide +kernel
theorem dX9_layOut_15 : decode cX9_layOut 15 = .ok (.istore_n 3, 1) := by decide +kernel
theorem dX9_layOut_16 : decode cX9_layOut 16 = .ok (.iconst (-1), 1) := by decide +kernel
theorem dX9_layOut_17 : decode cX9_layOut 17 = .ok (.istore 4, 2) := by decide +kernel
theorem dX9_layOut_19 : decode cX9_layOut 19 = .ok (.iconst 0, 1) := by decide +kernel
theorem dX9_layOut_20 : decode cX9_layOut 20 = .ok (.istore 5, 2) := by decide +kernel
theorem dX9_layOut_22 : decode cX9_layOut 22 = .ok (.iload 5, 2) := by decide +kernel
theorem dX9_layOut_24 : decode cX9_layOut 24 = .ok (.aload_n 0, 1) := by decide +kernel
theorem dX9_layOut_25 : decode cX9_layOut 25 = .ok (.getfield 25, 3) := by decide +kernel
theorem dX9_layOut_28 : decode cX9_layOut 28 = .ok (.if_icmp .ge 63, 3) := by decide +kernel
theorem dX9_layOut_31 : decode cX9_layOut 31 = .ok (.aload_n 0, 1) := by decide +kernel
theorem dX9_layOut_32 : decode cX9_layOut 32 = .ok (.iload_n 1, 1) := by decide +kernel
theorem dX9_layOut_33 : decode cX9_layOut 33 = .ok (.iload_n 2, 1) := by decide +kernel
theorem dX9_layOut_34 : decode cX9_layOut 34 = .ok (.iload_n 3, 1) := by decide +kernel
theorem dX9_layOut_35 : decode cX9_layOut 35 = .ok (.iload 4, 2) := by decide +kernel
theorem dX9_layOut_37 : decode cX9_layOut 37 = .ok (.invokevirtual 104, 3) := by decide +kernel
theorem dX9_layOut_40 : decode cX9_layOut 40 = .ok (.istore 6, 2) := by decide +kernel
theorem dX9_layOut_42 : decode cX9_layOut 42 = .ok (.aload_n 0, 1) := by decide +kernel
theorem dX9_layOut_43 : decode cX9_layOut 43 = .ok (.getfield 22, 3) := by decide +kernel
theorem dX9_layOut_46 : decode cX9_layOut 46 = .ok (.iload 5, 2) := by decide +kernel
theorem dX9_layOut_48 : decode cX9_layOut 48 = .ok (.iload 6, 2) := by decide +kernel
theorem dX9_layOut_50 : decode cX9_layOut 50 = .ok (.iastore, 1) := by decide +kernel
theorem dX9_layOut_51 : decode cX9_layOut 51 = .ok (.aload_n 0, 1) := by decide +kernel
theorem dX9_layOut_52 : decode cX9_layOut 52 = .ok (.iload 6, 2) := by decide +kernel
theorem dX9_layOut_54 : decode cX9_layOut 54 = .ok (.iload 4, 2) := by decide +kernel
theorem dX9_layOut_56 : decode cX9_layOut 56 = .ok (.invokevirtual 44, 3) := by decide +kernel
theorem dX9_layOut_59 : decode cX9_layOut 59 = .ok (.istore 4, 2) := by decide +kernel
theorem dX9_layOut_61 : decode cX9_layOut 61 = .ok (.iload_n 3, 1) := by decide +kernel
theorem dX9_layOut_62 : decode cX9_layOut 62 = .ok (.aload_n 0, 1) := by decide +kernel
theorem dX9_layOut_63 : decode cX9_layOut 63 = .ok (.iload 6, 2) := by decide +kernel
theorem dX9_layOut_65 : decode cX9_layOut 65 = .ok (.iload_n 2, 1) := by decide +kernel
theorem dX9_layOut_66 : decode cX9_layOut 66 = .ok (.invokevirtual 47, 3) := by decide +kernel
theorem dX9_layOut_69 : decode cX9_layOut 69 = .ok (.isub, 1) := by decide +kernel
theorem dX9_layOut_70 : decode cX9_layOut 70 = .ok (.istore_n 3, 1) := by decide +kernel
theorem dX9_layOut_71 : decode cX9_layOut 71 = .ok (.aload_n 0, 1) := by decide +kernel
theorem dX9_layOut_72 : decode cX9_layOut 72 = .ok (.iload 6, 2) := by decide +kernel
theorem dX9_layOut_74 : decode cX9_layOut 74 = .ok (.invokevirtual 50, 3) := by decide +kernel
theorem dX9_layOut_77 : decode cX9_layOut 77 = .ok (.istore_n 2, 1) := by decide +kernel
theorem dX9_layOut_78 : decode cX9_layOut 78 = .ok (.iload_n 1, 1) := by decide +kernel
theorem dX9_layOut_79 : decode cX9_layOut 79 = .ok (.iconst 1, 1) := by decide +kernel
theorem dX9_layOut_80 : decode cX9_layOut 80 = .ok (.iload 6, 2) := by decide +kernel
theorem dX9_layOut_82 : decode cX9_layOut 82 = .ok (.ishl, 1) := by decide +kernel
theorem dX9_layOut_83 : decode cX9_layOut 83 = .ok (.ixor, 1) := by decide +kernel
theorem dX9_layOut_84 : decode cX9_layOut 84 = .ok (.istore_n 1, 1) := by decide +kernel
theorem dX9_layOut_85 : decode cX9_layOut 85 = .ok (.iinc 5 1, 3) := by decide +kernel
theorem dX9_layOut_88 : decode cX9_layOut 88 = .ok (.goto (-66), 3) := by decide +kernel
theorem dX9_layOut_91 : decode cX9_layOut 91 = .ok (.return_, 1) := by decide +kernel
theorem dX9_leastThatFits_0 : decode cX9_leastThatFits 0 = .ok (.iconst 0, 1) := by decide +kernel
theorem dX9_leastThatFits_1 : decode cX9_leastThatFits 1 = .ok (.istore 5, 2) := by decide +kernel
theorem dX9_leastThatFits_3 : decode cX9_leastThatFits 3 = .ok (.iload 5, 2) := by decide +kernel
theorem dX9_leastThatFits_5 : decode cX9_leastThatFits 5 = .ok (.aload_n 0, 1) := by decide +kernel
theorem dX9_leastThatFits_6 : decode cX9_leastThatFits 6 = .ok (.getfield 25, 3) := by decide +kernel
theorem dX9_leastThatFits_9 : decode cX9_leastThatFits 9 = .ok (.iconst 1, 1) := by decide +kernel
theorem dX9_leastThatFits_10 : decode cX9_leastThatFits 10 = .ok (.isub, 1) := by decide +kernel
theorem dX9_leastThatFits_11 : decode cX9_leastThatFits 11 = .ok (.if_icmp .ge 45, 3) := by decide +kernel
theorem dX9_leastThatFits_14 : decode cX9_leastThatFits 14 = .ok (.iload_n 1, 1) := by decide +kernel
theorem dX9_leastThatFits_15 : decode cX9_leastThatFits 15 = .ok (.iload 5, 2) := by decide +kernel
theorem dX9_leastThatFits_17 : decode cX9_leastThatFits 17 = .ok (.invokestatic 88, 3) := by decide +kernel
theorem dX9_leastThatFits_20 : decode cX9_leastThatFits 20 = .ok (.ifCond .eq 30, 3) := by decide +kernel
theorem dX9_leastThatFits_23 : decode cX9_leastThatFits 23 = .ok (.aload_n 0, 1) := by decide +kernel
theorem dX9_leastThatFits_24 : decode cX9_leastThatFits 24 = .ok (.iload 5, 2) := by decide +kernel
theorem dX9_leastThatFits_26 : decode cX9_leastThatFits 26 = .ok (.iload 4, 2) := by decide +kernel
theorem dX9_leastThatFits_28 : decode cX9_leastThatFits 28 = .ok (.invokevirtual 44, 3) := by decide +kernel
theorem dX9_leastThatFits_31 : decode cX9_leastThatFits 31 = .ok (.aload_n 0, 1) := by decide +kernel
theorem dX9_leastThatFits_32 : decode cX9_leastThatFits 32 = .ok (.iload 5, 2) := by decide +kernel
theorem dX9_leastThatFits_34 : decode cX9_leastThatFits 34 = .ok (.iload_n 1, 1) := by decide +kernel
theorem dX9_leastThatFits_35 : decode cX9_leastThatFits 35 = .ok (.iload_n 3, 1) := by decide +kernel
theorem dX9_leastThatFits_36 : decode cX9_leastThatFits 36 = .ok (.aload_n 0, 1) := by decide +kernel
theorem dX9_leastThatFits_37 : decode cX9_leastThatFits 37 = .ok (.iload 5, 2) := by decide +kernel
theorem dX9_leastThatFits_39 : decode cX9_leastThatFits 39 = .ok (.iload_n 2, 1) := by decide +kernel
theorem dX9_leastThatFits_40 : decode cX9_leastThatFits 40 = .ok (.invokevirtual 47, 3) := by decide +kernel
theorem dX9_leastThatFits_43 : decode cX9_leastThatFits 43 = .ok (.isub, 1) := by decide +kernel
theorem dX9_leastThatFits_44 : decode cX9_leastThatFits 44 = .ok (.invokevirtual 101, 3) := by decide +kernel
theorem dX9_leastThatFits_47 : decode cX9_leastThatFits 47 = .ok (.if_icmp .le 9, 3) := by decide +kernel
theorem dX9_leastThatFits_50 : decode cX9_leastThatFits 50 = .ok (.iinc 5 1, 3) := by decide +kernel
theorem dX9_leastThatFits_53 : decode cX9_leastThatFits 53 = .ok (.goto (-50), 3) := by decide +kernel
theorem dX9_leastThatFits_56 : decode cX9_leastThatFits 56 = .ok (.iload 5, 2) := by decide +kernel
theorem dX9_leastThatFits_58 : decode cX9_leastThatFits 58 = .ok (.ireturn, 1) := by decide +kernel
theorem dX9_addTo_0 : decode cX9_addTo 0 = .ok (.lload_n 1, 1) := by decide +kernel
theorem dX9_addTo_1 : decode cX9_addTo 1 = .ok (.lstore_n 3, 1) := by decide +kernel
theorem dX9_addTo_2 : decode cX9_addTo 2 = .ok (.iconst 0, 1) := by decide +kernel
theorem dX9_addTo_3 : decode cX9_addTo 3 = .ok (.istore 5, 2) := by decide +kernel
theorem dX9_addTo_5 : decode cX9_addTo 5 = .ok (.iload 5, 2) := by decide +kernel
theorem dX9_addTo_7 : decode cX9_addTo 7 = .ok (.aload_n 0, 1) := by decide +kernel
theorem dX9_addTo_8 : decode cX9_addTo 8 = .ok (.getfield 25, 3) := by decide +kernel
theorem dX9_addTo_11 : decode cX9_addTo 11 = .ok (.if_icmp .ge 51, 3) := by decide +kernel
theorem dX9_addTo_14 : decode cX9_addTo 14 = .ok (.lload_n 3, 1) := by decide +kernel
theorem dX9_addTo_15 : decode cX9_addTo 15 = .ok (.aload_n 0, 1) := by decide +kernel
theorem dX9_addTo_16 : decode cX9_addTo 16 = .ok (.getfield 11, 3) := by decide +kernel
theorem dX9_addTo_19 : decode cX9_addTo 19 = .ok (.iload 5, 2) := by decide +kernel
theorem dX9_addTo_21 : decode cX9_addTo 21 = .ok (.baload, 1) := by decide +kernel
theorem dX9_addTo_22 : decode cX9_addTo 22 = .ok (.ifCond .eq 7, 3) := by decide +kernel
theorem dX9_addTo_25 : decode cX9_addTo 25 = .ok (.lconst 1, 1) := by decide +kernel
theorem dX9_addTo_26 : decode cX9_addTo 26 = .ok (.goto 4, 3) := by decide +kernel
theorem dX9_addTo_29 : decode cX9_addTo 29 = .ok (.lconst 0, 1) := by decide +kernel
theorem dX9_addTo_30 : decode cX9_addTo 30 = .ok (.invokestatic 108, 3) := by decide +kernel
theorem dX9_addTo_33 : decode cX9_addTo 33 = .ok (.aload_n 0, 1) := by decide +kernel
theorem dX9_addTo_34 : decode cX9_addTo 34 = .ok (.getfield 15, 3) := by decide +kernel
theorem dX9_addTo_37 : decode cX9_addTo 37 = .ok (.iload 5, 2) := by decide +kernel
theorem dX9_addTo_39 : decode cX9_addTo 39 = .ok (.iaload, 1) := by decide +kernel
theorem dX9_addTo_40 : decode cX9_addTo 40 = .ok (.i2l, 1) := by decide +kernel
theorem dX9_addTo_41 : decode cX9_addTo 41 = .ok (.invokestatic 108, 3) := by decide +kernel
theorem dX9_addTo_44 : decode cX9_addTo 44 = .ok (.aload_n 0, 1) := by decide +kernel
theorem dX9_addTo_45 : decode cX9_addTo 45 = .ok (.getfield 19, 3) := by decide +kernel
theorem dX9_addTo_48 : decode cX9_addTo 48 = .ok (.iload 5, 2) := by decide +kernel
theorem dX9_addTo_50 : decode cX9_addTo 50 = .ok (.iaload, 1) := by decide +kernel
theorem dX9_addTo_51 : decode cX9_addTo 51 = .ok (.i2l, 1) := by decide +kernel
theorem dX9_addTo_52 : decode cX9_addTo 52 = .ok (.invokestatic 108, 3) := by decide +kernel
theorem dX9_addTo_55 : decode cX9_addTo 55 = .ok (.lstore_n 3, 1) := by decide +kernel
theorem dX9_addTo_56 : decode cX9_addTo 56 = .ok (.iinc 5 1, 3) := by decide +kernel
theorem dX9_addTo_59 : decode cX9_addTo 59 = .ok (.goto (-54), 3) := by decide +kernel
theorem dX9_addTo_62 : decode cX9_addTo 62 = .ok (.lload_n 3, 1) := by decide +kernel
theorem dX9_addTo_63 : decode cX9_addTo 63 = .ok (.lreturn, 1) := by decide +kernel
theorem dX10_init_0 : decode cX10_init 0 = .ok (.aload_n 0, 1) := by decide +kernel
theorem dX10_init_1 : decode cX10_init 1 = .ok (.invokespecial 3, 3) := by decide +kernel
theorem dX10_init_4 : decode cX10_init 4 = .ok (.aload_n 0, 1) := by decide +kernel
theorem dX10_init_5 : decode cX10_init 5 = .ok (.bipush 8, 2) := by decide +kernel
theorem dX10_init_7 : decode cX10_init 7 = .ok (.newarray .int, 2) := by decide +kernel
theorem dX10_init_9 : decode cX10_init 9 = .ok (.putfield 11, 3) := by decide +kernel
theorem dX10_init_12 : decode cX10_init 12 = .ok (.aload_n 0, 1) := by decide +kernel
theorem dX10_init_13 : decode cX10_init 13 = .ok (.bipush 8, 2) := by decide +kernel
theorem dX10_init_15 : decode cX10_init 15 = .ok (.newarray .int, 2) := by decide +kernel
theorem dX10_init_17 : decode cX10_init 17 = .ok (.putfield 15, 3) := by decide +kernel
theorem dX10_init_20 : decode cX10_init 20 = .ok (.aload_n 0, 1) := by decide +kernel
theorem dX10_init_21 : decode cX10_init 21 = .ok (.bipush 8, 2) := by decide +kernel
theorem dX10_init_23 : decode cX10_init 23 = .ok (.newarray .int, 2) := by decide +kernel
theorem dX10_init_25 : decode cX10_init 25 = .ok (.putfield 18, 3) := by decide +kernel
theorem dX10_init_28 : decode cX10_init 28 = .ok (.return_, 1) := by decide +kernel
theorem dX10_add_0 : decode cX10_add 0 = .ok (.aload_n 0, 1) := by decide +kernel
theorem dX10_add_1 : decode cX10_add 1 = .ok (.getfield 21, 3) := by decide +kernel
theorem dX10_add_4 : decode cX10_add 4 = .ok (.bipush 8, 2) := by decide +kernel
theorem dX10_add_6 : decode cX10_add 6 = .ok (.if_icmp .lt 6, 3) := by decide +kernel
theorem dX10_add_9 : decode cX10_add 9 = .ok (.bipush (-104), 2) := by decide +kernel
theorem dX10_add_11 : decode cX10_add 11 = .ok (.ireturn, 1) := by decide +kernel
theorem dX10_add_12 : decode cX10_add 12 = .ok (.aload_n 0, 1) := by decide +kernel
theorem dX10_add_13 : decode cX10_add 13 = .ok (.getfield 11, 3) := by decide +kernel
theorem dX10_add_16 : decode cX10_add 16 = .ok (.aload_n 0, 1) := by decide +kernel
theorem dX10_add_17 : decode cX10_add 17 = .ok (.getfield 21, 3) := by decide +kernel
theorem dX10_add_20 : decode cX10_add 20 = .ok (.iload_n 1, 1) := by decide +kernel
theorem dX10_add_21 : decode cX10_add 21 = .ok (.iastore, 1) := by decide +kernel
theorem dX10_add_22 : decode cX10_add 22 = .ok (.aload_n 0, 1) := by decide +kernel
theorem dX10_add_23 : decode cX10_add 23 = .ok (.getfield 15, 3) := by decide +kernel
theorem dX10_add_26 : decode cX10_add 26 = .ok (.aload_n 0, 1) := by decide +kernel
theorem dX10_add_27 : decode cX10_add 27 = .ok (.getfield 21, 3) := by decide +kernel
theorem dX10_add_30 : decode cX10_add 30 = .ok (.iload_n 2, 1) := by decide +kernel
theorem dX10_add_31 : decode cX10_add 31 = .ok (.iastore, 1) := by decide +kernel
theorem dX10_add_32 : decode cX10_add 32 = .ok (.aload_n 0, 1) := by decide +kernel
theorem dX10_add_33 : decode cX10_add 33 = .ok (.getfield 18, 3) := by decide +kernel
theorem dX10_add_36 : decode cX10_add 36 = .ok (.aload_n 0, 1) := by decide +kernel
theorem dX10_add_37 : decode cX10_add 37 = .ok (.getfield 21, 3) := by decide +kernel
theorem dX10_add_40 : decode cX10_add 40 = .ok (.iload_n 3, 1) := by decide +kernel
theorem dX10_add_41 : decode cX10_add 41 = .ok (.iastore, 1) := by decide +kernel
theorem dX10_add_42 : decode cX10_add 42 = .ok (.aload_n 0, 1) := by decide +kernel
theorem dX10_add_43 : decode cX10_add 43 = .ok (.dup, 1) := by decide +kernel
theorem dX10_add_44 : decode cX10_add 44 = .ok (.getfield 21, 3) := by decide +kernel
theorem dX10_add_47 : decode cX10_add 47 = .ok (.dup_x1, 1) := by decide +kernel
theorem dX10_add_48 : decode cX10_add 48 = .ok (.iconst 1, 1) := by decide +kernel
theorem dX10_add_49 : decode cX10_add 49 = .ok (.iadd, 1) := by decide +kernel
theorem dX10_add_50 : decode cX10_add 50 = .ok (.putfield 21, 3) := by decide +kernel
theorem dX10_add_53 : decode cX10_add 53 = .ok (.ireturn, 1) := by decide +kernel
theorem dX10_costOf_0 : decode cX10_costOf 0 = .ok (.aload_n 0, 1) := by decide +kernel
theorem dX10_costOf_1 : decode cX10_costOf 1 = .ok (.aload_n 0, 1) := by decide +kernel
theorem dX10_costOf_2 : decode cX10_costOf 2 = .ok (.getfield 11, 3) := by decide +kernel
theorem dX10_costOf_5 : decode cX10_costOf 5 = .ok (.iload_n 1, 1) := by decide +kernel
theorem dX10_costOf_6 : decode cX10_costOf 6 = .ok (.invokevirtual 25, 3) := by decide +kernel
theorem dX10_costOf_9 : decode cX10_costOf 9 = .ok (.ireturn, 1) := by decide +kernel
theorem dX10_given_0 : decode cX10_given 0 = .ok (.aload_n 0, 1) := by decide +kernel
theorem dX10_given_1 : decode cX10_given 1 = .ok (.aload_n 0, 1) := by decide +kernel
theorem dX10_given_2 : decode cX10_given 2 = .ok (.getfield 15, 3) := by decide +kernel
theorem dX10_given_5 : decode cX10_given 5 = .ok (.iload_n 1, 1) := by decide +kernel
theorem dX10_given_6 : decode cX10_given 6 = .ok (.invokevirtual 25, 3) := by decide +kernel
theorem dX10_given_9 : decode cX10_given 9 = .ok (.ireturn, 1) := by decide +kernel
theorem dX10_sumOver_0 : decode cX10_sumOver 0 = .ok (.iconst 0, 1) := by decide +kernel
theorem dX10_sumOver_1 : decode cX10_sumOver 1 = .ok (.istore_n 3, 1) := by decide +kernel
theorem dX10_sumOver_2 : decode cX10_sumOver 2 = .ok (.iconst 0, 1) := by decide +kernel
theorem dX10_sumOver_3 : decode cX10_sumOver 3 = .ok (.istore 4, 2) := by decide +kernel
theorem dX10_sumOver_5 : decode cX10_sumOver 5 = .ok (.iload 4, 2) := by decide +kernel
theorem dX10_sumOver_7 : decode cX10_sumOver 7 = .ok (.aload_n 0, 1) := by decide +kernel
theorem dX10_sumOver_8 : decode cX10_sumOver 8 = .ok (.getfield 21, 3) := by decide +kernel
theorem dX10_sumOver_11 : decode cX10_sumOver 11 = .ok (.if_icmp .ge 29, 3) := by decide +kernel
theorem dX10_sumOver_14 : decode cX10_sumOver 14 = .ok (.iload_n 3, 1) := by decide +kernel
theorem dX10_sumOver_15 : decode cX10_sumOver 15 = .ok (.iload_n 2, 1) := by decide +kernel
theorem dX10_sumOver_16 : decode cX10_sumOver 16 = .ok (.iload 4, 2) := by decide +kernel
theorem dX10_sumOver_18 : decode cX10_sumOver 18 = .ok (.invokestatic 29, 3) := by decide +kernel
theorem dX10_sumOver_21 : decode cX10_sumOver 21 = .ok (.ifCond .eq 10, 3) := by decide +kernel
theorem dX10_sumOver_24 : decode cX10_sumOver 24 = .ok (.aload_n 1, 1) := by decide +kernel
theorem dX10_sumOver_25 : decode cX10_sumOver 25 = .ok (.iload 4, 2) := by decide +kernel
theorem dX10_sumOver_27 : decode cX10_sumOver 27 = .ok (.iaload, 1) := by decide +kernel
theorem dX10_sumOver_28 : decode cX10_sumOver 28 = .ok (.goto 4, 3) := by decide +kernel
theorem dX10_sumOver_31 : decode cX10_sumOver 31 = .ok (.iconst 0, 1) := by decide +kernel
theorem dX10_sumOver_32 : decode cX10_sumOver 32 = .ok (.iadd, 1) := by decide +kernel
theorem dX10_sumOver_33 : decode cX10_sumOver 33 = .ok (.istore_n 3, 1) := by decide +kernel
theorem dX10_sumOver_34 : decode cX10_sumOver 34 = .ok (.iinc 4 1, 3) := by decide +kernel
theorem dX10_sumOver_37 : decode cX10_sumOver 37 = .ok (.goto (-32), 3) := by decide +kernel
theorem dX10_sumOver_40 : decode cX10_sumOver 40 = .ok (.iload_n 3, 1) := by decide +kernel
theorem dX10_sumOver_41 : decode cX10_sumOver 41 = .ok (.ireturn, 1) := by decide +kernel
theorem dX10_isComplete_0 : decode cX10_isComplete 0 = .ok (.iconst 0, 1) := by decide +kernel
theorem dX10_isComplete_1 : decode cX10_isComplete 1 = .ok (.istore_n 2, 1) := by decide +kernel
theorem dX10_isComplete_2 : decode cX10_isComplete 2 = .ok (.iload_n 2, 1) := by decide +kernel
theorem dX10_isComplete_3 : decode cX10_isComplete 3 = .ok (.aload_n 0, 1) := by decide +kernel
theorem dX10_isComplete_4 : decode cX10_isComplete 4 = .ok (.getfield 21, 3) := by decide +kernel
theorem dX10_isComplete_7 : decode cX10_isComplete 7 = .ok (.if_icmp .ge 42, 3) := by decide +kernel
theorem dX10_isComplete_10 : decode cX10_isComplete 10 = .ok (.iload_n 1, 1) := by decide +kernel
theorem dX10_isComplete_11 : decode cX10_isComplete 11 = .ok (.iload_n 2, 1) := by decide +kernel
theorem dX10_isComplete_12 : decode cX10_isComplete 12 = .ok (.invokestatic 29, 3) := by decide +kernel
theorem dX10_isComplete_15 : decode cX10_isComplete 15 = .ok (.ifCond .eq 28, 3) := by decide +kernel
theorem dX10_isComplete_18 : decode cX10_isComplete 18 = .ok (.aload_n 0, 1) := by decide +kernel
theorem dX10_isComplete_19 : decode cX10_isComplete 19 = .ok (.getfield 18, 3) := by decide +kernel
theorem dX10_isComplete_22 : decode cX10_isComplete 22 = .ok (.iload_n 2, 1) := by decide +kernel
theorem dX10_isComplete_23 : decode cX10_isComplete 23 = .ok (.iaload, 1) := by decide +kernel
theorem dX10_isComplete_24 : decode cX10_isComplete 24 = .ok (.iconst (-1), 1) := by decide +kernel
theorem dX10_isComplete_25 : decode cX10_isComplete 25 = .ok (.if_icmp .eq 18, 3) := by decide +kernel
theorem dX10_isComplete_28 : decode cX10_isComplete 28 = .ok (.iload_n 1, 1) := by decide +kernel
theorem dX10_isComplete_29 : decode cX10_isComplete 29 = .ok (.aload_n 0, 1) := by decide +kernel
theorem dX10_isComplete_30 : decode cX10_isComplete 30 = .ok (.getfield 18, 3) := by decide +kernel
theorem dX10_isComplete_33 : decode cX10_isComplete 33 = .ok (.iload_n 2, 1) := by decide +kernel
theorem dX10_isComplete_34 : decode cX10_isComplete 34 = .ok (.iaload, 1) := by decide +kernel
theorem dX10_isComplete_35 : decode cX10_isComplete 35 = .ok (.invokestatic 29, 3) := by decide +kernel
theorem dX10_isComplete_38 : decode cX10_isComplete 38 = .ok (.ifCond .ne 5, 3) := by decide +kernel
theorem dX10_isComplete_41 : decode cX10_isComplete 41 = .ok (.iconst 0, 1) := by decide +kernel
theorem dX10_isComplete_42 : decode cX10_isComplete 42 = .ok (.ireturn, 1) := by decide +kernel
theorem dX10_isComplete_43 : decode cX10_isComplete 43 = .ok (.iinc 2 1, 3) := by decide +kernel
theorem dX10_isComplete_46 : decode cX10_isComplete 46 = .ok (.goto (-44), 3) := by decide +kernel
theorem dX10_isComplete_49 : decode cX10_isComplete 49 = .ok (.iconst 1, 1) := by decide +kernel
theorem dX10_isComplete_50 : decode cX10_isComplete 50 = .ok (.ireturn, 1) := by decide +kernel
theorem dX10_bestSet_0 : decode cX10_bestSet 0 = .ok (.iconst 0, 1) := by decide +kernel
theorem dX10_bestSet_1 : decode cX10_bestSet 1 = .ok (.istore_n 2, 1) := by decide +kernel
theorem dX10_bestSet_2 : decode cX10_bestSet 2 = .ok (.iconst 1, 1) := by decide +kernel
theorem dX10_bestSet_3 : decode cX10_bestSet 3 = .ok (.istore_n 3, 1) := by decide +kernel
theorem dX10_bestSet_4 : decode cX10_bestSet 4 = .ok (.iload_n 3, 1) := by decide +kernel
theorem dX10_bestSet_5 : decode cX10_bestSet 5 = .ok (.iconst 1, 1) := by decide +kernel
theorem dX10_bestSet_6 : decode cX10_bestSet 6 = .ok (.aload_n 0, 1) := by decide +kernel
theorem dX10_bestSet_7 : decode cX10_bestSet 7 = .ok (.getfield 21, 3) := by decide +kernel
theorem dX10_bestSet_10 : decode cX10_bestSet 10 = .ok (.ishl, 1) := by decide +kernel
theorem dX10_bestSet_11 : decode cX10_bestSet 11 = .ok (.if_icmp .ge 37, 3) := by decide +kernel
theorem dX10_bestSet_14 : decode cX10_bestSet 14 = .ok (.aload_n 0, 1) := by decide +kernel
theorem dX10_bestSet_15 : decode cX10_bestSet 15 = .ok (.iload_n 3, 1) := by decide +kernel
theorem dX10_bestSet_16 : decode cX10_bestSet 16 = .ok (.invokevirtual 33, 3) := by decide +kernel
theorem dX10_bestSet_19 : decode cX10_bestSet 19 = .ok (.iload_n 1, 1) := by decide +kernel
theorem dX10_bestSet_20 : decode cX10_bestSet 20 = .ok (.if_icmp .gt 22, 3) := by decide +kernel
theorem dX10_bestSet_23 : decode cX10_bestSet 23 = .ok (.aload_n 0, 1) := by decide +kernel
theorem dX10_bestSet_24 : decode cX10_bestSet 24 = .ok (.iload_n 3, 1) := by decide +kernel
theorem dX10_bestSet_25 : decode cX10_bestSet 25 = .ok (.invokevirtual 37, 3) := by decide +kernel
theorem dX10_bestSet_28 : decode cX10_bestSet 28 = .ok (.ifCond .eq 14, 3) := by decide +kernel
theorem dX10_bestSet_31 : decode cX10_bestSet 31 = .ok (.aload_n 0, 1) := by decide +kernel
theorem dX10_bestSet_32 : decode cX10_bestSet 32 = .ok (.iload_n 3, 1) := by decide +kernel
theorem dX10_bestSet_33 : decode cX10_bestSet 33 = .ok (.iload_n 2, 1) := by decide +kernel
theorem dX10_bestSet_34 : decode cX10_bestSet 34 = .ok (.invokevirtual 41, 3) := by decide +kernel
theorem dX10_bestSet_37 : decode cX10_bestSet 37 = .ok (.ifCond .eq 5, 3) := by decide +kernel
theorem dX10_bestSet_40 : decode cX10_bestSet 40 = .ok (.iload_n 3, 1) := by decide +kernel
theorem dX10_bestSet_41 : decode cX10_bestSet 41 = .ok (.istore_n 2, 1) := by decide +kernel
theorem dX10_bestSet_42 : decode cX10_bestSet 42 = .ok (.iinc 3 1, 3) := by decide +kernel
theorem dX10_bestSet_45 : decode cX10_bestSet 45 = .ok (.goto (-41), 3) := by decide +kernel
theorem dX10_bestSet_48 : decode cX10_bestSet 48 = .ok (.iload_n 2, 1) := by decide +kernel
theorem dX10_bestSet_49 : decode cX10_bestSet 49 = .ok (.ireturn, 1) := by decide +kernel
theorem dX10_isBetter_0 : decode cX10_isBetter 0 = .ok (.aload_n 0, 1) := by decide +kernel
theorem dX10_isBetter_1 : decode cX10_isBetter 1 = .ok (.iload_n 1, 1) := by decide +kernel
theorem dX10_isBetter_2 : decode cX10_isBetter 2 = .ok (.invokevirtual 44, 3) := by decide +kernel
theorem dX10_isBetter_5 : decode cX10_isBetter 5 = .ok (.aload_n 0, 1) := by decide +kernel
theorem dX10_isBetter_6 : decode cX10_isBetter 6 = .ok (.iload_n 2, 1) := by decide +kernel
theorem dX10_isBetter_7 : decode cX10_isBetter 7 = .ok (.invokevirtual 44, 3) := by decide +kernel
theorem dX10_isBetter_10 : decode cX10_isBetter 10 = .ok (.isub, 1) := by decide +kernel
theorem dX10_isBetter_11 : decode cX10_isBetter 11 = .ok (.istore_n 3, 1) := by decide +kernel
theorem dX10_isBetter_12 : decode cX10_isBetter 12 = .ok (.iload_n 3, 1) := by decide +kernel
theorem dX10_isBetter_13 : decode cX10_isBetter 13 = .ok (.ifCond .gt 20, 3) := by decide +kernel
theorem dX10_isBetter_16 : decode cX10_isBetter 16 = .ok (.iload_n 3, 1) := by decide +kernel
theorem dX10_isBetter_17 : decode cX10_isBetter 17 = .ok (.ifCond .ne 20, 3) := by decide +kernel
theorem dX10_isBetter_20 : decode cX10_isBetter 20 = .ok (.aload_n 0, 1) := by decide +kernel
theorem dX10_isBetter_21 : decode cX10_isBetter 21 = .ok (.iload_n 1, 1) := by decide +kernel
theorem dX10_isBetter_22 : decode cX10_isBetter 22 = .ok (.invokevirtual 33, 3) := by decide +kernel
theorem dX10_isBetter_25 : decode cX10_isBetter 25 = .ok (.aload_n 0, 1) := by decide +kernel
theorem dX10_isBetter_26 : decode cX10_isBetter 26 = .ok (.iload_n 2, 1) := by decide +kernel
theorem dX10_isBetter_27 : decode cX10_isBetter 27 = .ok (.invokevirtual 33, 3) := by decide +kernel
theorem dX10_isBetter_30 : decode cX10_isBetter 30 = .ok (.if_icmp .ge 7, 3) := by decide +kernel
theorem dX10_isBetter_33 : decode cX10_isBetter 33 = .ok (.iconst 1, 1) := by decide +kernel
theorem dX10_isBetter_34 : decode cX10_isBetter 34 = .ok (.goto 4, 3) := by decide +kernel
theorem dX10_isBetter_37 : decode cX10_isBetter 37 = .ok (.iconst 0, 1) := by decide +kernel
theorem dX10_isBetter_38 : decode cX10_isBetter 38 = .ok (.ireturn, 1) := by decide +kernel
theorem dX10_addTo_0 : decode cX10_addTo 0 = .ok (.lload_n 1, 1) := by decide +kernel
theorem dX10_addTo_1 : decode cX10_addTo 1 = .ok (.lstore_n 3, 1) := by decide +kernel
theorem dX10_addTo_2 : decode cX10_addTo 2 = .ok (.iconst 0, 1) := by decide +kernel
theorem dX10_addTo_3 : decode cX10_addTo 3 = .ok (.istore 5, 2) := by decide +kernel
theorem dX10_addTo_5 : decode cX10_addTo 5 = .ok (.iload 5, 2) := by decide +kernel
theorem dX10_addTo_7 : decode cX10_addTo 7 = .ok (.aload_n 0, 1) := by decide +kernel
theorem dX10_addTo_8 : decode cX10_addTo 8 = .ok (.getfield 21, 3) := by decide +kernel
theorem dX10_addTo_11 : decode cX10_addTo 11 = .ok (.if_icmp .ge 44, 3) := by decide +kernel
theorem dX10_addTo_14 : decode cX10_addTo 14 = .ok (.lload_n 3, 1) := by decide +kernel
theorem dX10_addTo_15 : decode cX10_addTo 15 = .ok (.aload_n 0, 1) := by decide +kernel
theorem dX10_addTo_16 : decode cX10_addTo 16 = .ok (.getfield 11, 3) := by decide +kernel
theorem dX10_addTo_19 : decode cX10_addTo 19 = .ok (.iload 5, 2) := by decide +kernel
theorem dX10_addTo_21 : decode cX10_addTo 21 = .ok (.iaload, 1) := by decide +kernel
theorem dX10_addTo_22 : decode cX10_addTo 22 = .ok (.i2l, 1) := by decide +kernel
theorem dX10_addTo_23 : decode cX10_addTo 23 = .ok (.invokestatic 47, 3) := by decide +kernel
theorem dX10_addTo_26 : decode cX10_addTo 26 = .ok (.aload_n 0, 1) := by decide +kernel
theorem dX10_addTo_27 : decode cX10_addTo 27 = .ok (.getfield 15, 3) := by decide +kernel
theorem dX10_addTo_30 : decode cX10_addTo 30 = .ok (.iload 5, 2) := by decide +kernel
theorem dX10_addTo_32 : decode cX10_addTo 32 = .ok (.iaload, 1) := by decide +kernel
theorem dX10_addTo_33 : decode cX10_addTo 33 = .ok (.i2l, 1) := by decide +kernel
theorem dX10_addTo_34 : decode cX10_addTo 34 = .ok (.invokestatic 47, 3) := by decide +kernel
theorem dX10_addTo_37 : decode cX10_addTo 37 = .ok (.aload_n 0, 1) := by decide +kernel
theorem dX10_addTo_38 : decode cX10_addTo 38 = .ok (.getfield 18, 3) := by decide +kernel
theorem dX10_addTo_41 : decode cX10_addTo 41 = .ok (.iload 5, 2) := by decide +kernel
theorem dX10_addTo_43 : decode cX10_addTo 43 = .ok (.iaload, 1) := by decide +kernel
theorem dX10_addTo_44 : decode cX10_addTo 44 = .ok (.i2l, 1) := by decide +kernel
theorem dX10_addTo_45 : decode cX10_addTo 45 = .ok (.invokestatic 47, 3) := by decide +kernel
theorem dX10_addTo_48 : decode cX10_addTo 48 = .ok (.lstore_n 3, 1) := by decide +kernel
theorem dX10_addTo_49 : decode cX10_addTo 49 = .ok (.iinc 5 1, 3) := by decide +kernel
theorem dX10_addTo_52 : decode cX10_addTo 52 = .ok (.goto (-47), 3) := by decide +kernel
theorem dX10_addTo_55 : decode cX10_addTo 55 = .ok (.lload_n 3, 1) := by decide +kernel
theorem dX10_addTo_56 : decode cX10_addTo 56 = .ok (.lreturn, 1) := by decide +kernel
theorem dX11_init_0 : decode cX11_init 0 = .ok (.aload_n 0, 1) := by decide +kernel
theorem dX11_init_1 : decode cX11_init 1 = .ok (.invokespecial 3, 3) := by decide +kernel
theorem dX11_init_4 : decode cX11_init 4 = .ok (.aload_n 0, 1) := by decide +kernel
theorem dX11_init_5 : decode cX11_init 5 = .ok (.new 9, 3) := by decide +kernel
theorem dX11_init_8 : decode cX11_init 8 = .ok (.dup, 1) := by decide +kernel
theorem dX11_init_9 : decode cX11_init 9 = .ok (.invokespecial 11, 3) := by decide +kernel
theorem dX11_init_12 : decode cX11_init 12 = .ok (.putfield 12, 3) := by decide +kernel
theorem dX11_init_15 : decode cX11_init 15 = .ok (.aload_n 0, 1) := by decide +kernel
theorem dX11_init_16 : decode cX11_init 16 = .ok (.new 16, 3) := by decide +kernel
theorem dX11_init_19 : decode cX11_init 19 = .ok (.dup, 1) := by decide +kernel
theorem dX11_init_20 : decode cX11_init 20 = .ok (.invokespecial 18, 3) := by decide +kernel
theorem dX11_init_23 : decode cX11_init 23 = .ok (.putfield 19, 3) := by decide +kernel
theorem dX11_init_26 : decode cX11_init 26 = .ok (.aload_n 0, 1) := by decide +kernel
theorem dX11_init_27 : decode cX11_init 27 = .ok (.new 23, 3) := by decide +kernel
theorem dX11_init_30 : decode cX11_init 30 = .ok (.dup, 1) := by decide +kernel
theorem dX11_init_31 : decode cX11_init 31 = .ok (.invokespecial 25, 3) := by decide +kernel
theorem dX11_init_34 : decode cX11_init 34 = .ok (.putfield 26, 3) := by decide +kernel
theorem dX11_init_37 : decode cX11_init 37 = .ok (.aload_n 0, 1) := by decide +kernel
theorem dX11_init_38 : decode cX11_init 38 = .ok (.new 30, 3) := by decide +kernel
theorem dX11_init_41 : decode cX11_init 41 = .ok (.dup, 1) := by decide +kernel
theorem dX11_init_42 : decode cX11_init 42 = .ok (.invokespecial 32, 3) := by decide +kernel
theorem dX11_init_45 : decode cX11_init 45 = .ok (.putfield 33, 3) := by decide +kernel
theorem dX11_init_48 : decode cX11_init 48 = .ok (.aload_n 0, 1) := by decide +kernel
theorem dX11_init_49 : decode cX11_init 49 = .ok (.new 37, 3) := by decide +kernel
theorem dX11_init_52 : decode cX11_init 52 = .ok (.dup, 1) := by decide +kernel
theorem dX11_init_53 : decode cX11_init 53 = .ok (.invokespecial 39, 3) := by decide +kernel
theorem dX11_init_56 : decode cX11_init 56 = .ok (.putfield 40, 3) := by decide +kernel
theorem dX11_init_59 : decode cX11_init 59 = .ok (.aload_n 0, 1) := by decide +kernel
theorem dX11_init_60 : decode cX11_init 60 = .ok (.new 44, 3) := by decide +kernel
theorem dX11_init_63 : decode cX11_init 63 = .ok (.dup, 1) := by decide +kernel
theorem dX11_init_64 : decode cX11_init 64 = .ok (.invokespecial 46, 3) := by decide +kernel
theorem dX11_init_67 : decode cX11_init 67 = .ok (.putfield 47, 3) := by decide +kernel
theorem dX11_init_70 : decode cX11_init 70 = .ok (.return_, 1) := by decide +kernel
theorem dX11_pound_0 : decode cX11_pound 0 = .ok (.aload_n 0, 1) := by decide +kernel
theorem dX11_pound_1 : decode cX11_pound 1 = .ok (.getfield 12, 3) := by decide +kernel
theorem dX11_pound_4 : decode cX11_pound 4 = .ok (.iload_n 1, 1) := by decide +kernel
theorem dX11_pound_5 : decode cX11_pound 5 = .ok (.invokevirtual 51, 3) := by decide +kernel
theorem dX11_pound_8 : decode cX11_pound 8 = .ok (.astore 4, 2) := by decide +kernel
theorem dX11_pound_10 : decode cX11_pound 10 = .ok (.aload 4, 2) := by decide +kernel
theorem dX11_pound_12 : decode cX11_pound 12 = .ok (.ifnull 12, 3) := by decide +kernel
theorem dX11_pound_15 : decode cX11_pound 15 = .ok (.iload_n 2, 1) := by decide +kernel
theorem dX11_pound_16 : decode cX11_pound 16 = .ok (.iconst 0, 1) := by decide +kernel
theorem dX11_pound_17 : decode cX11_pound 17 = .ok (.iconst 2, 1) := by decide +kernel
theorem dX11_pound_18 : decode cX11_pound 18 = .ok (.invokestatic 55, 3) := by decide +kernel
theorem dX11_pound_21 : decode cX11_pound 21 = .ok (.ifCond .ne 6, 3) := by decide +kernel
theorem dX11_pound_24 : decode cX11_pound 24 = .ok (.bipush (-101), 2) := by decide +kernel
theorem dX11_pound_26 : decode cX11_pound 26 = .ok (.ireturn, 1) := by decide +kernel
theorem dX11_pound_27 : decode cX11_pound 27 = .ok (.aload 4, 2) := by decide +kernel
theorem dX11_pound_29 : decode cX11_pound 29 = .ok (.iload_n 2, 1) := by decide +kernel
theorem dX11_pound_30 : decode cX11_pound 30 = .ok (.iload_n 3, 1) := by decide +kernel
theorem dX11_pound_31 : decode cX11_pound 31 = .ok (.invokevirtual 59, 3) := by decide +kernel
theorem dX11_pound_34 : decode cX11_pound 34 = .ok (.ifCond .eq 13, 3) := by decide +kernel
theorem dX11_pound_37 : decode cX11_pound 37 = .ok (.aload 4, 2) := by decide +kernel
theorem dX11_pound_39 : decode cX11_pound 39 = .ok (.iload_n 2, 1) := by decide +kernel
theorem dX11_pound_40 : decode cX11_pound 40 = .ok (.iload_n 3, 1) := by decide +kernel
theorem dX11_pound_41 : decode cX11_pound 41 = .ok (.invokevirtual 65, 3) := by decide +kernel
theorem dX11_pound_44 : decode cX11_pound 44 = .ok (.goto 5, 3) := by decide +kernel
theorem dX11_pound_47 : decode cX11_pound 47 = .ok (.bipush (-102), 2) := by decide +kernel
theorem dX11_pound_49 : decode cX11_pound 49 = .ok (.ireturn, 1) := by decide +kernel
theorem dX11_summit_0 : decode cX11_summit 0 = .ok (.iload_n 1, 1) := by decide +kernel
theorem dX11_summit_1 : decode cX11_summit 1 = .ok (.iconst 1, 1) := by decide +kernel
theorem dX11_summit_2 : decode cX11_summit 2 = .ok (.bipush 6, 2) := by decide +kernel
theorem dX11_summit_4 : decode cX11_summit 4 = .ok (.invokestatic 55, 3) := by decide +kernel
theorem dX11_summit_7 : decode cX11_summit 7 = .ok (.ifCond .ne 6, 3) := by decide +kernel
theorem dX11_summit_10 : decode cX11_summit 10 = .ok (.bipush (-102), 2) := by decide +kernel
theorem dX11_summit_12 : decode cX11_summit 12 = .ok (.ireturn, 1) := by decide +kernel
theorem dX11_summit_13 : decode cX11_summit 13 = .ok (.aload_n 0, 1) := by decide +kernel
theorem dX11_summit_14 : decode cX11_summit 14 = .ok (.getfield 12, 3) := by decide +kernel
theorem dX11_summit_17 : decode cX11_summit 17 = .ok (.getfield 69, 3) := by decide +kernel
theorem dX11_summit_20 : decode cX11_summit 20 = .ok (.ifCond .gt 13, 3) := by decide +kernel
theorem dX11_summit_23 : decode cX11_summit 23 = .ok (.aload_n 0, 1) := by decide +kernel
theorem dX11_summit_24 : decode cX11_summit 24 = .ok (.getfield 12, 3) := by decide +kernel
theorem dX11_summit_27 : decode cX11_summit 27 = .ok (.getfield 73, 3) := by decide +kernel
theorem dX11_summit_30 : decode cX11_summit 30 = .ok (.ifCond .le 6, 3) := by decide +kernel
theorem dX11_summit_33 : decode cX11_summit 33 = .ok (.bipush (-103), 2) := by decide +kernel
theorem dX11_summit_35 : decode cX11_summit 35 = .ok (.ireturn, 1) := by decide +kernel
theorem dX11_summit_36 : decode cX11_summit 36 = .ok (.aload_n 0, 1) := by decide +kernel
theorem dX11_summit_37 : decode cX11_summit 37 = .ok (.getfield 12, 3) := by decide +kernel
theorem dX11_summit_40 : decode cX11_summit 40 = .ok (.getfield 76, 3) := by decide +kernel
theorem dX11_summit_43 : decode cX11_summit 43 = .ok (.istore_n 2, 1) := by decide +kernel
theorem dX11_summit_44 : decode cX11_summit 44 = .ok (.aload_n 0, 1) := by decide +kernel
theorem dX11_summit_45 : decode cX11_summit 45 = .ok (.getfield 12, 3) := by decide +kernel
theorem dX11_summit_48 : decode cX11_summit 48 = .ok (.iload_n 1, 1) := by decide +kernel
theorem dX11_summit_49 : decode cX11_summit 49 = .ok (.putfield 76, 3) := by decide +kernel
theorem dX11_summit_52 : decode cX11_summit 52 = .ok (.iload_n 2, 1) := by decide +kernel
theorem dX11_summit_53 : decode cX11_summit 53 = .ok (.ireturn, 1) := by decide +kernel
theorem dX11_lock_0 : decode cX11_lock 0 = .ok (.aload_n 0, 1) := by decide +kernel
theorem dX11_lock_1 : decode cX11_lock 1 = .ok (.getfield 12, 3) := by decide +kernel
theorem dX11_lock_4 : decode cX11_lock 4 = .ok (.iload_n 1, 1) := by decide +kernel
theorem dX11_lock_5 : decode cX11_lock 5 = .ok (.invokevirtual 79, 3) := by decide +kernel
theorem dX11_lock_8 : decode cX11_lock 8 = .ok (.astore 4, 2) := by decide +kernel
theorem dX11_lock_10 : decode cX11_lock 10 = .ok (.aload 4, 2) := by decide +kernel
theorem dX11_lock_12 : decode cX11_lock 12 = .ok (.ifnull 12, 3) := by decide +kernel
theorem dX11_lock_15 : decode cX11_lock 15 = .ok (.iload_n 2, 1) := by decide +kernel
theorem dX11_lock_16 : decode cX11_lock 16 = .ok (.iconst 0, 1) := by decide +kernel
theorem dX11_lock_17 : decode cX11_lock 17 = .ok (.iconst 2, 1) := by decide +kernel
theorem dX11_lock_18 : decode cX11_lock 18 = .ok (.invokestatic 55, 3) := by decide +kernel
theorem dX11_lock_21 : decode cX11_lock 21 = .ok (.ifCond .ne 6, 3) := by decide +kernel
theorem dX11_lock_24 : decode cX11_lock 24 = .ok (.bipush (-101), 2) := by decide +kernel
theorem dX11_lock_26 : decode cX11_lock 26 = .ok (.ireturn, 1) := by decide +kernel
theorem dX11_lock_27 : decode cX11_lock 27 = .ok (.aload 4, 2) := by decide +kernel
theorem dX11_lock_29 : decode cX11_lock 29 = .ok (.iload_n 2, 1) := by decide +kernel
theorem dX11_lock_30 : decode cX11_lock 30 = .ok (.iload_n 3, 1) := by decide +kernel
theorem dX11_lock_31 : decode cX11_lock 31 = .ok (.invokevirtual 83, 3) := by decide +kernel
theorem dX11_lock_34 : decode cX11_lock 34 = .ok (.ifCond .ne 6, 3) := by decide +kernel
theorem dX11_lock_37 : decode cX11_lock 37 = .ok (.bipush (-102), 2) := by decide +kernel
theorem dX11_lock_39 : decode cX11_lock 39 = .ok (.ireturn, 1) := by decide +kernel
theorem dX11_lock_40 : decode cX11_lock 40 = .ok (.iload_n 2, 1) := by decide +kernel
theorem dX11_lock_41 : decode cX11_lock 41 = .ok (.iconst 2, 1) := by decide +kernel
theorem dX11_lock_42 : decode cX11_lock 42 = .ok (.if_icmp .eq 16, 3) := by decide +kernel
theorem dX11_lock_45 : decode cX11_lock 45 = .ok (.aload_n 0, 1) := by decide +kernel
theorem dX11_lock_46 : decode cX11_lock 46 = .ok (.getfield 12, 3) := by decide +kernel
theorem dX11_lock_49 : decode cX11_lock 49 = .ok (.getfield 69, 3) := by decide +kernel
theorem dX11_lock_52 : decode cX11_lock 52 = .ok (.ifCond .le 6, 3) := by decide +kernel
theorem dX11_lock_55 : decode cX11_lock 55 = .ok (.bipush (-103), 2) := by decide +kernel
theorem dX11_lock_57 : decode cX11_lock 57 = .ok (.ireturn, 1) := by decide +kernel
theorem dX11_lock_58 : decode cX11_lock 58 = .ok (.aload 4, 2) := by decide +kernel
theorem dX11_lock_60 : decode cX11_lock 60 = .ok (.iload_n 2, 1) := by decide +kernel
theorem dX11_lock_61 : decode cX11_lock 61 = .ok (.iload_n 3, 1) := by decide +kernel
theorem dX11_lock_62 : decode cX11_lock 62 = .ok (.invokevirtual 86, 3) := by decide +kernel
theorem dX11_lock_65 : decode cX11_lock 65 = .ok (.ireturn, 1) := by decide +kernel
theorem dX11_taker_0 : decode cX11_taker 0 = .ok (.aload_n 0, 1) := by decide +kernel
theorem dX11_taker_1 : decode cX11_taker 1 = .ok (.getfield 12, 3) := by decide +kernel
theorem dX11_taker_4 : decode cX11_taker 4 = .ok (.iload_n 2, 1) := by decide +kernel
theorem dX11_taker_5 : decode cX11_taker 5 = .ok (.invokevirtual 51, 3) := by decide +kernel
theorem dX11_taker_8 : decode cX11_taker 8 = .ok (.ifnonnull 6, 3) := by decide +kernel
theorem dX11_taker_11 : decode cX11_taker 11 = .ok (.bipush (-101), 2) := by decide +kernel
theorem dX11_taker_13 : decode cX11_taker 13 = .ok (.ireturn, 1) := by decide +kernel
theorem dX11_taker_14 : decode cX11_taker 14 = .ok (.iload_n 1, 1) := by decide +kernel
theorem dX11_taker_15 : decode cX11_taker 15 = .ok (.iconst 0, 1) := by decide +kernel
theorem dX11_taker_16 : decode cX11_taker 16 = .ok (.iconst 4, 1) := by decide +kernel
theorem dX11_taker_17 : decode cX11_taker 17 = .ok (.invokestatic 55, 3) := by decide +kernel
theorem dX11_taker_20 : decode cX11_taker 20 = .ok (.ifCond .eq 25, 3) := by decide +kernel
theorem dX11_taker_23 : decode cX11_taker 23 = .ok (.iload_n 3, 1) := by decide +kernel
theorem dX11_taker_24 : decode cX11_taker 24 = .ok (.iconst 1, 1) := by decide +kernel
theorem dX11_taker_25 : decode cX11_taker 25 = .ok (.sipush 200, 3) := by decide +kernel
theorem dX11_taker_28 : decode cX11_taker 28 = .ok (.invokestatic 55, 3) := by decide +kernel
theorem dX11_taker_31 : decode cX11_taker 31 = .ok (.ifCond .eq 14, 3) := by decide +kernel
theorem dX11_taker_34 : decode cX11_taker 34 = .ok (.iload 4, 2) := by decide +kernel
theorem dX11_taker_36 : decode cX11_taker 36 = .ok (.iconst 0, 1) := by decide +kernel
theorem dX11_taker_37 : decode cX11_taker 37 = .ok (.bipush 9, 2) := by decide +kernel
theorem dX11_taker_39 : decode cX11_taker 39 = .ok (.invokestatic 55, 3) := by decide +kernel
theorem dX11_taker_42 : decode cX11_taker 42 = .ok (.ifCond .ne 6, 3) := by decide +kernel
theorem dX11_taker_45 : decode cX11_taker 45 = .ok (.bipush (-102), 2) := by decide +kernel
theorem dX11_taker_47 : decode cX11_taker 47 = .ok (.ireturn, 1) := by decide +kernel
theorem dX11_taker_48 : decode cX11_taker 48 = .ok (.aload_n 0, 1) := by decide +kernel
theorem dX11_taker_49 : decode cX11_taker 49 = .ok (.getfield 12, 3) := by decide +kernel
theorem dX11_taker_52 : decode cX11_taker 52 = .ok (.getfield 89, 3) := by decide +kernel
theorem dX11_taker_55 : decode cX11_taker 55 = .ok (.bipush 12, 2) := by decide +kernel
theorem dX11_taker_57 : decode cX11_taker 57 = .ok (.if_icmp .lt 6, 3) := by decide +kernel
theorem dX11_taker_60 : decode cX11_taker 60 = .ok (.bipush (-104), 2) := by decide +kernel
theorem dX11_taker_62 : decode cX11_taker 62 = .ok (.ireturn, 1) := by decide +kernel
theorem dX11_taker_63 : decode cX11_taker 63 = .ok (.aload_n 0, 1) := by decide +kernel
theorem dX11_taker_64 : decode cX11_taker 64 = .ok (.getfield 12, 3) := by decide +kernel
theorem dX11_taker_67 : decode cX11_taker 67 = .ok (.new 87, 3) := by decide +kernel
theorem dX11_taker_70 : decode cX11_taker 70 = .ok (.dup, 1) := by decide +kernel
theorem dX11_taker_71 : decode cX11_taker 71 = .ok (.iload_n 1, 1) := by decide +kernel
theorem dX11_taker_72 : decode cX11_taker 72 = .ok (.iload_n 2, 1) := by decide +kernel
theorem dX11_taker_73 : decode cX11_taker 73 = .ok (.iload_n 3, 1) := by decide +kernel
theorem dX11_taker_74 : decode cX11_taker 74 = .ok (.iload 4, 2) := by decide +kernel
theorem dX11_taker_76 : decode cX11_taker 76 = .ok (.invokespecial 92, 3) := by decide +kernel
theorem dX11_taker_79 : decode cX11_taker 79 = .ok (.invokevirtual 95, 3) := by decide +kernel
theorem dX11_taker_82 : decode cX11_taker 82 = .ok (.ireturn, 1) := by decide +kernel
theorem dX11_as_0 : decode cX11_as 0 = .ok (.aload_n 0, 1) := by decide +kernel
theorem dX11_as_1 : decode cX11_as 1 = .ok (.getfield 12, 3) := by decide +kernel
theorem dX11_as_4 : decode cX11_as 4 = .ok (.iload_n 1, 1) := by decide +kernel
theorem dX11_as_5 : decode cX11_as 5 = .ok (.invokevirtual 99, 3) := by decide +kernel
theorem dX11_as_8 : decode cX11_as 8 = .ok (.astore_n 3, 1) := by decide +kernel
theorem dX11_as_9 : decode cX11_as 9 = .ok (.aload_n 3, 1) := by decide +kernel
theorem dX11_as_10 : decode cX11_as 10 = .ok (.ifnonnull 6, 3) := by decide +kernel
theorem dX11_as_13 : decode cX11_as 13 = .ok (.bipush (-101), 2) := by decide +kernel
theorem dX11_as_15 : decode cX11_as 15 = .ok (.ireturn, 1) := by decide +kernel
theorem dX11_as_16 : decode cX11_as 16 = .ok (.iload_n 2, 1) := by decide +kernel
theorem dX11_as_17 : decode cX11_as 17 = .ok (.iconst 0, 1) := by decide +kernel
theorem dX11_as_18 : decode cX11_as 18 = .ok (.iconst 4, 1) := by decide +kernel
theorem dX11_as_19 : decode cX11_as 19 = .ok (.invokestatic 55, 3) := by decide +kernel
theorem dX11_as_22 : decode cX11_as 22 = .ok (.ifCond .ne 6, 3) := by decide +kernel
theorem dX11_as_25 : decode cX11_as 25 = .ok (.bipush (-102), 2) := by decide +kernel
theorem dX11_as_27 : decode cX11_as 27 = .ok (.ireturn, 1) := by decide +kernel
theorem dX11_as_28 : decode cX11_as 28 = .ok (.aload_n 3, 1) := by decide +kernel
theorem dX11_as_29 : decode cX11_as 29 = .ok (.iload_n 2, 1) := by decide +kernel
theorem dX11_as_30 : decode cX11_as 30 = .ok (.invokevirtual 103, 3) := by decide +kernel
theorem dX11_as_33 : decode cX11_as 33 = .ok (.ifCond .eq 7, 3) := by decide +kernel
theorem dX11_as_36 : decode cX11_as 36 = .ok (.iload_n 1, 1) := by decide +kernel
theorem dX11_as_37 : decode cX11_as 37 = .ok (.goto 4, 3) := by decide +kernel
theorem dX11_as_40 : decode cX11_as 40 = .ok (.iconst (-1), 1) := by decide +kernel
theorem dX11_as_41 : decode cX11_as 41 = .ok (.ireturn, 1) := by decide +kernel
theorem dX11_acts_0 : decode cX11_acts 0 = .ok (.aload_n 0, 1) := by decide +kernel
theorem dX11_acts_1 : decode cX11_acts 1 = .ok (.getfield 12, 3) := by decide +kernel
theorem dX11_acts_4 : decode cX11_acts 4 = .ok (.iload_n 1, 1) := by decide +kernel
theorem dX11_acts_5 : decode cX11_acts 5 = .ok (.invokevirtual 99, 3) := by decide +kernel
theorem dX11_acts_8 : decode cX11_acts 8 = .ok (.astore 4, 2) := by decide +kernel
theorem dX11_acts_10 : decode cX11_acts 10 = .ok (.aload 4, 2) := by decide +kernel
theorem dX11_acts_12 : decode cX11_acts 12 = .ok (.ifnonnull 7, 3) := by decide +kernel
theorem dX11_acts_15 : decode cX11_acts 15 = .ok (.sipush (-1001), 3) := by decide +kernel
theorem dX11_acts_18 : decode cX11_acts 18 = .ok (.ireturn, 1) := by decide +kernel
theorem dX11_acts_19 : decode cX11_acts 19 = .ok (.iload_n 2, 1) := by decide +kernel
theorem dX11_acts_20 : decode cX11_acts 20 = .ok (.iconst 0, 1) := by decide +kernel
theorem dX11_acts_21 : decode cX11_acts 21 = .ok (.iconst 2, 1) := by decide +kernel
theorem dX11_acts_22 : decode cX11_acts 22 = .ok (.invokestatic 55, 3) := by decide +kernel
theorem dX11_acts_25 : decode cX11_acts 25 = .ok (.ifCond .eq 14, 3) := by decide +kernel
theorem dX11_acts_28 : decode cX11_acts 28 = .ok (.iload_n 3, 1) := by decide +kernel
theorem dX11_acts_29 : decode cX11_acts 29 = .ok (.iconst 0, 1) := by decide +kernel
theorem dX11_acts_30 : decode cX11_acts 30 = .ok (.sipush 599, 3) := by decide +kernel
theorem dX11_acts_33 : decode cX11_acts 33 = .ok (.invokestatic 55, 3) := by decide +kernel
theorem dX11_acts_36 : decode cX11_acts 36 = .ok (.ifCond .ne 7, 3) := by decide +kernel
theorem dX11_acts_39 : decode cX11_acts 39 = .ok (.sipush (-1002), 3) := by decide +kernel
theorem dX11_acts_42 : decode cX11_acts 42 = .ok (.ireturn, 1) := by decide +kernel
theorem dX11_acts_43 : decode cX11_acts 43 = .ok (.iload_n 2, 1) := by decide +kernel
theorem dX11_acts_44 : decode cX11_acts 44 = .ok (.ifCond .ne 14, 3) := by decide +kernel
theorem dX11_acts_47 : decode cX11_acts 47 = .ok (.aload_n 0, 1) := by decide +kernel
theorem dX11_acts_48 : decode cX11_acts 48 = .ok (.getfield 12, 3) := by decide +kernel
theorem dX11_acts_51 : decode cX11_acts 51 = .ok (.aload 4, 2) := by decide +kernel
theorem dX11_acts_53 : decode cX11_acts 53 = .ok (.iload_n 3, 1) := by decide +kernel
theorem dX11_acts_54 : decode cX11_acts 54 = .ok (.invokevirtual 107, 3) := by decide +kernel
theorem dX11_acts_57 : decode cX11_acts 57 = .ok (.ireturn, 1) := by decide +kernel
theorem dX11_acts_58 : decode cX11_acts 58 = .ok (.iload_n 2, 1) := by decide +kernel
theorem dX11_acts_59 : decode cX11_acts 59 = .ok (.iconst 1, 1) := by decide +kernel
theorem dX11_acts_60 : decode cX11_acts 60 = .ok (.if_icmp .ne 11, 3) := by decide +kernel
theorem dX11_acts_63 : decode cX11_acts 63 = .ok (.aload 4, 2) := by decide +kernel
theorem dX11_acts_65 : decode cX11_acts 65 = .ok (.invokevirtual 111, 3) := by decide +kernel
theorem dX11_acts_68 : decode cX11_acts 68 = .ok (.goto 8, 3) := by decide +kernel
theorem dX11_acts_71 : decode cX11_acts 71 = .ok (.aload 4, 2) := by decide +kernel
theorem dX11_acts_73 : decode cX11_acts 73 = .ok (.getfield 115, 3) := by decide +kernel
theorem dX11_acts_76 : decode cX11_acts 76 = .ok (.ireturn, 1) := by decide +kernel
theorem dX11_boat_0 : decode cX11_boat 0 = .ok (.aload_n 0, 1) := by decide +kernel
theorem dX11_boat_1 : decode cX11_boat 1 = .ok (.getfield 12, 3) := by decide +kernel
theorem dX11_boat_4 : decode cX11_boat 4 = .ok (.iload_n 1, 1) := by decide +kernel
theorem dX11_boat_5 : decode cX11_boat 5 = .ok (.invokevirtual 51, 3) := by decide +kernel
theorem dX11_boat_8 : decode cX11_boat 8 = .ok (.ifnull 19, 3) := by decide +kernel
theorem dX11_boat_11 : decode cX11_boat 11 = .ok (.aload_n 0, 1) := by decide +kernel
theorem dX11_boat_12 : decode cX11_boat 12 = .ok (.getfield 12, 3) := by decide +kernel
theorem dX11_boat_15 : decode cX11_boat 15 = .ok (.iload_n 2, 1) := by decide +kernel
theorem dX11_boat_16 : decode cX11_boat 16 = .ok (.invokevirtual 51, 3) := by decide +kernel
theorem dX11_boat_19 : decode cX11_boat 19 = .ok (.ifnull 8, 3) := by decide +kernel
theorem dX11_boat_22 : decode cX11_boat 22 = .ok (.iload_n 1, 1) := by decide +kernel
theorem dX11_boat_23 : decode cX11_boat 23 = .ok (.iload_n 2, 1) := by decide +kernel
theorem dX11_boat_24 : decode cX11_boat 24 = .ok (.if_icmp .ne 6, 3) := by decide +kernel
theorem dX11_boat_27 : decode cX11_boat 27 = .ok (.bipush (-101), 2) := by decide +kernel
theorem dX11_boat_29 : decode cX11_boat 29 = .ok (.ireturn, 1) := by decide +kernel
theorem dX11_boat_30 : decode cX11_boat 30 = .ok (.iload_n 3, 1) := by decide +kernel
theorem dX11_boat_31 : decode cX11_boat 31 = .ok (.iconst 0, 1) := by decide +kernel
theorem dX11_boat_32 : decode cX11_boat 32 = .ok (.bipush 40, 2) := by decide +kernel
theorem dX11_boat_34 : decode cX11_boat 34 = .ok (.invokestatic 55, 3) := by decide +kernel
theorem dX11_boat_37 : decode cX11_boat 37 = .ok (.ifCond .eq 34, 3) := by decide +kernel
theorem dX11_boat_40 : decode cX11_boat 40 = .ok (.iload 4, 2) := by decide +kernel
theorem dX11_boat_42 : decode cX11_boat 42 = .ok (.iconst 1, 1) := by decide +kernel
theorem dX11_boat_43 : decode cX11_boat 43 = .ok (.bipush 9, 2) := by decide +kernel
theorem dX11_boat_45 : decode cX11_boat 45 = .ok (.invokestatic 55, 3) := by decide +kernel
theorem dX11_boat_48 : decode cX11_boat 48 = .ok (.ifCond .eq 23, 3) := by decide +kernel
theorem dX11_boat_51 : decode cX11_boat 51 = .ok (.iload 5, 2) := by decide +kernel
theorem dX11_boat_53 : decode cX11_boat 53 = .ok (.iconst 0, 1) := by decide +kernel
theorem dX11_boat_54 : decode cX11_boat 54 = .ok (.iconst 3, 1) := by decide +kernel
theorem dX11_boat_55 : decode cX11_boat 55 = .ok (.invokestatic 55, 3) := by decide +kernel
theorem dX11_boat_58 : decode cX11_boat 58 = .ok (.ifCond .eq 13, 3) := by decide +kernel
theorem dX11_boat_61 : decode cX11_boat 61 = .ok (.iload 6, 2) := by decide +kernel
theorem dX11_boat_63 : decode cX11_boat 63 = .ok (.iconst 0, 1) := by decide +kernel
theorem dX11_boat_64 : decode cX11_boat 64 = .ok (.iconst 3, 1) := by decide +kernel
theorem dX11_boat_65 : decode cX11_boat 65 = .ok (.invokestatic 55, 3) := by decide +kernel
theorem dX11_boat_68 : decode cX11_boat 68 = .ok (.ifCond .ne 6, 3) := by decide +kernel
theorem dX11_boat_71 : decode cX11_boat 71 = .ok (.bipush (-102), 2) := by decide +kernel
theorem dX11_boat_73 : decode cX11_boat 73 = .ok (.ireturn, 1) := by decide +kernel
theorem dX11_boat_74 : decode cX11_boat 74 = .ok (.aload_n 0, 1) := by decide +kernel
theorem dX11_boat_75 : decode cX11_boat 75 = .ok (.getfield 12, 3) := by decide +kernel
theorem dX11_boat_78 : decode cX11_boat 78 = .ok (.getfield 73, 3) := by decide +kernel
theorem dX11_boat_81 : decode cX11_boat 81 = .ok (.bipush 12, 2) := by decide +kernel
theorem dX11_boat_83 : decode cX11_boat 83 = .ok (.if_icmp .lt 6, 3) := by decide +kernel
theorem dX11_boat_86 : decode cX11_boat 86 = .ok (.bipush (-104), 2) := by decide +kernel
theorem dX11_boat_88 : decode cX11_boat 88 = .ok (.ireturn, 1) := by decide +kernel
theorem dX11_boat_89 : decode cX11_boat 89 = .ok (.aload_n 0, 1) := by decide +kernel
theorem dX11_boat_90 : decode cX11_boat 90 = .ok (.getfield 12, 3) := by decide +kernel
theorem dX11_boat_93 : decode cX11_boat 93 = .ok (.new 118, 3) := by decide +kernel
theorem dX11_boat_96 : decode cX11_boat 96 = .ok (.dup, 1) := by decide +kernel
theorem dX11_boat_97 : decode cX11_boat 97 = .ok (.iload_n 1, 1) := by decide +kernel
theorem dX11_boat_98 : decode cX11_boat 98 = .ok (.iload_n 2, 1) := by decide +kernel
theorem dX11_boat_99 : decode cX11_boat 99 = .ok (.iload_n 3, 1) := by decide +kernel
theorem dX11_boat_100 : decode cX11_boat 100 = .ok (.iload 4, 2) := by decide +kernel
theorem dX11_boat_102 : decode cX11_boat 102 = .ok (.iload 5, 2) := by decide +kernel
theorem dX11_boat_104 : decode cX11_boat 104 = .ok (.iload 6, 2) := by decide +kernel
theorem dX11_boat_106 : decode cX11_boat 106 = .ok (.invokespecial 120, 3) := by decide +kernel
theorem dX11_boat_109 : decode cX11_boat 109 = .ok (.invokevirtual 123, 3) := by decide +kernel
theorem dX11_boat_112 : decode cX11_boat 112 = .ok (.ireturn, 1) := by decide +kernel
theorem dX11_hour_0 : decode cX11_hour 0 = .ok (.aload_n 0, 1) := by decide +kernel
theorem dX11_hour_1 : decode cX11_hour 1 = .ok (.iconst 1, 1) := by decide +kernel
theorem dX11_hour_2 : decode cX11_hour 2 = .ok (.iload_n 1, 1) := by decide +kernel
theorem dX11_hour_3 : decode cX11_hour 3 = .ok (.invokevirtual 127, 3) := by decide +kernel
theorem dX11_hour_6 : decode cX11_hour 6 = .ok (.ireturn, 1) := by decide +kernel
theorem dX11_hours_0 : decode cX11_hours 0 = .ok (.iload_n 1, 1) := by decide +kernel
theorem dX11_hours_1 : decode cX11_hours 1 = .ok (.iconst 1, 1) := by decide +kernel
theorem dX11_hours_2 : decode cX11_hours 2 = .ok (.bipush 100, 2) := by decide +kernel
theorem dX11_hours_4 : decode cX11_hours 4 = .ok (.invokestatic 55, 3) := by decide +kernel
theorem dX11_hours_7 : decode cX11_hours 7 = .ok (.ifCond .eq 13, 3) := by decide +kernel
theorem dX11_hours_10 : decode cX11_hours 10 = .ok (.iload_n 2, 1) := by decide +kernel
theorem dX11_hours_11 : decode cX11_hours 11 = .ok (.iconst 0, 1) := by decide +kernel
theorem dX11_hours_12 : decode cX11_hours 12 = .ok (.bipush 50, 2) := by decide +kernel
theorem dX11_hours_14 : decode cX11_hours 14 = .ok (.invokestatic 55, 3) := by decide +kernel
theorem dX11_hours_17 : decode cX11_hours 17 = .ok (.ifCond .ne 6, 3) := by decide +kernel
theorem dX11_hours_20 : decode cX11_hours 20 = .ok (.bipush (-102), 2) := by decide +kernel
theorem dX11_hours_22 : decode cX11_hours 22 = .ok (.ireturn, 1) := by decide +kernel
theorem dX11_hours_23 : decode cX11_hours 23 = .ok (.aload_n 0, 1) := by decide +kernel
theorem dX11_hours_24 : decode cX11_hours 24 = .ok (.getfield 12, 3) := by decide +kernel
theorem dX11_hours_27 : decode cX11_hours 27 = .ok (.getfield 69, 3) := by decide +kernel
theorem dX11_hours_30 : decode cX11_hours 30 = .ok (.iload_n 1, 1) := by decide +kernel
theorem dX11_hours_31 : decode cX11_hours 31 = .ok (.iadd, 1) := by decide +kernel
theorem dX11_hours_32 : decode cX11_hours 32 = .ok (.sipush 600, 3) := by decide +kernel
theorem dX11_hours_35 : decode cX11_hours 35 = .ok (.if_icmp .le 6, 3) := by decide +kernel
theorem dX11_hours_38 : decode cX11_hours 38 = .ok (.bipush (-103), 2) := by decide +kernel
theorem dX11_hours_40 : decode cX11_hours 40 = .ok (.ireturn, 1) := by decide +kernel
theorem dX11_hours_41 : decode cX11_hours 41 = .ok (.iconst 0, 1) := by decide +kernel
theorem dX11_hours_42 : decode cX11_hours 42 = .ok (.istore_n 3, 1) := by decide +kernel
theorem dX11_hours_43 : decode cX11_hours 43 = .ok (.iconst 0, 1) := by decide +kernel
theorem dX11_hours_44 : decode cX11_hours 44 = .ok (.istore 4, 2) := by decide +kernel
theorem dX11_hours_46 : decode cX11_hours 46 = .ok (.iload 4, 2) := by decide +kernel
theorem dX11_hours_48 : decode cX11_hours 48 = .ok (.iload_n 1, 1) := by decide +kernel
theorem dX11_hours_49 : decode cX11_hours 49 = .ok (.if_icmp .ge 20, 3) := by decide +kernel
theorem dX11_hours_52 : decode cX11_hours 52 = .ok (.iload_n 3, 1) := by decide +kernel
theorem dX11_hours_53 : decode cX11_hours 53 = .ok (.aload_n 0, 1) := by decide +kernel
theorem dX11_hours_54 : decode cX11_hours 54 = .ok (.getfield 12, 3) := by decide +kernel
theorem dX11_hours_57 : decode cX11_hours 57 = .ok (.iload_n 2, 1) := by decide +kernel
theorem dX11_hours_58 : decode cX11_hours 58 = .ok (.invokevirtual 130, 3) := by decide +kernel
theorem dX11_hours_61 : decode cX11_hours 61 = .ok (.iadd, 1) := by decide +kernel
theorem dX11_hours_62 : decode cX11_hours 62 = .ok (.istore_n 3, 1) := by decide +kernel
theorem dX11_hours_63 : decode cX11_hours 63 = .ok (.iinc 4 1, 3) := by decide +kernel
theorem dX11_hours_66 : decode cX11_hours 66 = .ok (.goto (-20), 3) := by decide +kernel
theorem dX11_hours_69 : decode cX11_hours 69 = .ok (.iload_n 3, 1) := by decide +kernel
theorem dX11_hours_70 : decode cX11_hours 70 = .ok (.ireturn, 1) := by decide +kernel
theorem dX11_at_0 : decode cX11_at 0 = .ok (.aload_n 0, 1) := by decide +kernel
theorem dX11_at_1 : decode cX11_at 1 = .ok (.getfield 12, 3) := by decide +kernel
theorem dX11_at_4 : decode cX11_at 4 = .ok (.iload_n 1, 1) := by decide +kernel
theorem dX11_at_5 : decode cX11_at 5 = .ok (.invokevirtual 134, 3) := by decide +kernel
theorem dX11_at_8 : decode cX11_at 8 = .ok (.astore_n 3, 1) := by decide +kernel
theorem dX11_at_9 : decode cX11_at 9 = .ok (.aload_n 3, 1) := by decide +kernel
theorem dX11_at_10 : decode cX11_at 10 = .ok (.ifnonnull 6, 3) := by decide +kernel
theorem dX11_at_13 : decode cX11_at 13 = .ok (.bipush (-101), 2) := by decide +kernel
theorem dX11_at_15 : decode cX11_at 15 = .ok (.ireturn, 1) := by decide +kernel
theorem dX11_at_16 : decode cX11_at 16 = .ok (.iload_n 2, 1) := by decide +kernel
theorem dX11_at_17 : decode cX11_at 17 = .ok (.iconst 0, 1) := by decide +kernel
theorem dX11_at_18 : decode cX11_at 18 = .ok (.iconst 4, 1) := by decide +kernel
theorem dX11_at_19 : decode cX11_at 19 = .ok (.invokestatic 55, 3) := by decide +kernel
theorem dX11_at_22 : decode cX11_at 22 = .ok (.ifCond .eq 11, 3) := by decide +kernel
theorem dX11_at_25 : decode cX11_at 25 = .ok (.aload_n 3, 1) := by decide +kernel
theorem dX11_at_26 : decode cX11_at 26 = .ok (.iload_n 2, 1) := by decide +kernel
theorem dX11_at_27 : decode cX11_at 27 = .ok (.invokevirtual 138, 3) := by decide +kernel
theorem dX11_at_30 : decode cX11_at 30 = .ok (.goto 5, 3) := by decide +kernel
theorem dX11_at_33 : decode cX11_at 33 = .ok (.bipush (-102), 2) := by decide +kernel
theorem dX11_at_35 : decode cX11_at 35 = .ok (.ireturn, 1) := by decide +kernel
theorem dX11_lockIs_0 : decode cX11_lockIs 0 = .ok (.aload_n 0, 1) := by decide +kernel
theorem dX11_lockIs_1 : decode cX11_lockIs 1 = .ok (.getfield 12, 3) := by decide +kernel
theorem dX11_lockIs_4 : decode cX11_lockIs 4 = .ok (.iload_n 1, 1) := by decide +kernel
theorem dX11_lockIs_5 : decode cX11_lockIs 5 = .ok (.invokevirtual 79, 3) := by decide +kernel
theorem dX11_lockIs_8 : decode cX11_lockIs 8 = .ok (.astore_n 3, 1) := by decide +kernel
theorem dX11_lockIs_9 : decode cX11_lockIs 9 = .ok (.aload_n 3, 1) := by decide +kernel
theorem dX11_lockIs_10 : decode cX11_lockIs 10 = .ok (.ifnonnull 6, 3) := by decide +kernel
theorem dX11_lockIs_13 : decode cX11_lockIs 13 = .ok (.bipush (-101), 2) := by decide +kernel
theorem dX11_lockIs_15 : decode cX11_lockIs 15 = .ok (.ireturn, 1) := by decide +kernel
theorem dX11_lockIs_16 : decode cX11_lockIs 16 = .ok (.iload_n 2, 1) := by decide +kernel
theorem dX11_lockIs_17 : decode cX11_lockIs 17 = .ok (.iconst 0, 1) := by decide +kernel
theorem dX11_lockIs_18 : decode cX11_lockIs 18 = .ok (.iconst 3, 1) := by decide +kernel
theorem dX11_lockIs_19 : decode cX11_lockIs 19 = .ok (.invokestatic 55, 3) := by decide +kernel
theorem dX11_lockIs_22 : decode cX11_lockIs 22 = .ok (.ifCond .eq 11, 3) := by decide +kernel
theorem dX11_lockIs_25 : decode cX11_lockIs 25 = .ok (.aload_n 3, 1) := by decide +kernel
theorem dX11_lockIs_26 : decode cX11_lockIs 26 = .ok (.iload_n 2, 1) := by decide +kernel
theorem dX11_lockIs_27 : decode cX11_lockIs 27 = .ok (.invokevirtual 141, 3) := by decide +kernel
theorem dX11_lockIs_30 : decode cX11_lockIs 30 = .ok (.goto 5, 3) := by decide +kernel
theorem dX11_lockIs_33 : decode cX11_lockIs 33 = .ok (.bipush (-102), 2) := by decide +kernel
theorem dX11_lockIs_35 : decode cX11_lockIs 35 = .ok (.ireturn, 1) := by decide +kernel
theorem dX11_now_0 : decode cX11_now 0 = .ok (.aload_n 0, 1) := by decide +kernel
theorem dX11_now_1 : decode cX11_now 1 = .ok (.getfield 12, 3) := by decide +kernel
theorem dX11_now_4 : decode cX11_now 4 = .ok (.iload_n 1, 1) := by decide +kernel
theorem dX11_now_5 : decode cX11_now 5 = .ok (.invokevirtual 51, 3) := by decide +kernel
theorem dX11_now_8 : decode cX11_now 8 = .ok (.astore_n 3, 1) := by decide +kernel
theorem dX11_now_9 : decode cX11_now 9 = .ok (.aload_n 3, 1) := by decide +kernel
theorem dX11_now_10 : decode cX11_now 10 = .ok (.ifnonnull 6, 3) := by decide +kernel
theorem dX11_now_13 : decode cX11_now 13 = .ok (.bipush (-101), 2) := by decide +kernel
theorem dX11_now_15 : decode cX11_now 15 = .ok (.ireturn, 1) := by decide +kernel
theorem dX11_now_16 : decode cX11_now 16 = .ok (.iload_n 2, 1) := by decide +kernel
theorem dX11_now_17 : decode cX11_now 17 = .ok (.iconst 0, 1) := by decide +kernel
theorem dX11_now_18 : decode cX11_now 18 = .ok (.iconst 2, 1) := by decide +kernel
theorem dX11_now_19 : decode cX11_now 19 = .ok (.invokestatic 55, 3) := by decide +kernel
theorem dX11_now_22 : decode cX11_now 22 = .ok (.ifCond .eq 11, 3) := by decide +kernel
theorem dX11_now_25 : decode cX11_now 25 = .ok (.aload_n 3, 1) := by decide +kernel
theorem dX11_now_26 : decode cX11_now 26 = .ok (.iload_n 2, 1) := by decide +kernel
theorem dX11_now_27 : decode cX11_now 27 = .ok (.invokevirtual 144, 3) := by decide +kernel
theorem dX11_now_30 : decode cX11_now 30 = .ok (.goto 5, 3) := by decide +kernel
theorem dX11_now_33 : decode cX11_now 33 = .ok (.bipush (-102), 2) := by decide +kernel
theorem dX11_now_35 : decode cX11_now 35 = .ok (.ireturn, 1) := by decide +kernel
theorem dX11_sum_0 : decode cX11_sum 0 = .ok (.iload_n 1, 1) := by decide +kernel
theorem dX11_sum_1 : decode cX11_sum 1 = .ok (.tableswitch 91 0 4 #[35, 43, 67, 75, 83], 35) := by decide +kernel
theorem dX11_sum_36 : decode cX11_sum 36 = .ok (.aload_n 0, 1) := by decide +kernel
theorem dX11_sum_37 : decode cX11_sum 37 = .ok (.getfield 12, 3) := by decide +kernel
theorem dX11_sum_40 : decode cX11_sum 40 = .ok (.getfield 145, 3) := by decide +kernel
theorem dX11_sum_43 : decode cX11_sum 43 = .ok (.lreturn, 1) := by decide +kernel
theorem dX11_sum_44 : decode cX11_sum 44 = .ok (.aload_n 0, 1) := by decide +kernel
theorem dX11_sum_45 : decode cX11_sum 45 = .ok (.getfield 12, 3) := by decide +kernel
theorem dX11_sum_48 : decode cX11_sum 48 = .ok (.invokevirtual 149, 3) := by decide +kernel
theorem dX11_sum_51 : decode cX11_sum 51 = .ok (.lstore_n 2, 1) := by decide +kernel
theorem dX11_sum_52 : decode cX11_sum 52 = .ok (.lload_n 2, 1) := by decide +kernel
theorem dX11_sum_53 : decode cX11_sum 53 = .ok (.lconst 0, 1) := by decide +kernel
theorem dX11_sum_54 : decode cX11_sum 54 = .ok (.lcmp, 1) := by decide +kernel
theorem dX11_sum_55 : decode cX11_sum 55 = .ok (.ifCond .ge 11, 3) := by decide +kernel
theorem dX11_sum_58 : decode cX11_sum 58 = .ok (.ldc2_w 153, 3) := by decide +kernel
theorem dX11_sum_61 : decode cX11_sum 61 = .ok (.lload_n 2, 1) := by decide +kernel
theorem dX11_sum_62 : decode cX11_sum 62 = .ok (.lsub, 1) := by decide +kernel
theorem dX11_sum_63 : decode cX11_sum 63 = .ok (.goto 4, 3) := by decide +kernel
theorem dX11_sum_66 : decode cX11_sum 66 = .ok (.lload_n 2, 1) := by decide +kernel
theorem dX11_sum_67 : decode cX11_sum 67 = .ok (.lreturn, 1) := by decide +kernel
theorem dX11_sum_68 : decode cX11_sum 68 = .ok (.aload_n 0, 1) := by decide +kernel
theorem dX11_sum_69 : decode cX11_sum 69 = .ok (.getfield 12, 3) := by decide +kernel
theorem dX11_sum_72 : decode cX11_sum 72 = .ok (.getfield 155, 3) := by decide +kernel
theorem dX11_sum_75 : decode cX11_sum 75 = .ok (.lreturn, 1) := by decide +kernel
theorem dX11_sum_76 : decode cX11_sum 76 = .ok (.aload_n 0, 1) := by decide +kernel
theorem dX11_sum_77 : decode cX11_sum 77 = .ok (.getfield 12, 3) := by decide +kernel
theorem dX11_sum_80 : decode cX11_sum 80 = .ok (.invokevirtual 158, 3) := by decide +kernel
theorem dX11_sum_83 : decode cX11_sum 83 = .ok (.lreturn, 1) := by decide +kernel
theorem dX11_sum_84 : decode cX11_sum 84 = .ok (.aload_n 0, 1) := by decide +kernel
theorem dX11_sum_85 : decode cX11_sum 85 = .ok (.getfield 12, 3) := by decide +kernel
theorem dX11_sum_88 : decode cX11_sum 88 = .ok (.invokevirtual 161, 3) := by decide +kernel
theorem dX11_sum_91 : decode cX11_sum 91 = .ok (.lreturn, 1) := by decide +kernel
theorem dX11_sum_92 : decode cX11_sum 92 = .ok (.ldc2_w 164, 3) := by decide +kernel
theorem dX11_sum_95 : decode cX11_sum 95 = .ok (.lreturn, 1) := by decide +kernel
theorem dX11_letters_0 : decode cX11_letters 0 = .ok (.lload_n 1, 1) := by decide +kernel
theorem dX11_letters_1 : decode cX11_letters 1 = .ok (.invokestatic 166, 3) := by decide +kernel
theorem dX11_letters_4 : decode cX11_letters 4 = .ok (.istore_n 3, 1) := by decide +kernel
theorem dX11_letters_5 : decode cX11_letters 5 = .ok (.iload_n 3, 1) := by decide +kernel
theorem dX11_letters_6 : decode cX11_letters 6 = .ok (.ifCond .ge 6, 3) := by decide +kernel
theorem dX11_letters_9 : decode cX11_letters 9 = .ok (.bipush (-102), 2) := by decide +kernel
theorem dX11_letters_11 : decode cX11_letters 11 = .ok (.ireturn, 1) := by decide +kernel
theorem dX11_letters_12 : decode cX11_letters 12 = .ok (.aload_n 0, 1) := by decide +kernel
theorem dX11_letters_13 : decode cX11_letters 13 = .ok (.getfield 19, 3) := by decide +kernel
theorem dX11_letters_16 : decode cX11_letters 16 = .ok (.getfield 170, 3) := by decide +kernel
theorem dX11_letters_19 : decode cX11_letters 19 = .ok (.iload_n 3, 1) := by decide +kernel
theorem dX11_letters_20 : decode cX11_letters 20 = .ok (.iadd, 1) := by decide +kernel
theorem dX11_letters_21 : decode cX11_letters 21 = .ok (.bipush 60, 2) := by decide +kernel
theorem dX11_letters_23 : decode cX11_letters 23 = .ok (.if_icmp .le 6, 3) := by decide +kernel
theorem dX11_letters_26 : decode cX11_letters 26 = .ok (.bipush (-104), 2) := by decide +kernel
theorem dX11_letters_28 : decode cX11_letters 28 = .ok (.ireturn, 1) := by decide +kernel
theorem dX11_letters_29 : decode cX11_letters 29 = .ok (.aload_n 0, 1) := by decide +kernel
theorem dX11_letters_30 : decode cX11_letters 30 = .ok (.getfield 19, 3) := by decide +kernel
theorem dX11_letters_33 : decode cX11_letters 33 = .ok (.lload_n 1, 1) := by decide +kernel
theorem dX11_letters_34 : decode cX11_letters 34 = .ok (.iload_n 3, 1) := by decide +kernel
theorem dX11_letters_35 : decode cX11_letters 35 = .ok (.invokevirtual 173, 3) := by decide +kernel
theorem dX11_letters_38 : decode cX11_letters 38 = .ok (.aload_n 0, 1) := by decide +kernel
theorem dX11_letters_39 : decode cX11_letters 39 = .ok (.getfield 19, 3) := by decide +kernel
theorem dX11_letters_42 : decode cX11_letters 42 = .ok (.getfield 170, 3) := by decide +kernel
theorem dX11_letters_45 : decode cX11_letters 45 = .ok (.ireturn, 1) := by decide +kernel
theorem dX11_blank_0 : decode cX11_blank 0 = .ok (.aload_n 0, 1) := by decide +kernel
theorem dX11_blank_1 : decode cX11_blank 1 = .ok (.getfield 19, 3) := by decide +kernel
theorem dX11_blank_4 : decode cX11_blank 4 = .ok (.getfield 170, 3) := by decide +kernel
theorem dX11_blank_7 : decode cX11_blank 7 = .ok (.istore_n 1, 1) := by decide +kernel
theorem dX11_blank_8 : decode cX11_blank 8 = .ok (.aload_n 0, 1) := by decide +kernel
theorem dX11_blank_9 : decode cX11_blank 9 = .ok (.getfield 19, 3) := by decide +kernel
theorem dX11_blank_12 : decode cX11_blank 12 = .ok (.iconst 0, 1) := by decide +kernel
theorem dX11_blank_13 : decode cX11_blank 13 = .ok (.putfield 170, 3) := by decide +kernel
theorem dX11_blank_16 : decode cX11_blank 16 = .ok (.iload_n 1, 1) := by decide +kernel
theorem dX11_blank_17 : decode cX11_blank 17 = .ok (.ireturn, 1) := by decide +kernel
theorem dX11_fault_0 : decode cX11_fault 0 = .ok (.aload_n 0, 1) := by decide +kernel
theorem dX11_fault_1 : decode cX11_fault 1 = .ok (.getfield 19, 3) := by decide +kernel
theorem dX11_fault_4 : decode cX11_fault 4 = .ok (.invokevirtual 177, 3) := by decide +kernel
theorem dX11_fault_7 : decode cX11_fault 7 = .ok (.ireturn, 1) := by decide +kernel
theorem dX11_text_0 : decode cX11_text 0 = .ok (.aload_n 0, 1) := by decide +kernel
theorem dX11_text_1 : decode cX11_text 1 = .ok (.getfield 19, 3) := by decide +kernel
theorem dX11_text_4 : decode cX11_text 4 = .ok (.invokevirtual 180, 3) := by decide +kernel
theorem dX11_text_7 : decode cX11_text 7 = .ok (.ifCond .ne 6, 3) := by decide +kernel
theorem dX11_text_10 : decode cX11_text 10 = .ok (.bipush (-103), 2) := by decide +kernel
theorem dX11_text_12 : decode cX11_text 12 = .ok (.ireturn, 1) := by decide +kernel
theorem dX11_text_13 : decode cX11_text 13 = .ok (.aload_n 0, 1) := by decide +kernel
theorem dX11_text_14 : decode cX11_text 14 = .ok (.getfield 19, 3) := by decide +kernel
theorem dX11_text_17 : decode cX11_text 17 = .ok (.invokevirtual 184, 3) := by decide +kernel
theorem dX11_text_20 : decode cX11_text 20 = .ok (.ireturn, 1) := by decide +kernel
theorem dX11_force_0 : decode cX11_force 0 = .ok (.aload_n 0, 1) := by decide +kernel
theorem dX11_force_1 : decode cX11_force 1 = .ok (.getfield 19, 3) := by decide +kernel
theorem dX11_force_4 : decode cX11_force 4 = .ok (.iload_n 1, 1) := by decide +kernel
theorem dX11_force_5 : decode cX11_force 5 = .ok (.invokevirtual 187, 3) := by decide +kernel
theorem dX11_force_8 : decode cX11_force 8 = .ok (.astore 4, 2) := by decide +kernel
theorem dX11_force_10 : decode cX11_force 10 = .ok (.aload 4, 2) := by decide +kernel
theorem dX11_force_12 : decode cX11_force 12 = .ok (.ifnonnull 6, 3) := by decide +kernel
theorem dX11_force_15 : decode cX11_force 15 = .ok (.bipush (-101), 2) := by decide +kernel
theorem dX11_force_17 : decode cX11_force 17 = .ok (.ireturn, 1) := by decide +kernel
theorem dX11_force_18 : decode cX11_force 18 = .ok (.iload_n 2, 1) := by decide +kernel
theorem dX11_force_19 : decode cX11_force 19 = .ok (.iconst 0, 1) := by decide +kernel
theorem dX11_force_20 : decode cX11_force 20 = .ok (.bipush 99, 2) := by decide +kernel
theorem dX11_force_22 : decode cX11_force 22 = .ok (.invokestatic 55, 3) := by decide +kernel
theorem dX11_force_25 : decode cX11_force 25 = .ok (.ifCond .eq 13, 3) := by decide +kernel
theorem dX11_force_28 : decode cX11_force 28 = .ok (.iload_n 3, 1) := by decide +kernel
theorem dX11_force_29 : decode cX11_force 29 = .ok (.iload_n 2, 1) := by decide +kernel
theorem dX11_force_30 : decode cX11_force 30 = .ok (.bipush 99, 2) := by decide +kernel
theorem dX11_force_32 : decode cX11_force 32 = .ok (.invokestatic 55, 3) := by decide +kernel
theorem dX11_force_35 : decode cX11_force 35 = .ok (.ifCond .ne 6, 3) := by decide +kernel
theorem dX11_force_38 : decode cX11_force 38 = .ok (.bipush (-102), 2) := by decide +kernel
theorem dX11_force_40 : decode cX11_force 40 = .ok (.ireturn, 1) := by decide +kernel
theorem dX11_force_41 : decode cX11_force 41 = .ok (.aload 4, 2) := by decide +kernel
theorem dX11_force_43 : decode cX11_force 43 = .ok (.iload_n 2, 1) := by decide +kernel
theorem dX11_force_44 : decode cX11_force 44 = .ok (.putfield 191, 3) := by decide +kernel
theorem dX11_force_47 : decode cX11_force 47 = .ok (.aload 4, 2) := by decide +kernel
theorem dX11_force_49 : decode cX11_force 49 = .ok (.iload_n 3, 1) := by decide +kernel
theorem dX11_force_50 : decode cX11_force 50 = .ok (.putfield 196, 3) := by decide +kernel
theorem dX11_force_53 : decode cX11_force 53 = .ok (.iconst 1, 1) := by decide +kernel
theorem dX11_force_54 : decode cX11_force 54 = .ok (.ireturn, 1) := by decide +kernel
theorem dX11_speaks_0 : decode cX11_speaks 0 = .ok (.iload_n 1, 1) := by decide +kernel
theorem dX11_speaks_1 : decode cX11_speaks 1 = .ok (.iconst 0, 1) := by decide +kernel
theorem dX11_speaks_2 : decode cX11_speaks 2 = .ok (.iconst 1, 1) := by decide +kernel
theorem dX11_speaks_3 : decode cX11_speaks 3 = .ok (.invokestatic 55, 3) := by decide +kernel
theorem dX11_speaks_6 : decode cX11_speaks 6 = .ok (.ifCond .eq 13, 3) := by decide +kernel
theorem dX11_speaks_9 : decode cX11_speaks 9 = .ok (.iload_n 3, 1) := by decide +kernel
theorem dX11_speaks_10 : decode cX11_speaks 10 = .ok (.iconst 0, 1) := by decide +kernel
theorem dX11_speaks_11 : decode cX11_speaks 11 = .ok (.bipush 99, 2) := by decide +kernel
theorem dX11_speaks_13 : decode cX11_speaks 13 = .ok (.invokestatic 55, 3) := by decide +kernel
theorem dX11_speaks_16 : decode cX11_speaks 16 = .ok (.ifCond .ne 6, 3) := by decide +kernel
theorem dX11_speaks_19 : decode cX11_speaks 19 = .ok (.bipush (-102), 2) := by decide +kernel
theorem dX11_speaks_21 : decode cX11_speaks 21 = .ok (.ireturn, 1) := by decide +kernel
theorem dX11_speaks_22 : decode cX11_speaks 22 = .ok (.aload_n 0, 1) := by decide +kernel
theorem dX11_speaks_23 : decode cX11_speaks 23 = .ok (.getfield 12, 3) := by decide +kernel
theorem dX11_speaks_26 : decode cX11_speaks 26 = .ok (.iload_n 2, 1) := by decide +kernel
theorem dX11_speaks_27 : decode cX11_speaks 27 = .ok (.invokevirtual 134, 3) := by decide +kernel
theorem dX11_speaks_30 : decode cX11_speaks 30 = .ok (.astore 4, 2) := by decide +kernel
theorem dX11_speaks_32 : decode cX11_speaks 32 = .ok (.aload 4, 2) := by decide +kernel
theorem dX11_speaks_34 : decode cX11_speaks 34 = .ok (.ifnonnull 8, 3) := by decide +kernel
theorem dX11_speaks_37 : decode cX11_speaks 37 = .ok (.bipush (-101), 2) := by decide +kernel
theorem dX11_speaks_39 : decode cX11_speaks 39 = .ok (.goto 14, 3) := by decide +kernel
theorem dX11_speaks_42 : decode cX11_speaks 42 = .ok (.aload_n 0, 1) := by decide +kernel
theorem dX11_speaks_43 : decode cX11_speaks 43 = .ok (.getfield 19, 3) := by decide +kernel
theorem dX11_speaks_46 : decode cX11_speaks 46 = .ok (.iload_n 1, 1) := by decide +kernel
theorem dX11_speaks_47 : decode cX11_speaks 47 = .ok (.aload 4, 2) := by decide +kernel
theorem dX11_speaks_49 : decode cX11_speaks 49 = .ok (.iload_n 3, 1) := by decide +kernel
theorem dX11_speaks_50 : decode cX11_speaks 50 = .ok (.invokevirtual 199, 3) := by decide +kernel
theorem dX11_speaks_53 : decode cX11_speaks 53 = .ok (.ireturn, 1) := by decide +kernel
theorem dX11_quarrel_0 : decode cX11_quarrel 0 = .ok (.iload_n 1, 1) := by decide +kernel
theorem dX11_quarrel_1 : decode cX11_quarrel 1 = .ok (.iconst 0, 1) := by decide +kernel
theorem dX11_quarrel_2 : decode cX11_quarrel 2 = .ok (.iconst 1, 1) := by decide +kernel
theorem dX11_quarrel_3 : decode cX11_quarrel 3 = .ok (.invokestatic 55, 3) := by decide +kernel
theorem dX11_quarrel_6 : decode cX11_quarrel 6 = .ok (.ifCond .eq 13, 3) := by decide +kernel
theorem dX11_quarrel_9 : decode cX11_quarrel 9 = .ok (.iload_n 3, 1) := by decide +kernel
theorem dX11_quarrel_10 : decode cX11_quarrel 10 = .ok (.iconst 0, 1) := by decide +kernel
theorem dX11_quarrel_11 : decode cX11_quarrel 11 = .ok (.bipush 99, 2) := by decide +kernel
theorem dX11_quarrel_13 : decode cX11_quarrel 13 = .ok (.invokestatic 55, 3) := by decide +kernel
theorem dX11_quarrel_16 : decode cX11_quarrel 16 = .ok (.ifCond .ne 6, 3) := by decide +kernel
theorem dX11_quarrel_19 : decode cX11_quarrel 19 = .ok (.bipush (-102), 2) := by decide +kernel
theorem dX11_quarrel_21 : decode cX11_quarrel 21 = .ok (.ireturn, 1) := by decide +kernel
theorem dX11_quarrel_22 : decode cX11_quarrel 22 = .ok (.aload_n 0, 1) := by decide +kernel
theorem dX11_quarrel_23 : decode cX11_quarrel 23 = .ok (.getfield 12, 3) := by decide +kernel
theorem dX11_quarrel_26 : decode cX11_quarrel 26 = .ok (.iload_n 2, 1) := by decide +kernel
theorem dX11_quarrel_27 : decode cX11_quarrel 27 = .ok (.invokevirtual 134, 3) := by decide +kernel
theorem dX11_quarrel_30 : decode cX11_quarrel 30 = .ok (.astore 4, 2) := by decide +kernel
theorem dX11_quarrel_32 : decode cX11_quarrel 32 = .ok (.aload 4, 2) := by decide +kernel
theorem dX11_quarrel_34 : decode cX11_quarrel 34 = .ok (.ifnonnull 8, 3) := by decide +kernel
theorem dX11_quarrel_37 : decode cX11_quarrel 37 = .ok (.bipush (-101), 2) := by decide +kernel
theorem dX11_quarrel_39 : decode cX11_quarrel 39 = .ok (.goto 14, 3) := by decide +kernel
theorem dX11_quarrel_42 : decode cX11_quarrel 42 = .ok (.aload_n 0, 1) := by decide +kernel
theorem dX11_quarrel_43 : decode cX11_quarrel 43 = .ok (.getfield 19, 3) := by decide +kernel
theorem dX11_quarrel_46 : decode cX11_quarrel 46 = .ok (.iload_n 1, 1) := by decide +kernel
theorem dX11_quarrel_47 : decode cX11_quarrel 47 = .ok (.aload 4, 2) := by decide +kernel
theorem dX11_quarrel_49 : decode cX11_quarrel 49 = .ok (.iload_n 3, 1) := by decide +kernel
theorem dX11_quarrel_50 : decode cX11_quarrel 50 = .ok (.invokevirtual 203, 3) := by decide +kernel
theorem dX11_quarrel_53 : decode cX11_quarrel 53 = .ok (.ireturn, 1) := by decide +kernel
theorem dX11_toll_0 : decode cX11_toll 0 = .ok (.aload_n 0, 1) := by decide +kernel
theorem dX11_toll_1 : decode cX11_toll 1 = .ok (.getfield 12, 3) := by decide +kernel
theorem dX11_toll_4 : decode cX11_toll 4 = .ok (.iload_n 1, 1) := by decide +kernel
theorem dX11_toll_5 : decode cX11_toll 5 = .ok (.invokevirtual 134, 3) := by decide +kernel
theorem dX11_toll_8 : decode cX11_toll 8 = .ok (.astore_n 3, 1) := by decide +kernel
theorem dX11_toll_9 : decode cX11_toll 9 = .ok (.aload_n 3, 1) := by decide +kernel
theorem dX11_toll_10 : decode cX11_toll 10 = .ok (.ifnonnull 6, 3) := by decide +kernel
theorem dX11_toll_13 : decode cX11_toll 13 = .ok (.bipush (-101), 2) := by decide +kernel
theorem dX11_toll_15 : decode cX11_toll 15 = .ok (.ireturn, 1) := by decide +kernel
theorem dX11_toll_16 : decode cX11_toll 16 = .ok (.iload_n 2, 1) := by decide +kernel
theorem dX11_toll_17 : decode cX11_toll 17 = .ok (.iconst 0, 1) := by decide +kernel
theorem dX11_toll_18 : decode cX11_toll 18 = .ok (.bipush 99, 2) := by decide +kernel
theorem dX11_toll_20 : decode cX11_toll 20 = .ok (.invokestatic 55, 3) := by decide +kernel
theorem dX11_toll_23 : decode cX11_toll 23 = .ok (.ifCond .eq 21, 3) := by decide +kernel
theorem dX11_toll_26 : decode cX11_toll 26 = .ok (.aload_n 0, 1) := by decide +kernel
theorem dX11_toll_27 : decode cX11_toll 27 = .ok (.getfield 19, 3) := by decide +kernel
theorem dX11_toll_30 : decode cX11_toll 30 = .ok (.iconst 0, 1) := by decide +kernel
theorem dX11_toll_31 : decode cX11_toll 31 = .ok (.aload_n 3, 1) := by decide +kernel
theorem dX11_toll_32 : decode cX11_toll 32 = .ok (.iload_n 2, 1) := by decide +kernel
theorem dX11_toll_33 : decode cX11_toll 33 = .ok (.invokevirtual 206, 3) := by decide +kernel
theorem dX11_toll_36 : decode cX11_toll 36 = .ok (.aload_n 3, 1) := by decide +kernel
theorem dX11_toll_37 : decode cX11_toll 37 = .ok (.invokevirtual 209, 3) := by decide +kernel
theorem dX11_toll_40 : decode cX11_toll 40 = .ok (.imul, 1) := by decide +kernel
theorem dX11_toll_41 : decode cX11_toll 41 = .ok (.goto 5, 3) := by decide +kernel
theorem dX11_toll_44 : decode cX11_toll 44 = .ok (.bipush (-102), 2) := by decide +kernel
theorem dX11_toll_46 : decode cX11_toll 46 = .ok (.ireturn, 1) := by decide +kernel
theorem dX11_comer_0 : decode cX11_comer 0 = .ok (.iload_n 2, 1) := by decide +kernel
theorem dX11_comer_1 : decode cX11_comer 1 = .ok (.iconst 0, 1) := by decide +kernel
theorem dX11_comer_2 : decode cX11_comer 2 = .ok (.bipush 23, 2) := by decide +kernel
theorem dX11_comer_4 : decode cX11_comer 4 = .ok (.invokestatic 55, 3) := by decide +kernel
theorem dX11_comer_7 : decode cX11_comer 7 = .ok (.ifCond .eq 13, 3) := by decide +kernel
theorem dX11_comer_10 : decode cX11_comer 10 = .ok (.iload_n 3, 1) := by decide +kernel
theorem dX11_comer_11 : decode cX11_comer 11 = .ok (.iconst 0, 1) := by decide +kernel
theorem dX11_comer_12 : decode cX11_comer 12 = .ok (.bipush 99, 2) := by decide +kernel
theorem dX11_comer_14 : decode cX11_comer 14 = .ok (.invokestatic 55, 3) := by decide +kernel
theorem dX11_comer_17 : decode cX11_comer 17 = .ok (.ifCond .ne 6, 3) := by decide +kernel
theorem dX11_comer_20 : decode cX11_comer 20 = .ok (.bipush (-102), 2) := by decide +kernel
theorem dX11_comer_22 : decode cX11_comer 22 = .ok (.ireturn, 1) := by decide +kernel
theorem dX11_comer_23 : decode cX11_comer 23 = .ok (.aload_n 0, 1) := by decide +kernel
theorem dX11_comer_24 : decode cX11_comer 24 = .ok (.getfield 26, 3) := by decide +kernel
theorem dX11_comer_27 : decode cX11_comer 27 = .ok (.iload_n 1, 1) := by decide +kernel
theorem dX11_comer_28 : decode cX11_comer 28 = .ok (.iload_n 2, 1) := by decide +kernel
theorem dX11_comer_29 : decode cX11_comer 29 = .ok (.iload_n 3, 1) := by decide +kernel
theorem dX11_comer_30 : decode cX11_comer 30 = .ok (.invokevirtual 212, 3) := by decide +kernel
theorem dX11_comer_33 : decode cX11_comer 33 = .ok (.ireturn, 1) := by decide +kernel
theorem dX11_clear_0 : decode cX11_clear 0 = .ok (.aload_n 0, 1) := by decide +kernel
theorem dX11_clear_1 : decode cX11_clear 1 = .ok (.getfield 26, 3) := by decide +kernel
theorem dX11_clear_4 : decode cX11_clear 4 = .ok (.invokevirtual 216, 3) := by decide +kernel
theorem dX11_clear_7 : decode cX11_clear 7 = .ok (.ireturn, 1) := by decide +kernel
theorem dX11_turn_0 : decode cX11_turn 0 = .ok (.iload_n 1, 1) := by decide +kernel
theorem dX11_turn_1 : decode cX11_turn 1 = .ok (.iconst 0, 1) := by decide +kernel
theorem dX11_turn_2 : decode cX11_turn 2 = .ok (.iconst 1, 1) := by decide +kernel
theorem dX11_turn_3 : decode cX11_turn 3 = .ok (.invokestatic 55, 3) := by decide +kernel
theorem dX11_turn_6 : decode cX11_turn 6 = .ok (.ifCond .ne 17, 3) := by decide +kernel
theorem dX11_turn_9 : decode cX11_turn 9 = .ok (.iload_n 1, 1) := by decide +kernel
theorem dX11_turn_10 : decode cX11_turn 10 = .ok (.bipush 10, 2) := by decide +kernel
theorem dX11_turn_12 : decode cX11_turn 12 = .ok (.bipush 17, 2) := by decide +kernel
theorem dX11_turn_14 : decode cX11_turn 14 = .ok (.invokestatic 55, 3) := by decide +kernel
theorem dX11_turn_17 : decode cX11_turn 17 = .ok (.ifCond .ne 6, 3) := by decide +kernel
theorem dX11_turn_20 : decode cX11_turn 20 = .ok (.bipush (-102), 2) := by decide +kernel
theorem dX11_turn_22 : decode cX11_turn 22 = .ok (.ireturn, 1) := by decide +kernel
theorem dX11_turn_23 : decode cX11_turn 23 = .ok (.aload_n 0, 1) := by decide +kernel
theorem dX11_turn_24 : decode cX11_turn 24 = .ok (.getfield 26, 3) := by decide +kernel
theorem dX11_turn_27 : decode cX11_turn 27 = .ok (.getfield 219, 3) := by decide +kernel
theorem dX11_turn_30 : decode cX11_turn 30 = .ok (.bipush 20, 2) := by decide +kernel
theorem dX11_turn_32 : decode cX11_turn 32 = .ok (.if_icmp .lt 6, 3) := by decide +kernel
theorem dX11_turn_35 : decode cX11_turn 35 = .ok (.bipush (-103), 2) := by decide +kernel
theorem dX11_turn_37 : decode cX11_turn 37 = .ok (.ireturn, 1) := by decide +kernel
theorem dX11_turn_38 : decode cX11_turn 38 = .ok (.aload_n 0, 1) := by decide +kernel
theorem dX11_turn_39 : decode cX11_turn 39 = .ok (.getfield 26, 3) := by decide +kernel
theorem dX11_turn_42 : decode cX11_turn 42 = .ok (.dup, 1) := by decide +kernel
theorem dX11_turn_43 : decode cX11_turn 43 = .ok (.getfield 219, 3) := by decide +kernel
theorem dX11_turn_46 : decode cX11_turn 46 = .ok (.iconst 1, 1) := by decide +kernel
theorem dX11_turn_47 : decode cX11_turn 47 = .ok (.iadd, 1) := by decide +kernel
theorem dX11_turn_48 : decode cX11_turn 48 = .ok (.putfield 219, 3) := by decide +kernel
theorem dX11_turn_51 : decode cX11_turn 51 = .ok (.aload_n 0, 1) := by decide +kernel
theorem dX11_turn_52 : decode cX11_turn 52 = .ok (.getfield 26, 3) := by decide +kernel
theorem dX11_turn_55 : decode cX11_turn 55 = .ok (.invokevirtual 222, 3) := by decide +kernel
theorem dX11_turn_58 : decode cX11_turn 58 = .ok (.iload_n 1, 1) := by decide +kernel
theorem dX11_turn_59 : decode cX11_turn 59 = .ok (.ifCond .ne 11, 3) := by decide +kernel
theorem dX11_turn_62 : decode cX11_turn 62 = .ok (.aload_n 0, 1) := by decide +kernel
theorem dX11_turn_63 : decode cX11_turn 63 = .ok (.getfield 26, 3) := by decide +kernel
theorem dX11_turn_66 : decode cX11_turn 66 = .ok (.getfield 225, 3) := by decide +kernel
theorem dX11_turn_69 : decode cX11_turn 69 = .ok (.ireturn, 1) := by decide +kernel
theorem dX11_turn_70 : decode cX11_turn 70 = .ok (.iload_n 1, 1) := by decide +kernel
theorem dX11_turn_71 : decode cX11_turn 71 = .ok (.iconst 1, 1) := by decide +kernel
theorem dX11_turn_72 : decode cX11_turn 72 = .ok (.if_icmp .ne 13, 3) := by decide +kernel
theorem dX11_turn_75 : decode cX11_turn 75 = .ok (.aload_n 0, 1) := by decide +kernel
theorem dX11_turn_76 : decode cX11_turn 76 = .ok (.getfield 26, 3) := by decide +kernel
theorem dX11_turn_79 : decode cX11_turn 79 = .ok (.getfield 228, 3) := by decide +kernel
theorem dX11_turn_82 : decode cX11_turn 82 = .ok (.goto 14, 3) := by decide +kernel
theorem dX11_turn_85 : decode cX11_turn 85 = .ok (.aload_n 0, 1) := by decide +kernel
theorem dX11_turn_86 : decode cX11_turn 86 = .ok (.getfield 26, 3) := by decide +kernel
theorem dX11_turn_89 : decode cX11_turn 89 = .ok (.iload_n 1, 1) := by decide +kernel
theorem dX11_turn_90 : decode cX11_turn 90 = .ok (.bipush 10, 2) := by decide +kernel
theorem dX11_turn_92 : decode cX11_turn 92 = .ok (.isub, 1) := by decide +kernel
theorem dX11_turn_93 : decode cX11_turn 93 = .ok (.invokevirtual 231, 3) := by decide +kernel
theorem dX11_turn_96 : decode cX11_turn 96 = .ok (.ireturn, 1) := by decide +kernel
theorem dX11_judge_0 : decode cX11_judge 0 = .ok (.aload_n 0, 1) := by decide +kernel
theorem dX11_judge_1 : decode cX11_judge 1 = .ok (.getfield 26, 3) := by decide +kernel
theorem dX11_judge_4 : decode cX11_judge 4 = .ok (.getfield 234, 3) := by decide +kernel
theorem dX11_judge_7 : decode cX11_judge 7 = .ok (.ifCond .ne 6, 3) := by decide +kernel
theorem dX11_judge_10 : decode cX11_judge 10 = .ok (.bipush (-103), 2) := by decide +kernel
theorem dX11_judge_12 : decode cX11_judge 12 = .ok (.ireturn, 1) := by decide +kernel
theorem dX11_judge_13 : decode cX11_judge 13 = .ok (.aload_n 0, 1) := by decide +kernel
theorem dX11_judge_14 : decode cX11_judge 14 = .ok (.getfield 26, 3) := by decide +kernel
theorem dX11_judge_17 : decode cX11_judge 17 = .ok (.iload_n 1, 1) := by decide +kernel
theorem dX11_judge_18 : decode cX11_judge 18 = .ok (.invokevirtual 237, 3) := by decide +kernel
theorem dX11_judge_21 : decode cX11_judge 21 = .ok (.ifCond .eq 14, 3) := by decide +kernel
theorem dX11_judge_24 : decode cX11_judge 24 = .ok (.aload_n 0, 1) := by decide +kernel
theorem dX11_judge_25 : decode cX11_judge 25 = .ok (.getfield 26, 3) := by decide +kernel
theorem dX11_judge_28 : decode cX11_judge 28 = .ok (.iload_n 1, 1) := by decide +kernel
theorem dX11_judge_29 : decode cX11_judge 29 = .ok (.invokevirtual 240, 3) := by decide +kernel
theorem dX11_judge_32 : decode cX11_judge 32 = .ok (.goto 5, 3) := by decide +kernel
theorem dX11_judge_35 : decode cX11_judge 35 = .ok (.bipush (-102), 2) := by decide +kernel
theorem dX11_judge_37 : decode cX11_judge 37 = .ok (.ireturn, 1) := by decide +kernel
theorem dX11_dry_0 : decode cX11_dry 0 = .ok (.iload_n 1, 1) := by decide +kernel
theorem dX11_dry_1 : decode cX11_dry 1 = .ok (.iconst 0, 1) := by decide +kernel
theorem dX11_dry_2 : decode cX11_dry 2 = .ok (.iconst 1, 1) := by decide +kernel
theorem dX11_dry_3 : decode cX11_dry 3 = .ok (.invokestatic 55, 3) := by decide +kernel
theorem dX11_dry_6 : decode cX11_dry 6 = .ok (.ifCond .eq 50, 3) := by decide +kernel
theorem dX11_dry_9 : decode cX11_dry 9 = .ok (.iload_n 2, 1) := by decide +kernel
theorem dX11_dry_10 : decode cX11_dry 10 = .ok (.iconst 0, 1) := by decide +kernel
theorem dX11_dry_11 : decode cX11_dry 11 = .ok (.iload_n 3, 1) := by decide +kernel
theorem dX11_dry_12 : decode cX11_dry 12 = .ok (.invokestatic 55, 3) := by decide +kernel
theorem dX11_dry_15 : decode cX11_dry 15 = .ok (.ifCond .eq 41, 3) := by decide +kernel
theorem dX11_dry_18 : decode cX11_dry 18 = .ok (.iload_n 3, 1) := by decide +kernel
theorem dX11_dry_19 : decode cX11_dry 19 = .ok (.iconst 0, 1) := by decide +kernel
theorem dX11_dry_20 : decode cX11_dry 20 = .ok (.sipush 9999, 3) := by decide +kernel
theorem dX11_dry_23 : decode cX11_dry 23 = .ok (.invokestatic 55, 3) := by decide +kernel
theorem dX11_dry_26 : decode cX11_dry 26 = .ok (.ifCond .eq 30, 3) := by decide +kernel
theorem dX11_dry_29 : decode cX11_dry 29 = .ok (.iload 4, 2) := by decide +kernel
theorem dX11_dry_31 : decode cX11_dry 31 = .ok (.iconst 0, 1) := by decide +kernel
theorem dX11_dry_32 : decode cX11_dry 32 = .ok (.iload 5, 2) := by decide +kernel
theorem dX11_dry_34 : decode cX11_dry 34 = .ok (.invokestatic 55, 3) := by decide +kernel
theorem dX11_dry_37 : decode cX11_dry 37 = .ok (.ifCond .eq 19, 3) := by decide +kernel
theorem dX11_dry_40 : decode cX11_dry 40 = .ok (.iload 5, 2) := by decide +kernel
theorem dX11_dry_42 : decode cX11_dry 42 = .ok (.iconst 0, 1) := by decide +kernel
theorem dX11_dry_43 : decode cX11_dry 43 = .ok (.sipush 9999, 3) := by decide +kernel
theorem dX11_dry_46 : decode cX11_dry 46 = .ok (.invokestatic 55, 3) := by decide +kernel
theorem dX11_dry_49 : decode cX11_dry 49 = .ok (.ifCond .eq 7, 3) := by decide +kernel
theorem dX11_dry_52 : decode cX11_dry 52 = .ok (.iconst 1, 1) := by decide +kernel
theorem dX11_dry_53 : decode cX11_dry 53 = .ok (.goto 4, 3) := by decide +kernel
theorem dX11_dry_56 : decode cX11_dry 56 = .ok (.iconst 0, 1) := by decide +kernel
theorem dX11_dry_57 : decode cX11_dry 57 = .ok (.istore 6, 2) := by decide +kernel
theorem dX11_dry_59 : decode cX11_dry 59 = .ok (.iload 6, 2) := by decide +kernel
theorem dX11_dry_61 : decode cX11_dry 61 = .ok (.ifCond .ne 6, 3) := by decide +kernel
theorem dX11_dry_64 : decode cX11_dry 64 = .ok (.bipush (-102), 2) := by decide +kernel
theorem dX11_dry_66 : decode cX11_dry 66 = .ok (.ireturn, 1) := by decide +kernel
theorem dX11_dry_67 : decode cX11_dry 67 = .ok (.aload_n 0, 1) := by decide +kernel
theorem dX11_dry_68 : decode cX11_dry 68 = .ok (.getfield 12, 3) := by decide +kernel
theorem dX11_dry_71 : decode cX11_dry 71 = .ok (.getfield 243, 3) := by decide +kernel
theorem dX11_dry_74 : decode cX11_dry 74 = .ok (.aload_n 0, 1) := by decide +kernel
theorem dX11_dry_75 : decode cX11_dry 75 = .ok (.getfield 12, 3) := by decide +kernel
theorem dX11_dry_78 : decode cX11_dry 78 = .ok (.getfield 76, 3) := by decide +kernel
theorem dX11_dry_81 : decode cX11_dry 81 = .ok (.aaload, 1) := by decide +kernel
theorem dX11_dry_82 : decode cX11_dry 82 = .ok (.astore 7, 2) := by decide +kernel
theorem dX11_dry_84 : decode cX11_dry 84 = .ok (.iload_n 1, 1) := by decide +kernel
theorem dX11_dry_85 : decode cX11_dry 85 = .ok (.ifCond .ne 14, 3) := by decide +kernel
theorem dX11_dry_88 : decode cX11_dry 88 = .ok (.aload 7, 2) := by decide +kernel
theorem dX11_dry_90 : decode cX11_dry 90 = .ok (.iload_n 3, 1) := by decide +kernel
theorem dX11_dry_91 : decode cX11_dry 91 = .ok (.iload 4, 2) := by decide +kernel
theorem dX11_dry_93 : decode cX11_dry 93 = .ok (.invokevirtual 247, 3) := by decide +kernel
theorem dX11_dry_96 : decode cX11_dry 96 = .ok (.goto 11, 3) := by decide +kernel
theorem dX11_dry_99 : decode cX11_dry 99 = .ok (.aload 7, 2) := by decide +kernel
theorem dX11_dry_101 : decode cX11_dry 101 = .ok (.iload_n 2, 1) := by decide +kernel
theorem dX11_dry_102 : decode cX11_dry 102 = .ok (.iload 5, 2) := by decide +kernel
theorem dX11_dry_104 : decode cX11_dry 104 = .ok (.invokevirtual 247, 3) := by decide +kernel
theorem dX11_dry_107 : decode cX11_dry 107 = .ok (.ireturn, 1) := by decide +kernel
theorem dX11_bank_0 : decode cX11_bank 0 = .ok (.aload_n 0, 1) := by decide +kernel
theorem dX11_bank_1 : decode cX11_bank 1 = .ok (.getfield 12, 3) := by decide +kernel
theorem dX11_bank_4 : decode cX11_bank 4 = .ok (.iload_n 1, 1) := by decide +kernel
theorem dX11_bank_5 : decode cX11_bank 5 = .ok (.invokevirtual 51, 3) := by decide +kernel
theorem dX11_bank_8 : decode cX11_bank 8 = .ok (.ifnonnull 6, 3) := by decide +kernel
theorem dX11_bank_11 : decode cX11_bank 11 = .ok (.bipush (-101), 2) := by decide +kernel
theorem dX11_bank_13 : decode cX11_bank 13 = .ok (.ireturn, 1) := by decide +kernel
theorem dX11_bank_14 : decode cX11_bank 14 = .ok (.iload_n 2, 1) := by decide +kernel
theorem dX11_bank_15 : decode cX11_bank 15 = .ok (.iconst 1, 1) := by decide +kernel
theorem dX11_bank_16 : decode cX11_bank 16 = .ok (.sipush 999, 3) := by decide +kernel
theorem dX11_bank_19 : decode cX11_bank 19 = .ok (.invokestatic 55, 3) := by decide +kernel
theorem dX11_bank_22 : decode cX11_bank 22 = .ok (.ifCond .eq 15, 3) := by decide +kernel
theorem dX11_bank_25 : decode cX11_bank 25 = .ok (.aload_n 0, 1) := by decide +kernel
theorem dX11_bank_26 : decode cX11_bank 26 = .ok (.getfield 33, 3) := by decide +kernel
theorem dX11_bank_29 : decode cX11_bank 29 = .ok (.iload_n 1, 1) := by decide +kernel
theorem dX11_bank_30 : decode cX11_bank 30 = .ok (.iload_n 2, 1) := by decide +kernel
theorem dX11_bank_31 : decode cX11_bank 31 = .ok (.invokevirtual 250, 3) := by decide +kernel
theorem dX11_bank_34 : decode cX11_bank 34 = .ok (.goto 5, 3) := by decide +kernel
theorem dX11_bank_37 : decode cX11_bank 37 = .ok (.bipush (-102), 2) := by decide +kernel
theorem dX11_bank_39 : decode cX11_bank 39 = .ok (.ireturn, 1) := by decide +kernel
theorem dX11_read_0 : decode cX11_read 0 = .ok (.aload_n 0, 1) := by decide +kernel
theorem dX11_read_1 : decode cX11_read 1 = .ok (.getfield 12, 3) := by decide +kernel
theorem dX11_read_4 : decode cX11_read 4 = .ok (.iload_n 1, 1) := by decide +kernel
theorem dX11_read_5 : decode cX11_read 5 = .ok (.invokevirtual 51, 3) := by decide +kernel
theorem dX11_read_8 : decode cX11_read 8 = .ok (.ifnonnull 6, 3) := by decide +kernel
theorem dX11_read_11 : decode cX11_read 11 = .ok (.bipush (-101), 2) := by decide +kernel
theorem dX11_read_13 : decode cX11_read 13 = .ok (.ireturn, 1) := by decide +kernel
theorem dX11_read_14 : decode cX11_read 14 = .ok (.iload_n 2, 1) := by decide +kernel
theorem dX11_read_15 : decode cX11_read 15 = .ok (.iconst 0, 1) := by decide +kernel
theorem dX11_read_16 : decode cX11_read 16 = .ok (.sipush 9999, 3) := by decide +kernel
theorem dX11_read_19 : decode cX11_read 19 = .ok (.invokestatic 55, 3) := by decide +kernel
theorem dX11_read_22 : decode cX11_read 22 = .ok (.ifCond .eq 13, 3) := by decide +kernel
theorem dX11_read_25 : decode cX11_read 25 = .ok (.iload_n 3, 1) := by decide +kernel
theorem dX11_read_26 : decode cX11_read 26 = .ok (.iconst 0, 1) := by decide +kernel
theorem dX11_read_27 : decode cX11_read 27 = .ok (.bipush 99, 2) := by decide +kernel
theorem dX11_read_29 : decode cX11_read 29 = .ok (.invokestatic 55, 3) := by decide +kernel
theorem dX11_read_32 : decode cX11_read 32 = .ok (.ifCond .ne 6, 3) := by decide +kernel
theorem dX11_read_35 : decode cX11_read 35 = .ok (.bipush (-102), 2) := by decide +kernel
theorem dX11_read_37 : decode cX11_read 37 = .ok (.ireturn, 1) := by decide +kernel
theorem dX11_read_38 : decode cX11_read 38 = .ok (.aload_n 0, 1) := by decide +kernel
theorem dX11_read_39 : decode cX11_read 39 = .ok (.getfield 33, 3) := by decide +kernel
theorem dX11_read_42 : decode cX11_read 42 = .ok (.iload_n 1, 1) := by decide +kernel
theorem dX11_read_43 : decode cX11_read 43 = .ok (.iload_n 2, 1) := by decide +kernel
theorem dX11_read_44 : decode cX11_read 44 = .ok (.iload_n 3, 1) := by decide +kernel
theorem dX11_read_45 : decode cX11_read 45 = .ok (.invokevirtual 252, 3) := by decide +kernel
theorem dX11_read_48 : decode cX11_read 48 = .ok (.iconst 1, 1) := by decide +kernel
theorem dX11_read_49 : decode cX11_read 49 = .ok (.ireturn, 1) := by decide +kernel
theorem dX11_unread_0 : decode cX11_unread 0 = .ok (.aload_n 0, 1) := by decide +kernel
theorem dX11_unread_1 : decode cX11_unread 1 = .ok (.getfield 33, 3) := by decide +kernel
theorem dX11_unread_4 : decode cX11_unread 4 = .ok (.invokevirtual 256, 3) := by decide +kernel
theorem dX11_unread_7 : decode cX11_unread 7 = .ok (.istore_n 1, 1) := by decide +kernel
theorem dX11_unread_8 : decode cX11_unread 8 = .ok (.aload_n 0, 1) := by decide +kernel
theorem dX11_unread_9 : decode cX11_unread 9 = .ok (.getfield 33, 3) := by decide +kernel
theorem dX11_unread_12 : decode cX11_unread 12 = .ok (.invokevirtual 259, 3) := by decide +kernel
theorem dX11_unread_15 : decode cX11_unread 15 = .ok (.iload_n 1, 1) := by decide +kernel
theorem dX11_unread_16 : decode cX11_unread 16 = .ok (.ireturn, 1) := by decide +kernel
theorem dX11_find_0 : decode cX11_find 0 = .ok (.iload_n 1, 1) := by decide +kernel
theorem dX11_find_1 : decode cX11_find 1 = .ok (.iconst 0, 1) := by decide +kernel
theorem dX11_find_2 : decode cX11_find 2 = .ok (.iconst 1, 1) := by decide +kernel
theorem dX11_find_3 : decode cX11_find 3 = .ok (.invokestatic 55, 3) := by decide +kernel
theorem dX11_find_6 : decode cX11_find 6 = .ok (.ifCond .ne 6, 3) := by decide +kernel
theorem dX11_find_9 : decode cX11_find 9 = .ok (.bipush (-102), 2) := by decide +kernel
theorem dX11_find_11 : decode cX11_find 11 = .ok (.ireturn, 1) := by decide +kernel
theorem dX11_find_12 : decode cX11_find 12 = .ok (.aload_n 0, 1) := by decide +kernel
theorem dX11_find_13 : decode cX11_find 13 = .ok (.getfield 33, 3) := by decide +kernel
theorem dX11_find_16 : decode cX11_find 16 = .ok (.invokevirtual 262, 3) := by decide +kernel
theorem dX11_find_19 : decode cX11_find 19 = .ok (.iload_n 1, 1) := by decide +kernel
theorem dX11_find_20 : decode cX11_find 20 = .ok (.ifCond .eq 14, 3) := by decide +kernel
theorem dX11_find_23 : decode cX11_find 23 = .ok (.aload_n 0, 1) := by decide +kernel
theorem dX11_find_24 : decode cX11_find 24 = .ok (.getfield 33, 3) := by decide +kernel
theorem dX11_find_27 : decode cX11_find 27 = .ok (.getfield 265, 3) := by decide +kernel
theorem dX11_find_30 : decode cX11_find 30 = .ok (.iconst (-1), 1) := by decide +kernel
theorem dX11_find_31 : decode cX11_find 31 = .ok (.if_icmp .ne 13, 3) := by decide +kernel
theorem dX11_find_34 : decode cX11_find 34 = .ok (.aload_n 0, 1) := by decide +kernel
theorem dX11_find_35 : decode cX11_find 35 = .ok (.getfield 33, 3) := by decide +kernel
theorem dX11_find_38 : decode cX11_find 38 = .ok (.getfield 265, 3) := by decide +kernel
theorem dX11_find_41 : decode cX11_find 41 = .ok (.goto 10, 3) := by decide +kernel
theorem dX11_find_44 : decode cX11_find 44 = .ok (.aload_n 0, 1) := by decide +kernel
theorem dX11_find_45 : decode cX11_find 45 = .ok (.getfield 33, 3) := by decide +kernel
theorem dX11_find_48 : decode cX11_find 48 = .ok (.getfield 268, 3) := by decide +kernel
theorem dX11_find_51 : decode cX11_find 51 = .ok (.ireturn, 1) := by decide +kernel
theorem dX11_bill_0 : decode cX11_bill 0 = .ok (.aload_n 0, 1) := by decide +kernel
theorem dX11_bill_1 : decode cX11_bill 1 = .ok (.getfield 12, 3) := by decide +kernel
theorem dX11_bill_4 : decode cX11_bill 4 = .ok (.iload_n 1, 1) := by decide +kernel
theorem dX11_bill_5 : decode cX11_bill 5 = .ok (.invokevirtual 134, 3) := by decide +kernel
theorem dX11_bill_8 : decode cX11_bill 8 = .ok (.astore_n 3, 1) := by decide +kernel
theorem dX11_bill_9 : decode cX11_bill 9 = .ok (.aload_n 3, 1) := by decide +kernel
theorem dX11_bill_10 : decode cX11_bill 10 = .ok (.ifnonnull 6, 3) := by decide +kernel
theorem dX11_bill_13 : decode cX11_bill 13 = .ok (.bipush (-101), 2) := by decide +kernel
theorem dX11_bill_15 : decode cX11_bill 15 = .ok (.ireturn, 1) := by decide +kernel
theorem dX11_bill_16 : decode cX11_bill 16 = .ok (.iload_n 2, 1) := by decide +kernel
theorem dX11_bill_17 : decode cX11_bill 17 = .ok (.iconst 0, 1) := by decide +kernel
theorem dX11_bill_18 : decode cX11_bill 18 = .ok (.bipush 99, 2) := by decide +kernel
theorem dX11_bill_20 : decode cX11_bill 20 = .ok (.invokestatic 55, 3) := by decide +kernel
theorem dX11_bill_23 : decode cX11_bill 23 = .ok (.ifCond .ne 6, 3) := by decide +kernel
theorem dX11_bill_26 : decode cX11_bill 26 = .ok (.bipush (-102), 2) := by decide +kernel
theorem dX11_bill_28 : decode cX11_bill 28 = .ok (.ireturn, 1) := by decide +kernel
theorem dX11_bill_29 : decode cX11_bill 29 = .ok (.aload_n 3, 1) := by decide +kernel
theorem dX11_bill_30 : decode cX11_bill 30 = .ok (.getfield 271, 3) := by decide +kernel
theorem dX11_bill_33 : decode cX11_bill 33 = .ok (.ifCond .eq 6, 3) := by decide +kernel
theorem dX11_bill_36 : decode cX11_bill 36 = .ok (.bipush (-103), 2) := by decide +kernel
theorem dX11_bill_38 : decode cX11_bill 38 = .ok (.ireturn, 1) := by decide +kernel
theorem dX11_bill_39 : decode cX11_bill 39 = .ok (.aload_n 0, 1) := by decide +kernel
theorem dX11_bill_40 : decode cX11_bill 40 = .ok (.getfield 40, 3) := by decide +kernel
theorem dX11_bill_43 : decode cX11_bill 43 = .ok (.getfield 275, 3) := by decide +kernel
theorem dX11_bill_46 : decode cX11_bill 46 = .ok (.aload_n 3, 1) := by decide +kernel
theorem dX11_bill_47 : decode cX11_bill 47 = .ok (.getfield 279, 3) := by decide +kernel
theorem dX11_bill_50 : decode cX11_bill 50 = .ok (.iaload, 1) := by decide +kernel
theorem dX11_bill_51 : decode cX11_bill 51 = .ok (.aload_n 0, 1) := by decide +kernel
theorem dX11_bill_52 : decode cX11_bill 52 = .ok (.getfield 19, 3) := by decide +kernel
theorem dX11_bill_55 : decode cX11_bill 55 = .ok (.iconst 0, 1) := by decide +kernel
theorem dX11_bill_56 : decode cX11_bill 56 = .ok (.aload_n 3, 1) := by decide +kernel
theorem dX11_bill_57 : decode cX11_bill 57 = .ok (.iload_n 2, 1) := by decide +kernel
theorem dX11_bill_58 : decode cX11_bill 58 = .ok (.invokevirtual 206, 3) := by decide +kernel
theorem dX11_bill_61 : decode cX11_bill 61 = .ok (.aload_n 3, 1) := by decide +kernel
theorem dX11_bill_62 : decode cX11_bill 62 = .ok (.invokevirtual 209, 3) := by decide +kernel
theorem dX11_bill_65 : decode cX11_bill 65 = .ok (.imul, 1) := by decide +kernel
theorem dX11_bill_66 : decode cX11_bill 66 = .ok (.iadd, 1) := by decide +kernel
theorem dX11_bill_67 : decode cX11_bill 67 = .ok (.istore 4, 2) := by decide +kernel
theorem dX11_bill_69 : decode cX11_bill 69 = .ok (.iload 4, 2) := by decide +kernel
theorem dX11_bill_71 : decode cX11_bill 71 = .ok (.aload_n 0, 1) := by decide +kernel
theorem dX11_bill_72 : decode cX11_bill 72 = .ok (.getfield 19, 3) := by decide +kernel
theorem dX11_bill_75 : decode cX11_bill 75 = .ok (.iconst 1, 1) := by decide +kernel
theorem dX11_bill_76 : decode cX11_bill 76 = .ok (.aload_n 3, 1) := by decide +kernel
theorem dX11_bill_77 : decode cX11_bill 77 = .ok (.iload_n 2, 1) := by decide +kernel
theorem dX11_bill_78 : decode cX11_bill 78 = .ok (.invokevirtual 206, 3) := by decide +kernel
theorem dX11_bill_81 : decode cX11_bill 81 = .ok (.if_icmp .le 5, 3) := by decide +kernel
theorem dX11_bill_84 : decode cX11_bill 84 = .ok (.iconst (-1), 1) := by decide +kernel
theorem dX11_bill_85 : decode cX11_bill 85 = .ok (.ireturn, 1) := by decide +kernel
theorem dX11_bill_86 : decode cX11_bill 86 = .ok (.aload_n 3, 1) := by decide +kernel
theorem dX11_bill_87 : decode cX11_bill 87 = .ok (.iconst 1, 1) := by decide +kernel
theorem dX11_bill_88 : decode cX11_bill 88 = .ok (.putfield 271, 3) := by decide +kernel
theorem dX11_bill_91 : decode cX11_bill 91 = .ok (.aload_n 0, 1) := by decide +kernel
theorem dX11_bill_92 : decode cX11_bill 92 = .ok (.getfield 40, 3) := by decide +kernel
theorem dX11_bill_95 : decode cX11_bill 95 = .ok (.getfield 275, 3) := by decide +kernel
theorem dX11_bill_98 : decode cX11_bill 98 = .ok (.aload_n 3, 1) := by decide +kernel
theorem dX11_bill_99 : decode cX11_bill 99 = .ok (.getfield 279, 3) := by decide +kernel
theorem dX11_bill_102 : decode cX11_bill 102 = .ok (.iload 4, 2) := by decide +kernel
theorem dX11_bill_104 : decode cX11_bill 104 = .ok (.iastore, 1) := by decide +kernel
theorem dX11_bill_105 : decode cX11_bill 105 = .ok (.iload 4, 2) := by decide +kernel
theorem dX11_bill_107 : decode cX11_bill 107 = .ok (.ireturn, 1) := by decide +kernel
theorem dX11_pay_0 : decode cX11_pay 0 = .ok (.iload_n 1, 1) := by decide +kernel
theorem dX11_pay_1 : decode cX11_pay 1 = .ok (.iconst 0, 1) := by decide +kernel
theorem dX11_pay_2 : decode cX11_pay 2 = .ok (.iconst 3, 1) := by decide +kernel
theorem dX11_pay_3 : decode cX11_pay 3 = .ok (.invokestatic 55, 3) := by decide +kernel
theorem dX11_pay_6 : decode cX11_pay 6 = .ok (.ifCond .ne 6, 3) := by decide +kernel
theorem dX11_pay_9 : decode cX11_pay 9 = .ok (.bipush (-101), 2) := by decide +kernel
theorem dX11_pay_11 : decode cX11_pay 11 = .ok (.ireturn, 1) := by decide +kernel
theorem dX11_pay_12 : decode cX11_pay 12 = .ok (.iload_n 2, 1) := by decide +kernel
theorem dX11_pay_13 : decode cX11_pay 13 = .ok (.iconst 0, 1) := by decide +kernel
theorem dX11_pay_14 : decode cX11_pay 14 = .ok (.ldc_w 282, 3) := by decide +kernel
theorem dX11_pay_17 : decode cX11_pay 17 = .ok (.invokestatic 55, 3) := by decide +kernel
theorem dX11_pay_20 : decode cX11_pay 20 = .ok (.ifCond .ne 6, 3) := by decide +kernel
theorem dX11_pay_23 : decode cX11_pay 23 = .ok (.bipush (-102), 2) := by decide +kernel
theorem dX11_pay_25 : decode cX11_pay 25 = .ok (.ireturn, 1) := by decide +kernel
theorem dX11_pay_26 : decode cX11_pay 26 = .ok (.aload_n 0, 1) := by decide +kernel
theorem dX11_pay_27 : decode cX11_pay 27 = .ok (.getfield 40, 3) := by decide +kernel
theorem dX11_pay_30 : decode cX11_pay 30 = .ok (.getfield 275, 3) := by decide +kernel
theorem dX11_pay_33 : decode cX11_pay 33 = .ok (.iload_n 1, 1) := by decide +kernel
theorem dX11_pay_34 : decode cX11_pay 34 = .ok (.iconst 0, 1) := by decide +kernel
theorem dX11_pay_35 : decode cX11_pay 35 = .ok (.aload_n 0, 1) := by decide +kernel
theorem dX11_pay_36 : decode cX11_pay 36 = .ok (.getfield 40, 3) := by decide +kernel
theorem dX11_pay_39 : decode cX11_pay 39 = .ok (.getfield 275, 3) := by decide +kernel
theorem dX11_pay_42 : decode cX11_pay 42 = .ok (.iload_n 1, 1) := by decide +kernel
theorem dX11_pay_43 : decode cX11_pay 43 = .ok (.iaload, 1) := by decide +kernel
theorem dX11_pay_44 : decode cX11_pay 44 = .ok (.iload_n 2, 1) := by decide +kernel
theorem dX11_pay_45 : decode cX11_pay 45 = .ok (.isub, 1) := by decide +kernel
theorem dX11_pay_46 : decode cX11_pay 46 = .ok (.invokestatic 283, 3) := by decide +kernel
theorem dX11_pay_49 : decode cX11_pay 49 = .ok (.iastore, 1) := by decide +kernel
theorem dX11_pay_50 : decode cX11_pay 50 = .ok (.aload_n 0, 1) := by decide +kernel
theorem dX11_pay_51 : decode cX11_pay 51 = .ok (.getfield 40, 3) := by decide +kernel
theorem dX11_pay_54 : decode cX11_pay 54 = .ok (.getfield 275, 3) := by decide +kernel
theorem dX11_pay_57 : decode cX11_pay 57 = .ok (.iload_n 1, 1) := by decide +kernel
theorem dX11_pay_58 : decode cX11_pay 58 = .ok (.iaload, 1) := by decide +kernel
theorem dX11_pay_59 : decode cX11_pay 59 = .ok (.ireturn, 1) := by decide +kernel
theorem dX11_debt_0 : decode cX11_debt 0 = .ok (.iload_n 1, 1) := by decide +kernel
theorem dX11_debt_1 : decode cX11_debt 1 = .ok (.iconst 0, 1) := by decide +kernel
theorem dX11_debt_2 : decode cX11_debt 2 = .ok (.iconst 3, 1) := by decide +kernel
theorem dX11_debt_3 : decode cX11_debt 3 = .ok (.invokestatic 55, 3) := by decide +kernel
theorem dX11_debt_6 : decode cX11_debt 6 = .ok (.ifCond .eq 12, 3) := by decide +kernel
theorem dX11_debt_9 : decode cX11_debt 9 = .ok (.iload_n 2, 1) := by decide +kernel
theorem dX11_debt_10 : decode cX11_debt 10 = .ok (.iconst 0, 1) := by decide +kernel
theorem dX11_debt_11 : decode cX11_debt 11 = .ok (.iconst 2, 1) := by decide +kernel
theorem dX11_debt_12 : decode cX11_debt 12 = .ok (.invokestatic 55, 3) := by decide +kernel
theorem dX11_debt_15 : decode cX11_debt 15 = .ok (.ifCond .ne 6, 3) := by decide +kernel
theorem dX11_debt_18 : decode cX11_debt 18 = .ok (.bipush (-101), 2) := by decide +kernel
theorem dX11_debt_20 : decode cX11_debt 20 = .ok (.ireturn, 1) := by decide +kernel
theorem dX11_debt_21 : decode cX11_debt 21 = .ok (.iload_n 3, 1) := by decide +kernel
theorem dX11_debt_22 : decode cX11_debt 22 = .ok (.iconst 0, 1) := by decide +kernel
theorem dX11_debt_23 : decode cX11_debt 23 = .ok (.sipush 9999, 3) := by decide +kernel
theorem dX11_debt_26 : decode cX11_debt 26 = .ok (.invokestatic 55, 3) := by decide +kernel
theorem dX11_debt_29 : decode cX11_debt 29 = .ok (.ifCond .eq 16, 3) := by decide +kernel
theorem dX11_debt_32 : decode cX11_debt 32 = .ok (.aload_n 0, 1) := by decide +kernel
theorem dX11_debt_33 : decode cX11_debt 33 = .ok (.getfield 40, 3) := by decide +kernel
theorem dX11_debt_36 : decode cX11_debt 36 = .ok (.iload_n 1, 1) := by decide +kernel
theorem dX11_debt_37 : decode cX11_debt 37 = .ok (.iload_n 2, 1) := by decide +kernel
theorem dX11_debt_38 : decode cX11_debt 38 = .ok (.iload_n 3, 1) := by decide +kernel
theorem dX11_debt_39 : decode cX11_debt 39 = .ok (.invokevirtual 288, 3) := by decide +kernel
theorem dX11_debt_42 : decode cX11_debt 42 = .ok (.goto 5, 3) := by decide +kernel
theorem dX11_debt_45 : decode cX11_debt 45 = .ok (.bipush (-102), 2) := by decide +kernel
theorem dX11_debt_47 : decode cX11_debt 47 = .ok (.ireturn, 1) := by decide +kernel
theorem dX11_failed_0 : decode cX11_failed 0 = .ok (.iload_n 1, 1) := by decide +kernel
theorem dX11_failed_1 : decode cX11_failed 1 = .ok (.iconst 0, 1) := by decide +kernel
theorem dX11_failed_2 : decode cX11_failed 2 = .ok (.iconst 3, 1) := by decide +kernel
theorem dX11_failed_3 : decode cX11_failed 3 = .ok (.invokestatic 55, 3) := by decide +kernel
theorem dX11_failed_6 : decode cX11_failed 6 = .ok (.ifCond .ne 6, 3) := by decide +kernel
theorem dX11_failed_9 : decode cX11_failed 9 = .ok (.bipush (-101), 2) := by decide +kernel
theorem dX11_failed_11 : decode cX11_failed 11 = .ok (.ireturn, 1) := by decide +kernel
theorem dX11_failed_12 : decode cX11_failed 12 = .ok (.iload_n 2, 1) := by decide +kernel
theorem dX11_failed_13 : decode cX11_failed 13 = .ok (.iconst 0, 1) := by decide +kernel
theorem dX11_failed_14 : decode cX11_failed 14 = .ok (.ldc_w 292, 3) := by decide +kernel
theorem dX11_failed_17 : decode cX11_failed 17 = .ok (.invokestatic 55, 3) := by decide +kernel
theorem dX11_failed_20 : decode cX11_failed 20 = .ok (.ifCond .eq 15, 3) := by decide +kernel
theorem dX11_failed_23 : decode cX11_failed 23 = .ok (.aload_n 0, 1) := by decide +kernel
theorem dX11_failed_24 : decode cX11_failed 24 = .ok (.getfield 40, 3) := by decide +kernel
theorem dX11_failed_27 : decode cX11_failed 27 = .ok (.iload_n 1, 1) := by decide +kernel
theorem dX11_failed_28 : decode cX11_failed 28 = .ok (.iload_n 2, 1) := by decide +kernel
theorem dX11_failed_29 : decode cX11_failed 29 = .ok (.invokevirtual 293, 3) := by decide +kernel
theorem dX11_failed_32 : decode cX11_failed 32 = .ok (.goto 5, 3) := by decide +kernel
theorem dX11_failed_35 : decode cX11_failed 35 = .ok (.bipush (-102), 2) := by decide +kernel
theorem dX11_failed_37 : decode cX11_failed 37 = .ok (.ireturn, 1) := by decide +kernel
theorem dX11_shares_0 : decode cX11_shares 0 = .ok (.iload_n 1, 1) := by decide +kernel
theorem dX11_shares_1 : decode cX11_shares 1 = .ok (.iconst 0, 1) := by decide +kernel
theorem dX11_shares_2 : decode cX11_shares 2 = .ok (.iconst 5, 1) := by decide +kernel
theorem dX11_shares_3 : decode cX11_shares 3 = .ok (.invokestatic 55, 3) := by decide +kernel
theorem dX11_shares_6 : decode cX11_shares 6 = .ok (.ifCond .ne 6, 3) := by decide +kernel
theorem dX11_shares_9 : decode cX11_shares 9 = .ok (.bipush (-101), 2) := by decide +kernel
theorem dX11_shares_11 : decode cX11_shares 11 = .ok (.ireturn, 1) := by decide +kernel
theorem dX11_shares_12 : decode cX11_shares 12 = .ok (.iload_n 2, 1) := by decide +kernel
theorem dX11_shares_13 : decode cX11_shares 13 = .ok (.iconst 0, 1) := by decide +kernel
theorem dX11_shares_14 : decode cX11_shares 14 = .ok (.sipush 999, 3) := by decide +kernel
theorem dX11_shares_17 : decode cX11_shares 17 = .ok (.invokestatic 55, 3) := by decide +kernel
theorem dX11_shares_20 : decode cX11_shares 20 = .ok (.ifCond .ne 6, 3) := by decide +kernel
theorem dX11_shares_23 : decode cX11_shares 23 = .ok (.bipush (-102), 2) := by decide +kernel
theorem dX11_shares_25 : decode cX11_shares 25 = .ok (.ireturn, 1) := by decide +kernel
theorem dX11_shares_26 : decode cX11_shares 26 = .ok (.aload_n 0, 1) := by decide +kernel
theorem dX11_shares_27 : decode cX11_shares 27 = .ok (.getfield 40, 3) := by decide +kernel
theorem dX11_shares_30 : decode cX11_shares 30 = .ok (.getfield 296, 3) := by decide +kernel
theorem dX11_shares_33 : decode cX11_shares 33 = .ok (.ifCond .le 6, 3) := by decide +kernel
theorem dX11_shares_36 : decode cX11_shares 36 = .ok (.bipush (-103), 2) := by decide +kernel
theorem dX11_shares_38 : decode cX11_shares 38 = .ok (.ireturn, 1) := by decide +kernel
theorem dX11_shares_39 : decode cX11_shares 39 = .ok (.aload_n 0, 1) := by decide +kernel
theorem dX11_shares_40 : decode cX11_shares 40 = .ok (.getfield 40, 3) := by decide +kernel
theorem dX11_shares_43 : decode cX11_shares 43 = .ok (.getfield 299, 3) := by decide +kernel
theorem dX11_shares_46 : decode cX11_shares 46 = .ok (.iload_n 1, 1) := by decide +kernel
theorem dX11_shares_47 : decode cX11_shares 47 = .ok (.iaload, 1) := by decide +kernel
theorem dX11_shares_48 : decode cX11_shares 48 = .ok (.istore_n 3, 1) := by decide +kernel
theorem dX11_shares_49 : decode cX11_shares 49 = .ok (.aload_n 0, 1) := by decide +kernel
theorem dX11_shares_50 : decode cX11_shares 50 = .ok (.getfield 40, 3) := by decide +kernel
theorem dX11_shares_53 : decode cX11_shares 53 = .ok (.getfield 299, 3) := by decide +kernel
theorem dX11_shares_56 : decode cX11_shares 56 = .ok (.iload_n 1, 1) := by decide +kernel
theorem dX11_shares_57 : decode cX11_shares 57 = .ok (.iload_n 2, 1) := by decide +kernel
theorem dX11_shares_58 : decode cX11_shares 58 = .ok (.iastore, 1) := by decide +kernel
theorem dX11_shares_59 : decode cX11_shares 59 = .ok (.iload_n 3, 1) := by decide +kernel
theorem dX11_shares_60 : decode cX11_shares 60 = .ok (.ireturn, 1) := by decide +kernel
theorem dX11_pass_0 : decode cX11_pass 0 = .ok (.iload_n 1, 1) := by decide +kernel
theorem dX11_pass_1 : decode cX11_pass 1 = .ok (.iconst 0, 1) := by decide +kernel
theorem dX11_pass_2 : decode cX11_pass 2 = .ok (.iconst 5, 1) := by decide +kernel
theorem dX11_pass_3 : decode cX11_pass 3 = .ok (.invokestatic 55, 3) := by decide +kernel
theorem dX11_pass_6 : decode cX11_pass 6 = .ok (.ifCond .eq 17, 3) := by decide +kernel
theorem dX11_pass_9 : decode cX11_pass 9 = .ok (.iload_n 2, 1) := by decide +kernel
theorem dX11_pass_10 : decode cX11_pass 10 = .ok (.iconst 0, 1) := by decide +kernel
theorem dX11_pass_11 : decode cX11_pass 11 = .ok (.iconst 5, 1) := by decide +kernel
theorem dX11_pass_12 : decode cX11_pass 12 = .ok (.invokestatic 55, 3) := by decide +kernel
theorem dX11_pass_15 : decode cX11_pass 15 = .ok (.ifCond .eq 8, 3) := by decide +kernel
theorem dX11_pass_18 : decode cX11_pass 18 = .ok (.iload_n 1, 1) := by decide +kernel
theorem dX11_pass_19 : decode cX11_pass 19 = .ok (.iload_n 2, 1) := by decide +kernel
theorem dX11_pass_20 : decode cX11_pass 20 = .ok (.if_icmp .ne 6, 3) := by decide +kernel
theorem dX11_pass_23 : decode cX11_pass 23 = .ok (.bipush (-101), 2) := by decide +kernel
theorem dX11_pass_25 : decode cX11_pass 25 = .ok (.ireturn, 1) := by decide +kernel
theorem dX11_pass_26 : decode cX11_pass 26 = .ok (.iload_n 3, 1) := by decide +kernel
theorem dX11_pass_27 : decode cX11_pass 27 = .ok (.iconst 1, 1) := by decide +kernel
theorem dX11_pass_28 : decode cX11_pass 28 = .ok (.sipush 999, 3) := by decide +kernel
theorem dX11_pass_31 : decode cX11_pass 31 = .ok (.invokestatic 55, 3) := by decide +kernel
theorem dX11_pass_34 : decode cX11_pass 34 = .ok (.ifCond .eq 20, 3) := by decide +kernel
theorem dX11_pass_37 : decode cX11_pass 37 = .ok (.iload 4, 2) := by decide +kernel
theorem dX11_pass_39 : decode cX11_pass 39 = .ok (.aload_n 0, 1) := by decide +kernel
theorem dX11_pass_40 : decode cX11_pass 40 = .ok (.getfield 40, 3) := by decide +kernel
theorem dX11_pass_43 : decode cX11_pass 43 = .ok (.invokevirtual 302, 3) := by decide +kernel
theorem dX11_pass_46 : decode cX11_pass 46 = .ok (.bipush 99, 2) := by decide +kernel
theorem dX11_pass_48 : decode cX11_pass 48 = .ok (.invokestatic 55, 3) := by decide +kernel
theorem dX11_pass_51 : decode cX11_pass 51 = .ok (.ifCond .ne 6, 3) := by decide +kernel
theorem dX11_pass_54 : decode cX11_pass 54 = .ok (.bipush (-102), 2) := by decide +kernel
theorem dX11_pass_56 : decode cX11_pass 56 = .ok (.ireturn, 1) := by decide +kernel
theorem dX11_pass_57 : decode cX11_pass 57 = .ok (.aload_n 0, 1) := by decide +kernel
theorem dX11_pass_58 : decode cX11_pass 58 = .ok (.getfield 40, 3) := by decide +kernel
theorem dX11_pass_61 : decode cX11_pass 61 = .ok (.iload_n 1, 1) := by decide +kernel
theorem dX11_pass_62 : decode cX11_pass 62 = .ok (.bipush 99, 2) := by decide +kernel
theorem dX11_pass_64 : decode cX11_pass 64 = .ok (.invokevirtual 305, 3) := by decide +kernel
theorem dX11_pass_67 : decode cX11_pass 67 = .ok (.iload_n 3, 1) := by decide +kernel
theorem dX11_pass_68 : decode cX11_pass 68 = .ok (.if_icmp .ge 6, 3) := by decide +kernel
theorem dX11_pass_71 : decode cX11_pass 71 = .ok (.bipush (-103), 2) := by decide +kernel
theorem dX11_pass_73 : decode cX11_pass 73 = .ok (.ireturn, 1) := by decide +kernel
theorem dX11_pass_74 : decode cX11_pass 74 = .ok (.aload_n 0, 1) := by decide +kernel
theorem dX11_pass_75 : decode cX11_pass 75 = .ok (.getfield 40, 3) := by decide +kernel
theorem dX11_pass_78 : decode cX11_pass 78 = .ok (.iload_n 1, 1) := by decide +kernel
theorem dX11_pass_79 : decode cX11_pass 79 = .ok (.iload_n 2, 1) := by decide +kernel
theorem dX11_pass_80 : decode cX11_pass 80 = .ok (.iload_n 3, 1) := by decide +kernel
theorem dX11_pass_81 : decode cX11_pass 81 = .ok (.iload 4, 2) := by decide +kernel
theorem dX11_pass_83 : decode cX11_pass 83 = .ok (.invokevirtual 308, 3) := by decide +kernel
theorem dX11_pass_86 : decode cX11_pass 86 = .ok (.ireturn, 1) := by decide +kernel
theorem dX11_had_0 : decode cX11_had 0 = .ok (.iload_n 1, 1) := by decide +kernel
theorem dX11_had_1 : decode cX11_had 1 = .ok (.iconst 0, 1) := by decide +kernel
theorem dX11_had_2 : decode cX11_had 2 = .ok (.iconst 5, 1) := by decide +kernel
theorem dX11_had_3 : decode cX11_had 3 = .ok (.invokestatic 55, 3) := by decide +kernel
theorem dX11_had_6 : decode cX11_had 6 = .ok (.ifCond .ne 6, 3) := by decide +kernel
theorem dX11_had_9 : decode cX11_had 9 = .ok (.bipush (-101), 2) := by decide +kernel
theorem dX11_had_11 : decode cX11_had 11 = .ok (.ireturn, 1) := by decide +kernel
theorem dX11_had_12 : decode cX11_had 12 = .ok (.iload_n 2, 1) := by decide +kernel
theorem dX11_had_13 : decode cX11_had 13 = .ok (.iconst 0, 1) := by decide +kernel
theorem dX11_had_14 : decode cX11_had 14 = .ok (.bipush 99, 2) := by decide +kernel
theorem dX11_had_16 : decode cX11_had 16 = .ok (.invokestatic 55, 3) := by decide +kernel
theorem dX11_had_19 : decode cX11_had 19 = .ok (.ifCond .eq 15, 3) := by decide +kernel
theorem dX11_had_22 : decode cX11_had 22 = .ok (.aload_n 0, 1) := by decide +kernel
theorem dX11_had_23 : decode cX11_had 23 = .ok (.getfield 40, 3) := by decide +kernel
theorem dX11_had_26 : decode cX11_had 26 = .ok (.iload_n 1, 1) := by decide +kernel
theorem dX11_had_27 : decode cX11_had 27 = .ok (.iload_n 2, 1) := by decide +kernel
theorem dX11_had_28 : decode cX11_had 28 = .ok (.invokevirtual 305, 3) := by decide +kernel
theorem dX11_had_31 : decode cX11_had 31 = .ok (.goto 5, 3) := by decide +kernel
theorem dX11_had_34 : decode cX11_had 34 = .ok (.bipush (-102), 2) := by decide +kernel
theorem dX11_had_36 : decode cX11_had 36 = .ok (.ireturn, 1) := by decide +kernel
theorem dX11_dividend_0 : decode cX11_dividend 0 = .ok (.iload_n 1, 1) := by decide +kernel
theorem dX11_dividend_1 : decode cX11_dividend 1 = .ok (.iconst 0, 1) := by decide +kernel
theorem dX11_dividend_2 : decode cX11_dividend 2 = .ok (.iconst 5, 1) := by decide +kernel
theorem dX11_dividend_3 : decode cX11_dividend 3 = .ok (.invokestatic 55, 3) := by decide +kernel
theorem dX11_dividend_6 : decode cX11_dividend 6 = .ok (.ifCond .ne 6, 3) := by decide +kernel
theorem dX11_dividend_9 : decode cX11_dividend 9 = .ok (.bipush (-101), 2) := by decide +kernel
theorem dX11_dividend_11 : decode cX11_dividend 11 = .ok (.ireturn, 1) := by decide +kernel
theorem dX11_dividend_12 : decode cX11_dividend 12 = .ok (.iload_n 2, 1) := by decide +kernel
theorem dX11_dividend_13 : decode cX11_dividend 13 = .ok (.iconst 0, 1) := by decide +kernel
theorem dX11_dividend_14 : decode cX11_dividend 14 = .ok (.ldc_w 282, 3) := by decide +kernel
theorem dX11_dividend_17 : decode cX11_dividend 17 = .ok (.invokestatic 55, 3) := by decide +kernel
theorem dX11_dividend_20 : decode cX11_dividend 20 = .ok (.ifCond .eq 13, 3) := by decide +kernel
theorem dX11_dividend_23 : decode cX11_dividend 23 = .ok (.iload_n 3, 1) := by decide +kernel
theorem dX11_dividend_24 : decode cX11_dividend 24 = .ok (.iconst 0, 1) := by decide +kernel
theorem dX11_dividend_25 : decode cX11_dividend 25 = .ok (.bipush 99, 2) := by decide +kernel
theorem dX11_dividend_27 : decode cX11_dividend 27 = .ok (.invokestatic 55, 3) := by decide +kernel
theorem dX11_dividend_30 : decode cX11_dividend 30 = .ok (.ifCond .ne 6, 3) := by decide +kernel
theorem dX11_dividend_33 : decode cX11_dividend 33 = .ok (.bipush (-102), 2) := by decide +kernel
theorem dX11_dividend_35 : decode cX11_dividend 35 = .ok (.ireturn, 1) := by decide +kernel
theorem dX11_dividend_36 : decode cX11_dividend 36 = .ok (.aload_n 0, 1) := by decide +kernel
theorem dX11_dividend_37 : decode cX11_dividend 37 = .ok (.getfield 40, 3) := by decide +kernel
theorem dX11_dividend_40 : decode cX11_dividend 40 = .ok (.invokevirtual 312, 3) := by decide +kernel
theorem dX11_dividend_43 : decode cX11_dividend 43 = .ok (.istore 4, 2) := by decide +kernel
theorem dX11_dividend_45 : decode cX11_dividend 45 = .ok (.iload 4, 2) := by decide +kernel
theorem dX11_dividend_47 : decode cX11_dividend 47 = .ok (.ifCond .ne 8, 3) := by decide +kernel
theorem dX11_dividend_50 : decode cX11_dividend 50 = .ok (.bipush (-103), 2) := by decide +kernel
theorem dX11_dividend_52 : decode cX11_dividend 52 = .ok (.goto 15, 3) := by decide +kernel
theorem dX11_dividend_55 : decode cX11_dividend 55 = .ok (.aload_n 0, 1) := by decide +kernel
theorem dX11_dividend_56 : decode cX11_dividend 56 = .ok (.getfield 40, 3) := by decide +kernel
theorem dX11_dividend_59 : decode cX11_dividend 59 = .ok (.iload_n 1, 1) := by decide +kernel
theorem dX11_dividend_60 : decode cX11_dividend 60 = .ok (.iload_n 2, 1) := by decide +kernel
theorem dX11_dividend_61 : decode cX11_dividend 61 = .ok (.iload_n 3, 1) := by decide +kernel
theorem dX11_dividend_62 : decode cX11_dividend 62 = .ok (.iload 4, 2) := by decide +kernel
theorem dX11_dividend_64 : decode cX11_dividend 64 = .ok (.invokevirtual 315, 3) := by decide +kernel
theorem dX11_dividend_67 : decode cX11_dividend 67 = .ok (.ireturn, 1) := by decide +kernel
theorem dX11_rate_0 : decode cX11_rate 0 = .ok (.iload_n 1, 1) := by decide +kernel
theorem dX11_rate_1 : decode cX11_rate 1 = .ok (.iconst 0, 1) := by decide +kernel
theorem dX11_rate_2 : decode cX11_rate 2 = .ok (.sipush 999, 3) := by decide +kernel
theorem dX11_rate_5 : decode cX11_rate 5 = .ok (.invokestatic 55, 3) := by decide +kernel
theorem dX11_rate_8 : decode cX11_rate 8 = .ok (.ifCond .ne 6, 3) := by decide +kernel
theorem dX11_rate_11 : decode cX11_rate 11 = .ok (.bipush (-102), 2) := by decide +kernel
theorem dX11_rate_13 : decode cX11_rate 13 = .ok (.ireturn, 1) := by decide +kernel
theorem dX11_rate_14 : decode cX11_rate 14 = .ok (.aload_n 0, 1) := by decide +kernel
theorem dX11_rate_15 : decode cX11_rate 15 = .ok (.getfield 40, 3) := by decide +kernel
theorem dX11_rate_18 : decode cX11_rate 18 = .ok (.getfield 318, 3) := by decide +kernel
theorem dX11_rate_21 : decode cX11_rate 21 = .ok (.istore_n 2, 1) := by decide +kernel
theorem dX11_rate_22 : decode cX11_rate 22 = .ok (.aload_n 0, 1) := by decide +kernel
theorem dX11_rate_23 : decode cX11_rate 23 = .ok (.getfield 40, 3) := by decide +kernel
theorem dX11_rate_26 : decode cX11_rate 26 = .ok (.iload_n 1, 1) := by decide +kernel
theorem dX11_rate_27 : decode cX11_rate 27 = .ok (.putfield 318, 3) := by decide +kernel
theorem dX11_rate_30 : decode cX11_rate 30 = .ok (.iload_n 2, 1) := by decide +kernel
theorem dX11_rate_31 : decode cX11_rate 31 = .ok (.ireturn, 1) := by decide +kernel
theorem dX11_over_0 : decode cX11_over 0 = .ok (.iload_n 1, 1) := by decide +kernel
theorem dX11_over_1 : decode cX11_over 1 = .ok (.iconst 0, 1) := by decide +kernel
theorem dX11_over_2 : decode cX11_over 2 = .ok (.bipush 99, 2) := by decide +kernel
theorem dX11_over_4 : decode cX11_over 4 = .ok (.invokestatic 55, 3) := by decide +kernel
theorem dX11_over_7 : decode cX11_over 7 = .ok (.ifCond .ne 6, 3) := by decide +kernel
theorem dX11_over_10 : decode cX11_over 10 = .ok (.bipush (-102), 2) := by decide +kernel
theorem dX11_over_12 : decode cX11_over 12 = .ok (.ireturn, 1) := by decide +kernel
theorem dX11_over_13 : decode cX11_over 13 = .ok (.iconst 0, 1) := by decide +kernel
theorem dX11_over_14 : decode cX11_over 14 = .ok (.istore_n 2, 1) := by decide +kernel
theorem dX11_over_15 : decode cX11_over 15 = .ok (.iconst 0, 1) := by decide +kernel
theorem dX11_over_16 : decode cX11_over 16 = .ok (.istore_n 3, 1) := by decide +kernel
theorem dX11_over_17 : decode cX11_over 17 = .ok (.iload_n 3, 1) := by decide +kernel
theorem dX11_over_18 : decode cX11_over 18 = .ok (.aload_n 0, 1) := by decide +kernel
theorem dX11_over_19 : decode cX11_over 19 = .ok (.getfield 12, 3) := by decide +kernel
theorem dX11_over_22 : decode cX11_over 22 = .ok (.getfield 73, 3) := by decide +kernel
theorem dX11_over_25 : decode cX11_over 25 = .ok (.if_icmp .ge 35, 3) := by decide +kernel
theorem dX11_over_28 : decode cX11_over 28 = .ok (.aload_n 0, 1) := by decide +kernel
theorem dX11_over_29 : decode cX11_over 29 = .ok (.getfield 40, 3) := by decide +kernel
theorem dX11_over_32 : decode cX11_over 32 = .ok (.aload_n 0, 1) := by decide +kernel
theorem dX11_over_33 : decode cX11_over 33 = .ok (.getfield 12, 3) := by decide +kernel
theorem dX11_over_36 : decode cX11_over 36 = .ok (.getfield 321, 3) := by decide +kernel
theorem dX11_over_39 : decode cX11_over 39 = .ok (.iload_n 3, 1) := by decide +kernel
theorem dX11_over_40 : decode cX11_over 40 = .ok (.aaload, 1) := by decide +kernel
theorem dX11_over_41 : decode cX11_over 41 = .ok (.iload_n 1, 1) := by decide +kernel
theorem dX11_over_42 : decode cX11_over 42 = .ok (.invokevirtual 325, 3) := by decide +kernel
theorem dX11_over_45 : decode cX11_over 45 = .ok (.ifCond .eq 9, 3) := by decide +kernel
theorem dX11_over_48 : decode cX11_over 48 = .ok (.iload_n 2, 1) := by decide +kernel
theorem dX11_over_49 : decode cX11_over 49 = .ok (.iconst 1, 1) := by decide +kernel
theorem dX11_over_50 : decode cX11_over 50 = .ok (.iload_n 3, 1) := by decide +kernel
theorem dX11_over_51 : decode cX11_over 51 = .ok (.ishl, 1) := by decide +kernel
theorem dX11_over_52 : decode cX11_over 52 = .ok (.ior, 1) := by decide +kernel
theorem dX11_over_53 : decode cX11_over 53 = .ok (.istore_n 2, 1) := by decide +kernel
theorem dX11_over_54 : decode cX11_over 54 = .ok (.iinc 3 1, 3) := by decide +kernel
theorem dX11_over_57 : decode cX11_over 57 = .ok (.goto (-40), 3) := by decide +kernel
theorem dX11_over_60 : decode cX11_over 60 = .ok (.iload_n 2, 1) := by decide +kernel
theorem dX11_over_61 : decode cX11_over 61 = .ok (.ireturn, 1) := by decide +kernel
theorem dX11_bestPence_0 : decode cX11_bestPence 0 = .ok (.iload_n 1, 1) := by decide +kernel
theorem dX11_bestPence_1 : decode cX11_bestPence 1 = .ok (.iconst 0, 1) := by decide +kernel
theorem dX11_bestPence_2 : decode cX11_bestPence 2 = .ok (.iconst 1, 1) := by decide +kernel
theorem dX11_bestPence_3 : decode cX11_bestPence 3 = .ok (.invokestatic 55, 3) := by decide +kernel
theorem dX11_bestPence_6 : decode cX11_bestPence 6 = .ok (.ifCond .ne 6, 3) := by decide +kernel
theorem dX11_bestPence_9 : decode cX11_bestPence 9 = .ok (.bipush (-102), 2) := by decide +kernel
theorem dX11_bestPence_11 : decode cX11_bestPence 11 = .ok (.ireturn, 1) := by decide +kernel
theorem dX11_bestPence_12 : decode cX11_bestPence 12 = .ok (.iconst 0, 1) := by decide +kernel
theorem dX11_bestPence_13 : decode cX11_bestPence 13 = .ok (.istore_n 2, 1) := by decide +kernel
theorem dX11_bestPence_14 : decode cX11_bestPence 14 = .ok (.iconst 0, 1) := by decide +kernel
theorem dX11_bestPence_15 : decode cX11_bestPence 15 = .ok (.istore_n 3, 1) := by decide +kernel
theorem dX11_bestPence_16 : decode cX11_bestPence 16 = .ok (.iconst 1, 1) := by decide +kernel
theorem dX11_bestPence_17 : decode cX11_bestPence 17 = .ok (.istore 4, 2) := by decide +kernel
theorem dX11_bestPence_19 : decode cX11_bestPence 19 = .ok (.iload 4, 2) := by decide +kernel
theorem dX11_bestPence_21 : decode cX11_bestPence 21 = .ok (.bipush 99, 2) := by decide +kernel
theorem dX11_bestPence_23 : decode cX11_bestPence 23 = .ok (.if_icmp .gt 29, 3) := by decide +kernel
theorem dX11_bestPence_26 : decode cX11_bestPence 26 = .ok (.aload_n 0, 1) := by decide +kernel
theorem dX11_bestPence_27 : decode cX11_bestPence 27 = .ok (.iload 4, 2) := by decide +kernel
theorem dX11_bestPence_29 : decode cX11_bestPence 29 = .ok (.invokevirtual 329, 3) := by decide +kernel
theorem dX11_bestPence_32 : decode cX11_bestPence 32 = .ok (.istore 5, 2) := by decide +kernel
theorem dX11_bestPence_34 : decode cX11_bestPence 34 = .ok (.iload 5, 2) := by decide +kernel
theorem dX11_bestPence_36 : decode cX11_bestPence 36 = .ok (.iload_n 3, 1) := by decide +kernel
theorem dX11_bestPence_37 : decode cX11_bestPence 37 = .ok (.if_icmp .le 9, 3) := by decide +kernel
theorem dX11_bestPence_40 : decode cX11_bestPence 40 = .ok (.iload 4, 2) := by decide +kernel
theorem dX11_bestPence_42 : decode cX11_bestPence 42 = .ok (.istore_n 2, 1) := by decide +kernel
theorem dX11_bestPence_43 : decode cX11_bestPence 43 = .ok (.iload 5, 2) := by decide +kernel
theorem dX11_bestPence_45 : decode cX11_bestPence 45 = .ok (.istore_n 3, 1) := by decide +kernel
theorem dX11_bestPence_46 : decode cX11_bestPence 46 = .ok (.iinc 4 1, 3) := by decide +kernel
theorem dX11_bestPence_49 : decode cX11_bestPence 49 = .ok (.goto (-30), 3) := by decide +kernel
theorem dX11_bestPence_52 : decode cX11_bestPence 52 = .ok (.iload_n 1, 1) := by decide +kernel
theorem dX11_bestPence_53 : decode cX11_bestPence 53 = .ok (.ifCond .ne 7, 3) := by decide +kernel
theorem dX11_bestPence_56 : decode cX11_bestPence 56 = .ok (.iload_n 2, 1) := by decide +kernel
theorem dX11_bestPence_57 : decode cX11_bestPence 57 = .ok (.goto 4, 3) := by decide +kernel
theorem dX11_bestPence_60 : decode cX11_bestPence 60 = .ok (.iload_n 3, 1) := by decide +kernel
theorem dX11_bestPence_61 : decode cX11_bestPence 61 = .ok (.ireturn, 1) := by decide +kernel
theorem dX11_tollsKept_0 : decode cX11_tollsKept 0 = .ok (.iconst 0, 1) := by decide +kernel
theorem dX11_tollsKept_1 : decode cX11_tollsKept 1 = .ok (.istore_n 2, 1) := by decide +kernel
theorem dX11_tollsKept_2 : decode cX11_tollsKept 2 = .ok (.iconst 0, 1) := by decide +kernel
theorem dX11_tollsKept_3 : decode cX11_tollsKept 3 = .ok (.istore_n 3, 1) := by decide +kernel
theorem dX11_tollsKept_4 : decode cX11_tollsKept 4 = .ok (.iload_n 3, 1) := by decide +kernel
theorem dX11_tollsKept_5 : decode cX11_tollsKept 5 = .ok (.aload_n 0, 1) := by decide +kernel
theorem dX11_tollsKept_6 : decode cX11_tollsKept 6 = .ok (.getfield 12, 3) := by decide +kernel
theorem dX11_tollsKept_9 : decode cX11_tollsKept 9 = .ok (.getfield 73, 3) := by decide +kernel
theorem dX11_tollsKept_12 : decode cX11_tollsKept 12 = .ok (.if_icmp .ge 43, 3) := by decide +kernel
theorem dX11_tollsKept_15 : decode cX11_tollsKept 15 = .ok (.aload_n 0, 1) := by decide +kernel
theorem dX11_tollsKept_16 : decode cX11_tollsKept 16 = .ok (.getfield 12, 3) := by decide +kernel
theorem dX11_tollsKept_19 : decode cX11_tollsKept 19 = .ok (.getfield 321, 3) := by decide +kernel
theorem dX11_tollsKept_22 : decode cX11_tollsKept 22 = .ok (.iload_n 3, 1) := by decide +kernel
theorem dX11_tollsKept_23 : decode cX11_tollsKept 23 = .ok (.aaload, 1) := by decide +kernel
theorem dX11_tollsKept_24 : decode cX11_tollsKept 24 = .ok (.astore 4, 2) := by decide +kernel
theorem dX11_tollsKept_26 : decode cX11_tollsKept 26 = .ok (.aload_n 0, 1) := by decide +kernel
theorem dX11_tollsKept_27 : decode cX11_tollsKept 27 = .ok (.getfield 40, 3) := by decide +kernel
theorem dX11_tollsKept_30 : decode cX11_tollsKept 30 = .ok (.aload 4, 2) := by decide +kernel
theorem dX11_tollsKept_32 : decode cX11_tollsKept 32 = .ok (.iload_n 1, 1) := by decide +kernel
theorem dX11_tollsKept_33 : decode cX11_tollsKept 33 = .ok (.invokevirtual 325, 3) := by decide +kernel
theorem dX11_tollsKept_36 : decode cX11_tollsKept 36 = .ok (.ifCond .ne 13, 3) := by decide +kernel
theorem dX11_tollsKept_39 : decode cX11_tollsKept 39 = .ok (.iload_n 2, 1) := by decide +kernel
theorem dX11_tollsKept_40 : decode cX11_tollsKept 40 = .ok (.iload_n 1, 1) := by decide +kernel
theorem dX11_tollsKept_41 : decode cX11_tollsKept 41 = .ok (.aload 4, 2) := by decide +kernel
theorem dX11_tollsKept_43 : decode cX11_tollsKept 43 = .ok (.invokevirtual 209, 3) := by decide +kernel
theorem dX11_tollsKept_46 : decode cX11_tollsKept 46 = .ok (.imul, 1) := by decide +kernel
theorem dX11_tollsKept_47 : decode cX11_tollsKept 47 = .ok (.iadd, 1) := by decide +kernel
theorem dX11_tollsKept_48 : decode cX11_tollsKept 48 = .ok (.istore_n 2, 1) := by decide +kernel
theorem dX11_tollsKept_49 : decode cX11_tollsKept 49 = .ok (.iinc 3 1, 3) := by decide +kernel
theorem dX11_tollsKept_52 : decode cX11_tollsKept 52 = .ok (.goto (-48), 3) := by decide +kernel
theorem dX11_tollsKept_55 : decode cX11_tollsKept 55 = .ok (.iload_n 2, 1) := by decide +kernel
theorem dX11_tollsKept_56 : decode cX11_tollsKept 56 = .ok (.ireturn, 1) := by decide +kernel
theorem dX11_work_0 : decode cX11_work 0 = .ok (.iload_n 3, 1) := by decide +kernel
theorem dX11_work_1 : decode cX11_work 1 = .ok (.iconst (-1), 1) := by decide +kernel
theorem dX11_work_2 : decode cX11_work 2 = .ok (.aload_n 0, 1) := by decide +kernel
theorem dX11_work_3 : decode cX11_work 3 = .ok (.getfield 47, 3) := by decide +kernel
theorem dX11_work_6 : decode cX11_work 6 = .ok (.getfield 332, 3) := by decide +kernel
theorem dX11_work_9 : decode cX11_work 9 = .ok (.iconst 1, 1) := by decide +kernel
theorem dX11_work_10 : decode cX11_work 10 = .ok (.isub, 1) := by decide +kernel
theorem dX11_work_11 : decode cX11_work 11 = .ok (.invokestatic 55, 3) := by decide +kernel
theorem dX11_work_14 : decode cX11_work 14 = .ok (.ifCond .ne 6, 3) := by decide +kernel
theorem dX11_work_17 : decode cX11_work 17 = .ok (.bipush (-101), 2) := by decide +kernel
theorem dX11_work_19 : decode cX11_work 19 = .ok (.ireturn, 1) := by decide +kernel
theorem dX11_work_20 : decode cX11_work 20 = .ok (.iload_n 1, 1) := by decide +kernel
theorem dX11_work_21 : decode cX11_work 21 = .ok (.iconst 1, 1) := by decide +kernel
theorem dX11_work_22 : decode cX11_work 22 = .ok (.sipush 999, 3) := by decide +kernel
theorem dX11_work_25 : decode cX11_work 25 = .ok (.invokestatic 55, 3) := by decide +kernel
theorem dX11_work_28 : decode cX11_work 28 = .ok (.ifCond .eq 14, 3) := by decide +kernel
theorem dX11_work_31 : decode cX11_work 31 = .ok (.iload_n 2, 1) := by decide +kernel
theorem dX11_work_32 : decode cX11_work 32 = .ok (.iconst 0, 1) := by decide +kernel
theorem dX11_work_33 : decode cX11_work 33 = .ok (.sipush 999, 3) := by decide +kernel
theorem dX11_work_36 : decode cX11_work 36 = .ok (.invokestatic 55, 3) := by decide +kernel
theorem dX11_work_39 : decode cX11_work 39 = .ok (.ifCond .ne 6, 3) := by decide +kernel
theorem dX11_work_42 : decode cX11_work 42 = .ok (.bipush (-102), 2) := by decide +kernel
theorem dX11_work_44 : decode cX11_work 44 = .ok (.ireturn, 1) := by decide +kernel
theorem dX11_work_45 : decode cX11_work 45 = .ok (.aload_n 0, 1) := by decide +kernel
theorem dX11_work_46 : decode cX11_work 46 = .ok (.getfield 47, 3) := by decide +kernel
theorem dX11_work_49 : decode cX11_work 49 = .ok (.iload_n 1, 1) := by decide +kernel
theorem dX11_work_50 : decode cX11_work 50 = .ok (.iload_n 2, 1) := by decide +kernel
theorem dX11_work_51 : decode cX11_work 51 = .ok (.iload_n 3, 1) := by decide +kernel
theorem dX11_work_52 : decode cX11_work 52 = .ok (.invokevirtual 333, 3) := by decide +kernel
theorem dX11_work_55 : decode cX11_work 55 = .ok (.ireturn, 1) := by decide +kernel
theorem dX11_plan_0 : decode cX11_plan 0 = .ok (.iload_n 1, 1) := by decide +kernel
theorem dX11_plan_1 : decode cX11_plan 1 = .ok (.iconst 0, 1) := by decide +kernel
theorem dX11_plan_2 : decode cX11_plan 2 = .ok (.sipush 9999, 3) := by decide +kernel
theorem dX11_plan_5 : decode cX11_plan 5 = .ok (.invokestatic 55, 3) := by decide +kernel
theorem dX11_plan_8 : decode cX11_plan 8 = .ok (.ifCond .eq 12, 3) := by decide +kernel
theorem dX11_plan_11 : decode cX11_plan 11 = .ok (.iload_n 2, 1) := by decide +kernel
theorem dX11_plan_12 : decode cX11_plan 12 = .ok (.iconst 0, 1) := by decide +kernel
theorem dX11_plan_13 : decode cX11_plan 13 = .ok (.iconst 2, 1) := by decide +kernel
theorem dX11_plan_14 : decode cX11_plan 14 = .ok (.invokestatic 55, 3) := by decide +kernel
theorem dX11_plan_17 : decode cX11_plan 17 = .ok (.ifCond .ne 6, 3) := by decide +kernel
theorem dX11_plan_20 : decode cX11_plan 20 = .ok (.bipush (-102), 2) := by decide +kernel
theorem dX11_plan_22 : decode cX11_plan 22 = .ok (.ireturn, 1) := by decide +kernel
theorem dX11_plan_23 : decode cX11_plan 23 = .ok (.aload_n 0, 1) := by decide +kernel
theorem dX11_plan_24 : decode cX11_plan 24 = .ok (.getfield 47, 3) := by decide +kernel
theorem dX11_plan_27 : decode cX11_plan 27 = .ok (.iload_n 1, 1) := by decide +kernel
theorem dX11_plan_28 : decode cX11_plan 28 = .ok (.invokevirtual 335, 3) := by decide +kernel
theorem dX11_plan_31 : decode cX11_plan 31 = .ok (.istore_n 3, 1) := by decide +kernel
theorem dX11_plan_32 : decode cX11_plan 32 = .ok (.iload_n 2, 1) := by decide +kernel
theorem dX11_plan_33 : decode cX11_plan 33 = .ok (.ifCond .ne 5, 3) := by decide +kernel
theorem dX11_plan_36 : decode cX11_plan 36 = .ok (.iload_n 3, 1) := by decide +kernel
theorem dX11_plan_37 : decode cX11_plan 37 = .ok (.ireturn, 1) := by decide +kernel
theorem dX11_plan_38 : decode cX11_plan 38 = .ok (.iload_n 2, 1) := by decide +kernel
theorem dX11_plan_39 : decode cX11_plan 39 = .ok (.iconst 1, 1) := by decide +kernel
theorem dX11_plan_40 : decode cX11_plan 40 = .ok (.if_icmp .ne 14, 3) := by decide +kernel
theorem dX11_plan_43 : decode cX11_plan 43 = .ok (.aload_n 0, 1) := by decide +kernel
theorem dX11_plan_44 : decode cX11_plan 44 = .ok (.getfield 47, 3) := by decide +kernel
theorem dX11_plan_47 : decode cX11_plan 47 = .ok (.iload_n 3, 1) := by decide +kernel
theorem dX11_plan_48 : decode cX11_plan 48 = .ok (.invokevirtual 338, 3) := by decide +kernel
theorem dX11_plan_51 : decode cX11_plan 51 = .ok (.goto 11, 3) := by decide +kernel
theorem dX11_plan_54 : decode cX11_plan 54 = .ok (.aload_n 0, 1) := by decide +kernel
theorem dX11_plan_55 : decode cX11_plan 55 = .ok (.getfield 47, 3) := by decide +kernel
theorem dX11_plan_58 : decode cX11_plan 58 = .ok (.iload_n 3, 1) := by decide +kernel
theorem dX11_plan_59 : decode cX11_plan 59 = .ok (.invokevirtual 341, 3) := by decide +kernel
theorem dX11_plan_62 : decode cX11_plan 62 = .ok (.ireturn, 1) := by decide +kernel
theorem dX11_count_0 : decode cX11_count 0 = .ok (.iload_n 1, 1) := by decide +kernel
theorem dX11_count_1 : decode cX11_count 1 = .ok (.tableswitch 159 0 11 #[63, 71, 79, 87, 95, 103, 111, 119, 127, 135, 143, 151], 63) := by decide +kernel
theorem dX11_count_64 : decode cX11_count 64 = .ok (.aload_n 0, 1) := by decide +kernel
theorem dX11_count_65 : decode cX11_count 65 = .ok (.getfield 12, 3) := by decide +kernel
theorem dX11_count_68 : decode cX11_count 68 = .ok (.getfield 69, 3) := by decide +kernel
theorem dX11_count_71 : decode cX11_count 71 = .ok (.ireturn, 1) := by decide +kernel
theorem dX11_count_72 : decode cX11_count 72 = .ok (.aload_n 0, 1) := by decide +kernel
theorem dX11_count_73 : decode cX11_count 73 = .ok (.getfield 12, 3) := by decide +kernel
theorem dX11_count_76 : decode cX11_count 76 = .ok (.getfield 89, 3) := by decide +kernel
theorem dX11_count_79 : decode cX11_count 79 = .ok (.ireturn, 1) := by decide +kernel
theorem dX11_count_80 : decode cX11_count 80 = .ok (.aload_n 0, 1) := by decide +kernel
theorem dX11_count_81 : decode cX11_count 81 = .ok (.getfield 12, 3) := by decide +kernel
theorem dX11_count_84 : decode cX11_count 84 = .ok (.getfield 73, 3) := by decide +kernel
theorem dX11_count_87 : decode cX11_count 87 = .ok (.ireturn, 1) := by decide +kernel
theorem dX11_count_88 : decode cX11_count 88 = .ok (.aload_n 0, 1) := by decide +kernel
theorem dX11_count_89 : decode cX11_count 89 = .ok (.getfield 12, 3) := by decide +kernel
theorem dX11_count_92 : decode cX11_count 92 = .ok (.invokevirtual 344, 3) := by decide +kernel
theorem dX11_count_95 : decode cX11_count 95 = .ok (.ireturn, 1) := by decide +kernel
theorem dX11_count_96 : decode cX11_count 96 = .ok (.aload_n 0, 1) := by decide +kernel
theorem dX11_count_97 : decode cX11_count 97 = .ok (.getfield 19, 3) := by decide +kernel
theorem dX11_count_100 : decode cX11_count 100 = .ok (.getfield 347, 3) := by decide +kernel
theorem dX11_count_103 : decode cX11_count 103 = .ok (.ireturn, 1) := by decide +kernel
theorem dX11_count_104 : decode cX11_count 104 = .ok (.aload_n 0, 1) := by decide +kernel
theorem dX11_count_105 : decode cX11_count 105 = .ok (.getfield 26, 3) := by decide +kernel
theorem dX11_count_108 : decode cX11_count 108 = .ok (.getfield 234, 3) := by decide +kernel
theorem dX11_count_111 : decode cX11_count 111 = .ok (.ireturn, 1) := by decide +kernel
theorem dX11_count_112 : decode cX11_count 112 = .ok (.aload_n 0, 1) := by decide +kernel
theorem dX11_count_113 : decode cX11_count 113 = .ok (.getfield 33, 3) := by decide +kernel
theorem dX11_count_116 : decode cX11_count 116 = .ok (.getfield 350, 3) := by decide +kernel
theorem dX11_count_119 : decode cX11_count 119 = .ok (.ireturn, 1) := by decide +kernel
theorem dX11_count_120 : decode cX11_count 120 = .ok (.aload_n 0, 1) := by decide +kernel
theorem dX11_count_121 : decode cX11_count 121 = .ok (.getfield 33, 3) := by decide +kernel
theorem dX11_count_124 : decode cX11_count 124 = .ok (.invokevirtual 256, 3) := by decide +kernel
theorem dX11_count_127 : decode cX11_count 127 = .ok (.ireturn, 1) := by decide +kernel
theorem dX11_count_128 : decode cX11_count 128 = .ok (.aload_n 0, 1) := by decide +kernel
theorem dX11_count_129 : decode cX11_count 129 = .ok (.getfield 40, 3) := by decide +kernel
theorem dX11_count_132 : decode cX11_count 132 = .ok (.getfield 296, 3) := by decide +kernel
theorem dX11_count_135 : decode cX11_count 135 = .ok (.ireturn, 1) := by decide +kernel
theorem dX11_count_136 : decode cX11_count 136 = .ok (.aload_n 0, 1) := by decide +kernel
theorem dX11_count_137 : decode cX11_count 137 = .ok (.getfield 47, 3) := by decide +kernel
theorem dX11_count_140 : decode cX11_count 140 = .ok (.getfield 332, 3) := by decide +kernel
theorem dX11_count_143 : decode cX11_count 143 = .ok (.ireturn, 1) := by decide +kernel
theorem dX11_count_144 : decode cX11_count 144 = .ok (.aload_n 0, 1) := by decide +kernel
theorem dX11_count_145 : decode cX11_count 145 = .ok (.getfield 19, 3) := by decide +kernel
theorem dX11_count_148 : decode cX11_count 148 = .ok (.getfield 170, 3) := by decide +kernel
theorem dX11_count_151 : decode cX11_count 151 = .ok (.ireturn, 1) := by decide +kernel
theorem dX11_count_152 : decode cX11_count 152 = .ok (.aload_n 0, 1) := by decide +kernel
theorem dX11_count_153 : decode cX11_count 153 = .ok (.getfield 26, 3) := by decide +kernel
theorem dX11_count_156 : decode cX11_count 156 = .ok (.getfield 219, 3) := by decide +kernel
theorem dX11_count_159 : decode cX11_count 159 = .ok (.ireturn, 1) := by decide +kernel
theorem dX11_count_160 : decode cX11_count 160 = .ok (.bipush (-102), 2) := by decide +kernel
theorem dX11_count_162 : decode cX11_count 162 = .ok (.ireturn, 1) := by decide +kernel
theorem dX11_digest_0 : decode cX11_digest 0 = .ok (.aload_n 0, 1) := by decide +kernel
theorem dX11_digest_1 : decode cX11_digest 1 = .ok (.getfield 12, 3) := by decide +kernel
theorem dX11_digest_4 : decode cX11_digest 4 = .ok (.ldc2_w 351, 3) := by decide +kernel
theorem dX11_digest_7 : decode cX11_digest 7 = .ok (.invokevirtual 353, 3) := by decide +kernel
theorem dX11_digest_10 : decode cX11_digest 10 = .ok (.lstore_n 1, 1) := by decide +kernel
theorem dX11_digest_11 : decode cX11_digest 11 = .ok (.iconst 0, 1) := by decide +kernel
theorem dX11_digest_12 : decode cX11_digest 12 = .ok (.istore_n 3, 1) := by decide +kernel
theorem dX11_digest_13 : decode cX11_digest 13 = .ok (.iload_n 3, 1) := by decide +kernel
theorem dX11_digest_14 : decode cX11_digest 14 = .ok (.iconst 5, 1) := by decide +kernel
theorem dX11_digest_15 : decode cX11_digest 15 = .ok (.if_icmp .ge 19, 3) := by decide +kernel
theorem dX11_digest_18 : decode cX11_digest 18 = .ok (.lload_n 1, 1) := by decide +kernel
theorem dX11_digest_19 : decode cX11_digest 19 = .ok (.aload_n 0, 1) := by decide +kernel
theorem dX11_digest_20 : decode cX11_digest 20 = .ok (.iload_n 3, 1) := by decide +kernel
theorem dX11_digest_21 : decode cX11_digest 21 = .ok (.invokevirtual 357, 3) := by decide +kernel
theorem dX11_digest_24 : decode cX11_digest 24 = .ok (.invokestatic 361, 3) := by decide +kernel
theorem dX11_digest_27 : decode cX11_digest 27 = .ok (.lstore_n 1, 1) := by decide +kernel
theorem dX11_digest_28 : decode cX11_digest 28 = .ok (.iinc 3 1, 3) := by decide +kernel
theorem dX11_digest_31 : decode cX11_digest 31 = .ok (.goto (-18), 3) := by decide +kernel
theorem dX11_digest_34 : decode cX11_digest 34 = .ok (.aload_n 0, 1) := by decide +kernel
theorem dX11_digest_35 : decode cX11_digest 35 = .ok (.getfield 19, 3) := by decide +kernel
theorem dX11_digest_38 : decode cX11_digest 38 = .ok (.lload_n 1, 1) := by decide +kernel
theorem dX11_digest_39 : decode cX11_digest 39 = .ok (.invokevirtual 365, 3) := by decide +kernel
theorem dX11_digest_42 : decode cX11_digest 42 = .ok (.lstore_n 1, 1) := by decide +kernel
theorem dX11_digest_43 : decode cX11_digest 43 = .ok (.aload_n 0, 1) := by decide +kernel
theorem dX11_digest_44 : decode cX11_digest 44 = .ok (.getfield 26, 3) := by decide +kernel
theorem dX11_digest_47 : decode cX11_digest 47 = .ok (.lload_n 1, 1) := by decide +kernel
theorem dX11_digest_48 : decode cX11_digest 48 = .ok (.invokevirtual 368, 3) := by decide +kernel
theorem dX11_digest_51 : decode cX11_digest 51 = .ok (.lstore_n 1, 1) := by decide +kernel
theorem dX11_digest_52 : decode cX11_digest 52 = .ok (.aload_n 0, 1) := by decide +kernel
theorem dX11_digest_53 : decode cX11_digest 53 = .ok (.getfield 33, 3) := by decide +kernel
theorem dX11_digest_56 : decode cX11_digest 56 = .ok (.lload_n 1, 1) := by decide +kernel
theorem dX11_digest_57 : decode cX11_digest 57 = .ok (.invokevirtual 369, 3) := by decide +kernel
theorem dX11_digest_60 : decode cX11_digest 60 = .ok (.lstore_n 1, 1) := by decide +kernel
theorem dX11_digest_61 : decode cX11_digest 61 = .ok (.aload_n 0, 1) := by decide +kernel
theorem dX11_digest_62 : decode cX11_digest 62 = .ok (.getfield 40, 3) := by decide +kernel
theorem dX11_digest_65 : decode cX11_digest 65 = .ok (.lload_n 1, 1) := by decide +kernel
theorem dX11_digest_66 : decode cX11_digest 66 = .ok (.invokevirtual 370, 3) := by decide +kernel
theorem dX11_digest_69 : decode cX11_digest 69 = .ok (.lstore_n 1, 1) := by decide +kernel
theorem dX11_digest_70 : decode cX11_digest 70 = .ok (.aload_n 0, 1) := by decide +kernel
theorem dX11_digest_71 : decode cX11_digest 71 = .ok (.getfield 47, 3) := by decide +kernel
theorem dX11_digest_74 : decode cX11_digest 74 = .ok (.lload_n 1, 1) := by decide +kernel
theorem dX11_digest_75 : decode cX11_digest 75 = .ok (.invokevirtual 371, 3) := by decide +kernel
theorem dX11_digest_78 : decode cX11_digest 78 = .ok (.lstore_n 1, 1) := by decide +kernel
theorem dX11_digest_79 : decode cX11_digest 79 = .ok (.aload_n 0, 1) := by decide +kernel
theorem dX11_digest_80 : decode cX11_digest 80 = .ok (.getfield 19, 3) := by decide +kernel
theorem dX11_digest_83 : decode cX11_digest 83 = .ok (.lload_n 1, 1) := by decide +kernel
theorem dX11_digest_84 : decode cX11_digest 84 = .ok (.invokevirtual 372, 3) := by decide +kernel
theorem dX11_digest_87 : decode cX11_digest 87 = .ok (.lstore_n 1, 1) := by decide +kernel
theorem dX11_digest_88 : decode cX11_digest 88 = .ok (.iconst 0, 1) := by decide +kernel
theorem dX11_digest_89 : decode cX11_digest 89 = .ok (.istore_n 3, 1) := by decide +kernel
theorem dX11_digest_90 : decode cX11_digest 90 = .ok (.iload_n 3, 1) := by decide +kernel
theorem dX11_digest_91 : decode cX11_digest 91 = .ok (.bipush 12, 2) := by decide +kernel
theorem dX11_digest_93 : decode cX11_digest 93 = .ok (.if_icmp .ge 20, 3) := by decide +kernel
theorem dX11_digest_96 : decode cX11_digest 96 = .ok (.lload_n 1, 1) := by decide +kernel
theorem dX11_digest_97 : decode cX11_digest 97 = .ok (.aload_n 0, 1) := by decide +kernel
theorem dX11_digest_98 : decode cX11_digest 98 = .ok (.iload_n 3, 1) := by decide +kernel
theorem dX11_digest_99 : decode cX11_digest 99 = .ok (.invokevirtual 375, 3) := by decide +kernel
theorem dX11_digest_102 : decode cX11_digest 102 = .ok (.i2l, 1) := by decide +kernel
theorem dX11_digest_103 : decode cX11_digest 103 = .ok (.invokestatic 361, 3) := by decide +kernel
theorem dX11_digest_106 : decode cX11_digest 106 = .ok (.lstore_n 1, 1) := by decide +kernel
theorem dX11_digest_107 : decode cX11_digest 107 = .ok (.iinc 3 1, 3) := by decide +kernel
theorem dX11_digest_110 : decode cX11_digest 110 = .ok (.goto (-20), 3) := by decide +kernel
theorem dX11_digest_113 : decode cX11_digest 113 = .ok (.lload_n 1, 1) := by decide +kernel
theorem dX11_digest_114 : decode cX11_digest 114 = .ok (.lreturn, 1) := by decide +kernel
theorem dX11_mix_0 : decode cX11_mix 0 = .ok (.ldc2_w 377, 3) := by decide +kernel
theorem dX11_mix_3 : decode cX11_mix 3 = .ok (.lload_n 0, 1) := by decide +kernel
theorem dX11_mix_4 : decode cX11_mix 4 = .ok (.lmul, 1) := by decide +kernel
theorem dX11_mix_5 : decode cX11_mix 5 = .ok (.lload_n 2, 1) := by decide +kernel
theorem dX11_mix_6 : decode cX11_mix 6 = .ok (.ladd, 1) := by decide +kernel
theorem dX11_mix_7 : decode cX11_mix 7 = .ok (.lreturn, 1) := by decide +kernel
theorem dX11_within_0 : decode cX11_within 0 = .ok (.iload_n 0, 1) := by decide +kernel
theorem dX11_within_1 : decode cX11_within 1 = .ok (.iload_n 1, 1) := by decide +kernel
theorem dX11_within_2 : decode cX11_within 2 = .ok (.if_icmp .lt 12, 3) := by decide +kernel
theorem dX11_within_5 : decode cX11_within 5 = .ok (.iload_n 0, 1) := by decide +kernel
theorem dX11_within_6 : decode cX11_within 6 = .ok (.iload_n 2, 1) := by decide +kernel
theorem dX11_within_7 : decode cX11_within 7 = .ok (.if_icmp .gt 7, 3) := by decide +kernel
theorem dX11_within_10 : decode cX11_within 10 = .ok (.iconst 1, 1) := by decide +kernel
theorem dX11_within_11 : decode cX11_within 11 = .ok (.goto 4, 3) := by decide +kernel
theorem dX11_within_14 : decode cX11_within 14 = .ok (.iconst 0, 1) := by decide +kernel
theorem dX11_within_15 : decode cX11_within 15 = .ok (.ireturn, 1) := by decide +kernel
theorem dX11_hasBit_0 : decode cX11_hasBit 0 = .ok (.iload_n 0, 1) := by decide +kernel
theorem dX11_hasBit_1 : decode cX11_hasBit 1 = .ok (.iload_n 1, 1) := by decide +kernel
theorem dX11_hasBit_2 : decode cX11_hasBit 2 = .ok (.ishr, 1) := by decide +kernel
theorem dX11_hasBit_3 : decode cX11_hasBit 3 = .ok (.iconst 1, 1) := by decide +kernel
theorem dX11_hasBit_4 : decode cX11_hasBit 4 = .ok (.iand, 1) := by decide +kernel
theorem dX11_hasBit_5 : decode cX11_hasBit 5 = .ok (.ifCond .eq 7, 3) := by decide +kernel
theorem dX11_hasBit_8 : decode cX11_hasBit 8 = .ok (.iconst 1, 1) := by decide +kernel
theorem dX11_hasBit_9 : decode cX11_hasBit 9 = .ok (.goto 4, 3) := by decide +kernel
theorem dX11_hasBit_12 : decode cX11_hasBit 12 = .ok (.iconst 0, 1) := by decide +kernel
theorem dX11_hasBit_13 : decode cX11_hasBit 13 = .ok (.ireturn, 1) := by decide +kernel
theorem dX12_init_0 : decode cX12_init 0 = .ok (.aload_n 0, 1) := by decide +kernel
theorem dX12_init_1 : decode cX12_init 1 = .ok (.invokespecial 1, 3) := by decide +kernel
theorem dX12_init_4 : decode cX12_init 4 = .ok (.aload_n 0, 1) := by decide +kernel
theorem dX12_init_5 : decode cX12_init 5 = .ok (.bipush 8, 2) := by decide +kernel
theorem dX12_init_7 : decode cX12_init 7 = .ok (.newarray .int, 2) := by decide +kernel
theorem dX12_init_9 : decode cX12_init 9 = .ok (.putfield 7, 3) := by decide +kernel
theorem dX12_init_12 : decode cX12_init 12 = .ok (.aload_n 0, 1) := by decide +kernel
theorem dX12_init_13 : decode cX12_init 13 = .ok (.bipush 8, 2) := by decide +kernel
theorem dX12_init_15 : decode cX12_init 15 = .ok (.newarray .int, 2) := by decide +kernel
theorem dX12_init_17 : decode cX12_init 17 = .ok (.putfield 13, 3) := by decide +kernel
theorem dX12_init_20 : decode cX12_init 20 = .ok (.aload_n 0, 1) := by decide +kernel
theorem dX12_init_21 : decode cX12_init 21 = .ok (.bipush 8, 2) := by decide +kernel
theorem dX12_init_23 : decode cX12_init 23 = .ok (.newarray .int, 2) := by decide +kernel
theorem dX12_init_25 : decode cX12_init 25 = .ok (.putfield 16, 3) := by decide +kernel
theorem dX12_init_28 : decode cX12_init 28 = .ok (.aload_n 0, 1) := by decide +kernel
theorem dX12_init_29 : decode cX12_init 29 = .ok (.bipush 7, 2) := by decide +kernel
theorem dX12_init_31 : decode cX12_init 31 = .ok (.newarray .int, 2) := by decide +kernel
theorem dX12_init_33 : decode cX12_init 33 = .ok (.putfield 19, 3) := by decide +kernel
theorem dX12_init_36 : decode cX12_init 36 = .ok (.aload_n 0, 1) := by decide +kernel
theorem dX12_init_37 : decode cX12_init 37 = .ok (.bipush 7, 2) := by decide +kernel
theorem dX12_init_39 : decode cX12_init 39 = .ok (.newarray .boolean, 2) := by decide +kernel
theorem dX12_init_41 : decode cX12_init 41 = .ok (.putfield 22, 3) := by decide +kernel
theorem dX12_init_44 : decode cX12_init 44 = .ok (.aload_n 0, 1) := by decide +kernel
theorem dX12_init_45 : decode cX12_init 45 = .ok (.bipush 7, 2) := by decide +kernel
theorem dX12_init_47 : decode cX12_init 47 = .ok (.newarray .int, 2) := by decide +kernel
theorem dX12_init_49 : decode cX12_init 49 = .ok (.putfield 26, 3) := by decide +kernel
theorem dX12_init_52 : decode cX12_init 52 = .ok (.aload_n 0, 1) := by decide +kernel
theorem dX12_init_53 : decode cX12_init 53 = .ok (.bipush 7, 2) := by decide +kernel
theorem dX12_init_55 : decode cX12_init 55 = .ok (.newarray .boolean, 2) := by decide +kernel
theorem dX12_init_57 : decode cX12_init 57 = .ok (.putfield 29, 3) := by decide +kernel
theorem dX12_init_60 : decode cX12_init 60 = .ok (.aload_n 0, 1) := by decide +kernel
theorem dX12_init_61 : decode cX12_init 61 = .ok (.bipush 7, 2) := by decide +kernel
theorem dX12_init_63 : decode cX12_init 63 = .ok (.newarray .int, 2) := by decide +kernel
theorem dX12_init_65 : decode cX12_init 65 = .ok (.putfield 32, 3) := by decide +kernel
theorem dX12_init_68 : decode cX12_init 68 = .ok (.aload_n 0, 1) := by decide +kernel
theorem dX12_init_69 : decode cX12_init 69 = .ok (.bipush 7, 2) := by decide +kernel
theorem dX12_init_71 : decode cX12_init 71 = .ok (.newarray .int, 2) := by decide +kernel
theorem dX12_init_73 : decode cX12_init 73 = .ok (.putfield 35, 3) := by decide +kernel
theorem dX12_init_76 : decode cX12_init 76 = .ok (.aload_n 0, 1) := by decide +kernel
theorem dX12_init_77 : decode cX12_init 77 = .ok (.bipush 7, 2) := by decide +kernel
theorem dX12_init_79 : decode cX12_init 79 = .ok (.newarray .int, 2) := by decide +kernel
theorem dX12_init_81 : decode cX12_init 81 = .ok (.putfield 38, 3) := by decide +kernel
theorem dX12_init_84 : decode cX12_init 84 = .ok (.aload_n 0, 1) := by decide +kernel
theorem dX12_init_85 : decode cX12_init 85 = .ok (.bipush 12, 2) := by decide +kernel
theorem dX12_init_87 : decode cX12_init 87 = .ok (.newarray .int, 2) := by decide +kernel
theorem dX12_init_89 : decode cX12_init 89 = .ok (.putfield 41, 3) := by decide +kernel
theorem dX12_init_92 : decode cX12_init 92 = .ok (.aload_n 0, 1) := by decide +kernel
theorem dX12_init_93 : decode cX12_init 93 = .ok (.bipush 12, 2) := by decide +kernel
theorem dX12_init_95 : decode cX12_init 95 = .ok (.newarray .int, 2) := by decide +kernel
theorem dX12_init_97 : decode cX12_init 97 = .ok (.putfield 44, 3) := by decide +kernel
theorem dX12_init_100 : decode cX12_init 100 = .ok (.aload_n 0, 1) := by decide +kernel
theorem dX12_init_101 : decode cX12_init 101 = .ok (.bipush 12, 2) := by decide +kernel
theorem dX12_init_103 : decode cX12_init 103 = .ok (.newarray .int, 2) := by decide +kernel
theorem dX12_init_105 : decode cX12_init 105 = .ok (.putfield 47, 3) := by decide +kernel
theorem dX12_init_108 : decode cX12_init 108 = .ok (.aload_n 0, 1) := by decide +kernel
theorem dX12_init_109 : decode cX12_init 109 = .ok (.bipush 12, 2) := by decide +kernel
theorem dX12_init_111 : decode cX12_init 111 = .ok (.newarray .int, 2) := by decide +kernel
theorem dX12_init_113 : decode cX12_init 113 = .ok (.putfield 50, 3) := by decide +kernel
theorem dX12_init_116 : decode cX12_init 116 = .ok (.aload_n 0, 1) := by decide +kernel
theorem dX12_init_117 : decode cX12_init 117 = .ok (.bipush 12, 2) := by decide +kernel
theorem dX12_init_119 : decode cX12_init 119 = .ok (.newarray .int, 2) := by decide +kernel
theorem dX12_init_121 : decode cX12_init 121 = .ok (.putfield 53, 3) := by decide +kernel
theorem dX12_init_124 : decode cX12_init 124 = .ok (.aload_n 0, 1) := by decide +kernel
theorem dX12_init_125 : decode cX12_init 125 = .ok (.bipush 12, 2) := by decide +kernel
theorem dX12_init_127 : decode cX12_init 127 = .ok (.newarray .int, 2) := by decide +kernel
theorem dX12_init_129 : decode cX12_init 129 = .ok (.putfield 56, 3) := by decide +kernel
theorem dX12_init_132 : decode cX12_init 132 = .ok (.aload_n 0, 1) := by decide +kernel
theorem dX12_init_133 : decode cX12_init 133 = .ok (.bipush 12, 2) := by decide +kernel
theorem dX12_init_135 : decode cX12_init 135 = .ok (.newarray .int, 2) := by decide +kernel
theorem dX12_init_137 : decode cX12_init 137 = .ok (.putfield 59, 3) := by decide +kernel
theorem dX12_init_140 : decode cX12_init 140 = .ok (.aload_n 0, 1) := by decide +kernel
theorem dX12_init_141 : decode cX12_init 141 = .ok (.bipush 12, 2) := by decide +kernel
theorem dX12_init_143 : decode cX12_init 143 = .ok (.newarray .int, 2) := by decide +kernel
theorem dX12_init_145 : decode cX12_init 145 = .ok (.putfield 62, 3) := by decide +kernel
theorem dX12_init_148 : decode cX12_init 148 = .ok (.aload_n 0, 1) := by decide +kernel
theorem dX12_init_149 : decode cX12_init 149 = .ok (.bipush 12, 2) := by decide +kernel
theorem dX12_init_151 : decode cX12_init 151 = .ok (.newarray .int, 2) := by decide +kernel
theorem dX12_init_153 : decode cX12_init 153 = .ok (.putfield 65, 3) := by decide +kernel
theorem dX12_init_156 : decode cX12_init 156 = .ok (.aload_n 0, 1) := by decide +kernel
theorem dX12_init_157 : decode cX12_init 157 = .ok (.bipush 12, 2) := by decide +kernel
theorem dX12_init_159 : decode cX12_init 159 = .ok (.newarray .int, 2) := by decide +kernel
theorem dX12_init_161 : decode cX12_init 161 = .ok (.putfield 68, 3) := by decide +kernel
theorem dX12_init_164 : decode cX12_init 164 = .ok (.aload_n 0, 1) := by decide +kernel
theorem dX12_init_165 : decode cX12_init 165 = .ok (.bipush 12, 2) := by decide +kernel
theorem dX12_init_167 : decode cX12_init 167 = .ok (.newarray .int, 2) := by decide +kernel
theorem dX12_init_169 : decode cX12_init 169 = .ok (.putfield 71, 3) := by decide +kernel
theorem dX12_init_172 : decode cX12_init 172 = .ok (.aload_n 0, 1) := by decide +kernel
theorem dX12_init_173 : decode cX12_init 173 = .ok (.bipush 12, 2) := by decide +kernel
theorem dX12_init_175 : decode cX12_init 175 = .ok (.newarray .int, 2) := by decide +kernel
theorem dX12_init_177 : decode cX12_init 177 = .ok (.putfield 74, 3) := by decide +kernel
theorem dX12_init_180 : decode cX12_init 180 = .ok (.aload_n 0, 1) := by decide +kernel
theorem dX12_init_181 : decode cX12_init 181 = .ok (.bipush 12, 2) := by decide +kernel
theorem dX12_init_183 : decode cX12_init 183 = .ok (.newarray .int, 2) := by decide +kernel
theorem dX12_init_185 : decode cX12_init 185 = .ok (.putfield 77, 3) := by decide +kernel
theorem dX12_init_188 : decode cX12_init 188 = .ok (.aload_n 0, 1) := by decide +kernel
theorem dX12_init_189 : decode cX12_init 189 = .ok (.bipush 12, 2) := by decide +kernel
theorem dX12_init_191 : decode cX12_init 191 = .ok (.newarray .int, 2) := by decide +kernel
theorem dX12_init_193 : decode cX12_init 193 = .ok (.putfield 80, 3) := by decide +kernel
theorem dX12_init_196 : decode cX12_init 196 = .ok (.aload_n 0, 1) := by decide +kernel
theorem dX12_init_197 : decode cX12_init 197 = .ok (.bipush 12, 2) := by decide +kernel
theorem dX12_init_199 : decode cX12_init 199 = .ok (.newarray .boolean, 2) := by decide +kernel
theorem dX12_init_201 : decode cX12_init 201 = .ok (.putfield 83, 3) := by decide +kernel
theorem dX12_init_204 : decode cX12_init 204 = .ok (.aload_n 0, 1) := by decide +kernel
theorem dX12_init_205 : decode cX12_init 205 = .ok (.bipush 12, 2) := by decide +kernel
theorem dX12_init_207 : decode cX12_init 207 = .ok (.newarray .boolean, 2) := by decide +kernel
theorem dX12_init_209 : decode cX12_init 209 = .ok (.putfield 86, 3) := by decide +kernel
theorem dX12_init_212 : decode cX12_init 212 = .ok (.aload_n 0, 1) := by decide +kernel
theorem dX12_init_213 : decode cX12_init 213 = .ok (.bipush 60, 2) := by decide +kernel
theorem dX12_init_215 : decode cX12_init 215 = .ok (.newarray .int, 2) := by decide +kernel
theorem dX12_init_217 : decode cX12_init 217 = .ok (.putfield 89, 3) := by decide +kernel
theorem dX12_init_220 : decode cX12_init 220 = .ok (.aload_n 0, 1) := by decide +kernel
theorem dX12_init_221 : decode cX12_init 221 = .ok (.bipush 16, 2) := by decide +kernel
theorem dX12_init_223 : decode cX12_init 223 = .ok (.newarray .int, 2) := by decide +kernel
theorem dX12_init_225 : decode cX12_init 225 = .ok (.putfield 92, 3) := by decide +kernel
theorem dX12_init_228 : decode cX12_init 228 = .ok (.aload_n 0, 1) := by decide +kernel
theorem dX12_init_229 : decode cX12_init 229 = .ok (.bipush 16, 2) := by decide +kernel
theorem dX12_init_231 : decode cX12_init 231 = .ok (.newarray .int, 2) := by decide +kernel
theorem dX12_init_233 : decode cX12_init 233 = .ok (.putfield 95, 3) := by decide +kernel
theorem dX12_init_236 : decode cX12_init 236 = .ok (.aload_n 0, 1) := by decide +kernel
theorem dX12_init_237 : decode cX12_init 237 = .ok (.bipush 16, 2) := by decide +kernel
theorem dX12_init_239 : decode cX12_init 239 = .ok (.newarray .int, 2) := by decide +kernel
theorem dX12_init_241 : decode cX12_init 241 = .ok (.putfield 98, 3) := by decide +kernel
theorem dX12_init_244 : decode cX12_init 244 = .ok (.aload_n 0, 1) := by decide +kernel
theorem dX12_init_245 : decode cX12_init 245 = .ok (.bipush 16, 2) := by decide +kernel
theorem dX12_init_247 : decode cX12_init 247 = .ok (.newarray .int, 2) := by decide +kernel
theorem dX12_init_249 : decode cX12_init 249 = .ok (.putfield 101, 3) := by decide +kernel
theorem dX12_init_252 : decode cX12_init 252 = .ok (.aload_n 0, 1) := by decide +kernel
theorem dX12_init_253 : decode cX12_init 253 = .ok (.bipush 16, 2) := by decide +kernel
theorem dX12_init_255 : decode cX12_init 255 = .ok (.newarray .int, 2) := by decide +kernel
theorem dX12_init_257 : decode cX12_init 257 = .ok (.putfield 104, 3) := by decide +kernel
theorem dX12_init_260 : decode cX12_init 260 = .ok (.aload_n 0, 1) := by decide +kernel
theorem dX12_init_261 : decode cX12_init 261 = .ok (.sipush 960, 3) := by decide +kernel
theorem dX12_init_264 : decode cX12_init 264 = .ok (.newarray .int, 2) := by decide +kernel
theorem dX12_init_266 : decode cX12_init 266 = .ok (.putfield 107, 3) := by decide +kernel
theorem dX12_init_269 : decode cX12_init 269 = .ok (.aload_n 0, 1) := by decide +kernel
theorem dX12_init_270 : decode cX12_init 270 = .ok (.sipush 960, 3) := by decide +kernel
theorem dX12_init_273 : decode cX12_init 273 = .ok (.newarray .int, 2) := by decide +kernel
theorem dX12_init_275 : decode cX12_init 275 = .ok (.putfield 110, 3) := by decide +kernel
theorem dX12_init_278 : decode cX12_init 278 = .ok (.aload_n 0, 1) := by decide +kernel
theorem dX12_init_279 : decode cX12_init 279 = .ok (.bipush 60, 2) := by decide +kernel
theorem dX12_init_281 : decode cX12_init 281 = .ok (.newarray .int, 2) := by decide +kernel
theorem dX12_init_283 : decode cX12_init 283 = .ok (.putfield 113, 3) := by decide +kernel
theorem dX12_init_286 : decode cX12_init 286 = .ok (.aload_n 0, 1) := by decide +kernel
theorem dX12_init_287 : decode cX12_init 287 = .ok (.bipush 60, 2) := by decide +kernel
theorem dX12_init_289 : decode cX12_init 289 = .ok (.newarray .int, 2) := by decide +kernel
theorem dX12_init_291 : decode cX12_init 291 = .ok (.putfield 116, 3) := by decide +kernel
theorem dX12_init_294 : decode cX12_init 294 = .ok (.aload_n 0, 1) := by decide +kernel
theorem dX12_init_295 : decode cX12_init 295 = .ok (.bipush 60, 2) := by decide +kernel
theorem dX12_init_297 : decode cX12_init 297 = .ok (.newarray .int, 2) := by decide +kernel
theorem dX12_init_299 : decode cX12_init 299 = .ok (.putfield 119, 3) := by decide +kernel
theorem dX12_init_302 : decode cX12_init 302 = .ok (.aload_n 0, 1) := by decide +kernel
theorem dX12_init_303 : decode cX12_init 303 = .ok (.bipush 61, 2) := by decide +kernel
theorem dX12_init_305 : decode cX12_init 305 = .ok (.newarray .boolean, 2) := by decide +kernel
theorem dX12_init_307 : decode cX12_init 307 = .ok (.putfield 122, 3) := by decide +kernel
theorem dX12_init_310 : decode cX12_init 310 = .ok (.aload_n 0, 1) := by decide +kernel
theorem dX12_init_311 : decode cX12_init 311 = .ok (.bipush 8, 2) := by decide +kernel
theorem dX12_init_313 : decode cX12_init 313 = .ok (.newarray .boolean, 2) := by decide +kernel
theorem dX12_init_315 : decode cX12_init 315 = .ok (.putfield 125, 3) := by decide +kernel
theorem dX12_init_318 : decode cX12_init 318 = .ok (.aload_n 0, 1) := by decide +kernel
theorem dX12_init_319 : decode cX12_init 319 = .ok (.bipush 8, 2) := by decide +kernel
theorem dX12_init_321 : decode cX12_init 321 = .ok (.newarray .int, 2) := by decide +kernel
theorem dX12_init_323 : decode cX12_init 323 = .ok (.putfield 128, 3) := by decide +kernel
theorem dX12_init_326 : decode cX12_init 326 = .ok (.aload_n 0, 1) := by decide +kernel
theorem dX12_init_327 : decode cX12_init 327 = .ok (.bipush 8, 2) := by decide +kernel
theorem dX12_init_329 : decode cX12_init 329 = .ok (.newarray .int, 2) := by decide +kernel
theorem dX12_init_331 : decode cX12_init 331 = .ok (.putfield 131, 3) := by decide +kernel
theorem dX12_init_334 : decode cX12_init 334 = .ok (.aload_n 0, 1) := by decide +kernel
theorem dX12_init_335 : decode cX12_init 335 = .ok (.bipush 8, 2) := by decide +kernel
theorem dX12_init_337 : decode cX12_init 337 = .ok (.newarray .int, 2) := by decide +kernel
theorem dX12_init_339 : decode cX12_init 339 = .ok (.putfield 134, 3) := by decide +kernel
theorem dX12_init_342 : decode cX12_init 342 = .ok (.aload_n 0, 1) := by decide +kernel
theorem dX12_init_343 : decode cX12_init 343 = .ok (.bipush 8, 2) := by decide +kernel
theorem dX12_init_345 : decode cX12_init 345 = .ok (.newarray .int, 2) := by decide +kernel
theorem dX12_init_347 : decode cX12_init 347 = .ok (.putfield 137, 3) := by decide +kernel
theorem dX12_init_350 : decode cX12_init 350 = .ok (.aload_n 0, 1) := by decide +kernel
theorem dX12_init_351 : decode cX12_init 351 = .ok (.bipush 10, 2) := by decide +kernel
theorem dX12_init_353 : decode cX12_init 353 = .ok (.newarray .int, 2) := by decide +kernel
theorem dX12_init_355 : decode cX12_init 355 = .ok (.putfield 140, 3) := by decide +kernel
theorem dX12_init_358 : decode cX12_init 358 = .ok (.aload_n 0, 1) := by decide +kernel
theorem dX12_init_359 : decode cX12_init 359 = .ok (.bipush 10, 2) := by decide +kernel
theorem dX12_init_361 : decode cX12_init 361 = .ok (.newarray .int, 2) := by decide +kernel
theorem dX12_init_363 : decode cX12_init 363 = .ok (.putfield 143, 3) := by decide +kernel
theorem dX12_init_366 : decode cX12_init 366 = .ok (.aload_n 0, 1) := by decide +kernel
theorem dX12_init_367 : decode cX12_init 367 = .ok (.bipush 8, 2) := by decide +kernel
theorem dX12_init_369 : decode cX12_init 369 = .ok (.newarray .int, 2) := by decide +kernel
theorem dX12_init_371 : decode cX12_init 371 = .ok (.putfield 146, 3) := by decide +kernel
theorem dX12_init_374 : decode cX12_init 374 = .ok (.aload_n 0, 1) := by decide +kernel
theorem dX12_init_375 : decode cX12_init 375 = .ok (.bipush 8, 2) := by decide +kernel
theorem dX12_init_377 : decode cX12_init 377 = .ok (.newarray .int, 2) := by decide +kernel
theorem dX12_init_379 : decode cX12_init 379 = .ok (.putfield 149, 3) := by decide +kernel
theorem dX12_init_382 : decode cX12_init 382 = .ok (.aload_n 0, 1) := by decide +kernel
theorem dX12_init_383 : decode cX12_init 383 = .ok (.iconst 4, 1) := by decide +kernel
theorem dX12_init_384 : decode cX12_init 384 = .ok (.newarray .int, 2) := by decide +kernel
theorem dX12_init_386 : decode cX12_init 386 = .ok (.putfield 152, 3) := by decide +kernel
theorem dX12_init_389 : decode cX12_init 389 = .ok (.aload_n 0, 1) := by decide +kernel
theorem dX12_init_390 : decode cX12_init 390 = .ok (.bipush 12, 2) := by decide +kernel
theorem dX12_init_392 : decode cX12_init 392 = .ok (.newarray .boolean, 2) := by decide +kernel
theorem dX12_init_394 : decode cX12_init 394 = .ok (.putfield 155, 3) := by decide +kernel
theorem dX12_init_397 : decode cX12_init 397 = .ok (.aload_n 0, 1) := by decide +kernel
theorem dX12_init_398 : decode cX12_init 398 = .ok (.bipush 12, 2) := by decide +kernel
theorem dX12_init_400 : decode cX12_init 400 = .ok (.newarray .int, 2) := by decide +kernel
theorem dX12_init_402 : decode cX12_init 402 = .ok (.putfield 158, 3) := by decide +kernel
theorem dX12_init_405 : decode cX12_init 405 = .ok (.aload_n 0, 1) := by decide +kernel
theorem dX12_init_406 : decode cX12_init 406 = .ok (.bipush 6, 2) := by decide +kernel
theorem dX12_init_408 : decode cX12_init 408 = .ok (.newarray .int, 2) := by decide +kernel
theorem dX12_init_410 : decode cX12_init 410 = .ok (.putfield 161, 3) := by decide +kernel
theorem dX12_init_413 : decode cX12_init 413 = .ok (.aload_n 0, 1) := by decide +kernel
theorem dX12_init_414 : decode cX12_init 414 = .ok (.bipush 24, 2) := by decide +kernel
theorem dX12_init_416 : decode cX12_init 416 = .ok (.newarray .int, 2) := by decide +kernel
theorem dX12_init_418 : decode cX12_init 418 = .ok (.putfield 164, 3) := by decide +kernel
theorem dX12_init_421 : decode cX12_init 421 = .ok (.aload_n 0, 1) := by decide +kernel
theorem dX12_init_422 : decode cX12_init 422 = .ok (.bipush 24, 2) := by decide +kernel
theorem dX12_init_424 : decode cX12_init 424 = .ok (.newarray .int, 2) := by decide +kernel
theorem dX12_init_426 : decode cX12_init 426 = .ok (.putfield 167, 3) := by decide +kernel
theorem dX12_init_429 : decode cX12_init 429 = .ok (.aload_n 0, 1) := by decide +kernel
theorem dX12_init_430 : decode cX12_init 430 = .ok (.bipush 24, 2) := by decide +kernel
theorem dX12_init_432 : decode cX12_init 432 = .ok (.newarray .int, 2) := by decide +kernel
theorem dX12_init_434 : decode cX12_init 434 = .ok (.putfield 170, 3) := by decide +kernel
theorem dX12_init_437 : decode cX12_init 437 = .ok (.aload_n 0, 1) := by decide +kernel
theorem dX12_init_438 : decode cX12_init 438 = .ok (.bipush 24, 2) := by decide +kernel
theorem dX12_init_440 : decode cX12_init 440 = .ok (.newarray .int, 2) := by decide +kernel
theorem dX12_init_442 : decode cX12_init 442 = .ok (.putfield 173, 3) := by decide +kernel
theorem dX12_init_445 : decode cX12_init 445 = .ok (.aload_n 0, 1) := by decide +kernel
theorem dX12_init_446 : decode cX12_init 446 = .ok (.bipush 8, 2) := by decide +kernel
theorem dX12_init_448 : decode cX12_init 448 = .ok (.newarray .int, 2) := by decide +kernel
theorem dX12_init_450 : decode cX12_init 450 = .ok (.putfield 176, 3) := by decide +kernel
theorem dX12_init_453 : decode cX12_init 453 = .ok (.aload_n 0, 1) := by decide +kernel
theorem dX12_init_454 : decode cX12_init 454 = .ok (.bipush 8, 2) := by decide +kernel
theorem dX12_init_456 : decode cX12_init 456 = .ok (.newarray .int, 2) := by decide +kernel
theorem dX12_init_458 : decode cX12_init 458 = .ok (.putfield 179, 3) := by decide +kernel
theorem dX12_init_461 : decode cX12_init 461 = .ok (.aload_n 0, 1) := by decide +kernel
theorem dX12_init_462 : decode cX12_init 462 = .ok (.bipush 8, 2) := by decide +kernel
theorem dX12_init_464 : decode cX12_init 464 = .ok (.newarray .int, 2) := by decide +kernel
theorem dX12_init_466 : decode cX12_init 466 = .ok (.putfield 182, 3) := by decide +kernel
theorem dX12_init_469 : decode cX12_init 469 = .ok (.iconst 0, 1) := by decide +kernel
theorem dX12_init_470 : decode cX12_init 470 = .ok (.istore_n 1, 1) := by decide +kernel
theorem dX12_init_471 : decode cX12_init 471 = .ok (.iload_n 1, 1) := by decide +kernel
theorem dX12_init_472 : decode cX12_init 472 = .ok (.bipush 8, 2) := by decide +kernel
theorem dX12_init_474 : decode cX12_init 474 = .ok (.if_icmp .ge 43, 3) := by decide +kernel
theorem dX12_init_477 : decode cX12_init 477 = .ok (.aload_n 0, 1) := by decide +kernel
theorem dX12_init_478 : decode cX12_init 478 = .ok (.getfield 7, 3) := by decide +kernel
theorem dX12_init_481 : decode cX12_init 481 = .ok (.iload_n 1, 1) := by decide +kernel
theorem dX12_init_482 : decode cX12_init 482 = .ok (.sipush 1000, 3) := by decide +kernel
theorem dX12_init_485 : decode cX12_init 485 = .ok (.iastore, 1) := by decide +kernel
theorem dX12_init_486 : decode cX12_init 486 = .ok (.aload_n 0, 1) := by decide +kernel
theorem dX12_init_487 : decode cX12_init 487 = .ok (.getfield 13, 3) := by decide +kernel
theorem dX12_init_490 : decode cX12_init 490 = .ok (.iload_n 1, 1) := by decide +kernel
theorem dX12_init_491 : decode cX12_init 491 = .ok (.sipush 1000, 3) := by decide +kernel
theorem dX12_init_494 : decode cX12_init 494 = .ok (.iastore, 1) := by decide +kernel
theorem dX12_init_495 : decode cX12_init 495 = .ok (.aload_n 0, 1) := by decide +kernel
theorem dX12_init_496 : decode cX12_init 496 = .ok (.getfield 16, 3) := by decide +kernel
theorem dX12_init_499 : decode cX12_init 499 = .ok (.iload_n 1, 1) := by decide +kernel
theorem dX12_init_500 : decode cX12_init 500 = .ok (.sipush 500, 3) := by decide +kernel
theorem dX12_init_503 : decode cX12_init 503 = .ok (.iastore, 1) := by decide +kernel
theorem dX12_init_504 : decode cX12_init 504 = .ok (.aload_n 0, 1) := by decide +kernel
theorem dX12_init_505 : decode cX12_init 505 = .ok (.getfield 146, 3) := by decide +kernel
theorem dX12_init_508 : decode cX12_init 508 = .ok (.iload_n 1, 1) := by decide +kernel
theorem dX12_init_509 : decode cX12_init 509 = .ok (.iconst (-1), 1) := by decide +kernel
theorem dX12_init_510 : decode cX12_init 510 = .ok (.iastore, 1) := by decide +kernel
theorem dX12_init_511 : decode cX12_init 511 = .ok (.iinc 1 1, 3) := by decide +kernel
theorem dX12_init_514 : decode cX12_init 514 = .ok (.goto (-43), 3) := by decide +kernel
theorem dX12_init_517 : decode cX12_init 517 = .ok (.iconst 0, 1) := by decide +kernel
theorem dX12_init_518 : decode cX12_init 518 = .ok (.istore_n 1, 1) := by decide +kernel
theorem dX12_init_519 : decode cX12_init 519 = .ok (.iload_n 1, 1) := by decide +kernel
theorem dX12_init_520 : decode cX12_init 520 = .ok (.bipush 7, 2) := by decide +kernel
theorem dX12_init_522 : decode cX12_init 522 = .ok (.if_icmp .ge 17, 3) := by decide +kernel
theorem dX12_init_525 : decode cX12_init 525 = .ok (.aload_n 0, 1) := by decide +kernel
theorem dX12_init_526 : decode cX12_init 526 = .ok (.getfield 19, 3) := by decide +kernel
theorem dX12_init_529 : decode cX12_init 529 = .ok (.iload_n 1, 1) := by decide +kernel
theorem dX12_init_530 : decode cX12_init 530 = .ok (.bipush 100, 2) := by decide +kernel
theorem dX12_init_532 : decode cX12_init 532 = .ok (.iastore, 1) := by decide +kernel
theorem dX12_init_533 : decode cX12_init 533 = .ok (.iinc 1 1, 3) := by decide +kernel
theorem dX12_init_536 : decode cX12_init 536 = .ok (.goto (-17), 3) := by decide +kernel
theorem dX12_init_539 : decode cX12_init 539 = .ok (.aload_n 0, 1) := by decide +kernel
theorem dX12_init_540 : decode cX12_init 540 = .ok (.iconst 3, 1) := by decide +kernel
theorem dX12_init_541 : decode cX12_init 541 = .ok (.putfield 185, 3) := by decide +kernel
theorem dX12_init_544 : decode cX12_init 544 = .ok (.aload_n 0, 1) := by decide +kernel
theorem dX12_init_545 : decode cX12_init 545 = .ok (.bipush 9, 2) := by decide +kernel
theorem dX12_init_547 : decode cX12_init 547 = .ok (.putfield 189, 3) := by decide +kernel
theorem dX12_init_550 : decode cX12_init 550 = .ok (.return_, 1) := by decide +kernel
theorem dX12_in_0 : decode cX12_in 0 = .ok (.lload_n 0, 1) := by decide +kernel
theorem dX12_in_1 : decode cX12_in 1 = .ok (.lload_n 2, 1) := by decide +kernel
theorem dX12_in_2 : decode cX12_in 2 = .ok (.lcmp, 1) := by decide +kernel
theorem dX12_in_3 : decode cX12_in 3 = .ok (.ifCond .lt 14, 3) := by decide +kernel
theorem dX12_in_6 : decode cX12_in 6 = .ok (.lload_n 0, 1) := by decide +kernel
theorem dX12_in_7 : decode cX12_in 7 = .ok (.lload 4, 2) := by decide +kernel
theorem dX12_in_9 : decode cX12_in 9 = .ok (.lcmp, 1) := by decide +kernel
theorem dX12_in_10 : decode cX12_in 10 = .ok (.ifCond .gt 7, 3) := by decide +kernel
theorem dX12_in_13 : decode cX12_in 13 = .ok (.iconst 1, 1) := by decide +kernel
theorem dX12_in_14 : decode cX12_in 14 = .ok (.goto 4, 3) := by decide +kernel
theorem dX12_in_17 : decode cX12_in 17 = .ok (.iconst 0, 1) := by decide +kernel
theorem dX12_in_18 : decode cX12_in 18 = .ok (.ireturn, 1) := by decide +kernel
theorem dX12_least_0 : decode cX12_least 0 = .ok (.iload_n 0, 1) := by decide +kernel
theorem dX12_least_1 : decode cX12_least 1 = .ok (.iload_n 1, 1) := by decide +kernel
theorem dX12_least_2 : decode cX12_least 2 = .ok (.if_icmp .ge 7, 3) := by decide +kernel
theorem dX12_least_5 : decode cX12_least 5 = .ok (.iload_n 0, 1) := by decide +kernel
theorem dX12_least_6 : decode cX12_least 6 = .ok (.goto 4, 3) := by decide +kernel
theorem dX12_least_9 : decode cX12_least 9 = .ok (.iload_n 1, 1) := by decide +kernel
theorem dX12_least_10 : decode cX12_least 10 = .ok (.ireturn, 1) := by decide +kernel
theorem dX12_bitsOf_0 : decode cX12_bitsOf 0 = .ok (.iconst 0, 1) := by decide +kernel
theorem dX12_bitsOf_1 : decode cX12_bitsOf 1 = .ok (.istore_n 1, 1) := by decide +kernel
theorem dX12_bitsOf_2 : decode cX12_bitsOf 2 = .ok (.iconst 0, 1) := by decide +kernel
theorem dX12_bitsOf_3 : decode cX12_bitsOf 3 = .ok (.istore_n 2, 1) := by decide +kernel
theorem dX12_bitsOf_4 : decode cX12_bitsOf 4 = .ok (.iload_n 2, 1) := by decide +kernel
theorem dX12_bitsOf_5 : decode cX12_bitsOf 5 = .ok (.bipush 12, 2) := by decide +kernel
theorem dX12_bitsOf_7 : decode cX12_bitsOf 7 = .ok (.if_icmp .ge 17, 3) := by decide +kernel
theorem dX12_bitsOf_10 : decode cX12_bitsOf 10 = .ok (.iload_n 1, 1) := by decide +kernel
theorem dX12_bitsOf_11 : decode cX12_bitsOf 11 = .ok (.iload_n 0, 1) := by decide +kernel
theorem dX12_bitsOf_12 : decode cX12_bitsOf 12 = .ok (.iload_n 2, 1) := by decide +kernel
theorem dX12_bitsOf_13 : decode cX12_bitsOf 13 = .ok (.ishr, 1) := by decide +kernel
theorem dX12_bitsOf_14 : decode cX12_bitsOf 14 = .ok (.iconst 1, 1) := by decide +kernel
theorem dX12_bitsOf_15 : decode cX12_bitsOf 15 = .ok (.iand, 1) := by decide +kernel
theorem dX12_bitsOf_16 : decode cX12_bitsOf 16 = .ok (.iadd, 1) := by decide +kernel
theorem dX12_bitsOf_17 : decode cX12_bitsOf 17 = .ok (.istore_n 1, 1) := by decide +kernel
theorem dX12_bitsOf_18 : decode cX12_bitsOf 18 = .ok (.iinc 2 1, 3) := by decide +kernel
theorem dX12_bitsOf_21 : decode cX12_bitsOf 21 = .ok (.goto (-17), 3) := by decide +kernel
theorem dX12_bitsOf_24 : decode cX12_bitsOf 24 = .ok (.iload_n 1, 1) := by decide +kernel
theorem dX12_bitsOf_25 : decode cX12_bitsOf 25 = .ok (.ireturn, 1) := by decide +kernel
theorem dX12_isPound_0 : decode cX12_isPound 0 = .ok (.iload_n 0, 1) := by decide +kernel
theorem dX12_isPound_1 : decode cX12_isPound 1 = .ok (.i2l, 1) := by decide +kernel
theorem dX12_isPound_2 : decode cX12_isPound 2 = .ok (.lconst 0, 1) := by decide +kernel
theorem dX12_isPound_3 : decode cX12_isPound 3 = .ok (.ldc2_w 192, 3) := by decide +kernel
theorem dX12_isPound_6 : decode cX12_isPound 6 = .ok (.invokestatic 194, 3) := by decide +kernel
theorem dX12_isPound_9 : decode cX12_isPound 9 = .ok (.ireturn, 1) := by decide +kernel
theorem dX12_nowOf_0 : decode cX12_nowOf 0 = .ok (.iload_n 2, 1) := by decide +kernel
theorem dX12_nowOf_1 : decode cX12_nowOf 1 = .ok (.ifCond .ne 12, 3) := by decide +kernel
theorem dX12_nowOf_4 : decode cX12_nowOf 4 = .ok (.aload_n 0, 1) := by decide +kernel
theorem dX12_nowOf_5 : decode cX12_nowOf 5 = .ok (.getfield 7, 3) := by decide +kernel
theorem dX12_nowOf_8 : decode cX12_nowOf 8 = .ok (.iload_n 1, 1) := by decide +kernel
theorem dX12_nowOf_9 : decode cX12_nowOf 9 = .ok (.iaload, 1) := by decide +kernel
theorem dX12_nowOf_10 : decode cX12_nowOf 10 = .ok (.goto 23, 3) := by decide +kernel
theorem dX12_nowOf_13 : decode cX12_nowOf 13 = .ok (.iload_n 2, 1) := by decide +kernel
theorem dX12_nowOf_14 : decode cX12_nowOf 14 = .ok (.iconst 1, 1) := by decide +kernel
theorem dX12_nowOf_15 : decode cX12_nowOf 15 = .ok (.if_icmp .ne 12, 3) := by decide +kernel
theorem dX12_nowOf_18 : decode cX12_nowOf 18 = .ok (.aload_n 0, 1) := by decide +kernel
theorem dX12_nowOf_19 : decode cX12_nowOf 19 = .ok (.getfield 13, 3) := by decide +kernel
theorem dX12_nowOf_22 : decode cX12_nowOf 22 = .ok (.iload_n 1, 1) := by decide +kernel
theorem dX12_nowOf_23 : decode cX12_nowOf 23 = .ok (.iaload, 1) := by decide +kernel
theorem dX12_nowOf_24 : decode cX12_nowOf 24 = .ok (.goto 9, 3) := by decide +kernel
theorem dX12_nowOf_27 : decode cX12_nowOf 27 = .ok (.aload_n 0, 1) := by decide +kernel
theorem dX12_nowOf_28 : decode cX12_nowOf 28 = .ok (.getfield 16, 3) := by decide +kernel
theorem dX12_nowOf_31 : decode cX12_nowOf 31 = .ok (.iload_n 1, 1) := by decide +kernel
theorem dX12_nowOf_32 : decode cX12_nowOf 32 = .ok (.iaload, 1) := by decide +kernel
theorem dX12_nowOf_33 : decode cX12_nowOf 33 = .ok (.ireturn, 1) := by decide +kernel
theorem dX12_pound_0 : decode cX12_pound 0 = .ok (.iload_n 1, 1) := by decide +kernel
theorem dX12_pound_1 : decode cX12_pound 1 = .ok (.invokestatic 198, 3) := by decide +kernel
theorem dX12_pound_4 : decode cX12_pound 4 = .ok (.ifCond .eq 15, 3) := by decide +kernel
theorem dX12_pound_7 : decode cX12_pound 7 = .ok (.iload_n 2, 1) := by decide +kernel
theorem dX12_pound_8 : decode cX12_pound 8 = .ok (.i2l, 1) := by decide +kernel
theorem dX12_pound_9 : decode cX12_pound 9 = .ok (.lconst 0, 1) := by decide +kernel
theorem dX12_pound_10 : decode cX12_pound 10 = .ok (.ldc2_w 202, 3) := by decide +kernel
theorem dX12_pound_13 : decode cX12_pound 13 = .ok (.invokestatic 194, 3) := by decide +kernel
theorem dX12_pound_16 : decode cX12_pound 16 = .ok (.ifCond .ne 6, 3) := by decide +kernel
theorem dX12_pound_19 : decode cX12_pound 19 = .ok (.bipush (-101), 2) := by decide +kernel
theorem dX12_pound_21 : decode cX12_pound 21 = .ok (.ireturn, 1) := by decide +kernel
theorem dX12_pound_22 : decode cX12_pound 22 = .ok (.iload_n 2, 1) := by decide +kernel
theorem dX12_pound_23 : decode cX12_pound 23 = .ok (.iconst 1, 1) := by decide +kernel
theorem dX12_pound_24 : decode cX12_pound 24 = .ok (.if_icmp .ne 28, 3) := by decide +kernel
theorem dX12_pound_27 : decode cX12_pound 27 = .ok (.aload_n 0, 1) := by decide +kernel
theorem dX12_pound_28 : decode cX12_pound 28 = .ok (.getfield 7, 3) := by decide +kernel
theorem dX12_pound_31 : decode cX12_pound 31 = .ok (.iload_n 1, 1) := by decide +kernel
theorem dX12_pound_32 : decode cX12_pound 32 = .ok (.iaload, 1) := by decide +kernel
theorem dX12_pound_33 : decode cX12_pound 33 = .ok (.bipush 100, 2) := by decide +kernel
theorem dX12_pound_35 : decode cX12_pound 35 = .ok (.if_icmp .le 12, 3) := by decide +kernel
theorem dX12_pound_38 : decode cX12_pound 38 = .ok (.aload_n 0, 1) := by decide +kernel
theorem dX12_pound_39 : decode cX12_pound 39 = .ok (.getfield 7, 3) := by decide +kernel
theorem dX12_pound_42 : decode cX12_pound 42 = .ok (.iload_n 1, 1) := by decide +kernel
theorem dX12_pound_43 : decode cX12_pound 43 = .ok (.iaload, 1) := by decide +kernel
theorem dX12_pound_44 : decode cX12_pound 44 = .ok (.goto 9, 3) := by decide +kernel
theorem dX12_pound_47 : decode cX12_pound 47 = .ok (.bipush 100, 2) := by decide +kernel
theorem dX12_pound_49 : decode cX12_pound 49 = .ok (.goto 4, 3) := by decide +kernel
theorem dX12_pound_52 : decode cX12_pound 52 = .ok (.iconst 0, 1) := by decide +kernel
theorem dX12_pound_53 : decode cX12_pound 53 = .ok (.istore 4, 2) := by decide +kernel
theorem dX12_pound_55 : decode cX12_pound 55 = .ok (.iload_n 3, 1) := by decide +kernel
theorem dX12_pound_56 : decode cX12_pound 56 = .ok (.i2l, 1) := by decide +kernel
theorem dX12_pound_57 : decode cX12_pound 57 = .ok (.iload 4, 2) := by decide +kernel
theorem dX12_pound_59 : decode cX12_pound 59 = .ok (.i2l, 1) := by decide +kernel
theorem dX12_pound_60 : decode cX12_pound 60 = .ok (.iload_n 2, 1) := by decide +kernel
theorem dX12_pound_61 : decode cX12_pound 61 = .ok (.ifCond .ne 13, 3) := by decide +kernel
theorem dX12_pound_64 : decode cX12_pound 64 = .ok (.aload_n 0, 1) := by decide +kernel
theorem dX12_pound_65 : decode cX12_pound 65 = .ok (.getfield 13, 3) := by decide +kernel
theorem dX12_pound_68 : decode cX12_pound 68 = .ok (.iload_n 1, 1) := by decide +kernel
theorem dX12_pound_69 : decode cX12_pound 69 = .ok (.iaload, 1) := by decide +kernel
theorem dX12_pound_70 : decode cX12_pound 70 = .ok (.i2l, 1) := by decide +kernel
theorem dX12_pound_71 : decode cX12_pound 71 = .ok (.goto 6, 3) := by decide +kernel
theorem dX12_pound_74 : decode cX12_pound 74 = .ok (.ldc2_w 204, 3) := by decide +kernel
theorem dX12_pound_77 : decode cX12_pound 77 = .ok (.invokestatic 194, 3) := by decide +kernel
theorem dX12_pound_80 : decode cX12_pound 80 = .ok (.ifCond .ne 6, 3) := by decide +kernel
theorem dX12_pound_83 : decode cX12_pound 83 = .ok (.bipush (-102), 2) := by decide +kernel
theorem dX12_pound_85 : decode cX12_pound 85 = .ok (.ireturn, 1) := by decide +kernel
theorem dX12_pound_86 : decode cX12_pound 86 = .ok (.aload_n 0, 1) := by decide +kernel
theorem dX12_pound_87 : decode cX12_pound 87 = .ok (.iload_n 1, 1) := by decide +kernel
theorem dX12_pound_88 : decode cX12_pound 88 = .ok (.iload_n 2, 1) := by decide +kernel
theorem dX12_pound_89 : decode cX12_pound 89 = .ok (.invokevirtual 206, 3) := by decide +kernel
theorem dX12_pound_92 : decode cX12_pound 92 = .ok (.istore 5, 2) := by decide +kernel
theorem dX12_pound_94 : decode cX12_pound 94 = .ok (.aload_n 0, 1) := by decide +kernel
theorem dX12_pound_95 : decode cX12_pound 95 = .ok (.getfield 7, 3) := by decide +kernel
theorem dX12_pound_98 : decode cX12_pound 98 = .ok (.iload_n 1, 1) := by decide +kernel
theorem dX12_pound_99 : decode cX12_pound 99 = .ok (.iload_n 2, 1) := by decide +kernel
theorem dX12_pound_100 : decode cX12_pound 100 = .ok (.ifCond .ne 7, 3) := by decide +kernel
theorem dX12_pound_103 : decode cX12_pound 103 = .ok (.iload_n 3, 1) := by decide +kernel
theorem dX12_pound_104 : decode cX12_pound 104 = .ok (.goto 9, 3) := by decide +kernel
theorem dX12_pound_107 : decode cX12_pound 107 = .ok (.aload_n 0, 1) := by decide +kernel
theorem dX12_pound_108 : decode cX12_pound 108 = .ok (.getfield 7, 3) := by decide +kernel
theorem dX12_pound_111 : decode cX12_pound 111 = .ok (.iload_n 1, 1) := by decide +kernel
theorem dX12_pound_112 : decode cX12_pound 112 = .ok (.iaload, 1) := by decide +kernel
theorem dX12_pound_113 : decode cX12_pound 113 = .ok (.iastore, 1) := by decide +kernel
theorem dX12_pound_114 : decode cX12_pound 114 = .ok (.aload_n 0, 1) := by decide +kernel
theorem dX12_pound_115 : decode cX12_pound 115 = .ok (.getfield 13, 3) := by decide +kernel
theorem dX12_pound_118 : decode cX12_pound 118 = .ok (.iload_n 1, 1) := by decide +kernel
theorem dX12_pound_119 : decode cX12_pound 119 = .ok (.iload_n 2, 1) := by decide +kernel
theorem dX12_pound_120 : decode cX12_pound 120 = .ok (.iconst 1, 1) := by decide +kernel
theorem dX12_pound_121 : decode cX12_pound 121 = .ok (.if_icmp .ne 7, 3) := by decide +kernel
theorem dX12_pound_124 : decode cX12_pound 124 = .ok (.iload_n 3, 1) := by decide +kernel
theorem dX12_pound_125 : decode cX12_pound 125 = .ok (.goto 9, 3) := by decide +kernel
theorem dX12_pound_128 : decode cX12_pound 128 = .ok (.aload_n 0, 1) := by decide +kernel
theorem dX12_pound_129 : decode cX12_pound 129 = .ok (.getfield 13, 3) := by decide +kernel
theorem dX12_pound_132 : decode cX12_pound 132 = .ok (.iload_n 1, 1) := by decide +kernel
theorem dX12_pound_133 : decode cX12_pound 133 = .ok (.iaload, 1) := by decide +kernel
theorem dX12_pound_134 : decode cX12_pound 134 = .ok (.iastore, 1) := by decide +kernel
theorem dX12_pound_135 : decode cX12_pound 135 = .ok (.aload_n 0, 1) := by decide +kernel
theorem dX12_pound_136 : decode cX12_pound 136 = .ok (.getfield 16, 3) := by decide +kernel
theorem dX12_pound_139 : decode cX12_pound 139 = .ok (.iload_n 1, 1) := by decide +kernel
theorem dX12_pound_140 : decode cX12_pound 140 = .ok (.iload_n 2, 1) := by decide +kernel
theorem dX12_pound_141 : decode cX12_pound 141 = .ok (.iconst 2, 1) := by decide +kernel
theorem dX12_pound_142 : decode cX12_pound 142 = .ok (.if_icmp .ne 7, 3) := by decide +kernel
theorem dX12_pound_145 : decode cX12_pound 145 = .ok (.iload_n 3, 1) := by decide +kernel
theorem dX12_pound_146 : decode cX12_pound 146 = .ok (.goto 9, 3) := by decide +kernel
theorem dX12_pound_149 : decode cX12_pound 149 = .ok (.aload_n 0, 1) := by decide +kernel
theorem dX12_pound_150 : decode cX12_pound 150 = .ok (.getfield 16, 3) := by decide +kernel
theorem dX12_pound_153 : decode cX12_pound 153 = .ok (.iload_n 1, 1) := by decide +kernel
theorem dX12_pound_154 : decode cX12_pound 154 = .ok (.iaload, 1) := by decide +kernel
theorem dX12_pound_155 : decode cX12_pound 155 = .ok (.iastore, 1) := by decide +kernel
theorem dX12_pound_156 : decode cX12_pound 156 = .ok (.iload 5, 2) := by decide +kernel
theorem dX12_pound_158 : decode cX12_pound 158 = .ok (.ireturn, 1) := by decide +kernel
theorem dX12_summit_0 : decode cX12_summit 0 = .ok (.iload_n 1, 1) := by decide +kernel
theorem dX12_summit_1 : decode cX12_summit 1 = .ok (.i2l, 1) := by decide +kernel
theorem dX12_summit_2 : decode cX12_summit 2 = .ok (.lconst 1, 1) := by decide +kernel
theorem dX12_summit_3 : decode cX12_summit 3 = .ok (.ldc2_w 210, 3) := by decide +kernel
theorem dX12_summit_6 : decode cX12_summit 6 = .ok (.invokestatic 194, 3) := by decide +kernel
theorem dX12_summit_9 : decode cX12_summit 9 = .ok (.ifCond .ne 6, 3) := by decide +kernel
theorem dX12_summit_12 : decode cX12_summit 12 = .ok (.bipush (-102), 2) := by decide +kernel
theorem dX12_summit_14 : decode cX12_summit 14 = .ok (.ireturn, 1) := by decide +kernel
theorem dX12_summit_15 : decode cX12_summit 15 = .ok (.aload_n 0, 1) := by decide +kernel
theorem dX12_summit_16 : decode cX12_summit 16 = .ok (.getfield 212, 3) := by decide +kernel
theorem dX12_summit_19 : decode cX12_summit 19 = .ok (.ifCond .gt 10, 3) := by decide +kernel
theorem dX12_summit_22 : decode cX12_summit 22 = .ok (.aload_n 0, 1) := by decide +kernel
theorem dX12_summit_23 : decode cX12_summit 23 = .ok (.getfield 215, 3) := by decide +kernel
theorem dX12_summit_26 : decode cX12_summit 26 = .ok (.ifCond .le 6, 3) := by decide +kernel
theorem dX12_summit_29 : decode cX12_summit 29 = .ok (.bipush (-103), 2) := by decide +kernel
theorem dX12_summit_31 : decode cX12_summit 31 = .ok (.ireturn, 1) := by decide +kernel
theorem dX12_summit_32 : decode cX12_summit 32 = .ok (.aload_n 0, 1) := by decide +kernel
theorem dX12_summit_33 : decode cX12_summit 33 = .ok (.getfield 185, 3) := by decide +kernel
theorem dX12_summit_36 : decode cX12_summit 36 = .ok (.istore_n 2, 1) := by decide +kernel
theorem dX12_summit_37 : decode cX12_summit 37 = .ok (.aload_n 0, 1) := by decide +kernel
theorem dX12_summit_38 : decode cX12_summit 38 = .ok (.iload_n 1, 1) := by decide +kernel
theorem dX12_summit_39 : decode cX12_summit 39 = .ok (.putfield 185, 3) := by decide +kernel
theorem dX12_summit_42 : decode cX12_summit 42 = .ok (.iload_n 2, 1) := by decide +kernel
theorem dX12_summit_43 : decode cX12_summit 43 = .ok (.ireturn, 1) := by decide +kernel
theorem dX12_lock_0 : decode cX12_lock 0 = .ok (.iload_n 1, 1) := by decide +kernel
theorem dX12_lock_1 : decode cX12_lock 1 = .ok (.i2l, 1) := by decide +kernel
theorem dX12_lock_2 : decode cX12_lock 2 = .ok (.lconst 0, 1) := by decide +kernel
theorem dX12_lock_3 : decode cX12_lock 3 = .ok (.ldc2_w 210, 3) := by decide +kernel
theorem dX12_lock_6 : decode cX12_lock 6 = .ok (.invokestatic 194, 3) := by decide +kernel
theorem dX12_lock_9 : decode cX12_lock 9 = .ok (.ifCond .eq 15, 3) := by decide +kernel
theorem dX12_lock_12 : decode cX12_lock 12 = .ok (.iload_n 2, 1) := by decide +kernel
theorem dX12_lock_13 : decode cX12_lock 13 = .ok (.i2l, 1) := by decide +kernel
theorem dX12_lock_14 : decode cX12_lock 14 = .ok (.lconst 0, 1) := by decide +kernel
theorem dX12_lock_15 : decode cX12_lock 15 = .ok (.ldc2_w 202, 3) := by decide +kernel
theorem dX12_lock_18 : decode cX12_lock 18 = .ok (.invokestatic 194, 3) := by decide +kernel
theorem dX12_lock_21 : decode cX12_lock 21 = .ok (.ifCond .ne 6, 3) := by decide +kernel
theorem dX12_lock_24 : decode cX12_lock 24 = .ok (.bipush (-101), 2) := by decide +kernel
theorem dX12_lock_26 : decode cX12_lock 26 = .ok (.ireturn, 1) := by decide +kernel
theorem dX12_lock_27 : decode cX12_lock 27 = .ok (.iload_n 2, 1) := by decide +kernel
theorem dX12_lock_28 : decode cX12_lock 28 = .ok (.ifCond .ne 20, 3) := by decide +kernel
theorem dX12_lock_31 : decode cX12_lock 31 = .ok (.iload_n 3, 1) := by decide +kernel
theorem dX12_lock_32 : decode cX12_lock 32 = .ok (.i2l, 1) := by decide +kernel
theorem dX12_lock_33 : decode cX12_lock 33 = .ok (.ldc2_w 218, 3) := by decide +kernel
theorem dX12_lock_36 : decode cX12_lock 36 = .ok (.ldc2_w 220, 3) := by decide +kernel
theorem dX12_lock_39 : decode cX12_lock 39 = .ok (.invokestatic 194, 3) := by decide +kernel
theorem dX12_lock_42 : decode cX12_lock 42 = .ok (.ifCond .ne 20, 3) := by decide +kernel
theorem dX12_lock_45 : decode cX12_lock 45 = .ok (.goto 14, 3) := by decide +kernel
theorem dX12_lock_48 : decode cX12_lock 48 = .ok (.iload_n 3, 1) := by decide +kernel
theorem dX12_lock_49 : decode cX12_lock 49 = .ok (.i2l, 1) := by decide +kernel
theorem dX12_lock_50 : decode cX12_lock 50 = .ok (.lconst 0, 1) := by decide +kernel
theorem dX12_lock_51 : decode cX12_lock 51 = .ok (.iload_n 2, 1) := by decide +kernel
theorem dX12_lock_52 : decode cX12_lock 52 = .ok (.i2l, 1) := by decide +kernel
theorem dX12_lock_53 : decode cX12_lock 53 = .ok (.invokestatic 194, 3) := by decide +kernel
theorem dX12_lock_56 : decode cX12_lock 56 = .ok (.ifCond .ne 6, 3) := by decide +kernel
theorem dX12_lock_59 : decode cX12_lock 59 = .ok (.bipush (-102), 2) := by decide +kernel
theorem dX12_lock_61 : decode cX12_lock 61 = .ok (.ireturn, 1) := by decide +kernel
theorem dX12_lock_62 : decode cX12_lock 62 = .ok (.iload_n 2, 1) := by decide +kernel
theorem dX12_lock_63 : decode cX12_lock 63 = .ok (.iconst 2, 1) := by decide +kernel
theorem dX12_lock_64 : decode cX12_lock 64 = .ok (.if_icmp .ge 13, 3) := by decide +kernel
theorem dX12_lock_67 : decode cX12_lock 67 = .ok (.aload_n 0, 1) := by decide +kernel
theorem dX12_lock_68 : decode cX12_lock 68 = .ok (.getfield 212, 3) := by decide +kernel
theorem dX12_lock_71 : decode cX12_lock 71 = .ok (.ifCond .le 6, 3) := by decide +kernel
theorem dX12_lock_74 : decode cX12_lock 74 = .ok (.bipush (-103), 2) := by decide +kernel
theorem dX12_lock_76 : decode cX12_lock 76 = .ok (.ireturn, 1) := by decide +kernel
theorem dX12_lock_77 : decode cX12_lock 77 = .ok (.iload_n 2, 1) := by decide +kernel
theorem dX12_lock_78 : decode cX12_lock 78 = .ok (.ifCond .ne 12, 3) := by decide +kernel
theorem dX12_lock_81 : decode cX12_lock 81 = .ok (.aload_n 0, 1) := by decide +kernel
theorem dX12_lock_82 : decode cX12_lock 82 = .ok (.getfield 19, 3) := by decide +kernel
theorem dX12_lock_85 : decode cX12_lock 85 = .ok (.iload_n 1, 1) := by decide +kernel
theorem dX12_lock_86 : decode cX12_lock 86 = .ok (.iaload, 1) := by decide +kernel
theorem dX12_lock_87 : decode cX12_lock 87 = .ok (.goto 31, 3) := by decide +kernel
theorem dX12_lock_90 : decode cX12_lock 90 = .ok (.iload_n 2, 1) := by decide +kernel
theorem dX12_lock_91 : decode cX12_lock 91 = .ok (.iconst 1, 1) := by decide +kernel
theorem dX12_lock_92 : decode cX12_lock 92 = .ok (.if_icmp .ne 20, 3) := by decide +kernel
theorem dX12_lock_95 : decode cX12_lock 95 = .ok (.aload_n 0, 1) := by decide +kernel
theorem dX12_lock_96 : decode cX12_lock 96 = .ok (.getfield 22, 3) := by decide +kernel
theorem dX12_lock_99 : decode cX12_lock 99 = .ok (.iload_n 1, 1) := by decide +kernel
theorem dX12_lock_100 : decode cX12_lock 100 = .ok (.baload, 1) := by decide +kernel
theorem dX12_lock_101 : decode cX12_lock 101 = .ok (.ifCond .eq 7, 3) := by decide +kernel
theorem dX12_lock_104 : decode cX12_lock 104 = .ok (.iconst 1, 1) := by decide +kernel
theorem dX12_lock_105 : decode cX12_lock 105 = .ok (.goto 13, 3) := by decide +kernel
theorem dX12_lock_108 : decode cX12_lock 108 = .ok (.iconst 0, 1) := by decide +kernel
theorem dX12_lock_109 : decode cX12_lock 109 = .ok (.goto 9, 3) := by decide +kernel
theorem dX12_lock_112 : decode cX12_lock 112 = .ok (.aload_n 0, 1) := by decide +kernel
theorem dX12_lock_113 : decode cX12_lock 113 = .ok (.getfield 26, 3) := by decide +kernel
theorem dX12_lock_116 : decode cX12_lock 116 = .ok (.iload_n 1, 1) := by decide +kernel
theorem dX12_lock_117 : decode cX12_lock 117 = .ok (.iaload, 1) := by decide +kernel
theorem dX12_lock_118 : decode cX12_lock 118 = .ok (.istore 4, 2) := by decide +kernel
theorem dX12_lock_120 : decode cX12_lock 120 = .ok (.aload_n 0, 1) := by decide +kernel
theorem dX12_lock_121 : decode cX12_lock 121 = .ok (.getfield 19, 3) := by decide +kernel
theorem dX12_lock_124 : decode cX12_lock 124 = .ok (.iload_n 1, 1) := by decide +kernel
theorem dX12_lock_125 : decode cX12_lock 125 = .ok (.iload_n 2, 1) := by decide +kernel
theorem dX12_lock_126 : decode cX12_lock 126 = .ok (.ifCond .ne 7, 3) := by decide +kernel
theorem dX12_lock_129 : decode cX12_lock 129 = .ok (.iload_n 3, 1) := by decide +kernel
theorem dX12_lock_130 : decode cX12_lock 130 = .ok (.goto 9, 3) := by decide +kernel
theorem dX12_lock_133 : decode cX12_lock 133 = .ok (.aload_n 0, 1) := by decide +kernel
theorem dX12_lock_134 : decode cX12_lock 134 = .ok (.getfield 19, 3) := by decide +kernel
theorem dX12_lock_137 : decode cX12_lock 137 = .ok (.iload_n 1, 1) := by decide +kernel
theorem dX12_lock_138 : decode cX12_lock 138 = .ok (.iaload, 1) := by decide +kernel
theorem dX12_lock_139 : decode cX12_lock 139 = .ok (.iastore, 1) := by decide +kernel
theorem dX12_lock_140 : decode cX12_lock 140 = .ok (.aload_n 0, 1) := by decide +kernel
theorem dX12_lock_141 : decode cX12_lock 141 = .ok (.getfield 22, 3) := by decide +kernel
theorem dX12_lock_144 : decode cX12_lock 144 = .ok (.iload_n 1, 1) := by decide +kernel
theorem dX12_lock_145 : decode cX12_lock 145 = .ok (.iload_n 2, 1) := by decide +kernel
theorem dX12_lock_146 : decode cX12_lock 146 = .ok (.iconst 1, 1) := by decide +kernel
theorem dX12_lock_147 : decode cX12_lock 147 = .ok (.if_icmp .ne 16, 3) := by decide +kernel
theorem dX12_lock_150 : decode cX12_lock 150 = .ok (.iload_n 3, 1) := by decide +kernel
theorem dX12_lock_151 : decode cX12_lock 151 = .ok (.iconst 1, 1) := by decide +kernel
theorem dX12_lock_152 : decode cX12_lock 152 = .ok (.if_icmp .ne 7, 3) := by decide +kernel
theorem dX12_lock_155 : decode cX12_lock 155 = .ok (.iconst 1, 1) := by decide +kernel
theorem dX12_lock_156 : decode cX12_lock 156 = .ok (.goto 13, 3) := by decide +kernel
theorem dX12_lock_159 : decode cX12_lock 159 = .ok (.iconst 0, 1) := by decide +kernel
theorem dX12_lock_160 : decode cX12_lock 160 = .ok (.goto 9, 3) := by decide +kernel
theorem dX12_lock_163 : decode cX12_lock 163 = .ok (.aload_n 0, 1) := by decide +kernel
theorem dX12_lock_164 : decode cX12_lock 164 = .ok (.getfield 22, 3) := by decide +kernel
theorem dX12_lock_167 : decode cX12_lock 167 = .ok (.iload_n 1, 1) := by decide +kernel
theorem dX12_lock_168 : decode cX12_lock 168 = .ok (.baload, 1) := by decide +kernel
theorem dX12_lock_169 : decode cX12_lock 169 = .ok (.bastore, 1) := by decide +kernel
theorem dX12_lock_170 : decode cX12_lock 170 = .ok (.aload_n 0, 1) := by decide +kernel
theorem dX12_lock_171 : decode cX12_lock 171 = .ok (.getfield 26, 3) := by decide +kernel
theorem dX12_lock_174 : decode cX12_lock 174 = .ok (.iload_n 1, 1) := by decide +kernel
theorem dX12_lock_175 : decode cX12_lock 175 = .ok (.iload_n 2, 1) := by decide +kernel
theorem dX12_lock_176 : decode cX12_lock 176 = .ok (.iconst 2, 1) := by decide +kernel
theorem dX12_lock_177 : decode cX12_lock 177 = .ok (.if_icmp .ne 7, 3) := by decide +kernel
theorem dX12_lock_180 : decode cX12_lock 180 = .ok (.iload_n 3, 1) := by decide +kernel
theorem dX12_lock_181 : decode cX12_lock 181 = .ok (.goto 9, 3) := by decide +kernel
theorem dX12_lock_184 : decode cX12_lock 184 = .ok (.aload_n 0, 1) := by decide +kernel
theorem dX12_lock_185 : decode cX12_lock 185 = .ok (.getfield 26, 3) := by decide +kernel
theorem dX12_lock_188 : decode cX12_lock 188 = .ok (.iload_n 1, 1) := by decide +kernel
theorem dX12_lock_189 : decode cX12_lock 189 = .ok (.iaload, 1) := by decide +kernel
theorem dX12_lock_190 : decode cX12_lock 190 = .ok (.iastore, 1) := by decide +kernel
theorem dX12_lock_191 : decode cX12_lock 191 = .ok (.iload 4, 2) := by decide +kernel
theorem dX12_lock_193 : decode cX12_lock 193 = .ok (.ireturn, 1) := by decide +kernel
theorem dX12_now_0 : decode cX12_now 0 = .ok (.iload_n 1, 1) := by decide +kernel
theorem dX12_now_1 : decode cX12_now 1 = .ok (.invokestatic 198, 3) := by decide +kernel
theorem dX12_now_4 : decode cX12_now 4 = .ok (.ifCond .ne 6, 3) := by decide +kernel
theorem dX12_now_7 : decode cX12_now 7 = .ok (.bipush (-101), 2) := by decide +kernel
theorem dX12_now_9 : decode cX12_now 9 = .ok (.ireturn, 1) := by decide +kernel
theorem dX12_now_10 : decode cX12_now 10 = .ok (.iload_n 2, 1) := by decide +kernel
theorem dX12_now_11 : decode cX12_now 11 = .ok (.i2l, 1) := by decide +kernel
theorem dX12_now_12 : decode cX12_now 12 = .ok (.lconst 0, 1) := by decide +kernel
theorem dX12_now_13 : decode cX12_now 13 = .ok (.ldc2_w 202, 3) := by decide +kernel
theorem dX12_now_16 : decode cX12_now 16 = .ok (.invokestatic 194, 3) := by decide +kernel
theorem dX12_now_19 : decode cX12_now 19 = .ok (.ifCond .eq 12, 3) := by decide +kernel
theorem dX12_now_22 : decode cX12_now 22 = .ok (.aload_n 0, 1) := by decide +kernel
theorem dX12_now_23 : decode cX12_now 23 = .ok (.iload_n 1, 1) := by decide +kernel
theorem dX12_now_24 : decode cX12_now 24 = .ok (.iload_n 2, 1) := by decide +kernel
theorem dX12_now_25 : decode cX12_now 25 = .ok (.invokevirtual 206, 3) := by decide +kernel
theorem dX12_now_28 : decode cX12_now 28 = .ok (.goto 5, 3) := by decide +kernel
theorem dX12_now_31 : decode cX12_now 31 = .ok (.bipush (-102), 2) := by decide +kernel
theorem dX12_now_33 : decode cX12_now 33 = .ok (.ireturn, 1) := by decide +kernel
theorem dX12_pour_0 : decode cX12_pour 0 = .ok (.aload_n 0, 1) := by decide +kernel
theorem dX12_pour_1 : decode cX12_pour 1 = .ok (.getfield 7, 3) := by decide +kernel
theorem dX12_pour_4 : decode cX12_pour 4 = .ok (.iload_n 1, 1) := by decide +kernel
theorem dX12_pour_5 : decode cX12_pour 5 = .ok (.dup2, 1) := by decide +kernel
theorem dX12_pour_6 : decode cX12_pour 6 = .ok (.iaload, 1) := by decide +kernel
theorem dX12_pour_7 : decode cX12_pour 7 = .ok (.iload_n 2, 1) := by decide +kernel
theorem dX12_pour_8 : decode cX12_pour 8 = .ok (.iadd, 1) := by decide +kernel
theorem dX12_pour_9 : decode cX12_pour 9 = .ok (.iastore, 1) := by decide +kernel
theorem dX12_pour_10 : decode cX12_pour 10 = .ok (.aload_n 0, 1) := by decide +kernel
theorem dX12_pour_11 : decode cX12_pour 11 = .ok (.getfield 7, 3) := by decide +kernel
theorem dX12_pour_14 : decode cX12_pour 14 = .ok (.iload_n 1, 1) := by decide +kernel
theorem dX12_pour_15 : decode cX12_pour 15 = .ok (.iaload, 1) := by decide +kernel
theorem dX12_pour_16 : decode cX12_pour 16 = .ok (.aload_n 0, 1) := by decide +kernel
theorem dX12_pour_17 : decode cX12_pour 17 = .ok (.getfield 13, 3) := by decide +kernel
theorem dX12_pour_20 : decode cX12_pour 20 = .ok (.iload_n 1, 1) := by decide +kernel
theorem dX12_pour_21 : decode cX12_pour 21 = .ok (.iaload, 1) := by decide +kernel
theorem dX12_pour_22 : decode cX12_pour 22 = .ok (.if_icmp .le 19, 3) := by decide +kernel
theorem dX12_pour_25 : decode cX12_pour 25 = .ok (.aload_n 0, 1) := by decide +kernel
theorem dX12_pour_26 : decode cX12_pour 26 = .ok (.getfield 7, 3) := by decide +kernel
theorem dX12_pour_29 : decode cX12_pour 29 = .ok (.iload_n 1, 1) := by decide +kernel
theorem dX12_pour_30 : decode cX12_pour 30 = .ok (.iaload, 1) := by decide +kernel
theorem dX12_pour_31 : decode cX12_pour 31 = .ok (.aload_n 0, 1) := by decide +kernel
theorem dX12_pour_32 : decode cX12_pour 32 = .ok (.getfield 13, 3) := by decide +kernel
theorem dX12_pour_35 : decode cX12_pour 35 = .ok (.iload_n 1, 1) := by decide +kernel
theorem dX12_pour_36 : decode cX12_pour 36 = .ok (.iaload, 1) := by decide +kernel
theorem dX12_pour_37 : decode cX12_pour 37 = .ok (.isub, 1) := by decide +kernel
theorem dX12_pour_38 : decode cX12_pour 38 = .ok (.goto 4, 3) := by decide +kernel
theorem dX12_pour_41 : decode cX12_pour 41 = .ok (.iconst 0, 1) := by decide +kernel
theorem dX12_pour_42 : decode cX12_pour 42 = .ok (.istore_n 3, 1) := by decide +kernel
theorem dX12_pour_43 : decode cX12_pour 43 = .ok (.aload_n 0, 1) := by decide +kernel
theorem dX12_pour_44 : decode cX12_pour 44 = .ok (.getfield 7, 3) := by decide +kernel
theorem dX12_pour_47 : decode cX12_pour 47 = .ok (.iload_n 1, 1) := by decide +kernel
theorem dX12_pour_48 : decode cX12_pour 48 = .ok (.dup2, 1) := by decide +kernel
theorem dX12_pour_49 : decode cX12_pour 49 = .ok (.iaload, 1) := by decide +kernel
theorem dX12_pour_50 : decode cX12_pour 50 = .ok (.iload_n 3, 1) := by decide +kernel
theorem dX12_pour_51 : decode cX12_pour 51 = .ok (.isub, 1) := by decide +kernel
theorem dX12_pour_52 : decode cX12_pour 52 = .ok (.iastore, 1) := by decide +kernel
theorem dX12_pour_53 : decode cX12_pour 53 = .ok (.aload_n 0, 1) := by decide +kernel
theorem dX12_pour_54 : decode cX12_pour 54 = .ok (.dup, 1) := by decide +kernel
theorem dX12_pour_55 : decode cX12_pour 55 = .ok (.getfield 222, 3) := by decide +kernel
theorem dX12_pour_58 : decode cX12_pour 58 = .ok (.iload_n 3, 1) := by decide +kernel
theorem dX12_pour_59 : decode cX12_pour 59 = .ok (.i2l, 1) := by decide +kernel
theorem dX12_pour_60 : decode cX12_pour 60 = .ok (.ladd, 1) := by decide +kernel
theorem dX12_pour_61 : decode cX12_pour 61 = .ok (.putfield 222, 3) := by decide +kernel
theorem dX12_pour_64 : decode cX12_pour 64 = .ok (.return_, 1) := by decide +kernel
theorem dX12_taker_0 : decode cX12_taker 0 = .ok (.iload_n 2, 1) := by decide +kernel
theorem dX12_taker_1 : decode cX12_taker 1 = .ok (.invokestatic 198, 3) := by decide +kernel
theorem dX12_taker_4 : decode cX12_taker 4 = .ok (.ifCond .ne 6, 3) := by decide +kernel
theorem dX12_taker_7 : decode cX12_taker 7 = .ok (.bipush (-101), 2) := by decide +kernel
theorem dX12_taker_9 : decode cX12_taker 9 = .ok (.ireturn, 1) := by decide +kernel
theorem dX12_taker_10 : decode cX12_taker 10 = .ok (.iload_n 1, 1) := by decide +kernel
theorem dX12_taker_11 : decode cX12_taker 11 = .ok (.i2l, 1) := by decide +kernel
theorem dX12_taker_12 : decode cX12_taker 12 = .ok (.lconst 0, 1) := by decide +kernel
theorem dX12_taker_13 : decode cX12_taker 13 = .ok (.ldc2_w 226, 3) := by decide +kernel
theorem dX12_taker_16 : decode cX12_taker 16 = .ok (.invokestatic 194, 3) := by decide +kernel
theorem dX12_taker_19 : decode cX12_taker 19 = .ok (.ifCond .eq 28, 3) := by decide +kernel
theorem dX12_taker_22 : decode cX12_taker 22 = .ok (.iload_n 3, 1) := by decide +kernel
theorem dX12_taker_23 : decode cX12_taker 23 = .ok (.i2l, 1) := by decide +kernel
theorem dX12_taker_24 : decode cX12_taker 24 = .ok (.lconst 1, 1) := by decide +kernel
theorem dX12_taker_25 : decode cX12_taker 25 = .ok (.ldc2_w 220, 3) := by decide +kernel
theorem dX12_taker_28 : decode cX12_taker 28 = .ok (.invokestatic 194, 3) := by decide +kernel
theorem dX12_taker_31 : decode cX12_taker 31 = .ok (.ifCond .eq 16, 3) := by decide +kernel
theorem dX12_taker_34 : decode cX12_taker 34 = .ok (.iload 4, 2) := by decide +kernel
theorem dX12_taker_36 : decode cX12_taker 36 = .ok (.i2l, 1) := by decide +kernel
theorem dX12_taker_37 : decode cX12_taker 37 = .ok (.lconst 0, 1) := by decide +kernel
theorem dX12_taker_38 : decode cX12_taker 38 = .ok (.ldc2_w 228, 3) := by decide +kernel
theorem dX12_taker_41 : decode cX12_taker 41 = .ok (.invokestatic 194, 3) := by decide +kernel
theorem dX12_taker_44 : decode cX12_taker 44 = .ok (.ifCond .ne 6, 3) := by decide +kernel
theorem dX12_taker_47 : decode cX12_taker 47 = .ok (.bipush (-102), 2) := by decide +kernel
theorem dX12_taker_49 : decode cX12_taker 49 = .ok (.ireturn, 1) := by decide +kernel
theorem dX12_taker_50 : decode cX12_taker 50 = .ok (.aload_n 0, 1) := by decide +kernel
theorem dX12_taker_51 : decode cX12_taker 51 = .ok (.getfield 230, 3) := by decide +kernel
theorem dX12_taker_54 : decode cX12_taker 54 = .ok (.bipush 12, 2) := by decide +kernel
theorem dX12_taker_56 : decode cX12_taker 56 = .ok (.if_icmp .ne 6, 3) := by decide +kernel
theorem dX12_taker_59 : decode cX12_taker 59 = .ok (.bipush (-104), 2) := by decide +kernel
theorem dX12_taker_61 : decode cX12_taker 61 = .ok (.ireturn, 1) := by decide +kernel
theorem dX12_taker_62 : decode cX12_taker 62 = .ok (.aload_n 0, 1) := by decide +kernel
theorem dX12_taker_63 : decode cX12_taker 63 = .ok (.getfield 41, 3) := by decide +kernel
theorem dX12_taker_66 : decode cX12_taker 66 = .ok (.aload_n 0, 1) := by decide +kernel
theorem dX12_taker_67 : decode cX12_taker 67 = .ok (.getfield 230, 3) := by decide +kernel
theorem dX12_taker_70 : decode cX12_taker 70 = .ok (.iload_n 1, 1) := by decide +kernel
theorem dX12_taker_71 : decode cX12_taker 71 = .ok (.iastore, 1) := by decide +kernel
theorem dX12_taker_72 : decode cX12_taker 72 = .ok (.aload_n 0, 1) := by decide +kernel
theorem dX12_taker_73 : decode cX12_taker 73 = .ok (.getfield 44, 3) := by decide +kernel
theorem dX12_taker_76 : decode cX12_taker 76 = .ok (.aload_n 0, 1) := by decide +kernel
theorem dX12_taker_77 : decode cX12_taker 77 = .ok (.getfield 230, 3) := by decide +kernel
theorem dX12_taker_80 : decode cX12_taker 80 = .ok (.iload_n 2, 1) := by decide +kernel
theorem dX12_taker_81 : decode cX12_taker 81 = .ok (.iastore, 1) := by decide +kernel
theorem dX12_taker_82 : decode cX12_taker 82 = .ok (.aload_n 0, 1) := by decide +kernel
theorem dX12_taker_83 : decode cX12_taker 83 = .ok (.getfield 47, 3) := by decide +kernel
theorem dX12_taker_86 : decode cX12_taker 86 = .ok (.aload_n 0, 1) := by decide +kernel
theorem dX12_taker_87 : decode cX12_taker 87 = .ok (.getfield 230, 3) := by decide +kernel
theorem dX12_taker_90 : decode cX12_taker 90 = .ok (.iload_n 3, 1) := by decide +kernel
theorem dX12_taker_91 : decode cX12_taker 91 = .ok (.iastore, 1) := by decide +kernel
theorem dX12_taker_92 : decode cX12_taker 92 = .ok (.aload_n 0, 1) := by decide +kernel
theorem dX12_taker_93 : decode cX12_taker 93 = .ok (.getfield 50, 3) := by decide +kernel
theorem dX12_taker_96 : decode cX12_taker 96 = .ok (.aload_n 0, 1) := by decide +kernel
theorem dX12_taker_97 : decode cX12_taker 97 = .ok (.getfield 230, 3) := by decide +kernel
theorem dX12_taker_100 : decode cX12_taker 100 = .ok (.iload 4, 2) := by decide +kernel
theorem dX12_taker_102 : decode cX12_taker 102 = .ok (.iastore, 1) := by decide +kernel
theorem dX12_taker_103 : decode cX12_taker 103 = .ok (.aload_n 0, 1) := by decide +kernel
theorem dX12_taker_104 : decode cX12_taker 104 = .ok (.dup, 1) := by decide +kernel
theorem dX12_taker_105 : decode cX12_taker 105 = .ok (.getfield 230, 3) := by decide +kernel
theorem dX12_taker_108 : decode cX12_taker 108 = .ok (.iconst 1, 1) := by decide +kernel
theorem dX12_taker_109 : decode cX12_taker 109 = .ok (.iadd, 1) := by decide +kernel
theorem dX12_taker_110 : decode cX12_taker 110 = .ok (.putfield 230, 3) := by decide +kernel
theorem dX12_taker_113 : decode cX12_taker 113 = .ok (.aload_n 0, 1) := by decide +kernel
theorem dX12_taker_114 : decode cX12_taker 114 = .ok (.getfield 230, 3) := by decide +kernel
theorem dX12_taker_117 : decode cX12_taker 117 = .ok (.iconst 1, 1) := by decide +kernel
theorem dX12_taker_118 : decode cX12_taker 118 = .ok (.isub, 1) := by decide +kernel
theorem dX12_taker_119 : decode cX12_taker 119 = .ok (.ireturn, 1) := by decide +kernel
theorem dX12_isTaker_0 : decode cX12_isTaker 0 = .ok (.iload_n 1, 1) := by decide +kernel
theorem dX12_isTaker_1 : decode cX12_isTaker 1 = .ok (.i2l, 1) := by decide +kernel
theorem dX12_isTaker_2 : decode cX12_isTaker 2 = .ok (.lconst 0, 1) := by decide +kernel
theorem dX12_isTaker_3 : decode cX12_isTaker 3 = .ok (.aload_n 0, 1) := by decide +kernel
theorem dX12_isTaker_4 : decode cX12_isTaker 4 = .ok (.getfield 230, 3) := by decide +kernel
theorem dX12_isTaker_7 : decode cX12_isTaker 7 = .ok (.iconst 1, 1) := by decide +kernel
theorem dX12_isTaker_8 : decode cX12_isTaker 8 = .ok (.isub, 1) := by decide +kernel
theorem dX12_isTaker_9 : decode cX12_isTaker 9 = .ok (.i2l, 1) := by decide +kernel
theorem dX12_isTaker_10 : decode cX12_isTaker 10 = .ok (.invokestatic 194, 3) := by decide +kernel
theorem dX12_isTaker_13 : decode cX12_isTaker 13 = .ok (.ireturn, 1) := by decide +kernel
theorem dX12_as_0 : decode cX12_as 0 = .ok (.aload_n 0, 1) := by decide +kernel
theorem dX12_as_1 : decode cX12_as 1 = .ok (.iload_n 1, 1) := by decide +kernel
theorem dX12_as_2 : decode cX12_as 2 = .ok (.invokevirtual 233, 3) := by decide +kernel
theorem dX12_as_5 : decode cX12_as 5 = .ok (.ifCond .ne 6, 3) := by decide +kernel
theorem dX12_as_8 : decode cX12_as 8 = .ok (.bipush (-101), 2) := by decide +kernel
theorem dX12_as_10 : decode cX12_as 10 = .ok (.ireturn, 1) := by decide +kernel
theorem dX12_as_11 : decode cX12_as 11 = .ok (.iload_n 2, 1) := by decide +kernel
theorem dX12_as_12 : decode cX12_as 12 = .ok (.i2l, 1) := by decide +kernel
theorem dX12_as_13 : decode cX12_as 13 = .ok (.lconst 0, 1) := by decide +kernel
theorem dX12_as_14 : decode cX12_as 14 = .ok (.ldc2_w 226, 3) := by decide +kernel
theorem dX12_as_17 : decode cX12_as 17 = .ok (.invokestatic 194, 3) := by decide +kernel
theorem dX12_as_20 : decode cX12_as 20 = .ok (.ifCond .ne 6, 3) := by decide +kernel
theorem dX12_as_23 : decode cX12_as 23 = .ok (.bipush (-102), 2) := by decide +kernel
theorem dX12_as_25 : decode cX12_as 25 = .ok (.ireturn, 1) := by decide +kernel
theorem dX12_as_26 : decode cX12_as 26 = .ok (.iload_n 2, 1) := by decide +kernel
theorem dX12_as_27 : decode cX12_as 27 = .ok (.ifCond .eq 28, 3) := by decide +kernel
theorem dX12_as_30 : decode cX12_as 30 = .ok (.iload_n 2, 1) := by decide +kernel
theorem dX12_as_31 : decode cX12_as 31 = .ok (.aload_n 0, 1) := by decide +kernel
theorem dX12_as_32 : decode cX12_as 32 = .ok (.getfield 41, 3) := by decide +kernel
theorem dX12_as_35 : decode cX12_as 35 = .ok (.iload_n 1, 1) := by decide +kernel
theorem dX12_as_36 : decode cX12_as 36 = .ok (.iaload, 1) := by decide +kernel
theorem dX12_as_37 : decode cX12_as 37 = .ok (.if_icmp .eq 18, 3) := by decide +kernel
theorem dX12_as_40 : decode cX12_as 40 = .ok (.iload_n 2, 1) := by decide +kernel
theorem dX12_as_41 : decode cX12_as 41 = .ok (.iconst 3, 1) := by decide +kernel
theorem dX12_as_42 : decode cX12_as 42 = .ok (.if_icmp .ne 17, 3) := by decide +kernel
theorem dX12_as_45 : decode cX12_as 45 = .ok (.aload_n 0, 1) := by decide +kernel
theorem dX12_as_46 : decode cX12_as 46 = .ok (.getfield 41, 3) := by decide +kernel
theorem dX12_as_49 : decode cX12_as 49 = .ok (.iload_n 1, 1) := by decide +kernel
theorem dX12_as_50 : decode cX12_as 50 = .ok (.iaload, 1) := by decide +kernel
theorem dX12_as_51 : decode cX12_as 51 = .ok (.iconst 4, 1) := by decide +kernel
theorem dX12_as_52 : decode cX12_as 52 = .ok (.if_icmp .ne 7, 3) := by decide +kernel
theorem dX12_as_55 : decode cX12_as 55 = .ok (.iconst 1, 1) := by decide +kernel
theorem dX12_as_56 : decode cX12_as 56 = .ok (.goto 4, 3) := by decide +kernel
theorem dX12_as_59 : decode cX12_as 59 = .ok (.iconst 0, 1) := by decide +kernel
theorem dX12_as_60 : decode cX12_as 60 = .ok (.istore_n 3, 1) := by decide +kernel
theorem dX12_as_61 : decode cX12_as 61 = .ok (.iload_n 3, 1) := by decide +kernel
theorem dX12_as_62 : decode cX12_as 62 = .ok (.ifCond .eq 7, 3) := by decide +kernel
theorem dX12_as_65 : decode cX12_as 65 = .ok (.iload_n 1, 1) := by decide +kernel
theorem dX12_as_66 : decode cX12_as 66 = .ok (.goto 4, 3) := by decide +kernel
theorem dX12_as_69 : decode cX12_as 69 = .ok (.iconst (-1), 1) := by decide +kernel
theorem dX12_as_70 : decode cX12_as 70 = .ok (.ireturn, 1) := by decide +kernel
theorem dX12_takes_0 : decode cX12_takes 0 = .ok (.aload_n 0, 1) := by decide +kernel
theorem dX12_takes_1 : decode cX12_takes 1 = .ok (.getfield 47, 3) := by decide +kernel
theorem dX12_takes_4 : decode cX12_takes 4 = .ok (.iload_n 1, 1) := by decide +kernel
theorem dX12_takes_5 : decode cX12_takes 5 = .ok (.iaload, 1) := by decide +kernel
theorem dX12_takes_6 : decode cX12_takes 6 = .ok (.istore_n 3, 1) := by decide +kernel
theorem dX12_takes_7 : decode cX12_takes 7 = .ok (.aload_n 0, 1) := by decide +kernel
theorem dX12_takes_8 : decode cX12_takes 8 = .ok (.getfield 41, 3) := by decide +kernel
theorem dX12_takes_11 : decode cX12_takes 11 = .ok (.iload_n 1, 1) := by decide +kernel
theorem dX12_takes_12 : decode cX12_takes 12 = .ok (.iaload, 1) := by decide +kernel
theorem dX12_takes_13 : decode cX12_takes 13 = .ok (.tableswitch 85 0 3 #[31, 33, 56, 82], 31) := by decide +kernel
theorem dX12_takes_44 : decode cX12_takes 44 = .ok (.iload_n 3, 1) := by decide +kernel
theorem dX12_takes_45 : decode cX12_takes 45 = .ok (.ireturn, 1) := by decide +kernel
theorem dX12_takes_46 : decode cX12_takes 46 = .ok (.iload_n 2, 1) := by decide +kernel
theorem dX12_takes_47 : decode cX12_takes 47 = .ok (.bipush 24, 2) := by decide +kernel
theorem dX12_takes_49 : decode cX12_takes 49 = .ok (.irem, 1) := by decide +kernel
theorem dX12_takes_50 : decode cX12_takes 50 = .ok (.i2l, 1) := by decide +kernel
theorem dX12_takes_51 : decode cX12_takes 51 = .ok (.ldc2_w 210, 3) := by decide +kernel
theorem dX12_takes_54 : decode cX12_takes 54 = .ok (.ldc2_w 236, 3) := by decide +kernel
theorem dX12_takes_57 : decode cX12_takes 57 = .ok (.invokestatic 194, 3) := by decide +kernel
theorem dX12_takes_60 : decode cX12_takes 60 = .ok (.ifCond .eq 7, 3) := by decide +kernel
theorem dX12_takes_63 : decode cX12_takes 63 = .ok (.iload_n 3, 1) := by decide +kernel
theorem dX12_takes_64 : decode cX12_takes 64 = .ok (.goto 4, 3) := by decide +kernel
theorem dX12_takes_67 : decode cX12_takes 67 = .ok (.iconst 0, 1) := by decide +kernel
theorem dX12_takes_68 : decode cX12_takes 68 = .ok (.ireturn, 1) := by decide +kernel
theorem dX12_takes_69 : decode cX12_takes 69 = .ok (.iload_n 3, 1) := by decide +kernel
theorem dX12_takes_70 : decode cX12_takes 70 = .ok (.aload_n 0, 1) := by decide +kernel
theorem dX12_takes_71 : decode cX12_takes 71 = .ok (.getfield 7, 3) := by decide +kernel
theorem dX12_takes_74 : decode cX12_takes 74 = .ok (.aload_n 0, 1) := by decide +kernel
theorem dX12_takes_75 : decode cX12_takes 75 = .ok (.getfield 44, 3) := by decide +kernel
theorem dX12_takes_78 : decode cX12_takes 78 = .ok (.iload_n 1, 1) := by decide +kernel
theorem dX12_takes_79 : decode cX12_takes 79 = .ok (.iaload, 1) := by decide +kernel
theorem dX12_takes_80 : decode cX12_takes 80 = .ok (.iaload, 1) := by decide +kernel
theorem dX12_takes_81 : decode cX12_takes 81 = .ok (.imul, 1) := by decide +kernel
theorem dX12_takes_82 : decode cX12_takes 82 = .ok (.aload_n 0, 1) := by decide +kernel
theorem dX12_takes_83 : decode cX12_takes 83 = .ok (.getfield 13, 3) := by decide +kernel
theorem dX12_takes_86 : decode cX12_takes 86 = .ok (.aload_n 0, 1) := by decide +kernel
theorem dX12_takes_87 : decode cX12_takes 87 = .ok (.getfield 44, 3) := by decide +kernel
theorem dX12_takes_90 : decode cX12_takes 90 = .ok (.iload_n 1, 1) := by decide +kernel
theorem dX12_takes_91 : decode cX12_takes 91 = .ok (.iaload, 1) := by decide +kernel
theorem dX12_takes_92 : decode cX12_takes 92 = .ok (.iaload, 1) := by decide +kernel
theorem dX12_takes_93 : decode cX12_takes 93 = .ok (.idiv, 1) := by decide +kernel
theorem dX12_takes_94 : decode cX12_takes 94 = .ok (.ireturn, 1) := by decide +kernel
theorem dX12_takes_95 : decode cX12_takes 95 = .ok (.iload_n 3, 1) := by decide +kernel
theorem dX12_takes_96 : decode cX12_takes 96 = .ok (.ineg, 1) := by decide +kernel
theorem dX12_takes_97 : decode cX12_takes 97 = .ok (.ireturn, 1) := by decide +kernel
theorem dX12_takes_98 : decode cX12_takes 98 = .ok (.bipush (-2), 2) := by decide +kernel
theorem dX12_takes_100 : decode cX12_takes 100 = .ok (.iload_n 3, 1) := by decide +kernel
theorem dX12_takes_101 : decode cX12_takes 101 = .ok (.imul, 1) := by decide +kernel
theorem dX12_takes_102 : decode cX12_takes 102 = .ok (.ireturn, 1) := by decide +kernel
theorem dX12_acts_0 : decode cX12_acts 0 = .ok (.aload_n 0, 1) := by decide +kernel
theorem dX12_acts_1 : decode cX12_acts 1 = .ok (.iload_n 1, 1) := by decide +kernel
theorem dX12_acts_2 : decode cX12_acts 2 = .ok (.invokevirtual 233, 3) := by decide +kernel
theorem dX12_acts_5 : decode cX12_acts 5 = .ok (.ifCond .ne 7, 3) := by decide +kernel
theorem dX12_acts_8 : decode cX12_acts 8 = .ok (.sipush (-1001), 3) := by decide +kernel
theorem dX12_acts_11 : decode cX12_acts 11 = .ok (.ireturn, 1) := by decide +kernel
theorem dX12_acts_12 : decode cX12_acts 12 = .ok (.iload_n 2, 1) := by decide +kernel
theorem dX12_acts_13 : decode cX12_acts 13 = .ok (.i2l, 1) := by decide +kernel
theorem dX12_acts_14 : decode cX12_acts 14 = .ok (.lconst 0, 1) := by decide +kernel
theorem dX12_acts_15 : decode cX12_acts 15 = .ok (.ldc2_w 202, 3) := by decide +kernel
theorem dX12_acts_18 : decode cX12_acts 18 = .ok (.invokestatic 194, 3) := by decide +kernel
theorem dX12_acts_21 : decode cX12_acts 21 = .ok (.ifCond .eq 15, 3) := by decide +kernel
theorem dX12_acts_24 : decode cX12_acts 24 = .ok (.iload_n 3, 1) := by decide +kernel
theorem dX12_acts_25 : decode cX12_acts 25 = .ok (.i2l, 1) := by decide +kernel
theorem dX12_acts_26 : decode cX12_acts 26 = .ok (.lconst 0, 1) := by decide +kernel
theorem dX12_acts_27 : decode cX12_acts 27 = .ok (.ldc2_w 238, 3) := by decide +kernel
theorem dX12_acts_30 : decode cX12_acts 30 = .ok (.invokestatic 194, 3) := by decide +kernel
theorem dX12_acts_33 : decode cX12_acts 33 = .ok (.ifCond .ne 7, 3) := by decide +kernel
theorem dX12_acts_36 : decode cX12_acts 36 = .ok (.sipush (-1002), 3) := by decide +kernel
theorem dX12_acts_39 : decode cX12_acts 39 = .ok (.ireturn, 1) := by decide +kernel
theorem dX12_acts_40 : decode cX12_acts 40 = .ok (.aload_n 0, 1) := by decide +kernel
theorem dX12_acts_41 : decode cX12_acts 41 = .ok (.getfield 41, 3) := by decide +kernel
theorem dX12_acts_44 : decode cX12_acts 44 = .ok (.iload_n 1, 1) := by decide +kernel
theorem dX12_acts_45 : decode cX12_acts 45 = .ok (.iaload, 1) := by decide +kernel
theorem dX12_acts_46 : decode cX12_acts 46 = .ok (.istore 4, 2) := by decide +kernel
theorem dX12_acts_48 : decode cX12_acts 48 = .ok (.iload 4, 2) := by decide +kernel
theorem dX12_acts_50 : decode cX12_acts 50 = .ok (.iconst 1, 1) := by decide +kernel
theorem dX12_acts_51 : decode cX12_acts 51 = .ok (.if_icmp .ne 7, 3) := by decide +kernel
theorem dX12_acts_54 : decode cX12_acts 54 = .ok (.iconst 3, 1) := by decide +kernel
theorem dX12_acts_55 : decode cX12_acts 55 = .ok (.goto 34, 3) := by decide +kernel
theorem dX12_acts_58 : decode cX12_acts 58 = .ok (.iload 4, 2) := by decide +kernel
theorem dX12_acts_60 : decode cX12_acts 60 = .ok (.iconst 3, 1) := by decide +kernel
theorem dX12_acts_61 : decode cX12_acts 61 = .ok (.if_icmp .ne 7, 3) := by decide +kernel
theorem dX12_acts_64 : decode cX12_acts 64 = .ok (.iconst 1, 1) := by decide +kernel
theorem dX12_acts_65 : decode cX12_acts 65 = .ok (.goto 24, 3) := by decide +kernel
theorem dX12_acts_68 : decode cX12_acts 68 = .ok (.iload 4, 2) := by decide +kernel
theorem dX12_acts_70 : decode cX12_acts 70 = .ok (.iconst 4, 1) := by decide +kernel
theorem dX12_acts_71 : decode cX12_acts 71 = .ok (.if_icmp .ne 17, 3) := by decide +kernel
theorem dX12_acts_74 : decode cX12_acts 74 = .ok (.iconst 1, 1) := by decide +kernel
theorem dX12_acts_75 : decode cX12_acts 75 = .ok (.aload_n 0, 1) := by decide +kernel
theorem dX12_acts_76 : decode cX12_acts 76 = .ok (.getfield 47, 3) := by decide +kernel
theorem dX12_acts_79 : decode cX12_acts 79 = .ok (.iload_n 1, 1) := by decide +kernel
theorem dX12_acts_80 : decode cX12_acts 80 = .ok (.iaload, 1) := by decide +kernel
theorem dX12_acts_81 : decode cX12_acts 81 = .ok (.bipush 10, 2) := by decide +kernel
theorem dX12_acts_83 : decode cX12_acts 83 = .ok (.idiv, 1) := by decide +kernel
theorem dX12_acts_84 : decode cX12_acts 84 = .ok (.iadd, 1) := by decide +kernel
theorem dX12_acts_85 : decode cX12_acts 85 = .ok (.goto 4, 3) := by decide +kernel
theorem dX12_acts_88 : decode cX12_acts 88 = .ok (.iconst 0, 1) := by decide +kernel
theorem dX12_acts_89 : decode cX12_acts 89 = .ok (.istore 5, 2) := by decide +kernel
theorem dX12_acts_91 : decode cX12_acts 91 = .ok (.iload_n 2, 1) := by decide +kernel
theorem dX12_acts_92 : decode cX12_acts 92 = .ok (.ifCond .ne 12, 3) := by decide +kernel
theorem dX12_acts_95 : decode cX12_acts 95 = .ok (.aload_n 0, 1) := by decide +kernel
theorem dX12_acts_96 : decode cX12_acts 96 = .ok (.iload_n 1, 1) := by decide +kernel
theorem dX12_acts_97 : decode cX12_acts 97 = .ok (.iload_n 3, 1) := by decide +kernel
theorem dX12_acts_98 : decode cX12_acts 98 = .ok (.invokevirtual 240, 3) := by decide +kernel
theorem dX12_acts_101 : decode cX12_acts 101 = .ok (.goto 19, 3) := by decide +kernel
theorem dX12_acts_104 : decode cX12_acts 104 = .ok (.iload_n 2, 1) := by decide +kernel
theorem dX12_acts_105 : decode cX12_acts 105 = .ok (.iconst 1, 1) := by decide +kernel
theorem dX12_acts_106 : decode cX12_acts 106 = .ok (.if_icmp .ne 8, 3) := by decide +kernel
theorem dX12_acts_109 : decode cX12_acts 109 = .ok (.iload 5, 2) := by decide +kernel
theorem dX12_acts_111 : decode cX12_acts 111 = .ok (.goto 9, 3) := by decide +kernel
theorem dX12_acts_114 : decode cX12_acts 114 = .ok (.aload_n 0, 1) := by decide +kernel
theorem dX12_acts_115 : decode cX12_acts 115 = .ok (.getfield 53, 3) := by decide +kernel
theorem dX12_acts_118 : decode cX12_acts 118 = .ok (.iload_n 1, 1) := by decide +kernel
theorem dX12_acts_119 : decode cX12_acts 119 = .ok (.iaload, 1) := by decide +kernel
theorem dX12_acts_120 : decode cX12_acts 120 = .ok (.ireturn, 1) := by decide +kernel
theorem dX12_takeAll_0 : decode cX12_takeAll 0 = .ok (.iconst 0, 1) := by decide +kernel
theorem dX12_takeAll_1 : decode cX12_takeAll 1 = .ok (.istore_n 1, 1) := by decide +kernel
theorem dX12_takeAll_2 : decode cX12_takeAll 2 = .ok (.iload_n 1, 1) := by decide +kernel
theorem dX12_takeAll_3 : decode cX12_takeAll 3 = .ok (.bipush 10, 2) := by decide +kernel
theorem dX12_takeAll_5 : decode cX12_takeAll 5 = .ok (.if_icmp .ge 94, 3) := by decide +kernel
theorem dX12_takeAll_8 : decode cX12_takeAll 8 = .ok (.iconst 0, 1) := by decide +kernel
theorem dX12_takeAll_9 : decode cX12_takeAll 9 = .ok (.istore_n 2, 1) := by decide +kernel
theorem dX12_takeAll_10 : decode cX12_takeAll 10 = .ok (.iload_n 2, 1) := by decide +kernel
theorem dX12_takeAll_11 : decode cX12_takeAll 11 = .ok (.aload_n 0, 1) := by decide +kernel
theorem dX12_takeAll_12 : decode cX12_takeAll 12 = .ok (.getfield 230, 3) := by decide +kernel
theorem dX12_takeAll_15 : decode cX12_takeAll 15 = .ok (.if_icmp .ge 78, 3) := by decide +kernel
theorem dX12_takeAll_18 : decode cX12_takeAll 18 = .ok (.aload_n 0, 1) := by decide +kernel
theorem dX12_takeAll_19 : decode cX12_takeAll 19 = .ok (.getfield 50, 3) := by decide +kernel
theorem dX12_takeAll_22 : decode cX12_takeAll 22 = .ok (.iload_n 2, 1) := by decide +kernel
theorem dX12_takeAll_23 : decode cX12_takeAll 23 = .ok (.iaload, 1) := by decide +kernel
theorem dX12_takeAll_24 : decode cX12_takeAll 24 = .ok (.iload_n 1, 1) := by decide +kernel
theorem dX12_takeAll_25 : decode cX12_takeAll 25 = .ok (.if_icmp .ne 62, 3) := by decide +kernel
theorem dX12_takeAll_28 : decode cX12_takeAll 28 = .ok (.aload_n 0, 1) := by decide +kernel
theorem dX12_takeAll_29 : decode cX12_takeAll 29 = .ok (.iload_n 2, 1) := by decide +kernel
theorem dX12_takeAll_30 : decode cX12_takeAll 30 = .ok (.aload_n 0, 1) := by decide +kernel
theorem dX12_takeAll_31 : decode cX12_takeAll 31 = .ok (.getfield 212, 3) := by decide +kernel
theorem dX12_takeAll_34 : decode cX12_takeAll 34 = .ok (.invokevirtual 240, 3) := by decide +kernel
theorem dX12_takeAll_37 : decode cX12_takeAll 37 = .ok (.istore_n 3, 1) := by decide +kernel
theorem dX12_takeAll_38 : decode cX12_takeAll 38 = .ok (.iload_n 3, 1) := by decide +kernel
theorem dX12_takeAll_39 : decode cX12_takeAll 39 = .ok (.aload_n 0, 1) := by decide +kernel
theorem dX12_takeAll_40 : decode cX12_takeAll 40 = .ok (.getfield 7, 3) := by decide +kernel
theorem dX12_takeAll_43 : decode cX12_takeAll 43 = .ok (.aload_n 0, 1) := by decide +kernel
theorem dX12_takeAll_44 : decode cX12_takeAll 44 = .ok (.getfield 44, 3) := by decide +kernel
theorem dX12_takeAll_47 : decode cX12_takeAll 47 = .ok (.iload_n 2, 1) := by decide +kernel
theorem dX12_takeAll_48 : decode cX12_takeAll 48 = .ok (.iaload, 1) := by decide +kernel
theorem dX12_takeAll_49 : decode cX12_takeAll 49 = .ok (.iaload, 1) := by decide +kernel
theorem dX12_takeAll_50 : decode cX12_takeAll 50 = .ok (.invokestatic 243, 3) := by decide +kernel
theorem dX12_takeAll_53 : decode cX12_takeAll 53 = .ok (.istore_n 3, 1) := by decide +kernel
theorem dX12_takeAll_54 : decode cX12_takeAll 54 = .ok (.aload_n 0, 1) := by decide +kernel
theorem dX12_takeAll_55 : decode cX12_takeAll 55 = .ok (.dup, 1) := by decide +kernel
theorem dX12_takeAll_56 : decode cX12_takeAll 56 = .ok (.getfield 246, 3) := by decide +kernel
theorem dX12_takeAll_59 : decode cX12_takeAll 59 = .ok (.iload_n 3, 1) := by decide +kernel
theorem dX12_takeAll_60 : decode cX12_takeAll 60 = .ok (.i2l, 1) := by decide +kernel
theorem dX12_takeAll_61 : decode cX12_takeAll 61 = .ok (.ladd, 1) := by decide +kernel
theorem dX12_takeAll_62 : decode cX12_takeAll 62 = .ok (.putfield 246, 3) := by decide +kernel
theorem dX12_takeAll_65 : decode cX12_takeAll 65 = .ok (.aload_n 0, 1) := by decide +kernel
theorem dX12_takeAll_66 : decode cX12_takeAll 66 = .ok (.getfield 53, 3) := by decide +kernel
theorem dX12_takeAll_69 : decode cX12_takeAll 69 = .ok (.iload_n 2, 1) := by decide +kernel
theorem dX12_takeAll_70 : decode cX12_takeAll 70 = .ok (.dup2, 1) := by decide +kernel
theorem dX12_takeAll_71 : decode cX12_takeAll 71 = .ok (.iaload, 1) := by decide +kernel
theorem dX12_takeAll_72 : decode cX12_takeAll 72 = .ok (.iload_n 3, 1) := by decide +kernel
theorem dX12_takeAll_73 : decode cX12_takeAll 73 = .ok (.iadd, 1) := by decide +kernel
theorem dX12_takeAll_74 : decode cX12_takeAll 74 = .ok (.iastore, 1) := by decide +kernel
theorem dX12_takeAll_75 : decode cX12_takeAll 75 = .ok (.aload_n 0, 1) := by decide +kernel
theorem dX12_takeAll_76 : decode cX12_takeAll 76 = .ok (.aload_n 0, 1) := by decide +kernel
theorem dX12_takeAll_77 : decode cX12_takeAll 77 = .ok (.getfield 44, 3) := by decide +kernel
theorem dX12_takeAll_80 : decode cX12_takeAll 80 = .ok (.iload_n 2, 1) := by decide +kernel
theorem dX12_takeAll_81 : decode cX12_takeAll 81 = .ok (.iaload, 1) := by decide +kernel
theorem dX12_takeAll_82 : decode cX12_takeAll 82 = .ok (.iload_n 3, 1) := by decide +kernel
theorem dX12_takeAll_83 : decode cX12_takeAll 83 = .ok (.ineg, 1) := by decide +kernel
theorem dX12_takeAll_84 : decode cX12_takeAll 84 = .ok (.invokevirtual 249, 3) := by decide +kernel
theorem dX12_takeAll_87 : decode cX12_takeAll 87 = .ok (.iinc 2 1, 3) := by decide +kernel
theorem dX12_takeAll_90 : decode cX12_takeAll 90 = .ok (.goto (-80), 3) := by decide +kernel
theorem dX12_takeAll_93 : decode cX12_takeAll 93 = .ok (.iinc 1 1, 3) := by decide +kernel
theorem dX12_takeAll_96 : decode cX12_takeAll 96 = .ok (.goto (-94), 3) := by decide +kernel
theorem dX12_takeAll_99 : decode cX12_takeAll 99 = .ok (.return_, 1) := by decide +kernel
theorem dX12_boat_0 : decode cX12_boat 0 = .ok (.iload_n 1, 1) := by decide +kernel
theorem dX12_boat_1 : decode cX12_boat 1 = .ok (.invokestatic 198, 3) := by decide +kernel
theorem dX12_boat_4 : decode cX12_boat 4 = .ok (.ifCond .eq 15, 3) := by decide +kernel
theorem dX12_boat_7 : decode cX12_boat 7 = .ok (.iload_n 2, 1) := by decide +kernel
theorem dX12_boat_8 : decode cX12_boat 8 = .ok (.invokestatic 198, 3) := by decide +kernel
theorem dX12_boat_11 : decode cX12_boat 11 = .ok (.ifCond .eq 8, 3) := by decide +kernel
theorem dX12_boat_14 : decode cX12_boat 14 = .ok (.iload_n 1, 1) := by decide +kernel
theorem dX12_boat_15 : decode cX12_boat 15 = .ok (.iload_n 2, 1) := by decide +kernel
theorem dX12_boat_16 : decode cX12_boat 16 = .ok (.if_icmp .ne 6, 3) := by decide +kernel
theorem dX12_boat_19 : decode cX12_boat 19 = .ok (.bipush (-101), 2) := by decide +kernel
theorem dX12_boat_21 : decode cX12_boat 21 = .ok (.ireturn, 1) := by decide +kernel
theorem dX12_boat_22 : decode cX12_boat 22 = .ok (.iload_n 3, 1) := by decide +kernel
theorem dX12_boat_23 : decode cX12_boat 23 = .ok (.i2l, 1) := by decide +kernel
theorem dX12_boat_24 : decode cX12_boat 24 = .ok (.lconst 0, 1) := by decide +kernel
theorem dX12_boat_25 : decode cX12_boat 25 = .ok (.ldc2_w 253, 3) := by decide +kernel
theorem dX12_boat_28 : decode cX12_boat 28 = .ok (.invokestatic 194, 3) := by decide +kernel
theorem dX12_boat_31 : decode cX12_boat 31 = .ok (.ifCond .eq 42, 3) := by decide +kernel
theorem dX12_boat_34 : decode cX12_boat 34 = .ok (.iload 4, 2) := by decide +kernel
theorem dX12_boat_36 : decode cX12_boat 36 = .ok (.i2l, 1) := by decide +kernel
theorem dX12_boat_37 : decode cX12_boat 37 = .ok (.lconst 1, 1) := by decide +kernel
theorem dX12_boat_38 : decode cX12_boat 38 = .ok (.ldc2_w 228, 3) := by decide +kernel
theorem dX12_boat_41 : decode cX12_boat 41 = .ok (.invokestatic 194, 3) := by decide +kernel
theorem dX12_boat_44 : decode cX12_boat 44 = .ok (.ifCond .eq 29, 3) := by decide +kernel
theorem dX12_boat_47 : decode cX12_boat 47 = .ok (.iload 5, 2) := by decide +kernel
theorem dX12_boat_49 : decode cX12_boat 49 = .ok (.i2l, 1) := by decide +kernel
theorem dX12_boat_50 : decode cX12_boat 50 = .ok (.lconst 0, 1) := by decide +kernel
theorem dX12_boat_51 : decode cX12_boat 51 = .ok (.ldc2_w 255, 3) := by decide +kernel
theorem dX12_boat_54 : decode cX12_boat 54 = .ok (.invokestatic 194, 3) := by decide +kernel
theorem dX12_boat_57 : decode cX12_boat 57 = .ok (.ifCond .eq 16, 3) := by decide +kernel
theorem dX12_boat_60 : decode cX12_boat 60 = .ok (.iload 6, 2) := by decide +kernel
theorem dX12_boat_62 : decode cX12_boat 62 = .ok (.i2l, 1) := by decide +kernel
theorem dX12_boat_63 : decode cX12_boat 63 = .ok (.lconst 0, 1) := by decide +kernel
theorem dX12_boat_64 : decode cX12_boat 64 = .ok (.ldc2_w 255, 3) := by decide +kernel
theorem dX12_boat_67 : decode cX12_boat 67 = .ok (.invokestatic 194, 3) := by decide +kernel
theorem dX12_boat_70 : decode cX12_boat 70 = .ok (.ifCond .ne 6, 3) := by decide +kernel
theorem dX12_boat_73 : decode cX12_boat 73 = .ok (.bipush (-102), 2) := by decide +kernel
theorem dX12_boat_75 : decode cX12_boat 75 = .ok (.ireturn, 1) := by decide +kernel
theorem dX12_boat_76 : decode cX12_boat 76 = .ok (.aload_n 0, 1) := by decide +kernel
theorem dX12_boat_77 : decode cX12_boat 77 = .ok (.getfield 215, 3) := by decide +kernel
theorem dX12_boat_80 : decode cX12_boat 80 = .ok (.bipush 12, 2) := by decide +kernel
theorem dX12_boat_82 : decode cX12_boat 82 = .ok (.if_icmp .ne 6, 3) := by decide +kernel
theorem dX12_boat_85 : decode cX12_boat 85 = .ok (.bipush (-104), 2) := by decide +kernel
theorem dX12_boat_87 : decode cX12_boat 87 = .ok (.ireturn, 1) := by decide +kernel
theorem dX12_boat_88 : decode cX12_boat 88 = .ok (.aload_n 0, 1) := by decide +kernel
theorem dX12_boat_89 : decode cX12_boat 89 = .ok (.getfield 56, 3) := by decide +kernel
theorem dX12_boat_92 : decode cX12_boat 92 = .ok (.aload_n 0, 1) := by decide +kernel
theorem dX12_boat_93 : decode cX12_boat 93 = .ok (.getfield 215, 3) := by decide +kernel
theorem dX12_boat_96 : decode cX12_boat 96 = .ok (.iload_n 1, 1) := by decide +kernel
theorem dX12_boat_97 : decode cX12_boat 97 = .ok (.iastore, 1) := by decide +kernel
theorem dX12_boat_98 : decode cX12_boat 98 = .ok (.aload_n 0, 1) := by decide +kernel
theorem dX12_boat_99 : decode cX12_boat 99 = .ok (.getfield 59, 3) := by decide +kernel
theorem dX12_boat_102 : decode cX12_boat 102 = .ok (.aload_n 0, 1) := by decide +kernel
theorem dX12_boat_103 : decode cX12_boat 103 = .ok (.getfield 215, 3) := by decide +kernel
theorem dX12_boat_106 : decode cX12_boat 106 = .ok (.iload_n 2, 1) := by decide +kernel
theorem dX12_boat_107 : decode cX12_boat 107 = .ok (.iastore, 1) := by decide +kernel
theorem dX12_boat_108 : decode cX12_boat 108 = .ok (.aload_n 0, 1) := by decide +kernel
theorem dX12_boat_109 : decode cX12_boat 109 = .ok (.getfield 62, 3) := by decide +kernel
theorem dX12_boat_112 : decode cX12_boat 112 = .ok (.aload_n 0, 1) := by decide +kernel
theorem dX12_boat_113 : decode cX12_boat 113 = .ok (.getfield 215, 3) := by decide +kernel
theorem dX12_boat_116 : decode cX12_boat 116 = .ok (.iload_n 3, 1) := by decide +kernel
theorem dX12_boat_117 : decode cX12_boat 117 = .ok (.iastore, 1) := by decide +kernel
theorem dX12_boat_118 : decode cX12_boat 118 = .ok (.aload_n 0, 1) := by decide +kernel
theorem dX12_boat_119 : decode cX12_boat 119 = .ok (.getfield 65, 3) := by decide +kernel
theorem dX12_boat_122 : decode cX12_boat 122 = .ok (.aload_n 0, 1) := by decide +kernel
theorem dX12_boat_123 : decode cX12_boat 123 = .ok (.getfield 215, 3) := by decide +kernel
theorem dX12_boat_126 : decode cX12_boat 126 = .ok (.iload 4, 2) := by decide +kernel
theorem dX12_boat_128 : decode cX12_boat 128 = .ok (.iastore, 1) := by decide +kernel
theorem dX12_boat_129 : decode cX12_boat 129 = .ok (.aload_n 0, 1) := by decide +kernel
theorem dX12_boat_130 : decode cX12_boat 130 = .ok (.getfield 68, 3) := by decide +kernel
theorem dX12_boat_133 : decode cX12_boat 133 = .ok (.aload_n 0, 1) := by decide +kernel
theorem dX12_boat_134 : decode cX12_boat 134 = .ok (.getfield 215, 3) := by decide +kernel
theorem dX12_boat_137 : decode cX12_boat 137 = .ok (.iload 5, 2) := by decide +kernel
theorem dX12_boat_139 : decode cX12_boat 139 = .ok (.iastore, 1) := by decide +kernel
theorem dX12_boat_140 : decode cX12_boat 140 = .ok (.aload_n 0, 1) := by decide +kernel
theorem dX12_boat_141 : decode cX12_boat 141 = .ok (.getfield 71, 3) := by decide +kernel
theorem dX12_boat_144 : decode cX12_boat 144 = .ok (.aload_n 0, 1) := by decide +kernel
theorem dX12_boat_145 : decode cX12_boat 145 = .ok (.getfield 215, 3) := by decide +kernel
theorem dX12_boat_148 : decode cX12_boat 148 = .ok (.iload 6, 2) := by decide +kernel
theorem dX12_boat_150 : decode cX12_boat 150 = .ok (.iastore, 1) := by decide +kernel
theorem dX12_boat_151 : decode cX12_boat 151 = .ok (.aload_n 0, 1) := by decide +kernel
theorem dX12_boat_152 : decode cX12_boat 152 = .ok (.getfield 74, 3) := by decide +kernel
theorem dX12_boat_155 : decode cX12_boat 155 = .ok (.aload_n 0, 1) := by decide +kernel
theorem dX12_boat_156 : decode cX12_boat 156 = .ok (.getfield 215, 3) := by decide +kernel
theorem dX12_boat_159 : decode cX12_boat 159 = .ok (.iload_n 1, 1) := by decide +kernel
theorem dX12_boat_160 : decode cX12_boat 160 = .ok (.iastore, 1) := by decide +kernel
theorem dX12_boat_161 : decode cX12_boat 161 = .ok (.aload_n 0, 1) := by decide +kernel
theorem dX12_boat_162 : decode cX12_boat 162 = .ok (.getfield 77, 3) := by decide +kernel
theorem dX12_boat_165 : decode cX12_boat 165 = .ok (.aload_n 0, 1) := by decide +kernel
theorem dX12_boat_166 : decode cX12_boat 166 = .ok (.getfield 215, 3) := by decide +kernel
theorem dX12_boat_169 : decode cX12_boat 169 = .ok (.aload_n 0, 1) := by decide +kernel
theorem dX12_boat_170 : decode cX12_boat 170 = .ok (.getfield 212, 3) := by decide +kernel
theorem dX12_boat_173 : decode cX12_boat 173 = .ok (.iload 4, 2) := by decide +kernel
theorem dX12_boat_175 : decode cX12_boat 175 = .ok (.iadd, 1) := by decide +kernel
theorem dX12_boat_176 : decode cX12_boat 176 = .ok (.iastore, 1) := by decide +kernel
theorem dX12_boat_177 : decode cX12_boat 177 = .ok (.aload_n 0, 1) := by decide +kernel
theorem dX12_boat_178 : decode cX12_boat 178 = .ok (.dup, 1) := by decide +kernel
theorem dX12_boat_179 : decode cX12_boat 179 = .ok (.getfield 215, 3) := by decide +kernel
theorem dX12_boat_182 : decode cX12_boat 182 = .ok (.iconst 1, 1) := by decide +kernel
theorem dX12_boat_183 : decode cX12_boat 183 = .ok (.iadd, 1) := by decide +kernel
theorem dX12_boat_184 : decode cX12_boat 184 = .ok (.putfield 215, 3) := by decide +kernel
theorem dX12_boat_187 : decode cX12_boat 187 = .ok (.aload_n 0, 1) := by decide +kernel
theorem dX12_boat_188 : decode cX12_boat 188 = .ok (.getfield 215, 3) := by decide +kernel
theorem dX12_boat_191 : decode cX12_boat 191 = .ok (.iconst 1, 1) := by decide +kernel
theorem dX12_boat_192 : decode cX12_boat 192 = .ok (.isub, 1) := by decide +kernel
theorem dX12_boat_193 : decode cX12_boat 193 = .ok (.ireturn, 1) := by decide +kernel
theorem dX12_isBoat_0 : decode cX12_isBoat 0 = .ok (.iload_n 1, 1) := by decide +kernel
theorem dX12_isBoat_1 : decode cX12_isBoat 1 = .ok (.i2l, 1) := by decide +kernel
theorem dX12_isBoat_2 : decode cX12_isBoat 2 = .ok (.lconst 0, 1) := by decide +kernel
theorem dX12_isBoat_3 : decode cX12_isBoat 3 = .ok (.aload_n 0, 1) := by decide +kernel
theorem dX12_isBoat_4 : decode cX12_isBoat 4 = .ok (.getfield 215, 3) := by decide +kernel
theorem dX12_isBoat_7 : decode cX12_isBoat 7 = .ok (.iconst 1, 1) := by decide +kernel
theorem dX12_isBoat_8 : decode cX12_isBoat 8 = .ok (.isub, 1) := by decide +kernel
theorem dX12_isBoat_9 : decode cX12_isBoat 9 = .ok (.i2l, 1) := by decide +kernel
theorem dX12_isBoat_10 : decode cX12_isBoat 10 = .ok (.invokestatic 194, 3) := by decide +kernel
theorem dX12_isBoat_13 : decode cX12_isBoat 13 = .ok (.ireturn, 1) := by decide +kernel
theorem dX12_milesOf_0 : decode cX12_milesOf 0 = .ok (.aload_n 0, 1) := by decide +kernel
theorem dX12_milesOf_1 : decode cX12_milesOf 1 = .ok (.getfield 59, 3) := by decide +kernel
theorem dX12_milesOf_4 : decode cX12_milesOf 4 = .ok (.iload_n 1, 1) := by decide +kernel
theorem dX12_milesOf_5 : decode cX12_milesOf 5 = .ok (.iaload, 1) := by decide +kernel
theorem dX12_milesOf_6 : decode cX12_milesOf 6 = .ok (.aload_n 0, 1) := by decide +kernel
theorem dX12_milesOf_7 : decode cX12_milesOf 7 = .ok (.getfield 56, 3) := by decide +kernel
theorem dX12_milesOf_10 : decode cX12_milesOf 10 = .ok (.iload_n 1, 1) := by decide +kernel
theorem dX12_milesOf_11 : decode cX12_milesOf 11 = .ok (.iaload, 1) := by decide +kernel
theorem dX12_milesOf_12 : decode cX12_milesOf 12 = .ok (.isub, 1) := by decide +kernel
theorem dX12_milesOf_13 : decode cX12_milesOf 13 = .ok (.istore_n 2, 1) := by decide +kernel
theorem dX12_milesOf_14 : decode cX12_milesOf 14 = .ok (.iconst 5, 1) := by decide +kernel
theorem dX12_milesOf_15 : decode cX12_milesOf 15 = .ok (.iload_n 2, 1) := by decide +kernel
theorem dX12_milesOf_16 : decode cX12_milesOf 16 = .ok (.ifCond .ge 8, 3) := by decide +kernel
theorem dX12_milesOf_19 : decode cX12_milesOf 19 = .ok (.iload_n 2, 1) := by decide +kernel
theorem dX12_milesOf_20 : decode cX12_milesOf 20 = .ok (.ineg, 1) := by decide +kernel
theorem dX12_milesOf_21 : decode cX12_milesOf 21 = .ok (.goto 4, 3) := by decide +kernel
theorem dX12_milesOf_24 : decode cX12_milesOf 24 = .ok (.iload_n 2, 1) := by decide +kernel
theorem dX12_milesOf_25 : decode cX12_milesOf 25 = .ok (.iconst 1, 1) := by decide +kernel
theorem dX12_milesOf_26 : decode cX12_milesOf 26 = .ok (.iadd, 1) := by decide +kernel
theorem dX12_milesOf_27 : decode cX12_milesOf 27 = .ok (.imul, 1) := by decide +kernel
theorem dX12_milesOf_28 : decode cX12_milesOf 28 = .ok (.ireturn, 1) := by decide +kernel
theorem dX12_atOf_0 : decode cX12_atOf 0 = .ok (.iload_n 2, 1) := by decide +kernel
theorem dX12_atOf_1 : decode cX12_atOf 1 = .ok (.tableswitch 78 0 4 #[35, 42, 49, 65, 72], 35) := by decide +kernel
theorem dX12_atOf_36 : decode cX12_atOf 36 = .ok (.aload_n 0, 1) := by decide +kernel
theorem dX12_atOf_37 : decode cX12_atOf 37 = .ok (.getfield 74, 3) := by decide +kernel
theorem dX12_atOf_40 : decode cX12_atOf 40 = .ok (.iload_n 1, 1) := by decide +kernel
theorem dX12_atOf_41 : decode cX12_atOf 41 = .ok (.iaload, 1) := by decide +kernel
theorem dX12_atOf_42 : decode cX12_atOf 42 = .ok (.ireturn, 1) := by decide +kernel
theorem dX12_atOf_43 : decode cX12_atOf 43 = .ok (.aload_n 0, 1) := by decide +kernel
theorem dX12_atOf_44 : decode cX12_atOf 44 = .ok (.getfield 77, 3) := by decide +kernel
theorem dX12_atOf_47 : decode cX12_atOf 47 = .ok (.iload_n 1, 1) := by decide +kernel
theorem dX12_atOf_48 : decode cX12_atOf 48 = .ok (.iaload, 1) := by decide +kernel
theorem dX12_atOf_49 : decode cX12_atOf 49 = .ok (.ireturn, 1) := by decide +kernel
theorem dX12_atOf_50 : decode cX12_atOf 50 = .ok (.aload_n 0, 1) := by decide +kernel
theorem dX12_atOf_51 : decode cX12_atOf 51 = .ok (.getfield 77, 3) := by decide +kernel
theorem dX12_atOf_54 : decode cX12_atOf 54 = .ok (.iload_n 1, 1) := by decide +kernel
theorem dX12_atOf_55 : decode cX12_atOf 55 = .ok (.iaload, 1) := by decide +kernel
theorem dX12_atOf_56 : decode cX12_atOf 56 = .ok (.iconst (-1), 1) := by decide +kernel
theorem dX12_atOf_57 : decode cX12_atOf 57 = .ok (.if_icmp .ne 7, 3) := by decide +kernel
theorem dX12_atOf_60 : decode cX12_atOf 60 = .ok (.iconst 1, 1) := by decide +kernel
theorem dX12_atOf_61 : decode cX12_atOf 61 = .ok (.goto 4, 3) := by decide +kernel
theorem dX12_atOf_64 : decode cX12_atOf 64 = .ok (.iconst 0, 1) := by decide +kernel
theorem dX12_atOf_65 : decode cX12_atOf 65 = .ok (.ireturn, 1) := by decide +kernel
theorem dX12_atOf_66 : decode cX12_atOf 66 = .ok (.aload_n 0, 1) := by decide +kernel
theorem dX12_atOf_67 : decode cX12_atOf 67 = .ok (.getfield 80, 3) := by decide +kernel
theorem dX12_atOf_70 : decode cX12_atOf 70 = .ok (.iload_n 1, 1) := by decide +kernel
theorem dX12_atOf_71 : decode cX12_atOf 71 = .ok (.iaload, 1) := by decide +kernel
theorem dX12_atOf_72 : decode cX12_atOf 72 = .ok (.ireturn, 1) := by decide +kernel
theorem dX12_atOf_73 : decode cX12_atOf 73 = .ok (.aload_n 0, 1) := by decide +kernel
theorem dX12_atOf_74 : decode cX12_atOf 74 = .ok (.iload_n 1, 1) := by decide +kernel
theorem dX12_atOf_75 : decode cX12_atOf 75 = .ok (.invokevirtual 257, 3) := by decide +kernel
theorem dX12_atOf_78 : decode cX12_atOf 78 = .ok (.ireturn, 1) := by decide +kernel
theorem dX12_atOf_79 : decode cX12_atOf 79 = .ok (.bipush (-102), 2) := by decide +kernel
theorem dX12_atOf_81 : decode cX12_atOf 81 = .ok (.ireturn, 1) := by decide +kernel
theorem dX12_at_0 : decode cX12_at 0 = .ok (.aload_n 0, 1) := by decide +kernel
theorem dX12_at_1 : decode cX12_at 1 = .ok (.iload_n 1, 1) := by decide +kernel
theorem dX12_at_2 : decode cX12_at 2 = .ok (.invokevirtual 261, 3) := by decide +kernel
theorem dX12_at_5 : decode cX12_at 5 = .ok (.ifCond .eq 12, 3) := by decide +kernel
theorem dX12_at_8 : decode cX12_at 8 = .ok (.aload_n 0, 1) := by decide +kernel
theorem dX12_at_9 : decode cX12_at 9 = .ok (.iload_n 1, 1) := by decide +kernel
theorem dX12_at_10 : decode cX12_at 10 = .ok (.iload_n 2, 1) := by decide +kernel
theorem dX12_at_11 : decode cX12_at 11 = .ok (.invokevirtual 264, 3) := by decide +kernel
theorem dX12_at_14 : decode cX12_at 14 = .ok (.goto 5, 3) := by decide +kernel
theorem dX12_at_17 : decode cX12_at 17 = .ok (.bipush (-101), 2) := by decide +kernel
theorem dX12_at_19 : decode cX12_at 19 = .ok (.ireturn, 1) := by decide +kernel
theorem dX12_isReady_0 : decode cX12_isReady 0 = .ok (.aload_n 0, 1) := by decide +kernel
theorem dX12_isReady_1 : decode cX12_isReady 1 = .ok (.getfield 77, 3) := by decide +kernel
theorem dX12_isReady_4 : decode cX12_isReady 4 = .ok (.iload_n 1, 1) := by decide +kernel
theorem dX12_isReady_5 : decode cX12_isReady 5 = .ok (.iaload, 1) := by decide +kernel
theorem dX12_isReady_6 : decode cX12_isReady 6 = .ok (.iconst (-1), 1) := by decide +kernel
theorem dX12_isReady_7 : decode cX12_isReady 7 = .ok (.if_icmp .eq 20, 3) := by decide +kernel
theorem dX12_isReady_10 : decode cX12_isReady 10 = .ok (.aload_n 0, 1) := by decide +kernel
theorem dX12_isReady_11 : decode cX12_isReady 11 = .ok (.getfield 77, 3) := by decide +kernel
theorem dX12_isReady_14 : decode cX12_isReady 14 = .ok (.iload_n 1, 1) := by decide +kernel
theorem dX12_isReady_15 : decode cX12_isReady 15 = .ok (.iaload, 1) := by decide +kernel
theorem dX12_isReady_16 : decode cX12_isReady 16 = .ok (.aload_n 0, 1) := by decide +kernel
theorem dX12_isReady_17 : decode cX12_isReady 17 = .ok (.getfield 212, 3) := by decide +kernel
theorem dX12_isReady_20 : decode cX12_isReady 20 = .ok (.if_icmp .gt 7, 3) := by decide +kernel
theorem dX12_isReady_23 : decode cX12_isReady 23 = .ok (.iconst 1, 1) := by decide +kernel
theorem dX12_isReady_24 : decode cX12_isReady 24 = .ok (.goto 4, 3) := by decide +kernel
theorem dX12_isReady_27 : decode cX12_isReady 27 = .ok (.iconst 0, 1) := by decide +kernel
theorem dX12_isReady_28 : decode cX12_isReady 28 = .ok (.ireturn, 1) := by decide +kernel
theorem dX12_waitsAt_0 : decode cX12_waitsAt 0 = .ok (.aload_n 0, 1) := by decide +kernel
theorem dX12_waitsAt_1 : decode cX12_waitsAt 1 = .ok (.getfield 74, 3) := by decide +kernel
theorem dX12_waitsAt_4 : decode cX12_waitsAt 4 = .ok (.iload_n 1, 1) := by decide +kernel
theorem dX12_waitsAt_5 : decode cX12_waitsAt 5 = .ok (.iaload, 1) := by decide +kernel
theorem dX12_waitsAt_6 : decode cX12_waitsAt 6 = .ok (.iload_n 2, 1) := by decide +kernel
theorem dX12_waitsAt_7 : decode cX12_waitsAt 7 = .ok (.if_icmp .ne 13, 3) := by decide +kernel
theorem dX12_waitsAt_10 : decode cX12_waitsAt 10 = .ok (.aload_n 0, 1) := by decide +kernel
theorem dX12_waitsAt_11 : decode cX12_waitsAt 11 = .ok (.getfield 59, 3) := by decide +kernel
theorem dX12_waitsAt_14 : decode cX12_waitsAt 14 = .ok (.iload_n 1, 1) := by decide +kernel
theorem dX12_waitsAt_15 : decode cX12_waitsAt 15 = .ok (.iaload, 1) := by decide +kernel
theorem dX12_waitsAt_16 : decode cX12_waitsAt 16 = .ok (.iload_n 2, 1) := by decide +kernel
theorem dX12_waitsAt_17 : decode cX12_waitsAt 17 = .ok (.if_icmp .gt 25, 3) := by decide +kernel
theorem dX12_waitsAt_20 : decode cX12_waitsAt 20 = .ok (.aload_n 0, 1) := by decide +kernel
theorem dX12_waitsAt_21 : decode cX12_waitsAt 21 = .ok (.getfield 74, 3) := by decide +kernel
theorem dX12_waitsAt_24 : decode cX12_waitsAt 24 = .ok (.iload_n 1, 1) := by decide +kernel
theorem dX12_waitsAt_25 : decode cX12_waitsAt 25 = .ok (.iaload, 1) := by decide +kernel
theorem dX12_waitsAt_26 : decode cX12_waitsAt 26 = .ok (.iload_n 2, 1) := by decide +kernel
theorem dX12_waitsAt_27 : decode cX12_waitsAt 27 = .ok (.iconst 1, 1) := by decide +kernel
theorem dX12_waitsAt_28 : decode cX12_waitsAt 28 = .ok (.iadd, 1) := by decide +kernel
theorem dX12_waitsAt_29 : decode cX12_waitsAt 29 = .ok (.if_icmp .ne 17, 3) := by decide +kernel
theorem dX12_waitsAt_32 : decode cX12_waitsAt 32 = .ok (.aload_n 0, 1) := by decide +kernel
theorem dX12_waitsAt_33 : decode cX12_waitsAt 33 = .ok (.getfield 59, 3) := by decide +kernel
theorem dX12_waitsAt_36 : decode cX12_waitsAt 36 = .ok (.iload_n 1, 1) := by decide +kernel
theorem dX12_waitsAt_37 : decode cX12_waitsAt 37 = .ok (.iaload, 1) := by decide +kernel
theorem dX12_waitsAt_38 : decode cX12_waitsAt 38 = .ok (.iload_n 2, 1) := by decide +kernel
theorem dX12_waitsAt_39 : decode cX12_waitsAt 39 = .ok (.if_icmp .gt 7, 3) := by decide +kernel
theorem dX12_waitsAt_42 : decode cX12_waitsAt 42 = .ok (.iconst 1, 1) := by decide +kernel
theorem dX12_waitsAt_43 : decode cX12_waitsAt 43 = .ok (.goto 4, 3) := by decide +kernel
theorem dX12_waitsAt_46 : decode cX12_waitsAt 46 = .ok (.iconst 0, 1) := by decide +kernel
theorem dX12_waitsAt_47 : decode cX12_waitsAt 47 = .ok (.istore_n 3, 1) := by decide +kernel
theorem dX12_waitsAt_48 : decode cX12_waitsAt 48 = .ok (.iload_n 3, 1) := by decide +kernel
theorem dX12_waitsAt_49 : decode cX12_waitsAt 49 = .ok (.ifCond .eq 15, 3) := by decide +kernel
theorem dX12_waitsAt_52 : decode cX12_waitsAt 52 = .ok (.aload_n 0, 1) := by decide +kernel
theorem dX12_waitsAt_53 : decode cX12_waitsAt 53 = .ok (.iload_n 1, 1) := by decide +kernel
theorem dX12_waitsAt_54 : decode cX12_waitsAt 54 = .ok (.invokevirtual 267, 3) := by decide +kernel
theorem dX12_waitsAt_57 : decode cX12_waitsAt 57 = .ok (.ifCond .eq 7, 3) := by decide +kernel
theorem dX12_waitsAt_60 : decode cX12_waitsAt 60 = .ok (.iconst 1, 1) := by decide +kernel
theorem dX12_waitsAt_61 : decode cX12_waitsAt 61 = .ok (.goto 4, 3) := by decide +kernel
theorem dX12_waitsAt_64 : decode cX12_waitsAt 64 = .ok (.iconst 0, 1) := by decide +kernel
theorem dX12_waitsAt_65 : decode cX12_waitsAt 65 = .ok (.ireturn, 1) := by decide +kernel
theorem dX12_upper_0 : decode cX12_upper 0 = .ok (.iload_n 1, 1) := by decide +kernel
theorem dX12_upper_1 : decode cX12_upper 1 = .ok (.aload_n 0, 1) := by decide +kernel
theorem dX12_upper_2 : decode cX12_upper 2 = .ok (.getfield 185, 3) := by decide +kernel
theorem dX12_upper_5 : decode cX12_upper 5 = .ok (.if_icmp .ge 9, 3) := by decide +kernel
theorem dX12_upper_8 : decode cX12_upper 8 = .ok (.iload_n 1, 1) := by decide +kernel
theorem dX12_upper_9 : decode cX12_upper 9 = .ok (.iconst 1, 1) := by decide +kernel
theorem dX12_upper_10 : decode cX12_upper 10 = .ok (.iadd, 1) := by decide +kernel
theorem dX12_upper_11 : decode cX12_upper 11 = .ok (.goto 4, 3) := by decide +kernel
theorem dX12_upper_14 : decode cX12_upper 14 = .ok (.iload_n 1, 1) := by decide +kernel
theorem dX12_upper_15 : decode cX12_upper 15 = .ok (.ireturn, 1) := by decide +kernel
theorem dX12_goesUp_0 : decode cX12_goesUp 0 = .ok (.aload_n 0, 1) := by decide +kernel
theorem dX12_goesUp_1 : decode cX12_goesUp 1 = .ok (.getfield 74, 3) := by decide +kernel
theorem dX12_goesUp_4 : decode cX12_goesUp 4 = .ok (.iload_n 1, 1) := by decide +kernel
theorem dX12_goesUp_5 : decode cX12_goesUp 5 = .ok (.iaload, 1) := by decide +kernel
theorem dX12_goesUp_6 : decode cX12_goesUp 6 = .ok (.aload_n 0, 1) := by decide +kernel
theorem dX12_goesUp_7 : decode cX12_goesUp 7 = .ok (.iload_n 2, 1) := by decide +kernel
theorem dX12_goesUp_8 : decode cX12_goesUp 8 = .ok (.invokevirtual 270, 3) := by decide +kernel
theorem dX12_goesUp_11 : decode cX12_goesUp 11 = .ok (.if_icmp .eq 7, 3) := by decide +kernel
theorem dX12_goesUp_14 : decode cX12_goesUp 14 = .ok (.iconst 1, 1) := by decide +kernel
theorem dX12_goesUp_15 : decode cX12_goesUp 15 = .ok (.goto 4, 3) := by decide +kernel
theorem dX12_goesUp_18 : decode cX12_goesUp 18 = .ok (.iconst 0, 1) := by decide +kernel
theorem dX12_goesUp_19 : decode cX12_goesUp 19 = .ok (.ireturn, 1) := by decide +kernel
theorem dX12_chosenAt_0 : decode cX12_chosenAt 0 = .ok (.iconst (-1), 1) := by decide +kernel
theorem dX12_chosenAt_1 : decode cX12_chosenAt 1 = .ok (.istore_n 2, 1) := by decide +kernel
theorem dX12_chosenAt_2 : decode cX12_chosenAt 2 = .ok (.iconst 0, 1) := by decide +kernel
theorem dX12_chosenAt_3 : decode cX12_chosenAt 3 = .ok (.istore_n 3, 1) := by decide +kernel
theorem dX12_chosenAt_4 : decode cX12_chosenAt 4 = .ok (.iload_n 3, 1) := by decide +kernel
theorem dX12_chosenAt_5 : decode cX12_chosenAt 5 = .ok (.aload_n 0, 1) := by decide +kernel
theorem dX12_chosenAt_6 : decode cX12_chosenAt 6 = .ok (.getfield 215, 3) := by decide +kernel
theorem dX12_chosenAt_9 : decode cX12_chosenAt 9 = .ok (.if_icmp .ge 130, 3) := by decide +kernel
theorem dX12_chosenAt_12 : decode cX12_chosenAt 12 = .ok (.aload_n 0, 1) := by decide +kernel
theorem dX12_chosenAt_13 : decode cX12_chosenAt 13 = .ok (.iload_n 3, 1) := by decide +kernel
theorem dX12_chosenAt_14 : decode cX12_chosenAt 14 = .ok (.iload_n 1, 1) := by decide +kernel
theorem dX12_chosenAt_15 : decode cX12_chosenAt 15 = .ok (.invokevirtual 273, 3) := by decide +kernel
theorem dX12_chosenAt_18 : decode cX12_chosenAt 18 = .ok (.ifCond .eq 115, 3) := by decide +kernel
theorem dX12_chosenAt_21 : decode cX12_chosenAt 21 = .ok (.iload_n 2, 1) := by decide +kernel
theorem dX12_chosenAt_22 : decode cX12_chosenAt 22 = .ok (.iconst (-1), 1) := by decide +kernel
theorem dX12_chosenAt_23 : decode cX12_chosenAt 23 = .ok (.if_icmp .ne 7, 3) := by decide +kernel
theorem dX12_chosenAt_26 : decode cX12_chosenAt 26 = .ok (.iconst 1, 1) := by decide +kernel
theorem dX12_chosenAt_27 : decode cX12_chosenAt 27 = .ok (.goto 4, 3) := by decide +kernel
theorem dX12_chosenAt_30 : decode cX12_chosenAt 30 = .ok (.iconst 0, 1) := by decide +kernel
theorem dX12_chosenAt_31 : decode cX12_chosenAt 31 = .ok (.istore 4, 2) := by decide +kernel
theorem dX12_chosenAt_33 : decode cX12_chosenAt 33 = .ok (.iload 4, 2) := by decide +kernel
theorem dX12_chosenAt_35 : decode cX12_chosenAt 35 = .ok (.ifCond .ne 35, 3) := by decide +kernel
theorem dX12_chosenAt_38 : decode cX12_chosenAt 38 = .ok (.aload_n 0, 1) := by decide +kernel
theorem dX12_chosenAt_39 : decode cX12_chosenAt 39 = .ok (.getfield 26, 3) := by decide +kernel
theorem dX12_chosenAt_42 : decode cX12_chosenAt 42 = .ok (.iload_n 1, 1) := by decide +kernel
theorem dX12_chosenAt_43 : decode cX12_chosenAt 43 = .ok (.iaload, 1) := by decide +kernel
theorem dX12_chosenAt_44 : decode cX12_chosenAt 44 = .ok (.iconst 1, 1) := by decide +kernel
theorem dX12_chosenAt_45 : decode cX12_chosenAt 45 = .ok (.if_icmp .ne 25, 3) := by decide +kernel
theorem dX12_chosenAt_48 : decode cX12_chosenAt 48 = .ok (.aload_n 0, 1) := by decide +kernel
theorem dX12_chosenAt_49 : decode cX12_chosenAt 49 = .ok (.getfield 62, 3) := by decide +kernel
theorem dX12_chosenAt_52 : decode cX12_chosenAt 52 = .ok (.iload_n 3, 1) := by decide +kernel
theorem dX12_chosenAt_53 : decode cX12_chosenAt 53 = .ok (.iaload, 1) := by decide +kernel
theorem dX12_chosenAt_54 : decode cX12_chosenAt 54 = .ok (.aload_n 0, 1) := by decide +kernel
theorem dX12_chosenAt_55 : decode cX12_chosenAt 55 = .ok (.getfield 62, 3) := by decide +kernel
theorem dX12_chosenAt_58 : decode cX12_chosenAt 58 = .ok (.iload_n 2, 1) := by decide +kernel
theorem dX12_chosenAt_59 : decode cX12_chosenAt 59 = .ok (.iaload, 1) := by decide +kernel
theorem dX12_chosenAt_60 : decode cX12_chosenAt 60 = .ok (.if_icmp .le 7, 3) := by decide +kernel
theorem dX12_chosenAt_63 : decode cX12_chosenAt 63 = .ok (.iconst 1, 1) := by decide +kernel
theorem dX12_chosenAt_64 : decode cX12_chosenAt 64 = .ok (.goto 4, 3) := by decide +kernel
theorem dX12_chosenAt_67 : decode cX12_chosenAt 67 = .ok (.iconst 0, 1) := by decide +kernel
theorem dX12_chosenAt_68 : decode cX12_chosenAt 68 = .ok (.istore 4, 2) := by decide +kernel
theorem dX12_chosenAt_70 : decode cX12_chosenAt 70 = .ok (.iload 4, 2) := by decide +kernel
theorem dX12_chosenAt_72 : decode cX12_chosenAt 72 = .ok (.ifCond .ne 50, 3) := by decide +kernel
theorem dX12_chosenAt_75 : decode cX12_chosenAt 75 = .ok (.aload_n 0, 1) := by decide +kernel
theorem dX12_chosenAt_76 : decode cX12_chosenAt 76 = .ok (.getfield 26, 3) := by decide +kernel
theorem dX12_chosenAt_79 : decode cX12_chosenAt 79 = .ok (.iload_n 1, 1) := by decide +kernel
theorem dX12_chosenAt_80 : decode cX12_chosenAt 80 = .ok (.iaload, 1) := by decide +kernel
theorem dX12_chosenAt_81 : decode cX12_chosenAt 81 = .ok (.iconst 2, 1) := by decide +kernel
theorem dX12_chosenAt_82 : decode cX12_chosenAt 82 = .ok (.if_icmp .ne 40, 3) := by decide +kernel
theorem dX12_chosenAt_85 : decode cX12_chosenAt 85 = .ok (.aload_n 0, 1) := by decide +kernel
theorem dX12_chosenAt_86 : decode cX12_chosenAt 86 = .ok (.iload_n 3, 1) := by decide +kernel
theorem dX12_chosenAt_87 : decode cX12_chosenAt 87 = .ok (.iload_n 1, 1) := by decide +kernel
theorem dX12_chosenAt_88 : decode cX12_chosenAt 88 = .ok (.invokevirtual 277, 3) := by decide +kernel
theorem dX12_chosenAt_91 : decode cX12_chosenAt 91 = .ok (.aload_n 0, 1) := by decide +kernel
theorem dX12_chosenAt_92 : decode cX12_chosenAt 92 = .ok (.getfield 29, 3) := by decide +kernel
theorem dX12_chosenAt_95 : decode cX12_chosenAt 95 = .ok (.iload_n 1, 1) := by decide +kernel
theorem dX12_chosenAt_96 : decode cX12_chosenAt 96 = .ok (.baload, 1) := by decide +kernel
theorem dX12_chosenAt_97 : decode cX12_chosenAt 97 = .ok (.if_icmp .eq 22, 3) := by decide +kernel
theorem dX12_chosenAt_100 : decode cX12_chosenAt 100 = .ok (.aload_n 0, 1) := by decide +kernel
theorem dX12_chosenAt_101 : decode cX12_chosenAt 101 = .ok (.iload_n 2, 1) := by decide +kernel
theorem dX12_chosenAt_102 : decode cX12_chosenAt 102 = .ok (.iload_n 1, 1) := by decide +kernel
theorem dX12_chosenAt_103 : decode cX12_chosenAt 103 = .ok (.invokevirtual 277, 3) := by decide +kernel
theorem dX12_chosenAt_106 : decode cX12_chosenAt 106 = .ok (.aload_n 0, 1) := by decide +kernel
theorem dX12_chosenAt_107 : decode cX12_chosenAt 107 = .ok (.getfield 29, 3) := by decide +kernel
theorem dX12_chosenAt_110 : decode cX12_chosenAt 110 = .ok (.iload_n 1, 1) := by decide +kernel
theorem dX12_chosenAt_111 : decode cX12_chosenAt 111 = .ok (.baload, 1) := by decide +kernel
theorem dX12_chosenAt_112 : decode cX12_chosenAt 112 = .ok (.if_icmp .ne 7, 3) := by decide +kernel
theorem dX12_chosenAt_115 : decode cX12_chosenAt 115 = .ok (.iconst 1, 1) := by decide +kernel
theorem dX12_chosenAt_116 : decode cX12_chosenAt 116 = .ok (.goto 4, 3) := by decide +kernel
theorem dX12_chosenAt_119 : decode cX12_chosenAt 119 = .ok (.iconst 0, 1) := by decide +kernel
theorem dX12_chosenAt_120 : decode cX12_chosenAt 120 = .ok (.istore 4, 2) := by decide +kernel
theorem dX12_chosenAt_122 : decode cX12_chosenAt 122 = .ok (.iload 4, 2) := by decide +kernel
theorem dX12_chosenAt_124 : decode cX12_chosenAt 124 = .ok (.ifCond .eq 7, 3) := by decide +kernel
theorem dX12_chosenAt_127 : decode cX12_chosenAt 127 = .ok (.iload_n 3, 1) := by decide +kernel
theorem dX12_chosenAt_128 : decode cX12_chosenAt 128 = .ok (.goto 4, 3) := by decide +kernel
theorem dX12_chosenAt_131 : decode cX12_chosenAt 131 = .ok (.iload_n 2, 1) := by decide +kernel
theorem dX12_chosenAt_132 : decode cX12_chosenAt 132 = .ok (.istore_n 2, 1) := by decide +kernel
theorem dX12_chosenAt_133 : decode cX12_chosenAt 133 = .ok (.iinc 3 1, 3) := by decide +kernel
theorem dX12_chosenAt_136 : decode cX12_chosenAt 136 = .ok (.goto (-132), 3) := by decide +kernel
theorem dX12_chosenAt_139 : decode cX12_chosenAt 139 = .ok (.iload_n 2, 1) := by decide +kernel
theorem dX12_chosenAt_140 : decode cX12_chosenAt 140 = .ok (.ireturn, 1) := by decide +kernel
theorem dX12_empty_0 : decode cX12_empty 0 = .ok (.aload_n 0, 1) := by decide +kernel
theorem dX12_empty_1 : decode cX12_empty 1 = .ok (.getfield 22, 3) := by decide +kernel
theorem dX12_empty_4 : decode cX12_empty 4 = .ok (.iload_n 1, 1) := by decide +kernel
theorem dX12_empty_5 : decode cX12_empty 5 = .ok (.baload, 1) := by decide +kernel
theorem dX12_empty_6 : decode cX12_empty 6 = .ok (.ifCond .eq 21, 3) := by decide +kernel
theorem dX12_empty_9 : decode cX12_empty 9 = .ok (.aload_n 0, 1) := by decide +kernel
theorem dX12_empty_10 : decode cX12_empty 10 = .ok (.getfield 19, 3) := by decide +kernel
theorem dX12_empty_13 : decode cX12_empty 13 = .ok (.iload_n 1, 1) := by decide +kernel
theorem dX12_empty_14 : decode cX12_empty 14 = .ok (.iaload, 1) := by decide +kernel
theorem dX12_empty_15 : decode cX12_empty 15 = .ok (.iconst 2, 1) := by decide +kernel
theorem dX12_empty_16 : decode cX12_empty 16 = .ok (.idiv, 1) := by decide +kernel
theorem dX12_empty_17 : decode cX12_empty 17 = .ok (.aload_n 0, 1) := by decide +kernel
theorem dX12_empty_18 : decode cX12_empty 18 = .ok (.getfield 32, 3) := by decide +kernel
theorem dX12_empty_21 : decode cX12_empty 21 = .ok (.iload_n 1, 1) := by decide +kernel
theorem dX12_empty_22 : decode cX12_empty 22 = .ok (.iaload, 1) := by decide +kernel
theorem dX12_empty_23 : decode cX12_empty 23 = .ok (.isub, 1) := by decide +kernel
theorem dX12_empty_24 : decode cX12_empty 24 = .ok (.goto 4, 3) := by decide +kernel
theorem dX12_empty_27 : decode cX12_empty 27 = .ok (.iconst 0, 1) := by decide +kernel
theorem dX12_empty_28 : decode cX12_empty 28 = .ok (.istore_n 2, 1) := by decide +kernel
theorem dX12_empty_29 : decode cX12_empty 29 = .ok (.aload_n 0, 1) := by decide +kernel
theorem dX12_empty_30 : decode cX12_empty 30 = .ok (.getfield 32, 3) := by decide +kernel
theorem dX12_empty_33 : decode cX12_empty 33 = .ok (.iload_n 1, 1) := by decide +kernel
theorem dX12_empty_34 : decode cX12_empty 34 = .ok (.dup2, 1) := by decide +kernel
theorem dX12_empty_35 : decode cX12_empty 35 = .ok (.iaload, 1) := by decide +kernel
theorem dX12_empty_36 : decode cX12_empty 36 = .ok (.iload_n 2, 1) := by decide +kernel
theorem dX12_empty_37 : decode cX12_empty 37 = .ok (.iadd, 1) := by decide +kernel
theorem dX12_empty_38 : decode cX12_empty 38 = .ok (.iastore, 1) := by decide +kernel
theorem dX12_empty_39 : decode cX12_empty 39 = .ok (.aload_n 0, 1) := by decide +kernel
theorem dX12_empty_40 : decode cX12_empty 40 = .ok (.getfield 29, 3) := by decide +kernel
theorem dX12_empty_43 : decode cX12_empty 43 = .ok (.iload_n 1, 1) := by decide +kernel
theorem dX12_empty_44 : decode cX12_empty 44 = .ok (.iconst 0, 1) := by decide +kernel
theorem dX12_empty_45 : decode cX12_empty 45 = .ok (.bastore, 1) := by decide +kernel
theorem dX12_empty_46 : decode cX12_empty 46 = .ok (.aload_n 0, 1) := by decide +kernel
theorem dX12_empty_47 : decode cX12_empty 47 = .ok (.aload_n 0, 1) := by decide +kernel
theorem dX12_empty_48 : decode cX12_empty 48 = .ok (.iload_n 1, 1) := by decide +kernel
theorem dX12_empty_49 : decode cX12_empty 49 = .ok (.invokevirtual 270, 3) := by decide +kernel
theorem dX12_empty_52 : decode cX12_empty 52 = .ok (.iload_n 1, 1) := by decide +kernel
theorem dX12_empty_53 : decode cX12_empty 53 = .ok (.if_icmp .ne 9, 3) := by decide +kernel
theorem dX12_empty_56 : decode cX12_empty 56 = .ok (.iload_n 1, 1) := by decide +kernel
theorem dX12_empty_57 : decode cX12_empty 57 = .ok (.iconst 1, 1) := by decide +kernel
theorem dX12_empty_58 : decode cX12_empty 58 = .ok (.iadd, 1) := by decide +kernel
theorem dX12_empty_59 : decode cX12_empty 59 = .ok (.goto 4, 3) := by decide +kernel
theorem dX12_empty_62 : decode cX12_empty 62 = .ok (.iload_n 1, 1) := by decide +kernel
theorem dX12_empty_63 : decode cX12_empty 63 = .ok (.aload_n 0, 1) := by decide +kernel
theorem dX12_empty_64 : decode cX12_empty 64 = .ok (.getfield 19, 3) := by decide +kernel
theorem dX12_empty_67 : decode cX12_empty 67 = .ok (.iload_n 1, 1) := by decide +kernel
theorem dX12_empty_68 : decode cX12_empty 68 = .ok (.iaload, 1) := by decide +kernel
theorem dX12_empty_69 : decode cX12_empty 69 = .ok (.iload_n 2, 1) := by decide +kernel
theorem dX12_empty_70 : decode cX12_empty 70 = .ok (.isub, 1) := by decide +kernel
theorem dX12_empty_71 : decode cX12_empty 71 = .ok (.invokevirtual 249, 3) := by decide +kernel
theorem dX12_empty_74 : decode cX12_empty 74 = .ok (.return_, 1) := by decide +kernel
theorem dX12_fill_0 : decode cX12_fill 0 = .ok (.aload_n 0, 1) := by decide +kernel
theorem dX12_fill_1 : decode cX12_fill 1 = .ok (.getfield 32, 3) := by decide +kernel
theorem dX12_fill_4 : decode cX12_fill 4 = .ok (.iload_n 1, 1) := by decide +kernel
theorem dX12_fill_5 : decode cX12_fill 5 = .ok (.iaload, 1) := by decide +kernel
theorem dX12_fill_6 : decode cX12_fill 6 = .ok (.aload_n 0, 1) := by decide +kernel
theorem dX12_fill_7 : decode cX12_fill 7 = .ok (.getfield 19, 3) := by decide +kernel
theorem dX12_fill_10 : decode cX12_fill 10 = .ok (.iload_n 1, 1) := by decide +kernel
theorem dX12_fill_11 : decode cX12_fill 11 = .ok (.iaload, 1) := by decide +kernel
theorem dX12_fill_12 : decode cX12_fill 12 = .ok (.invokestatic 243, 3) := by decide +kernel
theorem dX12_fill_15 : decode cX12_fill 15 = .ok (.istore_n 2, 1) := by decide +kernel
theorem dX12_fill_16 : decode cX12_fill 16 = .ok (.aload_n 0, 1) := by decide +kernel
theorem dX12_fill_17 : decode cX12_fill 17 = .ok (.getfield 32, 3) := by decide +kernel
theorem dX12_fill_20 : decode cX12_fill 20 = .ok (.iload_n 1, 1) := by decide +kernel
theorem dX12_fill_21 : decode cX12_fill 21 = .ok (.dup2, 1) := by decide +kernel
theorem dX12_fill_22 : decode cX12_fill 22 = .ok (.iaload, 1) := by decide +kernel
theorem dX12_fill_23 : decode cX12_fill 23 = .ok (.iload_n 2, 1) := by decide +kernel
theorem dX12_fill_24 : decode cX12_fill 24 = .ok (.isub, 1) := by decide +kernel
theorem dX12_fill_25 : decode cX12_fill 25 = .ok (.iastore, 1) := by decide +kernel
theorem dX12_fill_26 : decode cX12_fill 26 = .ok (.aload_n 0, 1) := by decide +kernel
theorem dX12_fill_27 : decode cX12_fill 27 = .ok (.getfield 7, 3) := by decide +kernel
theorem dX12_fill_30 : decode cX12_fill 30 = .ok (.aload_n 0, 1) := by decide +kernel
theorem dX12_fill_31 : decode cX12_fill 31 = .ok (.iload_n 1, 1) := by decide +kernel
theorem dX12_fill_32 : decode cX12_fill 32 = .ok (.invokevirtual 270, 3) := by decide +kernel
theorem dX12_fill_35 : decode cX12_fill 35 = .ok (.dup2, 1) := by decide +kernel
theorem dX12_fill_36 : decode cX12_fill 36 = .ok (.iaload, 1) := by decide +kernel
theorem dX12_fill_37 : decode cX12_fill 37 = .ok (.aload_n 0, 1) := by decide +kernel
theorem dX12_fill_38 : decode cX12_fill 38 = .ok (.getfield 19, 3) := by decide +kernel
theorem dX12_fill_41 : decode cX12_fill 41 = .ok (.iload_n 1, 1) := by decide +kernel
theorem dX12_fill_42 : decode cX12_fill 42 = .ok (.iaload, 1) := by decide +kernel
theorem dX12_fill_43 : decode cX12_fill 43 = .ok (.iload_n 2, 1) := by decide +kernel
theorem dX12_fill_44 : decode cX12_fill 44 = .ok (.isub, 1) := by decide +kernel
theorem dX12_fill_45 : decode cX12_fill 45 = .ok (.isub, 1) := by decide +kernel
theorem dX12_fill_46 : decode cX12_fill 46 = .ok (.iastore, 1) := by decide +kernel
theorem dX12_fill_47 : decode cX12_fill 47 = .ok (.aload_n 0, 1) := by decide +kernel
theorem dX12_fill_48 : decode cX12_fill 48 = .ok (.getfield 29, 3) := by decide +kernel
theorem dX12_fill_51 : decode cX12_fill 51 = .ok (.iload_n 1, 1) := by decide +kernel
theorem dX12_fill_52 : decode cX12_fill 52 = .ok (.iconst 1, 1) := by decide +kernel
theorem dX12_fill_53 : decode cX12_fill 53 = .ok (.bastore, 1) := by decide +kernel
theorem dX12_fill_54 : decode cX12_fill 54 = .ok (.aload_n 0, 1) := by decide +kernel
theorem dX12_fill_55 : decode cX12_fill 55 = .ok (.getfield 38, 3) := by decide +kernel
theorem dX12_fill_58 : decode cX12_fill 58 = .ok (.iload_n 1, 1) := by decide +kernel
theorem dX12_fill_59 : decode cX12_fill 59 = .ok (.dup2, 1) := by decide +kernel
theorem dX12_fill_60 : decode cX12_fill 60 = .ok (.iaload, 1) := by decide +kernel
theorem dX12_fill_61 : decode cX12_fill 61 = .ok (.iconst 1, 1) := by decide +kernel
theorem dX12_fill_62 : decode cX12_fill 62 = .ok (.iadd, 1) := by decide +kernel
theorem dX12_fill_63 : decode cX12_fill 63 = .ok (.iastore, 1) := by decide +kernel
theorem dX12_fill_64 : decode cX12_fill 64 = .ok (.return_, 1) := by decide +kernel
theorem dX12_needs_0 : decode cX12_needs 0 = .ok (.iload_n 2, 1) := by decide +kernel
theorem dX12_needs_1 : decode cX12_needs 1 = .ok (.ifCond .ne 14, 3) := by decide +kernel
theorem dX12_needs_4 : decode cX12_needs 4 = .ok (.aload_n 0, 1) := by decide +kernel
theorem dX12_needs_5 : decode cX12_needs 5 = .ok (.getfield 29, 3) := by decide +kernel
theorem dX12_needs_8 : decode cX12_needs 8 = .ok (.iload_n 1, 1) := by decide +kernel
theorem dX12_needs_9 : decode cX12_needs 9 = .ok (.baload, 1) := by decide +kernel
theorem dX12_needs_10 : decode cX12_needs 10 = .ok (.ifCond .eq 5, 3) := by decide +kernel
theorem dX12_needs_13 : decode cX12_needs 13 = .ok (.iconst 0, 1) := by decide +kernel
theorem dX12_needs_14 : decode cX12_needs 14 = .ok (.ireturn, 1) := by decide +kernel
theorem dX12_needs_15 : decode cX12_needs 15 = .ok (.iload_n 2, 1) := by decide +kernel
theorem dX12_needs_16 : decode cX12_needs 16 = .ok (.ifCond .eq 32, 3) := by decide +kernel
theorem dX12_needs_19 : decode cX12_needs 19 = .ok (.aload_n 0, 1) := by decide +kernel
theorem dX12_needs_20 : decode cX12_needs 20 = .ok (.getfield 29, 3) := by decide +kernel
theorem dX12_needs_23 : decode cX12_needs 23 = .ok (.iload_n 1, 1) := by decide +kernel
theorem dX12_needs_24 : decode cX12_needs 24 = .ok (.baload, 1) := by decide +kernel
theorem dX12_needs_25 : decode cX12_needs 25 = .ok (.ifCond .eq 23, 3) := by decide +kernel
theorem dX12_needs_28 : decode cX12_needs 28 = .ok (.aload_n 0, 1) := by decide +kernel
theorem dX12_needs_29 : decode cX12_needs 29 = .ok (.getfield 22, 3) := by decide +kernel
theorem dX12_needs_32 : decode cX12_needs 32 = .ok (.iload_n 1, 1) := by decide +kernel
theorem dX12_needs_33 : decode cX12_needs 33 = .ok (.baload, 1) := by decide +kernel
theorem dX12_needs_34 : decode cX12_needs 34 = .ok (.ifCond .eq 14, 3) := by decide +kernel
theorem dX12_needs_37 : decode cX12_needs 37 = .ok (.aload_n 0, 1) := by decide +kernel
theorem dX12_needs_38 : decode cX12_needs 38 = .ok (.getfield 19, 3) := by decide +kernel
theorem dX12_needs_41 : decode cX12_needs 41 = .ok (.iload_n 1, 1) := by decide +kernel
theorem dX12_needs_42 : decode cX12_needs 42 = .ok (.iaload, 1) := by decide +kernel
theorem dX12_needs_43 : decode cX12_needs 43 = .ok (.iconst 2, 1) := by decide +kernel
theorem dX12_needs_44 : decode cX12_needs 44 = .ok (.idiv, 1) := by decide +kernel
theorem dX12_needs_45 : decode cX12_needs 45 = .ok (.goto 9, 3) := by decide +kernel
theorem dX12_needs_48 : decode cX12_needs 48 = .ok (.aload_n 0, 1) := by decide +kernel
theorem dX12_needs_49 : decode cX12_needs 49 = .ok (.getfield 32, 3) := by decide +kernel
theorem dX12_needs_52 : decode cX12_needs 52 = .ok (.iload_n 1, 1) := by decide +kernel
theorem dX12_needs_53 : decode cX12_needs 53 = .ok (.iaload, 1) := by decide +kernel
theorem dX12_needs_54 : decode cX12_needs 54 = .ok (.istore_n 3, 1) := by decide +kernel
theorem dX12_needs_55 : decode cX12_needs 55 = .ok (.aload_n 0, 1) := by decide +kernel
theorem dX12_needs_56 : decode cX12_needs 56 = .ok (.getfield 19, 3) := by decide +kernel
theorem dX12_needs_59 : decode cX12_needs 59 = .ok (.iload_n 1, 1) := by decide +kernel
theorem dX12_needs_60 : decode cX12_needs 60 = .ok (.iaload, 1) := by decide +kernel
theorem dX12_needs_61 : decode cX12_needs 61 = .ok (.iload_n 3, 1) := by decide +kernel
theorem dX12_needs_62 : decode cX12_needs 62 = .ok (.aload_n 0, 1) := by decide +kernel
theorem dX12_needs_63 : decode cX12_needs 63 = .ok (.getfield 19, 3) := by decide +kernel
theorem dX12_needs_66 : decode cX12_needs 66 = .ok (.iload_n 1, 1) := by decide +kernel
theorem dX12_needs_67 : decode cX12_needs 67 = .ok (.iaload, 1) := by decide +kernel
theorem dX12_needs_68 : decode cX12_needs 68 = .ok (.invokestatic 243, 3) := by decide +kernel
theorem dX12_needs_71 : decode cX12_needs 71 = .ok (.isub, 1) := by decide +kernel
theorem dX12_needs_72 : decode cX12_needs 72 = .ok (.ireturn, 1) := by decide +kernel
theorem dX12_goThrough_0 : decode cX12_goThrough 0 = .ok (.aload_n 0, 1) := by decide +kernel
theorem dX12_goThrough_1 : decode cX12_goThrough 1 = .ok (.iload_n 1, 1) := by decide +kernel
theorem dX12_goThrough_2 : decode cX12_goThrough 2 = .ok (.invokevirtual 280, 3) := by decide +kernel
theorem dX12_goThrough_5 : decode cX12_goThrough 5 = .ok (.istore_n 2, 1) := by decide +kernel
theorem dX12_goThrough_6 : decode cX12_goThrough 6 = .ok (.iload_n 2, 1) := by decide +kernel
theorem dX12_goThrough_7 : decode cX12_goThrough 7 = .ok (.iconst (-1), 1) := by decide +kernel
theorem dX12_goThrough_8 : decode cX12_goThrough 8 = .ok (.if_icmp .ne 5, 3) := by decide +kernel
theorem dX12_goThrough_11 : decode cX12_goThrough 11 = .ok (.iconst 0, 1) := by decide +kernel
theorem dX12_goThrough_12 : decode cX12_goThrough 12 = .ok (.ireturn, 1) := by decide +kernel
theorem dX12_goThrough_13 : decode cX12_goThrough 13 = .ok (.aload_n 0, 1) := by decide +kernel
theorem dX12_goThrough_14 : decode cX12_goThrough 14 = .ok (.iload_n 2, 1) := by decide +kernel
theorem dX12_goThrough_15 : decode cX12_goThrough 15 = .ok (.iload_n 1, 1) := by decide +kernel
theorem dX12_goThrough_16 : decode cX12_goThrough 16 = .ok (.invokevirtual 277, 3) := by decide +kernel
theorem dX12_goThrough_19 : decode cX12_goThrough 19 = .ok (.istore_n 3, 1) := by decide +kernel
theorem dX12_goThrough_20 : decode cX12_goThrough 20 = .ok (.aload_n 0, 1) := by decide +kernel
theorem dX12_goThrough_21 : decode cX12_goThrough 21 = .ok (.getfield 74, 3) := by decide +kernel
theorem dX12_goThrough_24 : decode cX12_goThrough 24 = .ok (.iload_n 2, 1) := by decide +kernel
theorem dX12_goThrough_25 : decode cX12_goThrough 25 = .ok (.iaload, 1) := by decide +kernel
theorem dX12_goThrough_26 : decode cX12_goThrough 26 = .ok (.iload_n 1, 1) := by decide +kernel
theorem dX12_goThrough_27 : decode cX12_goThrough 27 = .ok (.if_icmp .ne 9, 3) := by decide +kernel
theorem dX12_goThrough_30 : decode cX12_goThrough 30 = .ok (.iload_n 1, 1) := by decide +kernel
theorem dX12_goThrough_31 : decode cX12_goThrough 31 = .ok (.iconst 1, 1) := by decide +kernel
theorem dX12_goThrough_32 : decode cX12_goThrough 32 = .ok (.iadd, 1) := by decide +kernel
theorem dX12_goThrough_33 : decode cX12_goThrough 33 = .ok (.goto 4, 3) := by decide +kernel
theorem dX12_goThrough_36 : decode cX12_goThrough 36 = .ok (.iload_n 1, 1) := by decide +kernel
theorem dX12_goThrough_37 : decode cX12_goThrough 37 = .ok (.istore 4, 2) := by decide +kernel
theorem dX12_goThrough_39 : decode cX12_goThrough 39 = .ok (.aload_n 0, 1) := by decide +kernel
theorem dX12_goThrough_40 : decode cX12_goThrough 40 = .ok (.getfield 7, 3) := by decide +kernel
theorem dX12_goThrough_43 : decode cX12_goThrough 43 = .ok (.aload_n 0, 1) := by decide +kernel
theorem dX12_goThrough_44 : decode cX12_goThrough 44 = .ok (.iload_n 1, 1) := by decide +kernel
theorem dX12_goThrough_45 : decode cX12_goThrough 45 = .ok (.invokevirtual 270, 3) := by decide +kernel
theorem dX12_goThrough_48 : decode cX12_goThrough 48 = .ok (.iaload, 1) := by decide +kernel
theorem dX12_goThrough_49 : decode cX12_goThrough 49 = .ok (.aload_n 0, 1) := by decide +kernel
theorem dX12_goThrough_50 : decode cX12_goThrough 50 = .ok (.iload_n 1, 1) := by decide +kernel
theorem dX12_goThrough_51 : decode cX12_goThrough 51 = .ok (.iload_n 3, 1) := by decide +kernel
theorem dX12_goThrough_52 : decode cX12_goThrough 52 = .ok (.invokevirtual 283, 3) := by decide +kernel
theorem dX12_goThrough_55 : decode cX12_goThrough 55 = .ok (.if_icmp .lt 29, 3) := by decide +kernel
theorem dX12_goThrough_58 : decode cX12_goThrough 58 = .ok (.aload_n 0, 1) := by decide +kernel
theorem dX12_goThrough_59 : decode cX12_goThrough 59 = .ok (.getfield 7, 3) := by decide +kernel
theorem dX12_goThrough_62 : decode cX12_goThrough 62 = .ok (.iload 4, 2) := by decide +kernel
theorem dX12_goThrough_64 : decode cX12_goThrough 64 = .ok (.iaload, 1) := by decide +kernel
theorem dX12_goThrough_65 : decode cX12_goThrough 65 = .ok (.aload_n 0, 1) := by decide +kernel
theorem dX12_goThrough_66 : decode cX12_goThrough 66 = .ok (.getfield 16, 3) := by decide +kernel
theorem dX12_goThrough_69 : decode cX12_goThrough 69 = .ok (.iload 4, 2) := by decide +kernel
theorem dX12_goThrough_71 : decode cX12_goThrough 71 = .ok (.iaload, 1) := by decide +kernel
theorem dX12_goThrough_72 : decode cX12_goThrough 72 = .ok (.iconst 5, 1) := by decide +kernel
theorem dX12_goThrough_73 : decode cX12_goThrough 73 = .ok (.aload_n 0, 1) := by decide +kernel
theorem dX12_goThrough_74 : decode cX12_goThrough 74 = .ok (.getfield 62, 3) := by decide +kernel
theorem dX12_goThrough_77 : decode cX12_goThrough 77 = .ok (.iload_n 2, 1) := by decide +kernel
theorem dX12_goThrough_78 : decode cX12_goThrough 78 = .ok (.iaload, 1) := by decide +kernel
theorem dX12_goThrough_79 : decode cX12_goThrough 79 = .ok (.imul, 1) := by decide +kernel
theorem dX12_goThrough_80 : decode cX12_goThrough 80 = .ok (.iadd, 1) := by decide +kernel
theorem dX12_goThrough_81 : decode cX12_goThrough 81 = .ok (.if_icmp .ge 5, 3) := by decide +kernel
theorem dX12_goThrough_84 : decode cX12_goThrough 84 = .ok (.iconst 0, 1) := by decide +kernel
theorem dX12_goThrough_85 : decode cX12_goThrough 85 = .ok (.ireturn, 1) := by decide +kernel
theorem dX12_goThrough_86 : decode cX12_goThrough 86 = .ok (.iload_n 3, 1) := by decide +kernel
theorem dX12_goThrough_87 : decode cX12_goThrough 87 = .ok (.ifCond .eq 25, 3) := by decide +kernel
theorem dX12_goThrough_90 : decode cX12_goThrough 90 = .ok (.aload_n 0, 1) := by decide +kernel
theorem dX12_goThrough_91 : decode cX12_goThrough 91 = .ok (.getfield 29, 3) := by decide +kernel
theorem dX12_goThrough_94 : decode cX12_goThrough 94 = .ok (.iload_n 1, 1) := by decide +kernel
theorem dX12_goThrough_95 : decode cX12_goThrough 95 = .ok (.baload, 1) := by decide +kernel
theorem dX12_goThrough_96 : decode cX12_goThrough 96 = .ok (.ifCond .eq 8, 3) := by decide +kernel
theorem dX12_goThrough_99 : decode cX12_goThrough 99 = .ok (.aload_n 0, 1) := by decide +kernel
theorem dX12_goThrough_100 : decode cX12_goThrough 100 = .ok (.iload_n 1, 1) := by decide +kernel
theorem dX12_goThrough_101 : decode cX12_goThrough 101 = .ok (.invokevirtual 287, 3) := by decide +kernel
theorem dX12_goThrough_104 : decode cX12_goThrough 104 = .ok (.aload_n 0, 1) := by decide +kernel
theorem dX12_goThrough_105 : decode cX12_goThrough 105 = .ok (.iload_n 1, 1) := by decide +kernel
theorem dX12_goThrough_106 : decode cX12_goThrough 106 = .ok (.invokevirtual 291, 3) := by decide +kernel
theorem dX12_goThrough_109 : decode cX12_goThrough 109 = .ok (.goto 22, 3) := by decide +kernel
theorem dX12_goThrough_112 : decode cX12_goThrough 112 = .ok (.aload_n 0, 1) := by decide +kernel
theorem dX12_goThrough_113 : decode cX12_goThrough 113 = .ok (.getfield 29, 3) := by decide +kernel
theorem dX12_goThrough_116 : decode cX12_goThrough 116 = .ok (.iload_n 1, 1) := by decide +kernel
theorem dX12_goThrough_117 : decode cX12_goThrough 117 = .ok (.baload, 1) := by decide +kernel
theorem dX12_goThrough_118 : decode cX12_goThrough 118 = .ok (.ifCond .ne 8, 3) := by decide +kernel
theorem dX12_goThrough_121 : decode cX12_goThrough 121 = .ok (.aload_n 0, 1) := by decide +kernel
theorem dX12_goThrough_122 : decode cX12_goThrough 122 = .ok (.iload_n 1, 1) := by decide +kernel
theorem dX12_goThrough_123 : decode cX12_goThrough 123 = .ok (.invokevirtual 291, 3) := by decide +kernel
theorem dX12_goThrough_126 : decode cX12_goThrough 126 = .ok (.aload_n 0, 1) := by decide +kernel
theorem dX12_goThrough_127 : decode cX12_goThrough 127 = .ok (.iload_n 1, 1) := by decide +kernel
theorem dX12_goThrough_128 : decode cX12_goThrough 128 = .ok (.invokevirtual 287, 3) := by decide +kernel
theorem dX12_goThrough_131 : decode cX12_goThrough 131 = .ok (.aload_n 0, 1) := by decide +kernel
theorem dX12_goThrough_132 : decode cX12_goThrough 132 = .ok (.getfield 74, 3) := by decide +kernel
theorem dX12_goThrough_135 : decode cX12_goThrough 135 = .ok (.iload_n 2, 1) := by decide +kernel
theorem dX12_goThrough_136 : decode cX12_goThrough 136 = .ok (.iload 4, 2) := by decide +kernel
theorem dX12_goThrough_138 : decode cX12_goThrough 138 = .ok (.iastore, 1) := by decide +kernel
theorem dX12_goThrough_139 : decode cX12_goThrough 139 = .ok (.aload_n 0, 1) := by decide +kernel
theorem dX12_goThrough_140 : decode cX12_goThrough 140 = .ok (.getfield 77, 3) := by decide +kernel
theorem dX12_goThrough_143 : decode cX12_goThrough 143 = .ok (.iload_n 2, 1) := by decide +kernel
theorem dX12_goThrough_144 : decode cX12_goThrough 144 = .ok (.iload 4, 2) := by decide +kernel
theorem dX12_goThrough_146 : decode cX12_goThrough 146 = .ok (.aload_n 0, 1) := by decide +kernel
theorem dX12_goThrough_147 : decode cX12_goThrough 147 = .ok (.getfield 59, 3) := by decide +kernel
theorem dX12_goThrough_150 : decode cX12_goThrough 150 = .ok (.iload_n 2, 1) := by decide +kernel
theorem dX12_goThrough_151 : decode cX12_goThrough 151 = .ok (.iaload, 1) := by decide +kernel
theorem dX12_goThrough_152 : decode cX12_goThrough 152 = .ok (.if_icmp .ne 7, 3) := by decide +kernel
theorem dX12_goThrough_155 : decode cX12_goThrough 155 = .ok (.iconst (-1), 1) := by decide +kernel
theorem dX12_goThrough_156 : decode cX12_goThrough 156 = .ok (.goto 14, 3) := by decide +kernel
theorem dX12_goThrough_159 : decode cX12_goThrough 159 = .ok (.aload_n 0, 1) := by decide +kernel
theorem dX12_goThrough_160 : decode cX12_goThrough 160 = .ok (.getfield 212, 3) := by decide +kernel
theorem dX12_goThrough_163 : decode cX12_goThrough 163 = .ok (.aload_n 0, 1) := by decide +kernel
theorem dX12_goThrough_164 : decode cX12_goThrough 164 = .ok (.getfield 65, 3) := by decide +kernel
theorem dX12_goThrough_167 : decode cX12_goThrough 167 = .ok (.iload_n 2, 1) := by decide +kernel
theorem dX12_goThrough_168 : decode cX12_goThrough 168 = .ok (.iaload, 1) := by decide +kernel
theorem dX12_goThrough_169 : decode cX12_goThrough 169 = .ok (.iadd, 1) := by decide +kernel
theorem dX12_goThrough_170 : decode cX12_goThrough 170 = .ok (.iastore, 1) := by decide +kernel
theorem dX12_goThrough_171 : decode cX12_goThrough 171 = .ok (.aload_n 0, 1) := by decide +kernel
theorem dX12_goThrough_172 : decode cX12_goThrough 172 = .ok (.getfield 83, 3) := by decide +kernel
theorem dX12_goThrough_175 : decode cX12_goThrough 175 = .ok (.iload_n 2, 1) := by decide +kernel
theorem dX12_goThrough_176 : decode cX12_goThrough 176 = .ok (.iconst 1, 1) := by decide +kernel
theorem dX12_goThrough_177 : decode cX12_goThrough 177 = .ok (.bastore, 1) := by decide +kernel
theorem dX12_goThrough_178 : decode cX12_goThrough 178 = .ok (.aload_n 0, 1) := by decide +kernel
theorem dX12_goThrough_179 : decode cX12_goThrough 179 = .ok (.getfield 35, 3) := by decide +kernel
theorem dX12_goThrough_182 : decode cX12_goThrough 182 = .ok (.iload_n 1, 1) := by decide +kernel
theorem dX12_goThrough_183 : decode cX12_goThrough 183 = .ok (.dup2, 1) := by decide +kernel
theorem dX12_goThrough_184 : decode cX12_goThrough 184 = .ok (.iaload, 1) := by decide +kernel
theorem dX12_goThrough_185 : decode cX12_goThrough 185 = .ok (.iconst 1, 1) := by decide +kernel
theorem dX12_goThrough_186 : decode cX12_goThrough 186 = .ok (.iadd, 1) := by decide +kernel
theorem dX12_goThrough_187 : decode cX12_goThrough 187 = .ok (.iastore, 1) := by decide +kernel
theorem dX12_goThrough_188 : decode cX12_goThrough 188 = .ok (.iconst 1, 1) := by decide +kernel
theorem dX12_goThrough_189 : decode cX12_goThrough 189 = .ok (.ireturn, 1) := by decide +kernel
theorem dX12_goHour_0 : decode cX12_goHour 0 = .ok (.iconst 0, 1) := by decide +kernel
theorem dX12_goHour_1 : decode cX12_goHour 1 = .ok (.istore_n 2, 1) := by decide +kernel
theorem dX12_goHour_2 : decode cX12_goHour 2 = .ok (.iload_n 2, 1) := by decide +kernel
theorem dX12_goHour_3 : decode cX12_goHour 3 = .ok (.bipush 8, 2) := by decide +kernel
theorem dX12_goHour_5 : decode cX12_goHour 5 = .ok (.if_icmp .ge 26, 3) := by decide +kernel
theorem dX12_goHour_8 : decode cX12_goHour 8 = .ok (.aload_n 0, 1) := by decide +kernel
theorem dX12_goHour_9 : decode cX12_goHour 9 = .ok (.dup, 1) := by decide +kernel
theorem dX12_goHour_10 : decode cX12_goHour 10 = .ok (.getfield 294, 3) := by decide +kernel
theorem dX12_goHour_13 : decode cX12_goHour 13 = .ok (.iload_n 1, 1) := by decide +kernel
theorem dX12_goHour_14 : decode cX12_goHour 14 = .ok (.i2l, 1) := by decide +kernel
theorem dX12_goHour_15 : decode cX12_goHour 15 = .ok (.ladd, 1) := by decide +kernel
theorem dX12_goHour_16 : decode cX12_goHour 16 = .ok (.putfield 294, 3) := by decide +kernel
theorem dX12_goHour_19 : decode cX12_goHour 19 = .ok (.aload_n 0, 1) := by decide +kernel
theorem dX12_goHour_20 : decode cX12_goHour 20 = .ok (.iload_n 2, 1) := by decide +kernel
theorem dX12_goHour_21 : decode cX12_goHour 21 = .ok (.iload_n 1, 1) := by decide +kernel
theorem dX12_goHour_22 : decode cX12_goHour 22 = .ok (.invokevirtual 249, 3) := by decide +kernel
theorem dX12_goHour_25 : decode cX12_goHour 25 = .ok (.iinc 2 1, 3) := by decide +kernel
theorem dX12_goHour_28 : decode cX12_goHour 28 = .ok (.goto (-26), 3) := by decide +kernel
theorem dX12_goHour_31 : decode cX12_goHour 31 = .ok (.aload_n 0, 1) := by decide +kernel
theorem dX12_goHour_32 : decode cX12_goHour 32 = .ok (.invokevirtual 297, 3) := by decide +kernel
theorem dX12_goHour_35 : decode cX12_goHour 35 = .ok (.iconst 0, 1) := by decide +kernel
theorem dX12_goHour_36 : decode cX12_goHour 36 = .ok (.istore_n 2, 1) := by decide +kernel
theorem dX12_goHour_37 : decode cX12_goHour 37 = .ok (.iload_n 2, 1) := by decide +kernel
theorem dX12_goHour_38 : decode cX12_goHour 38 = .ok (.aload_n 0, 1) := by decide +kernel
theorem dX12_goHour_39 : decode cX12_goHour 39 = .ok (.getfield 215, 3) := by decide +kernel
theorem dX12_goHour_42 : decode cX12_goHour 42 = .ok (.if_icmp .ge 27, 3) := by decide +kernel
theorem dX12_goHour_45 : decode cX12_goHour 45 = .ok (.aload_n 0, 1) := by decide +kernel
theorem dX12_goHour_46 : decode cX12_goHour 46 = .ok (.getfield 83, 3) := by decide +kernel
theorem dX12_goHour_49 : decode cX12_goHour 49 = .ok (.iload_n 2, 1) := by decide +kernel
theorem dX12_goHour_50 : decode cX12_goHour 50 = .ok (.iconst 0, 1) := by decide +kernel
theorem dX12_goHour_51 : decode cX12_goHour 51 = .ok (.bastore, 1) := by decide +kernel
theorem dX12_goHour_52 : decode cX12_goHour 52 = .ok (.aload_n 0, 1) := by decide +kernel
theorem dX12_goHour_53 : decode cX12_goHour 53 = .ok (.getfield 86, 3) := by decide +kernel
theorem dX12_goHour_56 : decode cX12_goHour 56 = .ok (.iload_n 2, 1) := by decide +kernel
theorem dX12_goHour_57 : decode cX12_goHour 57 = .ok (.aload_n 0, 1) := by decide +kernel
theorem dX12_goHour_58 : decode cX12_goHour 58 = .ok (.iload_n 2, 1) := by decide +kernel
theorem dX12_goHour_59 : decode cX12_goHour 59 = .ok (.invokevirtual 267, 3) := by decide +kernel
theorem dX12_goHour_62 : decode cX12_goHour 62 = .ok (.bastore, 1) := by decide +kernel
theorem dX12_goHour_63 : decode cX12_goHour 63 = .ok (.iinc 2 1, 3) := by decide +kernel
theorem dX12_goHour_66 : decode cX12_goHour 66 = .ok (.goto (-29), 3) := by decide +kernel
theorem dX12_goHour_69 : decode cX12_goHour 69 = .ok (.iconst 0, 1) := by decide +kernel
theorem dX12_goHour_70 : decode cX12_goHour 70 = .ok (.istore_n 2, 1) := by decide +kernel
theorem dX12_goHour_71 : decode cX12_goHour 71 = .ok (.iconst 0, 1) := by decide +kernel
theorem dX12_goHour_72 : decode cX12_goHour 72 = .ok (.istore_n 3, 1) := by decide +kernel
theorem dX12_goHour_73 : decode cX12_goHour 73 = .ok (.iload_n 3, 1) := by decide +kernel
theorem dX12_goHour_74 : decode cX12_goHour 74 = .ok (.bipush 7, 2) := by decide +kernel
theorem dX12_goHour_76 : decode cX12_goHour 76 = .ok (.if_icmp .ge 17, 3) := by decide +kernel
theorem dX12_goHour_79 : decode cX12_goHour 79 = .ok (.iload_n 2, 1) := by decide +kernel
theorem dX12_goHour_80 : decode cX12_goHour 80 = .ok (.aload_n 0, 1) := by decide +kernel
theorem dX12_goHour_81 : decode cX12_goHour 81 = .ok (.iload_n 3, 1) := by decide +kernel
theorem dX12_goHour_82 : decode cX12_goHour 82 = .ok (.invokevirtual 300, 3) := by decide +kernel
theorem dX12_goHour_85 : decode cX12_goHour 85 = .ok (.iadd, 1) := by decide +kernel
theorem dX12_goHour_86 : decode cX12_goHour 86 = .ok (.istore_n 2, 1) := by decide +kernel
theorem dX12_goHour_87 : decode cX12_goHour 87 = .ok (.iinc 3 1, 3) := by decide +kernel
theorem dX12_goHour_90 : decode cX12_goHour 90 = .ok (.goto (-17), 3) := by decide +kernel
theorem dX12_goHour_93 : decode cX12_goHour 93 = .ok (.iconst 0, 1) := by decide +kernel
theorem dX12_goHour_94 : decode cX12_goHour 94 = .ok (.istore_n 3, 1) := by decide +kernel
theorem dX12_goHour_95 : decode cX12_goHour 95 = .ok (.iload_n 3, 1) := by decide +kernel
theorem dX12_goHour_96 : decode cX12_goHour 96 = .ok (.aload_n 0, 1) := by decide +kernel
theorem dX12_goHour_97 : decode cX12_goHour 97 = .ok (.getfield 215, 3) := by decide +kernel
theorem dX12_goHour_100 : decode cX12_goHour 100 = .ok (.if_icmp .ge 41, 3) := by decide +kernel
theorem dX12_goHour_103 : decode cX12_goHour 103 = .ok (.aload_n 0, 1) := by decide +kernel
theorem dX12_goHour_104 : decode cX12_goHour 104 = .ok (.getfield 80, 3) := by decide +kernel
theorem dX12_goHour_107 : decode cX12_goHour 107 = .ok (.iload_n 3, 1) := by decide +kernel
theorem dX12_goHour_108 : decode cX12_goHour 108 = .ok (.dup2, 1) := by decide +kernel
theorem dX12_goHour_109 : decode cX12_goHour 109 = .ok (.iaload, 1) := by decide +kernel
theorem dX12_goHour_110 : decode cX12_goHour 110 = .ok (.aload_n 0, 1) := by decide +kernel
theorem dX12_goHour_111 : decode cX12_goHour 111 = .ok (.getfield 86, 3) := by decide +kernel
theorem dX12_goHour_114 : decode cX12_goHour 114 = .ok (.iload_n 3, 1) := by decide +kernel
theorem dX12_goHour_115 : decode cX12_goHour 115 = .ok (.baload, 1) := by decide +kernel
theorem dX12_goHour_116 : decode cX12_goHour 116 = .ok (.ifCond .eq 16, 3) := by decide +kernel
theorem dX12_goHour_119 : decode cX12_goHour 119 = .ok (.aload_n 0, 1) := by decide +kernel
theorem dX12_goHour_120 : decode cX12_goHour 120 = .ok (.getfield 83, 3) := by decide +kernel
theorem dX12_goHour_123 : decode cX12_goHour 123 = .ok (.iload_n 3, 1) := by decide +kernel
theorem dX12_goHour_124 : decode cX12_goHour 124 = .ok (.baload, 1) := by decide +kernel
theorem dX12_goHour_125 : decode cX12_goHour 125 = .ok (.ifCond .ne 7, 3) := by decide +kernel
theorem dX12_goHour_128 : decode cX12_goHour 128 = .ok (.iconst 1, 1) := by decide +kernel
theorem dX12_goHour_129 : decode cX12_goHour 129 = .ok (.goto 4, 3) := by decide +kernel
theorem dX12_goHour_132 : decode cX12_goHour 132 = .ok (.iconst 0, 1) := by decide +kernel
theorem dX12_goHour_133 : decode cX12_goHour 133 = .ok (.iadd, 1) := by decide +kernel
theorem dX12_goHour_134 : decode cX12_goHour 134 = .ok (.iastore, 1) := by decide +kernel
theorem dX12_goHour_135 : decode cX12_goHour 135 = .ok (.iinc 3 1, 3) := by decide +kernel
theorem dX12_goHour_138 : decode cX12_goHour 138 = .ok (.goto (-43), 3) := by decide +kernel
theorem dX12_goHour_141 : decode cX12_goHour 141 = .ok (.aload_n 0, 1) := by decide +kernel
theorem dX12_goHour_142 : decode cX12_goHour 142 = .ok (.dup, 1) := by decide +kernel
theorem dX12_goHour_143 : decode cX12_goHour 143 = .ok (.getfield 212, 3) := by decide +kernel
theorem dX12_goHour_146 : decode cX12_goHour 146 = .ok (.iconst 1, 1) := by decide +kernel
theorem dX12_goHour_147 : decode cX12_goHour 147 = .ok (.iadd, 1) := by decide +kernel
theorem dX12_goHour_148 : decode cX12_goHour 148 = .ok (.putfield 212, 3) := by decide +kernel
theorem dX12_goHour_151 : decode cX12_goHour 151 = .ok (.iload_n 2, 1) := by decide +kernel
theorem dX12_goHour_152 : decode cX12_goHour 152 = .ok (.ireturn, 1) := by decide +kernel
theorem dX12_hour_0 : decode cX12_hour 0 = .ok (.iload_n 1, 1) := by decide +kernel
theorem dX12_hour_1 : decode cX12_hour 1 = .ok (.i2l, 1) := by decide +kernel
theorem dX12_hour_2 : decode cX12_hour 2 = .ok (.lconst 0, 1) := by decide +kernel
theorem dX12_hour_3 : decode cX12_hour 3 = .ok (.ldc2_w 303, 3) := by decide +kernel
theorem dX12_hour_6 : decode cX12_hour 6 = .ok (.invokestatic 194, 3) := by decide +kernel
theorem dX12_hour_9 : decode cX12_hour 9 = .ok (.ifCond .ne 6, 3) := by decide +kernel
theorem dX12_hour_12 : decode cX12_hour 12 = .ok (.bipush (-102), 2) := by decide +kernel
theorem dX12_hour_14 : decode cX12_hour 14 = .ok (.ireturn, 1) := by decide +kernel
theorem dX12_hour_15 : decode cX12_hour 15 = .ok (.aload_n 0, 1) := by decide +kernel
theorem dX12_hour_16 : decode cX12_hour 16 = .ok (.getfield 212, 3) := by decide +kernel
theorem dX12_hour_19 : decode cX12_hour 19 = .ok (.sipush 600, 3) := by decide +kernel
theorem dX12_hour_22 : decode cX12_hour 22 = .ok (.if_icmp .ne 8, 3) := by decide +kernel
theorem dX12_hour_25 : decode cX12_hour 25 = .ok (.bipush (-103), 2) := by decide +kernel
theorem dX12_hour_27 : decode cX12_hour 27 = .ok (.goto 8, 3) := by decide +kernel
theorem dX12_hour_30 : decode cX12_hour 30 = .ok (.aload_n 0, 1) := by decide +kernel
theorem dX12_hour_31 : decode cX12_hour 31 = .ok (.iload_n 1, 1) := by decide +kernel
theorem dX12_hour_32 : decode cX12_hour 32 = .ok (.invokevirtual 305, 3) := by decide +kernel
theorem dX12_hour_35 : decode cX12_hour 35 = .ok (.ireturn, 1) := by decide +kernel
theorem dX12_hours_0 : decode cX12_hours 0 = .ok (.iload_n 1, 1) := by decide +kernel
theorem dX12_hours_1 : decode cX12_hours 1 = .ok (.i2l, 1) := by decide +kernel
theorem dX12_hours_2 : decode cX12_hours 2 = .ok (.lconst 1, 1) := by decide +kernel
theorem dX12_hours_3 : decode cX12_hours 3 = .ok (.ldc2_w 308, 3) := by decide +kernel
theorem dX12_hours_6 : decode cX12_hours 6 = .ok (.invokestatic 194, 3) := by decide +kernel
theorem dX12_hours_9 : decode cX12_hours 9 = .ok (.ifCond .eq 15, 3) := by decide +kernel
theorem dX12_hours_12 : decode cX12_hours 12 = .ok (.iload_n 2, 1) := by decide +kernel
theorem dX12_hours_13 : decode cX12_hours 13 = .ok (.i2l, 1) := by decide +kernel
theorem dX12_hours_14 : decode cX12_hours 14 = .ok (.lconst 0, 1) := by decide +kernel
theorem dX12_hours_15 : decode cX12_hours 15 = .ok (.ldc2_w 303, 3) := by decide +kernel
theorem dX12_hours_18 : decode cX12_hours 18 = .ok (.invokestatic 194, 3) := by decide +kernel
theorem dX12_hours_21 : decode cX12_hours 21 = .ok (.ifCond .ne 6, 3) := by decide +kernel
theorem dX12_hours_24 : decode cX12_hours 24 = .ok (.bipush (-102), 2) := by decide +kernel
theorem dX12_hours_26 : decode cX12_hours 26 = .ok (.ireturn, 1) := by decide +kernel
theorem dX12_hours_27 : decode cX12_hours 27 = .ok (.aload_n 0, 1) := by decide +kernel
theorem dX12_hours_28 : decode cX12_hours 28 = .ok (.getfield 212, 3) := by decide +kernel
theorem dX12_hours_31 : decode cX12_hours 31 = .ok (.iload_n 1, 1) := by decide +kernel
theorem dX12_hours_32 : decode cX12_hours 32 = .ok (.iadd, 1) := by decide +kernel
theorem dX12_hours_33 : decode cX12_hours 33 = .ok (.sipush 600, 3) := by decide +kernel
theorem dX12_hours_36 : decode cX12_hours 36 = .ok (.if_icmp .le 6, 3) := by decide +kernel
theorem dX12_hours_39 : decode cX12_hours 39 = .ok (.bipush (-103), 2) := by decide +kernel
theorem dX12_hours_41 : decode cX12_hours 41 = .ok (.ireturn, 1) := by decide +kernel
theorem dX12_hours_42 : decode cX12_hours 42 = .ok (.iconst 0, 1) := by decide +kernel
theorem dX12_hours_43 : decode cX12_hours 43 = .ok (.istore_n 3, 1) := by decide +kernel
theorem dX12_hours_44 : decode cX12_hours 44 = .ok (.iconst 0, 1) := by decide +kernel
theorem dX12_hours_45 : decode cX12_hours 45 = .ok (.istore 4, 2) := by decide +kernel
theorem dX12_hours_47 : decode cX12_hours 47 = .ok (.iload 4, 2) := by decide +kernel
theorem dX12_hours_49 : decode cX12_hours 49 = .ok (.iload_n 1, 1) := by decide +kernel
theorem dX12_hours_50 : decode cX12_hours 50 = .ok (.if_icmp .ge 17, 3) := by decide +kernel
theorem dX12_hours_53 : decode cX12_hours 53 = .ok (.iload_n 3, 1) := by decide +kernel
theorem dX12_hours_54 : decode cX12_hours 54 = .ok (.aload_n 0, 1) := by decide +kernel
theorem dX12_hours_55 : decode cX12_hours 55 = .ok (.iload_n 2, 1) := by decide +kernel
theorem dX12_hours_56 : decode cX12_hours 56 = .ok (.invokevirtual 305, 3) := by decide +kernel
theorem dX12_hours_59 : decode cX12_hours 59 = .ok (.iadd, 1) := by decide +kernel
theorem dX12_hours_60 : decode cX12_hours 60 = .ok (.istore_n 3, 1) := by decide +kernel
theorem dX12_hours_61 : decode cX12_hours 61 = .ok (.iinc 4 1, 3) := by decide +kernel
theorem dX12_hours_64 : decode cX12_hours 64 = .ok (.goto (-17), 3) := by decide +kernel
theorem dX12_hours_67 : decode cX12_hours 67 = .ok (.iload_n 3, 1) := by decide +kernel
theorem dX12_hours_68 : decode cX12_hours 68 = .ok (.ireturn, 1) := by decide +kernel
theorem dX12_lockOf_0 : decode cX12_lockOf 0 = .ok (.iload_n 2, 1) := by decide +kernel
theorem dX12_lockOf_1 : decode cX12_lockOf 1 = .ok (.tableswitch 67 0 3 #[31, 46, 53, 60], 31) := by decide +kernel
theorem dX12_lockOf_32 : decode cX12_lockOf 32 = .ok (.aload_n 0, 1) := by decide +kernel
theorem dX12_lockOf_33 : decode cX12_lockOf 33 = .ok (.getfield 29, 3) := by decide +kernel
theorem dX12_lockOf_36 : decode cX12_lockOf 36 = .ok (.iload_n 1, 1) := by decide +kernel
theorem dX12_lockOf_37 : decode cX12_lockOf 37 = .ok (.baload, 1) := by decide +kernel
theorem dX12_lockOf_38 : decode cX12_lockOf 38 = .ok (.ifCond .eq 7, 3) := by decide +kernel
theorem dX12_lockOf_41 : decode cX12_lockOf 41 = .ok (.iconst 1, 1) := by decide +kernel
theorem dX12_lockOf_42 : decode cX12_lockOf 42 = .ok (.goto 4, 3) := by decide +kernel
theorem dX12_lockOf_45 : decode cX12_lockOf 45 = .ok (.iconst 0, 1) := by decide +kernel
theorem dX12_lockOf_46 : decode cX12_lockOf 46 = .ok (.ireturn, 1) := by decide +kernel
theorem dX12_lockOf_47 : decode cX12_lockOf 47 = .ok (.aload_n 0, 1) := by decide +kernel
theorem dX12_lockOf_48 : decode cX12_lockOf 48 = .ok (.getfield 32, 3) := by decide +kernel
theorem dX12_lockOf_51 : decode cX12_lockOf 51 = .ok (.iload_n 1, 1) := by decide +kernel
theorem dX12_lockOf_52 : decode cX12_lockOf 52 = .ok (.iaload, 1) := by decide +kernel
theorem dX12_lockOf_53 : decode cX12_lockOf 53 = .ok (.ireturn, 1) := by decide +kernel
theorem dX12_lockOf_54 : decode cX12_lockOf 54 = .ok (.aload_n 0, 1) := by decide +kernel
theorem dX12_lockOf_55 : decode cX12_lockOf 55 = .ok (.getfield 35, 3) := by decide +kernel
theorem dX12_lockOf_58 : decode cX12_lockOf 58 = .ok (.iload_n 1, 1) := by decide +kernel
theorem dX12_lockOf_59 : decode cX12_lockOf 59 = .ok (.iaload, 1) := by decide +kernel
theorem dX12_lockOf_60 : decode cX12_lockOf 60 = .ok (.ireturn, 1) := by decide +kernel
theorem dX12_lockOf_61 : decode cX12_lockOf 61 = .ok (.aload_n 0, 1) := by decide +kernel
theorem dX12_lockOf_62 : decode cX12_lockOf 62 = .ok (.getfield 38, 3) := by decide +kernel
theorem dX12_lockOf_65 : decode cX12_lockOf 65 = .ok (.iload_n 1, 1) := by decide +kernel
theorem dX12_lockOf_66 : decode cX12_lockOf 66 = .ok (.iaload, 1) := by decide +kernel
theorem dX12_lockOf_67 : decode cX12_lockOf 67 = .ok (.ireturn, 1) := by decide +kernel
theorem dX12_lockOf_68 : decode cX12_lockOf 68 = .ok (.bipush (-102), 2) := by decide +kernel
theorem dX12_lockOf_70 : decode cX12_lockOf 70 = .ok (.ireturn, 1) := by decide +kernel
theorem dX12_lockIs_0 : decode cX12_lockIs 0 = .ok (.iload_n 1, 1) := by decide +kernel
theorem dX12_lockIs_1 : decode cX12_lockIs 1 = .ok (.i2l, 1) := by decide +kernel
theorem dX12_lockIs_2 : decode cX12_lockIs 2 = .ok (.lconst 0, 1) := by decide +kernel
theorem dX12_lockIs_3 : decode cX12_lockIs 3 = .ok (.ldc2_w 210, 3) := by decide +kernel
theorem dX12_lockIs_6 : decode cX12_lockIs 6 = .ok (.invokestatic 194, 3) := by decide +kernel
theorem dX12_lockIs_9 : decode cX12_lockIs 9 = .ok (.ifCond .eq 12, 3) := by decide +kernel
theorem dX12_lockIs_12 : decode cX12_lockIs 12 = .ok (.aload_n 0, 1) := by decide +kernel
theorem dX12_lockIs_13 : decode cX12_lockIs 13 = .ok (.iload_n 1, 1) := by decide +kernel
theorem dX12_lockIs_14 : decode cX12_lockIs 14 = .ok (.iload_n 2, 1) := by decide +kernel
theorem dX12_lockIs_15 : decode cX12_lockIs 15 = .ok (.invokevirtual 310, 3) := by decide +kernel
theorem dX12_lockIs_18 : decode cX12_lockIs 18 = .ok (.goto 5, 3) := by decide +kernel
theorem dX12_lockIs_21 : decode cX12_lockIs 21 = .ok (.bipush (-101), 2) := by decide +kernel
theorem dX12_lockIs_23 : decode cX12_lockIs 23 = .ok (.ireturn, 1) := by decide +kernel
theorem dX12_sumOf_0 : decode cX12_sumOf 0 = .ok (.lconst 0, 1) := by decide +kernel
theorem dX12_sumOf_1 : decode cX12_sumOf 1 = .ok (.lstore_n 2, 1) := by decide +kernel
theorem dX12_sumOf_2 : decode cX12_sumOf 2 = .ok (.iconst 0, 1) := by decide +kernel
theorem dX12_sumOf_3 : decode cX12_sumOf 3 = .ok (.istore 4, 2) := by decide +kernel
theorem dX12_sumOf_5 : decode cX12_sumOf 5 = .ok (.iload 4, 2) := by decide +kernel
theorem dX12_sumOf_7 : decode cX12_sumOf 7 = .ok (.bipush 8, 2) := by decide +kernel
theorem dX12_sumOf_9 : decode cX12_sumOf 9 = .ok (.if_icmp .ge 29, 3) := by decide +kernel
theorem dX12_sumOf_12 : decode cX12_sumOf 12 = .ok (.lload_n 2, 1) := by decide +kernel
theorem dX12_sumOf_13 : decode cX12_sumOf 13 = .ok (.iload_n 1, 1) := by decide +kernel
theorem dX12_sumOf_14 : decode cX12_sumOf 14 = .ok (.iconst 3, 1) := by decide +kernel
theorem dX12_sumOf_15 : decode cX12_sumOf 15 = .ok (.if_icmp .ne 14, 3) := by decide +kernel
theorem dX12_sumOf_18 : decode cX12_sumOf 18 = .ok (.aload_n 0, 1) := by decide +kernel
theorem dX12_sumOf_19 : decode cX12_sumOf 19 = .ok (.getfield 7, 3) := by decide +kernel
theorem dX12_sumOf_22 : decode cX12_sumOf 22 = .ok (.iload 4, 2) := by decide +kernel
theorem dX12_sumOf_24 : decode cX12_sumOf 24 = .ok (.iaload, 1) := by decide +kernel
theorem dX12_sumOf_25 : decode cX12_sumOf 25 = .ok (.i2l, 1) := by decide +kernel
theorem dX12_sumOf_26 : decode cX12_sumOf 26 = .ok (.goto 4, 3) := by decide +kernel
theorem dX12_sumOf_29 : decode cX12_sumOf 29 = .ok (.lconst 0, 1) := by decide +kernel
theorem dX12_sumOf_30 : decode cX12_sumOf 30 = .ok (.ladd, 1) := by decide +kernel
theorem dX12_sumOf_31 : decode cX12_sumOf 31 = .ok (.lstore_n 2, 1) := by decide +kernel
theorem dX12_sumOf_32 : decode cX12_sumOf 32 = .ok (.iinc 4 1, 3) := by decide +kernel
theorem dX12_sumOf_35 : decode cX12_sumOf 35 = .ok (.goto (-30), 3) := by decide +kernel
theorem dX12_sumOf_38 : decode cX12_sumOf 38 = .ok (.iconst 0, 1) := by decide +kernel
theorem dX12_sumOf_39 : decode cX12_sumOf 39 = .ok (.istore 4, 2) := by decide +kernel
theorem dX12_sumOf_41 : decode cX12_sumOf 41 = .ok (.iload 4, 2) := by decide +kernel
theorem dX12_sumOf_43 : decode cX12_sumOf 43 = .ok (.bipush 7, 2) := by decide +kernel
theorem dX12_sumOf_45 : decode cX12_sumOf 45 = .ok (.if_icmp .ge 51, 3) := by decide +kernel
theorem dX12_sumOf_48 : decode cX12_sumOf 48 = .ok (.lload_n 2, 1) := by decide +kernel
theorem dX12_sumOf_49 : decode cX12_sumOf 49 = .ok (.iload_n 1, 1) := by decide +kernel
theorem dX12_sumOf_50 : decode cX12_sumOf 50 = .ok (.iconst 4, 1) := by decide +kernel
theorem dX12_sumOf_51 : decode cX12_sumOf 51 = .ok (.if_icmp .ne 36, 3) := by decide +kernel
theorem dX12_sumOf_54 : decode cX12_sumOf 54 = .ok (.aload_n 0, 1) := by decide +kernel
theorem dX12_sumOf_55 : decode cX12_sumOf 55 = .ok (.getfield 32, 3) := by decide +kernel
theorem dX12_sumOf_58 : decode cX12_sumOf 58 = .ok (.iload 4, 2) := by decide +kernel
theorem dX12_sumOf_60 : decode cX12_sumOf 60 = .ok (.iaload, 1) := by decide +kernel
theorem dX12_sumOf_61 : decode cX12_sumOf 61 = .ok (.aload_n 0, 1) := by decide +kernel
theorem dX12_sumOf_62 : decode cX12_sumOf 62 = .ok (.getfield 29, 3) := by decide +kernel
theorem dX12_sumOf_65 : decode cX12_sumOf 65 = .ok (.iload 4, 2) := by decide +kernel
theorem dX12_sumOf_67 : decode cX12_sumOf 67 = .ok (.baload, 1) := by decide +kernel
theorem dX12_sumOf_68 : decode cX12_sumOf 68 = .ok (.ifCond .eq 13, 3) := by decide +kernel
theorem dX12_sumOf_71 : decode cX12_sumOf 71 = .ok (.aload_n 0, 1) := by decide +kernel
theorem dX12_sumOf_72 : decode cX12_sumOf 72 = .ok (.getfield 19, 3) := by decide +kernel
theorem dX12_sumOf_75 : decode cX12_sumOf 75 = .ok (.iload 4, 2) := by decide +kernel
theorem dX12_sumOf_77 : decode cX12_sumOf 77 = .ok (.iaload, 1) := by decide +kernel
theorem dX12_sumOf_78 : decode cX12_sumOf 78 = .ok (.goto 4, 3) := by decide +kernel
theorem dX12_sumOf_81 : decode cX12_sumOf 81 = .ok (.iconst 0, 1) := by decide +kernel
theorem dX12_sumOf_82 : decode cX12_sumOf 82 = .ok (.iadd, 1) := by decide +kernel
theorem dX12_sumOf_83 : decode cX12_sumOf 83 = .ok (.i2l, 1) := by decide +kernel
theorem dX12_sumOf_84 : decode cX12_sumOf 84 = .ok (.goto 4, 3) := by decide +kernel
theorem dX12_sumOf_87 : decode cX12_sumOf 87 = .ok (.lconst 0, 1) := by decide +kernel
theorem dX12_sumOf_88 : decode cX12_sumOf 88 = .ok (.ladd, 1) := by decide +kernel
theorem dX12_sumOf_89 : decode cX12_sumOf 89 = .ok (.lstore_n 2, 1) := by decide +kernel
theorem dX12_sumOf_90 : decode cX12_sumOf 90 = .ok (.iinc 4 1, 3) := by decide +kernel
theorem dX12_sumOf_93 : decode cX12_sumOf 93 = .ok (.goto (-52), 3) := by decide +kernel
theorem dX12_sumOf_96 : decode cX12_sumOf 96 = .ok (.iload_n 1, 1) := by decide +kernel
theorem dX12_sumOf_97 : decode cX12_sumOf 97 = .ok (.ifCond .ne 10, 3) := by decide +kernel
theorem dX12_sumOf_100 : decode cX12_sumOf 100 = .ok (.aload_n 0, 1) := by decide +kernel
theorem dX12_sumOf_101 : decode cX12_sumOf 101 = .ok (.getfield 294, 3) := by decide +kernel
theorem dX12_sumOf_104 : decode cX12_sumOf 104 = .ok (.goto 48, 3) := by decide +kernel
theorem dX12_sumOf_107 : decode cX12_sumOf 107 = .ok (.iload_n 1, 1) := by decide +kernel
theorem dX12_sumOf_108 : decode cX12_sumOf 108 = .ok (.iconst 1, 1) := by decide +kernel
theorem dX12_sumOf_109 : decode cX12_sumOf 109 = .ok (.if_icmp .ne 30, 3) := by decide +kernel
theorem dX12_sumOf_112 : decode cX12_sumOf 112 = .ok (.aload_n 0, 1) := by decide +kernel
theorem dX12_sumOf_113 : decode cX12_sumOf 113 = .ok (.getfield 246, 3) := by decide +kernel
theorem dX12_sumOf_116 : decode cX12_sumOf 116 = .ok (.lconst 0, 1) := by decide +kernel
theorem dX12_sumOf_117 : decode cX12_sumOf 117 = .ok (.lcmp, 1) := by decide +kernel
theorem dX12_sumOf_118 : decode cX12_sumOf 118 = .ok (.ifCond .ge 14, 3) := by decide +kernel
theorem dX12_sumOf_121 : decode cX12_sumOf 121 = .ok (.ldc2_w 313, 3) := by decide +kernel
theorem dX12_sumOf_124 : decode cX12_sumOf 124 = .ok (.aload_n 0, 1) := by decide +kernel
theorem dX12_sumOf_125 : decode cX12_sumOf 125 = .ok (.getfield 246, 3) := by decide +kernel
theorem dX12_sumOf_128 : decode cX12_sumOf 128 = .ok (.lsub, 1) := by decide +kernel
theorem dX12_sumOf_129 : decode cX12_sumOf 129 = .ok (.goto 23, 3) := by decide +kernel
theorem dX12_sumOf_132 : decode cX12_sumOf 132 = .ok (.aload_n 0, 1) := by decide +kernel
theorem dX12_sumOf_133 : decode cX12_sumOf 133 = .ok (.getfield 246, 3) := by decide +kernel
theorem dX12_sumOf_136 : decode cX12_sumOf 136 = .ok (.goto 16, 3) := by decide +kernel
theorem dX12_sumOf_139 : decode cX12_sumOf 139 = .ok (.iload_n 1, 1) := by decide +kernel
theorem dX12_sumOf_140 : decode cX12_sumOf 140 = .ok (.iconst 2, 1) := by decide +kernel
theorem dX12_sumOf_141 : decode cX12_sumOf 141 = .ok (.if_icmp .ne 10, 3) := by decide +kernel
theorem dX12_sumOf_144 : decode cX12_sumOf 144 = .ok (.aload_n 0, 1) := by decide +kernel
theorem dX12_sumOf_145 : decode cX12_sumOf 145 = .ok (.getfield 222, 3) := by decide +kernel
theorem dX12_sumOf_148 : decode cX12_sumOf 148 = .ok (.goto 4, 3) := by decide +kernel
theorem dX12_sumOf_151 : decode cX12_sumOf 151 = .ok (.lload_n 2, 1) := by decide +kernel
theorem dX12_sumOf_152 : decode cX12_sumOf 152 = .ok (.lreturn, 1) := by decide +kernel
theorem dX12_sum_0 : decode cX12_sum 0 = .ok (.iload_n 1, 1) := by decide +kernel
theorem dX12_sum_1 : decode cX12_sum 1 = .ok (.i2l, 1) := by decide +kernel
theorem dX12_sum_2 : decode cX12_sum 2 = .ok (.lconst 0, 1) := by decide +kernel
theorem dX12_sum_3 : decode cX12_sum 3 = .ok (.ldc2_w 226, 3) := by decide +kernel
theorem dX12_sum_6 : decode cX12_sum 6 = .ok (.invokestatic 194, 3) := by decide +kernel
theorem dX12_sum_9 : decode cX12_sum 9 = .ok (.ifCond .eq 11, 3) := by decide +kernel
theorem dX12_sum_12 : decode cX12_sum 12 = .ok (.aload_n 0, 1) := by decide +kernel
theorem dX12_sum_13 : decode cX12_sum 13 = .ok (.iload_n 1, 1) := by decide +kernel
theorem dX12_sum_14 : decode cX12_sum 14 = .ok (.invokevirtual 315, 3) := by decide +kernel
theorem dX12_sum_17 : decode cX12_sum 17 = .ok (.goto 6, 3) := by decide +kernel
theorem dX12_sum_20 : decode cX12_sum 20 = .ok (.ldc2_w 319, 3) := by decide +kernel
theorem dX12_sum_23 : decode cX12_sum 23 = .ok (.lreturn, 1) := by decide +kernel
theorem dX12_letters_0 : decode cX12_letters 0 = .ok (.iconst 0, 1) := by decide +kernel
theorem dX12_letters_1 : decode cX12_letters 1 = .ok (.istore_n 3, 1) := by decide +kernel
theorem dX12_letters_2 : decode cX12_letters 2 = .ok (.iconst 1, 1) := by decide +kernel
theorem dX12_letters_3 : decode cX12_letters 3 = .ok (.istore 4, 2) := by decide +kernel
theorem dX12_letters_5 : decode cX12_letters 5 = .ok (.lload_n 1, 1) := by decide +kernel
theorem dX12_letters_6 : decode cX12_letters 6 = .ok (.lstore 5, 2) := by decide +kernel
theorem dX12_letters_8 : decode cX12_letters 8 = .ok (.iconst 0, 1) := by decide +kernel
theorem dX12_letters_9 : decode cX12_letters 9 = .ok (.istore 7, 2) := by decide +kernel
theorem dX12_letters_11 : decode cX12_letters 11 = .ok (.iload 7, 2) := by decide +kernel
theorem dX12_letters_13 : decode cX12_letters 13 = .ok (.bipush 8, 2) := by decide +kernel
theorem dX12_letters_15 : decode cX12_letters 15 = .ok (.if_icmp .ge 68, 3) := by decide +kernel
theorem dX12_letters_18 : decode cX12_letters 18 = .ok (.lload 5, 2) := by decide +kernel
theorem dX12_letters_20 : decode cX12_letters 20 = .ok (.ldc2_w 321, 3) := by decide +kernel
theorem dX12_letters_23 : decode cX12_letters 23 = .ok (.land, 1) := by decide +kernel
theorem dX12_letters_24 : decode cX12_letters 24 = .ok (.l2i, 1) := by decide +kernel
theorem dX12_letters_25 : decode cX12_letters 25 = .ok (.istore 8, 2) := by decide +kernel
theorem dX12_letters_27 : decode cX12_letters 27 = .ok (.lload 5, 2) := by decide +kernel
theorem dX12_letters_29 : decode cX12_letters 29 = .ok (.bipush 8, 2) := by decide +kernel
theorem dX12_letters_31 : decode cX12_letters 31 = .ok (.lushr, 1) := by decide +kernel
theorem dX12_letters_32 : decode cX12_letters 32 = .ok (.lstore 5, 2) := by decide +kernel
theorem dX12_letters_34 : decode cX12_letters 34 = .ok (.iload 4, 2) := by decide +kernel
theorem dX12_letters_36 : decode cX12_letters 36 = .ok (.ifCond .eq 25, 3) := by decide +kernel
theorem dX12_letters_39 : decode cX12_letters 39 = .ok (.iload 8, 2) := by decide +kernel
theorem dX12_letters_41 : decode cX12_letters 41 = .ok (.bipush 126, 2) := by decide +kernel
theorem dX12_letters_43 : decode cX12_letters 43 = .ok (.if_icmp .gt 18, 3) := by decide +kernel
theorem dX12_letters_46 : decode cX12_letters 46 = .ok (.iload 8, 2) := by decide +kernel
theorem dX12_letters_48 : decode cX12_letters 48 = .ok (.ifCond .eq 9, 3) := by decide +kernel
theorem dX12_letters_51 : decode cX12_letters 51 = .ok (.iload_n 3, 1) := by decide +kernel
theorem dX12_letters_52 : decode cX12_letters 52 = .ok (.iload 7, 2) := by decide +kernel
theorem dX12_letters_54 : decode cX12_letters 54 = .ok (.if_icmp .ne 7, 3) := by decide +kernel
theorem dX12_letters_57 : decode cX12_letters 57 = .ok (.iconst 1, 1) := by decide +kernel
theorem dX12_letters_58 : decode cX12_letters 58 = .ok (.goto 4, 3) := by decide +kernel
theorem dX12_letters_61 : decode cX12_letters 61 = .ok (.iconst 0, 1) := by decide +kernel
theorem dX12_letters_62 : decode cX12_letters 62 = .ok (.istore 4, 2) := by decide +kernel
theorem dX12_letters_64 : decode cX12_letters 64 = .ok (.iload_n 3, 1) := by decide +kernel
theorem dX12_letters_65 : decode cX12_letters 65 = .ok (.iload 8, 2) := by decide +kernel
theorem dX12_letters_67 : decode cX12_letters 67 = .ok (.ifCond .le 7, 3) := by decide +kernel
theorem dX12_letters_70 : decode cX12_letters 70 = .ok (.iconst 1, 1) := by decide +kernel
theorem dX12_letters_71 : decode cX12_letters 71 = .ok (.goto 4, 3) := by decide +kernel
theorem dX12_letters_74 : decode cX12_letters 74 = .ok (.iconst 0, 1) := by decide +kernel
theorem dX12_letters_75 : decode cX12_letters 75 = .ok (.iadd, 1) := by decide +kernel
theorem dX12_letters_76 : decode cX12_letters 76 = .ok (.istore_n 3, 1) := by decide +kernel
theorem dX12_letters_77 : decode cX12_letters 77 = .ok (.iinc 7 1, 3) := by decide +kernel
theorem dX12_letters_80 : decode cX12_letters 80 = .ok (.goto (-69), 3) := by decide +kernel
theorem dX12_letters_83 : decode cX12_letters 83 = .ok (.iload 4, 2) := by decide +kernel
theorem dX12_letters_85 : decode cX12_letters 85 = .ok (.ifCond .ne 6, 3) := by decide +kernel
theorem dX12_letters_88 : decode cX12_letters 88 = .ok (.bipush (-102), 2) := by decide +kernel
theorem dX12_letters_90 : decode cX12_letters 90 = .ok (.ireturn, 1) := by decide +kernel
theorem dX12_letters_91 : decode cX12_letters 91 = .ok (.aload_n 0, 1) := by decide +kernel
theorem dX12_letters_92 : decode cX12_letters 92 = .ok (.getfield 323, 3) := by decide +kernel
theorem dX12_letters_95 : decode cX12_letters 95 = .ok (.iload_n 3, 1) := by decide +kernel
theorem dX12_letters_96 : decode cX12_letters 96 = .ok (.iadd, 1) := by decide +kernel
theorem dX12_letters_97 : decode cX12_letters 97 = .ok (.bipush 60, 2) := by decide +kernel
theorem dX12_letters_99 : decode cX12_letters 99 = .ok (.if_icmp .le 6, 3) := by decide +kernel
theorem dX12_letters_102 : decode cX12_letters 102 = .ok (.bipush (-104), 2) := by decide +kernel
theorem dX12_letters_104 : decode cX12_letters 104 = .ok (.ireturn, 1) := by decide +kernel
theorem dX12_letters_105 : decode cX12_letters 105 = .ok (.iconst 0, 1) := by decide +kernel
theorem dX12_letters_106 : decode cX12_letters 106 = .ok (.istore 7, 2) := by decide +kernel
theorem dX12_letters_108 : decode cX12_letters 108 = .ok (.iload 7, 2) := by decide +kernel
theorem dX12_letters_110 : decode cX12_letters 110 = .ok (.iload_n 3, 1) := by decide +kernel
theorem dX12_letters_111 : decode cX12_letters 111 = .ok (.if_icmp .ge 40, 3) := by decide +kernel
theorem dX12_letters_114 : decode cX12_letters 114 = .ok (.aload_n 0, 1) := by decide +kernel
theorem dX12_letters_115 : decode cX12_letters 115 = .ok (.getfield 89, 3) := by decide +kernel
theorem dX12_letters_118 : decode cX12_letters 118 = .ok (.aload_n 0, 1) := by decide +kernel
theorem dX12_letters_119 : decode cX12_letters 119 = .ok (.getfield 323, 3) := by decide +kernel
theorem dX12_letters_122 : decode cX12_letters 122 = .ok (.lload_n 1, 1) := by decide +kernel
theorem dX12_letters_123 : decode cX12_letters 123 = .ok (.bipush 8, 2) := by decide +kernel
theorem dX12_letters_125 : decode cX12_letters 125 = .ok (.iload 7, 2) := by decide +kernel
theorem dX12_letters_127 : decode cX12_letters 127 = .ok (.imul, 1) := by decide +kernel
theorem dX12_letters_128 : decode cX12_letters 128 = .ok (.lushr, 1) := by decide +kernel
theorem dX12_letters_129 : decode cX12_letters 129 = .ok (.ldc2_w 321, 3) := by decide +kernel
theorem dX12_letters_132 : decode cX12_letters 132 = .ok (.land, 1) := by decide +kernel
theorem dX12_letters_133 : decode cX12_letters 133 = .ok (.l2i, 1) := by decide +kernel
theorem dX12_letters_134 : decode cX12_letters 134 = .ok (.iastore, 1) := by decide +kernel
theorem dX12_letters_135 : decode cX12_letters 135 = .ok (.aload_n 0, 1) := by decide +kernel
theorem dX12_letters_136 : decode cX12_letters 136 = .ok (.dup, 1) := by decide +kernel
theorem dX12_letters_137 : decode cX12_letters 137 = .ok (.getfield 323, 3) := by decide +kernel
theorem dX12_letters_140 : decode cX12_letters 140 = .ok (.iconst 1, 1) := by decide +kernel
theorem dX12_letters_141 : decode cX12_letters 141 = .ok (.iadd, 1) := by decide +kernel
theorem dX12_letters_142 : decode cX12_letters 142 = .ok (.putfield 323, 3) := by decide +kernel
theorem dX12_letters_145 : decode cX12_letters 145 = .ok (.iinc 7 1, 3) := by decide +kernel
theorem dX12_letters_148 : decode cX12_letters 148 = .ok (.goto (-40), 3) := by decide +kernel
theorem dX12_letters_151 : decode cX12_letters 151 = .ok (.aload_n 0, 1) := by decide +kernel
theorem dX12_letters_152 : decode cX12_letters 152 = .ok (.getfield 323, 3) := by decide +kernel
theorem dX12_letters_155 : decode cX12_letters 155 = .ok (.ireturn, 1) := by decide +kernel
theorem dX12_blank_0 : decode cX12_blank 0 = .ok (.aload_n 0, 1) := by decide +kernel
theorem dX12_blank_1 : decode cX12_blank 1 = .ok (.getfield 323, 3) := by decide +kernel
theorem dX12_blank_4 : decode cX12_blank 4 = .ok (.istore_n 1, 1) := by decide +kernel
theorem dX12_blank_5 : decode cX12_blank 5 = .ok (.aload_n 0, 1) := by decide +kernel
theorem dX12_blank_6 : decode cX12_blank 6 = .ok (.iconst 0, 1) := by decide +kernel
theorem dX12_blank_7 : decode cX12_blank 7 = .ok (.putfield 323, 3) := by decide +kernel
theorem dX12_blank_10 : decode cX12_blank 10 = .ok (.iload_n 1, 1) := by decide +kernel
theorem dX12_blank_11 : decode cX12_blank 11 = .ok (.ireturn, 1) := by decide +kernel
theorem dX12_letterOf_0 : decode cX12_letterOf 0 = .ok (.iload_n 0, 1) := by decide +kernel
theorem dX12_letterOf_1 : decode cX12_letterOf 1 = .ok (.bipush 108, 2) := by decide +kernel
theorem dX12_letterOf_3 : decode cX12_letterOf 3 = .ok (.if_icmp .ne 7, 3) := by decide +kernel
theorem dX12_letterOf_6 : decode cX12_letterOf 6 = .ok (.iconst 0, 1) := by decide +kernel
theorem dX12_letterOf_7 : decode cX12_letterOf 7 = .ok (.goto 44, 3) := by decide +kernel
theorem dX12_letterOf_10 : decode cX12_letterOf 10 = .ok (.iload_n 0, 1) := by decide +kernel
theorem dX12_letterOf_11 : decode cX12_letterOf 11 = .ok (.bipush 109, 2) := by decide +kernel
theorem dX12_letterOf_13 : decode cX12_letterOf 13 = .ok (.if_icmp .ne 7, 3) := by decide +kernel
theorem dX12_letterOf_16 : decode cX12_letterOf 16 = .ok (.iconst 1, 1) := by decide +kernel
theorem dX12_letterOf_17 : decode cX12_letterOf 17 = .ok (.goto 34, 3) := by decide +kernel
theorem dX12_letterOf_20 : decode cX12_letterOf 20 = .ok (.iload_n 0, 1) := by decide +kernel
theorem dX12_letterOf_21 : decode cX12_letterOf 21 = .ok (.bipush 103, 2) := by decide +kernel
theorem dX12_letterOf_23 : decode cX12_letterOf 23 = .ok (.if_icmp .ne 7, 3) := by decide +kernel
theorem dX12_letterOf_26 : decode cX12_letterOf 26 = .ok (.iconst 2, 1) := by decide +kernel
theorem dX12_letterOf_27 : decode cX12_letterOf 27 = .ok (.goto 24, 3) := by decide +kernel
theorem dX12_letterOf_30 : decode cX12_letterOf 30 = .ok (.iload_n 0, 1) := by decide +kernel
theorem dX12_letterOf_31 : decode cX12_letterOf 31 = .ok (.bipush 99, 2) := by decide +kernel
theorem dX12_letterOf_33 : decode cX12_letterOf 33 = .ok (.if_icmp .ne 7, 3) := by decide +kernel
theorem dX12_letterOf_36 : decode cX12_letterOf 36 = .ok (.iconst 3, 1) := by decide +kernel
theorem dX12_letterOf_37 : decode cX12_letterOf 37 = .ok (.goto 14, 3) := by decide +kernel
theorem dX12_letterOf_40 : decode cX12_letterOf 40 = .ok (.iload_n 0, 1) := by decide +kernel
theorem dX12_letterOf_41 : decode cX12_letterOf 41 = .ok (.bipush 100, 2) := by decide +kernel
theorem dX12_letterOf_43 : decode cX12_letterOf 43 = .ok (.if_icmp .ne 7, 3) := by decide +kernel
theorem dX12_letterOf_46 : decode cX12_letterOf 46 = .ok (.iconst 4, 1) := by decide +kernel
theorem dX12_letterOf_47 : decode cX12_letterOf 47 = .ok (.goto 4, 3) := by decide +kernel
theorem dX12_letterOf_50 : decode cX12_letterOf 50 = .ok (.iconst (-1), 1) := by decide +kernel
theorem dX12_letterOf_51 : decode cX12_letterOf 51 = .ok (.ireturn, 1) := by decide +kernel
theorem dX12_isDigit_0 : decode cX12_isDigit 0 = .ok (.iload_n 0, 1) := by decide +kernel
theorem dX12_isDigit_1 : decode cX12_isDigit 1 = .ok (.i2l, 1) := by decide +kernel
theorem dX12_isDigit_2 : decode cX12_isDigit 2 = .ok (.ldc2_w 326, 3) := by decide +kernel
theorem dX12_isDigit_5 : decode cX12_isDigit 5 = .ok (.ldc2_w 328, 3) := by decide +kernel
theorem dX12_isDigit_8 : decode cX12_isDigit 8 = .ok (.invokestatic 194, 3) := by decide +kernel
theorem dX12_isDigit_11 : decode cX12_isDigit 11 = .ok (.ireturn, 1) := by decide +kernel
theorem dX12_lay_0 : decode cX12_lay 0 = .ok (.aload_n 0, 1) := by decide +kernel
theorem dX12_lay_1 : decode cX12_lay 1 = .ok (.getfield 113, 3) := by decide +kernel
theorem dX12_lay_4 : decode cX12_lay 4 = .ok (.aload_n 0, 1) := by decide +kernel
theorem dX12_lay_5 : decode cX12_lay 5 = .ok (.getfield 330, 3) := by decide +kernel
theorem dX12_lay_8 : decode cX12_lay 8 = .ok (.iload_n 1, 1) := by decide +kernel
theorem dX12_lay_9 : decode cX12_lay 9 = .ok (.iastore, 1) := by decide +kernel
theorem dX12_lay_10 : decode cX12_lay 10 = .ok (.aload_n 0, 1) := by decide +kernel
theorem dX12_lay_11 : decode cX12_lay 11 = .ok (.getfield 116, 3) := by decide +kernel
theorem dX12_lay_14 : decode cX12_lay 14 = .ok (.aload_n 0, 1) := by decide +kernel
theorem dX12_lay_15 : decode cX12_lay 15 = .ok (.getfield 330, 3) := by decide +kernel
theorem dX12_lay_18 : decode cX12_lay 18 = .ok (.iload_n 2, 1) := by decide +kernel
theorem dX12_lay_19 : decode cX12_lay 19 = .ok (.iastore, 1) := by decide +kernel
theorem dX12_lay_20 : decode cX12_lay 20 = .ok (.aload_n 0, 1) := by decide +kernel
theorem dX12_lay_21 : decode cX12_lay 21 = .ok (.dup, 1) := by decide +kernel
theorem dX12_lay_22 : decode cX12_lay 22 = .ok (.getfield 330, 3) := by decide +kernel
theorem dX12_lay_25 : decode cX12_lay 25 = .ok (.iconst 1, 1) := by decide +kernel
theorem dX12_lay_26 : decode cX12_lay 26 = .ok (.iadd, 1) := by decide +kernel
theorem dX12_lay_27 : decode cX12_lay 27 = .ok (.putfield 330, 3) := by decide +kernel
theorem dX12_lay_30 : decode cX12_lay 30 = .ok (.return_, 1) := by decide +kernel
theorem dX12_layDown_0 : decode cX12_layDown 0 = .ok (.aload_n 0, 1) := by decide +kernel
theorem dX12_layDown_1 : decode cX12_layDown 1 = .ok (.getfield 333, 3) := by decide +kernel
theorem dX12_layDown_4 : decode cX12_layDown 4 = .ok (.ifCond .le 45, 3) := by decide +kernel
theorem dX12_layDown_7 : decode cX12_layDown 7 = .ok (.aload_n 0, 1) := by decide +kernel
theorem dX12_layDown_8 : decode cX12_layDown 8 = .ok (.getfield 119, 3) := by decide +kernel
theorem dX12_layDown_11 : decode cX12_layDown 11 = .ok (.aload_n 0, 1) := by decide +kernel
theorem dX12_layDown_12 : decode cX12_layDown 12 = .ok (.getfield 333, 3) := by decide +kernel
theorem dX12_layDown_15 : decode cX12_layDown 15 = .ok (.iconst 1, 1) := by decide +kernel
theorem dX12_layDown_16 : decode cX12_layDown 16 = .ok (.isub, 1) := by decide +kernel
theorem dX12_layDown_17 : decode cX12_layDown 17 = .ok (.iaload, 1) := by decide +kernel
theorem dX12_layDown_18 : decode cX12_layDown 18 = .ok (.iload_n 1, 1) := by decide +kernel
theorem dX12_layDown_19 : decode cX12_layDown 19 = .ok (.if_icmp .gt 30, 3) := by decide +kernel
theorem dX12_layDown_22 : decode cX12_layDown 22 = .ok (.aload_n 0, 1) := by decide +kernel
theorem dX12_layDown_23 : decode cX12_layDown 23 = .ok (.dup, 1) := by decide +kernel
theorem dX12_layDown_24 : decode cX12_layDown 24 = .ok (.getfield 333, 3) := by decide +kernel
theorem dX12_layDown_27 : decode cX12_layDown 27 = .ok (.iconst 1, 1) := by decide +kernel
theorem dX12_layDown_28 : decode cX12_layDown 28 = .ok (.isub, 1) := by decide +kernel
theorem dX12_layDown_29 : decode cX12_layDown 29 = .ok (.putfield 333, 3) := by decide +kernel
theorem dX12_layDown_32 : decode cX12_layDown 32 = .ok (.aload_n 0, 1) := by decide +kernel
theorem dX12_layDown_33 : decode cX12_layDown 33 = .ok (.aload_n 0, 1) := by decide +kernel
theorem dX12_layDown_34 : decode cX12_layDown 34 = .ok (.getfield 119, 3) := by decide +kernel
theorem dX12_layDown_37 : decode cX12_layDown 37 = .ok (.aload_n 0, 1) := by decide +kernel
theorem dX12_layDown_38 : decode cX12_layDown 38 = .ok (.getfield 333, 3) := by decide +kernel
theorem dX12_layDown_41 : decode cX12_layDown 41 = .ok (.iaload, 1) := by decide +kernel
theorem dX12_layDown_42 : decode cX12_layDown 42 = .ok (.iconst 0, 1) := by decide +kernel
theorem dX12_layDown_43 : decode cX12_layDown 43 = .ok (.invokevirtual 336, 3) := by decide +kernel
theorem dX12_layDown_46 : decode cX12_layDown 46 = .ok (.goto (-46), 3) := by decide +kernel
theorem dX12_layDown_49 : decode cX12_layDown 49 = .ok (.return_, 1) := by decide +kernel
theorem dX12_endNumber_0 : decode cX12_endNumber 0 = .ok (.aload_n 0, 1) := by decide +kernel
theorem dX12_endNumber_1 : decode cX12_endNumber 1 = .ok (.getfield 339, 3) := by decide +kernel
theorem dX12_endNumber_4 : decode cX12_endNumber 4 = .ok (.bipush 7, 2) := by decide +kernel
theorem dX12_endNumber_6 : decode cX12_endNumber 6 = .ok (.if_icmp .ne 22, 3) := by decide +kernel
theorem dX12_endNumber_9 : decode cX12_endNumber 9 = .ok (.aload_n 0, 1) := by decide +kernel
theorem dX12_endNumber_10 : decode cX12_endNumber 10 = .ok (.iconst 3, 1) := by decide +kernel
theorem dX12_endNumber_11 : decode cX12_endNumber 11 = .ok (.aload_n 0, 1) := by decide +kernel
theorem dX12_endNumber_12 : decode cX12_endNumber 12 = .ok (.getfield 342, 3) := by decide +kernel
theorem dX12_endNumber_15 : decode cX12_endNumber 15 = .ok (.imul, 1) := by decide +kernel
theorem dX12_endNumber_16 : decode cX12_endNumber 16 = .ok (.aload_n 0, 1) := by decide +kernel
theorem dX12_endNumber_17 : decode cX12_endNumber 17 = .ok (.getfield 345, 3) := by decide +kernel
theorem dX12_endNumber_20 : decode cX12_endNumber 20 = .ok (.iadd, 1) := by decide +kernel
theorem dX12_endNumber_21 : decode cX12_endNumber 21 = .ok (.aload_n 0, 1) := by decide +kernel
theorem dX12_endNumber_22 : decode cX12_endNumber 22 = .ok (.getfield 348, 3) := by decide +kernel
theorem dX12_endNumber_25 : decode cX12_endNumber 25 = .ok (.invokevirtual 336, 3) := by decide +kernel
theorem dX12_endNumber_28 : decode cX12_endNumber 28 = .ok (.return_, 1) := by decide +kernel
theorem dX12_goBehind_0 : decode cX12_goBehind 0 = .ok (.iload_n 1, 1) := by decide +kernel
theorem dX12_goBehind_1 : decode cX12_goBehind 1 = .ok (.bipush 38, 2) := by decide +kernel
theorem dX12_goBehind_3 : decode cX12_goBehind 3 = .ok (.if_icmp .eq 9, 3) := by decide +kernel
theorem dX12_goBehind_6 : decode cX12_goBehind 6 = .ok (.iload_n 1, 1) := by decide +kernel
theorem dX12_goBehind_7 : decode cX12_goBehind 7 = .ok (.bipush 124, 2) := by decide +kernel
theorem dX12_goBehind_9 : decode cX12_goBehind 9 = .ok (.if_icmp .ne 63, 3) := by decide +kernel
theorem dX12_goBehind_12 : decode cX12_goBehind 12 = .ok (.aload_n 0, 1) := by decide +kernel
theorem dX12_goBehind_13 : decode cX12_goBehind 13 = .ok (.invokevirtual 351, 3) := by decide +kernel
theorem dX12_goBehind_16 : decode cX12_goBehind 16 = .ok (.aload_n 0, 1) := by decide +kernel
theorem dX12_goBehind_17 : decode cX12_goBehind 17 = .ok (.iload_n 1, 1) := by decide +kernel
theorem dX12_goBehind_18 : decode cX12_goBehind 18 = .ok (.bipush 38, 2) := by decide +kernel
theorem dX12_goBehind_20 : decode cX12_goBehind 20 = .ok (.if_icmp .ne 8, 3) := by decide +kernel
theorem dX12_goBehind_23 : decode cX12_goBehind 23 = .ok (.bipush 16, 2) := by decide +kernel
theorem dX12_goBehind_25 : decode cX12_goBehind 25 = .ok (.goto 5, 3) := by decide +kernel
theorem dX12_goBehind_28 : decode cX12_goBehind 28 = .ok (.bipush 17, 2) := by decide +kernel
theorem dX12_goBehind_30 : decode cX12_goBehind 30 = .ok (.invokevirtual 354, 3) := by decide +kernel
theorem dX12_goBehind_33 : decode cX12_goBehind 33 = .ok (.aload_n 0, 1) := by decide +kernel
theorem dX12_goBehind_34 : decode cX12_goBehind 34 = .ok (.getfield 119, 3) := by decide +kernel
theorem dX12_goBehind_37 : decode cX12_goBehind 37 = .ok (.aload_n 0, 1) := by decide +kernel
theorem dX12_goBehind_38 : decode cX12_goBehind 38 = .ok (.getfield 333, 3) := by decide +kernel
theorem dX12_goBehind_41 : decode cX12_goBehind 41 = .ok (.iload_n 1, 1) := by decide +kernel
theorem dX12_goBehind_42 : decode cX12_goBehind 42 = .ok (.bipush 38, 2) := by decide +kernel
theorem dX12_goBehind_44 : decode cX12_goBehind 44 = .ok (.if_icmp .ne 8, 3) := by decide +kernel
theorem dX12_goBehind_47 : decode cX12_goBehind 47 = .ok (.bipush 16, 2) := by decide +kernel
theorem dX12_goBehind_49 : decode cX12_goBehind 49 = .ok (.goto 5, 3) := by decide +kernel
theorem dX12_goBehind_52 : decode cX12_goBehind 52 = .ok (.bipush 17, 2) := by decide +kernel
theorem dX12_goBehind_54 : decode cX12_goBehind 54 = .ok (.iastore, 1) := by decide +kernel
theorem dX12_goBehind_55 : decode cX12_goBehind 55 = .ok (.aload_n 0, 1) := by decide +kernel
theorem dX12_goBehind_56 : decode cX12_goBehind 56 = .ok (.dup, 1) := by decide +kernel
theorem dX12_goBehind_57 : decode cX12_goBehind 57 = .ok (.getfield 333, 3) := by decide +kernel
theorem dX12_goBehind_60 : decode cX12_goBehind 60 = .ok (.iconst 1, 1) := by decide +kernel
theorem dX12_goBehind_61 : decode cX12_goBehind 61 = .ok (.iadd, 1) := by decide +kernel
theorem dX12_goBehind_62 : decode cX12_goBehind 62 = .ok (.putfield 333, 3) := by decide +kernel
theorem dX12_goBehind_65 : decode cX12_goBehind 65 = .ok (.aload_n 0, 1) := by decide +kernel
theorem dX12_goBehind_66 : decode cX12_goBehind 66 = .ok (.iconst 4, 1) := by decide +kernel
theorem dX12_goBehind_67 : decode cX12_goBehind 67 = .ok (.putfield 339, 3) := by decide +kernel
theorem dX12_goBehind_70 : decode cX12_goBehind 70 = .ok (.iconst 1, 1) := by decide +kernel
theorem dX12_goBehind_71 : decode cX12_goBehind 71 = .ok (.ireturn, 1) := by decide +kernel
theorem dX12_goBehind_72 : decode cX12_goBehind 72 = .ok (.iload_n 1, 1) := by decide +kernel
theorem dX12_goBehind_73 : decode cX12_goBehind 73 = .ok (.bipush 41, 2) := by decide +kernel
theorem dX12_goBehind_75 : decode cX12_goBehind 75 = .ok (.if_icmp .ne 48, 3) := by decide +kernel
theorem dX12_goBehind_78 : decode cX12_goBehind 78 = .ok (.aload_n 0, 1) := by decide +kernel
theorem dX12_goBehind_79 : decode cX12_goBehind 79 = .ok (.getfield 357, 3) := by decide +kernel
theorem dX12_goBehind_82 : decode cX12_goBehind 82 = .ok (.ifCond .le 41, 3) := by decide +kernel
theorem dX12_goBehind_85 : decode cX12_goBehind 85 = .ok (.aload_n 0, 1) := by decide +kernel
theorem dX12_goBehind_86 : decode cX12_goBehind 86 = .ok (.invokevirtual 351, 3) := by decide +kernel
theorem dX12_goBehind_89 : decode cX12_goBehind 89 = .ok (.aload_n 0, 1) := by decide +kernel
theorem dX12_goBehind_90 : decode cX12_goBehind 90 = .ok (.bipush 17, 2) := by decide +kernel
theorem dX12_goBehind_92 : decode cX12_goBehind 92 = .ok (.invokevirtual 354, 3) := by decide +kernel
theorem dX12_goBehind_95 : decode cX12_goBehind 95 = .ok (.aload_n 0, 1) := by decide +kernel
theorem dX12_goBehind_96 : decode cX12_goBehind 96 = .ok (.dup, 1) := by decide +kernel
theorem dX12_goBehind_97 : decode cX12_goBehind 97 = .ok (.getfield 333, 3) := by decide +kernel
theorem dX12_goBehind_100 : decode cX12_goBehind 100 = .ok (.iconst 1, 1) := by decide +kernel
theorem dX12_goBehind_101 : decode cX12_goBehind 101 = .ok (.isub, 1) := by decide +kernel
theorem dX12_goBehind_102 : decode cX12_goBehind 102 = .ok (.putfield 333, 3) := by decide +kernel
theorem dX12_goBehind_105 : decode cX12_goBehind 105 = .ok (.aload_n 0, 1) := by decide +kernel
theorem dX12_goBehind_106 : decode cX12_goBehind 106 = .ok (.dup, 1) := by decide +kernel
theorem dX12_goBehind_107 : decode cX12_goBehind 107 = .ok (.getfield 357, 3) := by decide +kernel
theorem dX12_goBehind_110 : decode cX12_goBehind 110 = .ok (.iconst 1, 1) := by decide +kernel
theorem dX12_goBehind_111 : decode cX12_goBehind 111 = .ok (.isub, 1) := by decide +kernel
theorem dX12_goBehind_112 : decode cX12_goBehind 112 = .ok (.putfield 357, 3) := by decide +kernel
theorem dX12_goBehind_115 : decode cX12_goBehind 115 = .ok (.aload_n 0, 1) := by decide +kernel
theorem dX12_goBehind_116 : decode cX12_goBehind 116 = .ok (.bipush 8, 2) := by decide +kernel
theorem dX12_goBehind_118 : decode cX12_goBehind 118 = .ok (.putfield 339, 3) := by decide +kernel
theorem dX12_goBehind_121 : decode cX12_goBehind 121 = .ok (.iconst 1, 1) := by decide +kernel
theorem dX12_goBehind_122 : decode cX12_goBehind 122 = .ok (.ireturn, 1) := by decide +kernel
theorem dX12_goBehind_123 : decode cX12_goBehind 123 = .ok (.iconst 0, 1) := by decide +kernel
theorem dX12_goBehind_124 : decode cX12_goBehind 124 = .ok (.ireturn, 1) := by decide +kernel
theorem dX12_goFactor_0 : decode cX12_goFactor 0 = .ok (.iload_n 1, 1) := by decide +kernel
theorem dX12_goFactor_1 : decode cX12_goFactor 1 = .ok (.bipush 33, 2) := by decide +kernel
theorem dX12_goFactor_3 : decode cX12_goFactor 3 = .ok (.if_icmp .eq 9, 3) := by decide +kernel
theorem dX12_goFactor_6 : decode cX12_goFactor 6 = .ok (.iload_n 1, 1) := by decide +kernel
theorem dX12_goFactor_7 : decode cX12_goFactor 7 = .ok (.bipush 40, 2) := by decide +kernel
theorem dX12_goFactor_9 : decode cX12_goFactor 9 = .ok (.if_icmp .ne 57, 3) := by decide +kernel
theorem dX12_goFactor_12 : decode cX12_goFactor 12 = .ok (.aload_n 0, 1) := by decide +kernel
theorem dX12_goFactor_13 : decode cX12_goFactor 13 = .ok (.getfield 119, 3) := by decide +kernel
theorem dX12_goFactor_16 : decode cX12_goFactor 16 = .ok (.aload_n 0, 1) := by decide +kernel
theorem dX12_goFactor_17 : decode cX12_goFactor 17 = .ok (.getfield 333, 3) := by decide +kernel
theorem dX12_goFactor_20 : decode cX12_goFactor 20 = .ok (.iload_n 1, 1) := by decide +kernel
theorem dX12_goFactor_21 : decode cX12_goFactor 21 = .ok (.bipush 33, 2) := by decide +kernel
theorem dX12_goFactor_23 : decode cX12_goFactor 23 = .ok (.if_icmp .ne 8, 3) := by decide +kernel
theorem dX12_goFactor_26 : decode cX12_goFactor 26 = .ok (.bipush 15, 2) := by decide +kernel
theorem dX12_goFactor_28 : decode cX12_goFactor 28 = .ok (.goto 5, 3) := by decide +kernel
theorem dX12_goFactor_31 : decode cX12_goFactor 31 = .ok (.bipush 18, 2) := by decide +kernel
theorem dX12_goFactor_33 : decode cX12_goFactor 33 = .ok (.iastore, 1) := by decide +kernel
theorem dX12_goFactor_34 : decode cX12_goFactor 34 = .ok (.aload_n 0, 1) := by decide +kernel
theorem dX12_goFactor_35 : decode cX12_goFactor 35 = .ok (.dup, 1) := by decide +kernel
theorem dX12_goFactor_36 : decode cX12_goFactor 36 = .ok (.getfield 333, 3) := by decide +kernel
theorem dX12_goFactor_39 : decode cX12_goFactor 39 = .ok (.iconst 1, 1) := by decide +kernel
theorem dX12_goFactor_40 : decode cX12_goFactor 40 = .ok (.iadd, 1) := by decide +kernel
theorem dX12_goFactor_41 : decode cX12_goFactor 41 = .ok (.putfield 333, 3) := by decide +kernel
theorem dX12_goFactor_44 : decode cX12_goFactor 44 = .ok (.aload_n 0, 1) := by decide +kernel
theorem dX12_goFactor_45 : decode cX12_goFactor 45 = .ok (.dup, 1) := by decide +kernel
theorem dX12_goFactor_46 : decode cX12_goFactor 46 = .ok (.getfield 357, 3) := by decide +kernel
theorem dX12_goFactor_49 : decode cX12_goFactor 49 = .ok (.iload_n 1, 1) := by decide +kernel
theorem dX12_goFactor_50 : decode cX12_goFactor 50 = .ok (.bipush 40, 2) := by decide +kernel
theorem dX12_goFactor_52 : decode cX12_goFactor 52 = .ok (.if_icmp .ne 7, 3) := by decide +kernel
theorem dX12_goFactor_55 : decode cX12_goFactor 55 = .ok (.iconst 1, 1) := by decide +kernel
theorem dX12_goFactor_56 : decode cX12_goFactor 56 = .ok (.goto 4, 3) := by decide +kernel
theorem dX12_goFactor_59 : decode cX12_goFactor 59 = .ok (.iconst 0, 1) := by decide +kernel
theorem dX12_goFactor_60 : decode cX12_goFactor 60 = .ok (.iadd, 1) := by decide +kernel
theorem dX12_goFactor_61 : decode cX12_goFactor 61 = .ok (.putfield 357, 3) := by decide +kernel
theorem dX12_goFactor_64 : decode cX12_goFactor 64 = .ok (.iconst 1, 1) := by decide +kernel
theorem dX12_goFactor_65 : decode cX12_goFactor 65 = .ok (.ireturn, 1) := by decide +kernel
theorem dX12_goFactor_66 : decode cX12_goFactor 66 = .ok (.aload_n 0, 1) := by decide +kernel
theorem dX12_goFactor_67 : decode cX12_goFactor 67 = .ok (.iload_n 1, 1) := by decide +kernel
theorem dX12_goFactor_68 : decode cX12_goFactor 68 = .ok (.invokestatic 360, 3) := by decide +kernel
theorem dX12_goFactor_71 : decode cX12_goFactor 71 = .ok (.putfield 342, 3) := by decide +kernel
theorem dX12_goFactor_74 : decode cX12_goFactor 74 = .ok (.aload_n 0, 1) := by decide +kernel
theorem dX12_goFactor_75 : decode cX12_goFactor 75 = .ok (.iconst 5, 1) := by decide +kernel
theorem dX12_goFactor_76 : decode cX12_goFactor 76 = .ok (.putfield 339, 3) := by decide +kernel
theorem dX12_goFactor_79 : decode cX12_goFactor 79 = .ok (.aload_n 0, 1) := by decide +kernel
theorem dX12_goFactor_80 : decode cX12_goFactor 80 = .ok (.getfield 342, 3) := by decide +kernel
theorem dX12_goFactor_83 : decode cX12_goFactor 83 = .ok (.iconst (-1), 1) := by decide +kernel
theorem dX12_goFactor_84 : decode cX12_goFactor 84 = .ok (.if_icmp .eq 7, 3) := by decide +kernel
theorem dX12_goFactor_87 : decode cX12_goFactor 87 = .ok (.iconst 1, 1) := by decide +kernel
theorem dX12_goFactor_88 : decode cX12_goFactor 88 = .ok (.goto 4, 3) := by decide +kernel
theorem dX12_goFactor_91 : decode cX12_goFactor 91 = .ok (.iconst 0, 1) := by decide +kernel
theorem dX12_goFactor_92 : decode cX12_goFactor 92 = .ok (.ireturn, 1) := by decide +kernel
theorem dX12_go_0 : decode cX12_go 0 = .ok (.aload_n 0, 1) := by decide +kernel
theorem dX12_go_1 : decode cX12_go 1 = .ok (.getfield 339, 3) := by decide +kernel
theorem dX12_go_4 : decode cX12_go 4 = .ok (.tableswitch 326 0 7 #[48, 92, 109, 132, 192, 198, 253, 277], 48) := by decide +kernel
theorem dX12_go_52 : decode cX12_go 52 = .ok (.aload_n 0, 1) := by decide +kernel
theorem dX12_go_53 : decode cX12_go 53 = .ok (.iload_n 1, 1) := by decide +kernel
theorem dX12_go_54 : decode cX12_go 54 = .ok (.bipush 84, 2) := by decide +kernel
theorem dX12_go_56 : decode cX12_go 56 = .ok (.if_icmp .ne 7, 3) := by decide +kernel
theorem dX12_go_59 : decode cX12_go 59 = .ok (.iconst 0, 1) := by decide +kernel
theorem dX12_go_60 : decode cX12_go 60 = .ok (.goto 14, 3) := by decide +kernel
theorem dX12_go_63 : decode cX12_go 63 = .ok (.iload_n 1, 1) := by decide +kernel
theorem dX12_go_64 : decode cX12_go 64 = .ok (.bipush 67, 2) := by decide +kernel
theorem dX12_go_66 : decode cX12_go 66 = .ok (.if_icmp .ne 7, 3) := by decide +kernel
theorem dX12_go_69 : decode cX12_go 69 = .ok (.iconst 1, 1) := by decide +kernel
theorem dX12_go_70 : decode cX12_go 70 = .ok (.goto 4, 3) := by decide +kernel
theorem dX12_go_73 : decode cX12_go 73 = .ok (.iconst (-1), 1) := by decide +kernel
theorem dX12_go_74 : decode cX12_go 74 = .ok (.putfield 363, 3) := by decide +kernel
theorem dX12_go_77 : decode cX12_go 77 = .ok (.aload_n 0, 1) := by decide +kernel
theorem dX12_go_78 : decode cX12_go 78 = .ok (.iconst 1, 1) := by decide +kernel
theorem dX12_go_79 : decode cX12_go 79 = .ok (.putfield 339, 3) := by decide +kernel
theorem dX12_go_82 : decode cX12_go 82 = .ok (.aload_n 0, 1) := by decide +kernel
theorem dX12_go_83 : decode cX12_go 83 = .ok (.getfield 363, 3) := by decide +kernel
theorem dX12_go_86 : decode cX12_go 86 = .ok (.iconst (-1), 1) := by decide +kernel
theorem dX12_go_87 : decode cX12_go 87 = .ok (.if_icmp .eq 7, 3) := by decide +kernel
theorem dX12_go_90 : decode cX12_go 90 = .ok (.iconst 1, 1) := by decide +kernel
theorem dX12_go_91 : decode cX12_go 91 = .ok (.goto 4, 3) := by decide +kernel
theorem dX12_go_94 : decode cX12_go 94 = .ok (.iconst 0, 1) := by decide +kernel
theorem dX12_go_95 : decode cX12_go 95 = .ok (.ireturn, 1) := by decide +kernel
theorem dX12_go_96 : decode cX12_go 96 = .ok (.aload_n 0, 1) := by decide +kernel
theorem dX12_go_97 : decode cX12_go 97 = .ok (.iconst 2, 1) := by decide +kernel
theorem dX12_go_98 : decode cX12_go 98 = .ok (.putfield 339, 3) := by decide +kernel
theorem dX12_go_101 : decode cX12_go 101 = .ok (.iload_n 1, 1) := by decide +kernel
theorem dX12_go_102 : decode cX12_go 102 = .ok (.bipush 58, 2) := by decide +kernel
theorem dX12_go_104 : decode cX12_go 104 = .ok (.if_icmp .ne 7, 3) := by decide +kernel
theorem dX12_go_107 : decode cX12_go 107 = .ok (.iconst 1, 1) := by decide +kernel
theorem dX12_go_108 : decode cX12_go 108 = .ok (.goto 4, 3) := by decide +kernel
theorem dX12_go_111 : decode cX12_go 111 = .ok (.iconst 0, 1) := by decide +kernel
theorem dX12_go_112 : decode cX12_go 112 = .ok (.ireturn, 1) := by decide +kernel
theorem dX12_go_113 : decode cX12_go 113 = .ok (.aload_n 0, 1) := by decide +kernel
theorem dX12_go_114 : decode cX12_go 114 = .ok (.iload_n 1, 1) := by decide +kernel
theorem dX12_go_115 : decode cX12_go 115 = .ok (.bipush 48, 2) := by decide +kernel
theorem dX12_go_117 : decode cX12_go 117 = .ok (.isub, 1) := by decide +kernel
theorem dX12_go_118 : decode cX12_go 118 = .ok (.putfield 366, 3) := by decide +kernel
theorem dX12_go_121 : decode cX12_go 121 = .ok (.aload_n 0, 1) := by decide +kernel
theorem dX12_go_122 : decode cX12_go 122 = .ok (.iconst 1, 1) := by decide +kernel
theorem dX12_go_123 : decode cX12_go 123 = .ok (.putfield 369, 3) := by decide +kernel
theorem dX12_go_126 : decode cX12_go 126 = .ok (.aload_n 0, 1) := by decide +kernel
theorem dX12_go_127 : decode cX12_go 127 = .ok (.iconst 3, 1) := by decide +kernel
theorem dX12_go_128 : decode cX12_go 128 = .ok (.putfield 339, 3) := by decide +kernel
theorem dX12_go_131 : decode cX12_go 131 = .ok (.iload_n 1, 1) := by decide +kernel
theorem dX12_go_132 : decode cX12_go 132 = .ok (.invokestatic 372, 3) := by decide +kernel
theorem dX12_go_135 : decode cX12_go 135 = .ok (.ireturn, 1) := by decide +kernel
theorem dX12_go_136 : decode cX12_go 136 = .ok (.iload_n 1, 1) := by decide +kernel
theorem dX12_go_137 : decode cX12_go 137 = .ok (.invokestatic 372, 3) := by decide +kernel
theorem dX12_go_140 : decode cX12_go 140 = .ok (.ifCond .eq 39, 3) := by decide +kernel
theorem dX12_go_143 : decode cX12_go 143 = .ok (.aload_n 0, 1) := by decide +kernel
theorem dX12_go_144 : decode cX12_go 144 = .ok (.getfield 369, 3) := by decide +kernel
theorem dX12_go_147 : decode cX12_go 147 = .ok (.iconst 4, 1) := by decide +kernel
theorem dX12_go_148 : decode cX12_go 148 = .ok (.if_icmp .ge 31, 3) := by decide +kernel
theorem dX12_go_151 : decode cX12_go 151 = .ok (.aload_n 0, 1) := by decide +kernel
theorem dX12_go_152 : decode cX12_go 152 = .ok (.bipush 10, 2) := by decide +kernel
theorem dX12_go_154 : decode cX12_go 154 = .ok (.aload_n 0, 1) := by decide +kernel
theorem dX12_go_155 : decode cX12_go 155 = .ok (.getfield 366, 3) := by decide +kernel
theorem dX12_go_158 : decode cX12_go 158 = .ok (.imul, 1) := by decide +kernel
theorem dX12_go_159 : decode cX12_go 159 = .ok (.iload_n 1, 1) := by decide +kernel
theorem dX12_go_160 : decode cX12_go 160 = .ok (.iadd, 1) := by decide +kernel
theorem dX12_go_161 : decode cX12_go 161 = .ok (.bipush 48, 2) := by decide +kernel
theorem dX12_go_163 : decode cX12_go 163 = .ok (.isub, 1) := by decide +kernel
theorem dX12_go_164 : decode cX12_go 164 = .ok (.putfield 366, 3) := by decide +kernel
theorem dX12_go_167 : decode cX12_go 167 = .ok (.aload_n 0, 1) := by decide +kernel
theorem dX12_go_168 : decode cX12_go 168 = .ok (.dup, 1) := by decide +kernel
theorem dX12_go_169 : decode cX12_go 169 = .ok (.getfield 369, 3) := by decide +kernel
theorem dX12_go_172 : decode cX12_go 172 = .ok (.iconst 1, 1) := by decide +kernel
theorem dX12_go_173 : decode cX12_go 173 = .ok (.iadd, 1) := by decide +kernel
theorem dX12_go_174 : decode cX12_go 174 = .ok (.putfield 369, 3) := by decide +kernel
theorem dX12_go_177 : decode cX12_go 177 = .ok (.iconst 1, 1) := by decide +kernel
theorem dX12_go_178 : decode cX12_go 178 = .ok (.ireturn, 1) := by decide +kernel
theorem dX12_go_179 : decode cX12_go 179 = .ok (.aload_n 0, 1) := by decide +kernel
theorem dX12_go_180 : decode cX12_go 180 = .ok (.iconst 4, 1) := by decide +kernel
theorem dX12_go_181 : decode cX12_go 181 = .ok (.putfield 339, 3) := by decide +kernel
theorem dX12_go_184 : decode cX12_go 184 = .ok (.iload_n 1, 1) := by decide +kernel
theorem dX12_go_185 : decode cX12_go 185 = .ok (.bipush 63, 2) := by decide +kernel
theorem dX12_go_187 : decode cX12_go 187 = .ok (.if_icmp .ne 7, 3) := by decide +kernel
theorem dX12_go_190 : decode cX12_go 190 = .ok (.iconst 1, 1) := by decide +kernel
theorem dX12_go_191 : decode cX12_go 191 = .ok (.goto 4, 3) := by decide +kernel
theorem dX12_go_194 : decode cX12_go 194 = .ok (.iconst 0, 1) := by decide +kernel
theorem dX12_go_195 : decode cX12_go 195 = .ok (.ireturn, 1) := by decide +kernel
theorem dX12_go_196 : decode cX12_go 196 = .ok (.aload_n 0, 1) := by decide +kernel
theorem dX12_go_197 : decode cX12_go 197 = .ok (.iload_n 1, 1) := by decide +kernel
theorem dX12_go_198 : decode cX12_go 198 = .ok (.invokevirtual 375, 3) := by decide +kernel
theorem dX12_go_201 : decode cX12_go 201 = .ok (.ireturn, 1) := by decide +kernel
theorem dX12_go_202 : decode cX12_go 202 = .ok (.aload_n 0, 1) := by decide +kernel
theorem dX12_go_203 : decode cX12_go 203 = .ok (.iload_n 1, 1) := by decide +kernel
theorem dX12_go_204 : decode cX12_go 204 = .ok (.bipush 60, 2) := by decide +kernel
theorem dX12_go_206 : decode cX12_go 206 = .ok (.if_icmp .ne 7, 3) := by decide +kernel
theorem dX12_go_209 : decode cX12_go 209 = .ok (.iconst 0, 1) := by decide +kernel
theorem dX12_go_210 : decode cX12_go 210 = .ok (.goto 14, 3) := by decide +kernel
theorem dX12_go_213 : decode cX12_go 213 = .ok (.iload_n 1, 1) := by decide +kernel
theorem dX12_go_214 : decode cX12_go 214 = .ok (.bipush 61, 2) := by decide +kernel
theorem dX12_go_216 : decode cX12_go 216 = .ok (.if_icmp .ne 7, 3) := by decide +kernel
theorem dX12_go_219 : decode cX12_go 219 = .ok (.iconst 1, 1) := by decide +kernel
theorem dX12_go_220 : decode cX12_go 220 = .ok (.goto 4, 3) := by decide +kernel
theorem dX12_go_223 : decode cX12_go 223 = .ok (.iconst 2, 1) := by decide +kernel
theorem dX12_go_224 : decode cX12_go 224 = .ok (.putfield 345, 3) := by decide +kernel
theorem dX12_go_227 : decode cX12_go 227 = .ok (.aload_n 0, 1) := by decide +kernel
theorem dX12_go_228 : decode cX12_go 228 = .ok (.bipush 6, 2) := by decide +kernel
theorem dX12_go_230 : decode cX12_go 230 = .ok (.putfield 339, 3) := by decide +kernel
theorem dX12_go_233 : decode cX12_go 233 = .ok (.iload_n 1, 1) := by decide +kernel
theorem dX12_go_234 : decode cX12_go 234 = .ok (.bipush 60, 2) := by decide +kernel
theorem dX12_go_236 : decode cX12_go 236 = .ok (.if_icmp .eq 15, 3) := by decide +kernel
theorem dX12_go_239 : decode cX12_go 239 = .ok (.iload_n 1, 1) := by decide +kernel
theorem dX12_go_240 : decode cX12_go 240 = .ok (.bipush 61, 2) := by decide +kernel
theorem dX12_go_242 : decode cX12_go 242 = .ok (.if_icmp .eq 9, 3) := by decide +kernel
theorem dX12_go_245 : decode cX12_go 245 = .ok (.iload_n 1, 1) := by decide +kernel
theorem dX12_go_246 : decode cX12_go 246 = .ok (.bipush 62, 2) := by decide +kernel
theorem dX12_go_248 : decode cX12_go 248 = .ok (.if_icmp .ne 7, 3) := by decide +kernel
theorem dX12_go_251 : decode cX12_go 251 = .ok (.iconst 1, 1) := by decide +kernel
theorem dX12_go_252 : decode cX12_go 252 = .ok (.goto 4, 3) := by decide +kernel
theorem dX12_go_255 : decode cX12_go 255 = .ok (.iconst 0, 1) := by decide +kernel
theorem dX12_go_256 : decode cX12_go 256 = .ok (.ireturn, 1) := by decide +kernel
theorem dX12_go_257 : decode cX12_go 257 = .ok (.aload_n 0, 1) := by decide +kernel
theorem dX12_go_258 : decode cX12_go 258 = .ok (.iload_n 1, 1) := by decide +kernel
theorem dX12_go_259 : decode cX12_go 259 = .ok (.bipush 48, 2) := by decide +kernel
theorem dX12_go_261 : decode cX12_go 261 = .ok (.isub, 1) := by decide +kernel
theorem dX12_go_262 : decode cX12_go 262 = .ok (.putfield 348, 3) := by decide +kernel
theorem dX12_go_265 : decode cX12_go 265 = .ok (.aload_n 0, 1) := by decide +kernel
theorem dX12_go_266 : decode cX12_go 266 = .ok (.iconst 1, 1) := by decide +kernel
theorem dX12_go_267 : decode cX12_go 267 = .ok (.putfield 369, 3) := by decide +kernel
theorem dX12_go_270 : decode cX12_go 270 = .ok (.aload_n 0, 1) := by decide +kernel
theorem dX12_go_271 : decode cX12_go 271 = .ok (.bipush 7, 2) := by decide +kernel
theorem dX12_go_273 : decode cX12_go 273 = .ok (.putfield 339, 3) := by decide +kernel
theorem dX12_go_276 : decode cX12_go 276 = .ok (.iload_n 1, 1) := by decide +kernel
theorem dX12_go_277 : decode cX12_go 277 = .ok (.invokestatic 372, 3) := by decide +kernel
theorem dX12_go_280 : decode cX12_go 280 = .ok (.ireturn, 1) := by decide +kernel
theorem dX12_go_281 : decode cX12_go 281 = .ok (.iload_n 1, 1) := by decide +kernel
theorem dX12_go_282 : decode cX12_go 282 = .ok (.invokestatic 372, 3) := by decide +kernel
theorem dX12_go_285 : decode cX12_go 285 = .ok (.ifCond .eq 39, 3) := by decide +kernel
theorem dX12_go_288 : decode cX12_go 288 = .ok (.aload_n 0, 1) := by decide +kernel
theorem dX12_go_289 : decode cX12_go 289 = .ok (.getfield 369, 3) := by decide +kernel
theorem dX12_go_292 : decode cX12_go 292 = .ok (.iconst 3, 1) := by decide +kernel
theorem dX12_go_293 : decode cX12_go 293 = .ok (.if_icmp .ge 31, 3) := by decide +kernel
theorem dX12_go_296 : decode cX12_go 296 = .ok (.aload_n 0, 1) := by decide +kernel
theorem dX12_go_297 : decode cX12_go 297 = .ok (.bipush 10, 2) := by decide +kernel
theorem dX12_go_299 : decode cX12_go 299 = .ok (.aload_n 0, 1) := by decide +kernel
theorem dX12_go_300 : decode cX12_go 300 = .ok (.getfield 348, 3) := by decide +kernel
theorem dX12_go_303 : decode cX12_go 303 = .ok (.imul, 1) := by decide +kernel
theorem dX12_go_304 : decode cX12_go 304 = .ok (.iload_n 1, 1) := by decide +kernel
theorem dX12_go_305 : decode cX12_go 305 = .ok (.iadd, 1) := by decide +kernel
theorem dX12_go_306 : decode cX12_go 306 = .ok (.bipush 48, 2) := by decide +kernel
theorem dX12_go_308 : decode cX12_go 308 = .ok (.isub, 1) := by decide +kernel
theorem dX12_go_309 : decode cX12_go 309 = .ok (.putfield 348, 3) := by decide +kernel
theorem dX12_go_312 : decode cX12_go 312 = .ok (.aload_n 0, 1) := by decide +kernel
theorem dX12_go_313 : decode cX12_go 313 = .ok (.dup, 1) := by decide +kernel
theorem dX12_go_314 : decode cX12_go 314 = .ok (.getfield 369, 3) := by decide +kernel
theorem dX12_go_317 : decode cX12_go 317 = .ok (.iconst 1, 1) := by decide +kernel
theorem dX12_go_318 : decode cX12_go 318 = .ok (.iadd, 1) := by decide +kernel
theorem dX12_go_319 : decode cX12_go 319 = .ok (.putfield 369, 3) := by decide +kernel
theorem dX12_go_322 : decode cX12_go 322 = .ok (.iconst 1, 1) := by decide +kernel
theorem dX12_go_323 : decode cX12_go 323 = .ok (.ireturn, 1) := by decide +kernel
theorem dX12_go_324 : decode cX12_go 324 = .ok (.aload_n 0, 1) := by decide +kernel
theorem dX12_go_325 : decode cX12_go 325 = .ok (.iload_n 1, 1) := by decide +kernel
theorem dX12_go_326 : decode cX12_go 326 = .ok (.invokevirtual 378, 3) := by decide +kernel
theorem dX12_go_329 : decode cX12_go 329 = .ok (.ireturn, 1) := by decide +kernel
theorem dX12_go_330 : decode cX12_go 330 = .ok (.aload_n 0, 1) := by decide +kernel
theorem dX12_go_331 : decode cX12_go 331 = .ok (.iload_n 1, 1) := by decide +kernel
theorem dX12_go_332 : decode cX12_go 332 = .ok (.invokevirtual 378, 3) := by decide +kernel
theorem dX12_go_335 : decode cX12_go 335 = .ok (.ireturn, 1) := by decide +kernel
theorem dX12_faultOf_0 : decode cX12_faultOf 0 = .ok (.aload_n 0, 1) := by decide +kernel
theorem dX12_faultOf_1 : decode cX12_faultOf 1 = .ok (.iconst 0, 1) := by decide +kernel
theorem dX12_faultOf_2 : decode cX12_faultOf 2 = .ok (.putfield 339, 3) := by decide +kernel
theorem dX12_faultOf_5 : decode cX12_faultOf 5 = .ok (.aload_n 0, 1) := by decide +kernel
theorem dX12_faultOf_6 : decode cX12_faultOf 6 = .ok (.iconst 0, 1) := by decide +kernel
theorem dX12_faultOf_7 : decode cX12_faultOf 7 = .ok (.putfield 357, 3) := by decide +kernel
theorem dX12_faultOf_10 : decode cX12_faultOf 10 = .ok (.aload_n 0, 1) := by decide +kernel
theorem dX12_faultOf_11 : decode cX12_faultOf 11 = .ok (.iconst 0, 1) := by decide +kernel
theorem dX12_faultOf_12 : decode cX12_faultOf 12 = .ok (.putfield 330, 3) := by decide +kernel
theorem dX12_faultOf_15 : decode cX12_faultOf 15 = .ok (.aload_n 0, 1) := by decide +kernel
theorem dX12_faultOf_16 : decode cX12_faultOf 16 = .ok (.iconst 0, 1) := by decide +kernel
theorem dX12_faultOf_17 : decode cX12_faultOf 17 = .ok (.putfield 333, 3) := by decide +kernel
theorem dX12_faultOf_20 : decode cX12_faultOf 20 = .ok (.iconst 0, 1) := by decide +kernel
theorem dX12_faultOf_21 : decode cX12_faultOf 21 = .ok (.istore_n 1, 1) := by decide +kernel
theorem dX12_faultOf_22 : decode cX12_faultOf 22 = .ok (.iload_n 1, 1) := by decide +kernel
theorem dX12_faultOf_23 : decode cX12_faultOf 23 = .ok (.aload_n 0, 1) := by decide +kernel
theorem dX12_faultOf_24 : decode cX12_faultOf 24 = .ok (.getfield 323, 3) := by decide +kernel
theorem dX12_faultOf_27 : decode cX12_faultOf 27 = .ok (.if_icmp .ge 22, 3) := by decide +kernel
theorem dX12_faultOf_30 : decode cX12_faultOf 30 = .ok (.aload_n 0, 1) := by decide +kernel
theorem dX12_faultOf_31 : decode cX12_faultOf 31 = .ok (.aload_n 0, 1) := by decide +kernel
theorem dX12_faultOf_32 : decode cX12_faultOf 32 = .ok (.getfield 89, 3) := by decide +kernel
theorem dX12_faultOf_35 : decode cX12_faultOf 35 = .ok (.iload_n 1, 1) := by decide +kernel
theorem dX12_faultOf_36 : decode cX12_faultOf 36 = .ok (.iaload, 1) := by decide +kernel
theorem dX12_faultOf_37 : decode cX12_faultOf 37 = .ok (.invokevirtual 381, 3) := by decide +kernel
theorem dX12_faultOf_40 : decode cX12_faultOf 40 = .ok (.ifCond .eq 9, 3) := by decide +kernel
theorem dX12_faultOf_43 : decode cX12_faultOf 43 = .ok (.iinc 1 1, 3) := by decide +kernel
theorem dX12_faultOf_46 : decode cX12_faultOf 46 = .ok (.goto (-24), 3) := by decide +kernel
theorem dX12_faultOf_49 : decode cX12_faultOf 49 = .ok (.iload_n 1, 1) := by decide +kernel
theorem dX12_faultOf_50 : decode cX12_faultOf 50 = .ok (.ireturn, 1) := by decide +kernel
theorem dX12_fault_0 : decode cX12_fault 0 = .ok (.aload_n 0, 1) := by decide +kernel
theorem dX12_fault_1 : decode cX12_fault 1 = .ok (.invokevirtual 384, 3) := by decide +kernel
theorem dX12_fault_4 : decode cX12_fault 4 = .ok (.ireturn, 1) := by decide +kernel
theorem dX12_text_0 : decode cX12_text 0 = .ok (.aload_n 0, 1) := by decide +kernel
theorem dX12_text_1 : decode cX12_text 1 = .ok (.invokevirtual 384, 3) := by decide +kernel
theorem dX12_text_4 : decode cX12_text 4 = .ok (.aload_n 0, 1) := by decide +kernel
theorem dX12_text_5 : decode cX12_text 5 = .ok (.getfield 323, 3) := by decide +kernel
theorem dX12_text_8 : decode cX12_text 8 = .ok (.if_icmp .ne 31, 3) := by decide +kernel
theorem dX12_text_11 : decode cX12_text 11 = .ok (.aload_n 0, 1) := by decide +kernel
theorem dX12_text_12 : decode cX12_text 12 = .ok (.getfield 339, 3) := by decide +kernel
theorem dX12_text_15 : decode cX12_text 15 = .ok (.iconst 3, 1) := by decide +kernel
theorem dX12_text_16 : decode cX12_text 16 = .ok (.if_icmp .eq 19, 3) := by decide +kernel
theorem dX12_text_19 : decode cX12_text 19 = .ok (.aload_n 0, 1) := by decide +kernel
theorem dX12_text_20 : decode cX12_text 20 = .ok (.getfield 339, 3) := by decide +kernel
theorem dX12_text_23 : decode cX12_text 23 = .ok (.bipush 7, 2) := by decide +kernel
theorem dX12_text_25 : decode cX12_text 25 = .ok (.if_icmp .lt 14, 3) := by decide +kernel
theorem dX12_text_28 : decode cX12_text 28 = .ok (.aload_n 0, 1) := by decide +kernel
theorem dX12_text_29 : decode cX12_text 29 = .ok (.getfield 357, 3) := by decide +kernel
theorem dX12_text_32 : decode cX12_text 32 = .ok (.ifCond .ne 7, 3) := by decide +kernel
theorem dX12_text_35 : decode cX12_text 35 = .ok (.iconst 1, 1) := by decide +kernel
theorem dX12_text_36 : decode cX12_text 36 = .ok (.goto 4, 3) := by decide +kernel
theorem dX12_text_39 : decode cX12_text 39 = .ok (.iconst 0, 1) := by decide +kernel
theorem dX12_text_40 : decode cX12_text 40 = .ok (.istore_n 1, 1) := by decide +kernel
theorem dX12_text_41 : decode cX12_text 41 = .ok (.iload_n 1, 1) := by decide +kernel
theorem dX12_text_42 : decode cX12_text 42 = .ok (.ifCond .ne 6, 3) := by decide +kernel
theorem dX12_text_45 : decode cX12_text 45 = .ok (.bipush (-103), 2) := by decide +kernel
theorem dX12_text_47 : decode cX12_text 47 = .ok (.ireturn, 1) := by decide +kernel
theorem dX12_text_48 : decode cX12_text 48 = .ok (.aload_n 0, 1) := by decide +kernel
theorem dX12_text_49 : decode cX12_text 49 = .ok (.getfield 388, 3) := by decide +kernel
theorem dX12_text_52 : decode cX12_text 52 = .ok (.bipush 16, 2) := by decide +kernel
theorem dX12_text_54 : decode cX12_text 54 = .ok (.if_icmp .ne 6, 3) := by decide +kernel
theorem dX12_text_57 : decode cX12_text 57 = .ok (.bipush (-104), 2) := by decide +kernel
theorem dX12_text_59 : decode cX12_text 59 = .ok (.ireturn, 1) := by decide +kernel
theorem dX12_text_60 : decode cX12_text 60 = .ok (.aload_n 0, 1) := by decide +kernel
theorem dX12_text_61 : decode cX12_text 61 = .ok (.invokevirtual 351, 3) := by decide +kernel
theorem dX12_text_64 : decode cX12_text 64 = .ok (.aload_n 0, 1) := by decide +kernel
theorem dX12_text_65 : decode cX12_text 65 = .ok (.bipush 17, 2) := by decide +kernel
theorem dX12_text_67 : decode cX12_text 67 = .ok (.invokevirtual 354, 3) := by decide +kernel
theorem dX12_text_70 : decode cX12_text 70 = .ok (.aload_n 0, 1) := by decide +kernel
theorem dX12_text_71 : decode cX12_text 71 = .ok (.getfield 92, 3) := by decide +kernel
theorem dX12_text_74 : decode cX12_text 74 = .ok (.aload_n 0, 1) := by decide +kernel
theorem dX12_text_75 : decode cX12_text 75 = .ok (.getfield 388, 3) := by decide +kernel
theorem dX12_text_78 : decode cX12_text 78 = .ok (.aload_n 0, 1) := by decide +kernel
theorem dX12_text_79 : decode cX12_text 79 = .ok (.getfield 363, 3) := by decide +kernel
theorem dX12_text_82 : decode cX12_text 82 = .ok (.iastore, 1) := by decide +kernel
theorem dX12_text_83 : decode cX12_text 83 = .ok (.aload_n 0, 1) := by decide +kernel
theorem dX12_text_84 : decode cX12_text 84 = .ok (.getfield 95, 3) := by decide +kernel
theorem dX12_text_87 : decode cX12_text 87 = .ok (.aload_n 0, 1) := by decide +kernel
theorem dX12_text_88 : decode cX12_text 88 = .ok (.getfield 388, 3) := by decide +kernel
theorem dX12_text_91 : decode cX12_text 91 = .ok (.aload_n 0, 1) := by decide +kernel
theorem dX12_text_92 : decode cX12_text 92 = .ok (.getfield 366, 3) := by decide +kernel
theorem dX12_text_95 : decode cX12_text 95 = .ok (.iastore, 1) := by decide +kernel
theorem dX12_text_96 : decode cX12_text 96 = .ok (.aload_n 0, 1) := by decide +kernel
theorem dX12_text_97 : decode cX12_text 97 = .ok (.getfield 98, 3) := by decide +kernel
theorem dX12_text_100 : decode cX12_text 100 = .ok (.aload_n 0, 1) := by decide +kernel
theorem dX12_text_101 : decode cX12_text 101 = .ok (.getfield 388, 3) := by decide +kernel
theorem dX12_text_104 : decode cX12_text 104 = .ok (.iconst 0, 1) := by decide +kernel
theorem dX12_text_105 : decode cX12_text 105 = .ok (.iastore, 1) := by decide +kernel
theorem dX12_text_106 : decode cX12_text 106 = .ok (.aload_n 0, 1) := by decide +kernel
theorem dX12_text_107 : decode cX12_text 107 = .ok (.getfield 101, 3) := by decide +kernel
theorem dX12_text_110 : decode cX12_text 110 = .ok (.aload_n 0, 1) := by decide +kernel
theorem dX12_text_111 : decode cX12_text 111 = .ok (.getfield 388, 3) := by decide +kernel
theorem dX12_text_114 : decode cX12_text 114 = .ok (.bipush 99, 2) := by decide +kernel
theorem dX12_text_116 : decode cX12_text 116 = .ok (.iastore, 1) := by decide +kernel
theorem dX12_text_117 : decode cX12_text 117 = .ok (.aload_n 0, 1) := by decide +kernel
theorem dX12_text_118 : decode cX12_text 118 = .ok (.getfield 104, 3) := by decide +kernel
theorem dX12_text_121 : decode cX12_text 121 = .ok (.aload_n 0, 1) := by decide +kernel
theorem dX12_text_122 : decode cX12_text 122 = .ok (.getfield 388, 3) := by decide +kernel
theorem dX12_text_125 : decode cX12_text 125 = .ok (.aload_n 0, 1) := by decide +kernel
theorem dX12_text_126 : decode cX12_text 126 = .ok (.getfield 330, 3) := by decide +kernel
theorem dX12_text_129 : decode cX12_text 129 = .ok (.iastore, 1) := by decide +kernel
theorem dX12_text_130 : decode cX12_text 130 = .ok (.iconst 0, 1) := by decide +kernel
theorem dX12_text_131 : decode cX12_text 131 = .ok (.istore_n 2, 1) := by decide +kernel
theorem dX12_text_132 : decode cX12_text 132 = .ok (.iload_n 2, 1) := by decide +kernel
theorem dX12_text_133 : decode cX12_text 133 = .ok (.aload_n 0, 1) := by decide +kernel
theorem dX12_text_134 : decode cX12_text 134 = .ok (.getfield 330, 3) := by decide +kernel
theorem dX12_text_137 : decode cX12_text 137 = .ok (.if_icmp .ge 49, 3) := by decide +kernel
theorem dX12_text_140 : decode cX12_text 140 = .ok (.aload_n 0, 1) := by decide +kernel
theorem dX12_text_141 : decode cX12_text 141 = .ok (.getfield 107, 3) := by decide +kernel
theorem dX12_text_144 : decode cX12_text 144 = .ok (.bipush 60, 2) := by decide +kernel
theorem dX12_text_146 : decode cX12_text 146 = .ok (.aload_n 0, 1) := by decide +kernel
theorem dX12_text_147 : decode cX12_text 147 = .ok (.getfield 388, 3) := by decide +kernel
theorem dX12_text_150 : decode cX12_text 150 = .ok (.imul, 1) := by decide +kernel
theorem dX12_text_151 : decode cX12_text 151 = .ok (.iload_n 2, 1) := by decide +kernel
theorem dX12_text_152 : decode cX12_text 152 = .ok (.iadd, 1) := by decide +kernel
theorem dX12_text_153 : decode cX12_text 153 = .ok (.aload_n 0, 1) := by decide +kernel
theorem dX12_text_154 : decode cX12_text 154 = .ok (.getfield 113, 3) := by decide +kernel
theorem dX12_text_157 : decode cX12_text 157 = .ok (.iload_n 2, 1) := by decide +kernel
theorem dX12_text_158 : decode cX12_text 158 = .ok (.iaload, 1) := by decide +kernel
theorem dX12_text_159 : decode cX12_text 159 = .ok (.iastore, 1) := by decide +kernel
theorem dX12_text_160 : decode cX12_text 160 = .ok (.aload_n 0, 1) := by decide +kernel
theorem dX12_text_161 : decode cX12_text 161 = .ok (.getfield 110, 3) := by decide +kernel
theorem dX12_text_164 : decode cX12_text 164 = .ok (.bipush 60, 2) := by decide +kernel
theorem dX12_text_166 : decode cX12_text 166 = .ok (.aload_n 0, 1) := by decide +kernel
theorem dX12_text_167 : decode cX12_text 167 = .ok (.getfield 388, 3) := by decide +kernel
theorem dX12_text_170 : decode cX12_text 170 = .ok (.imul, 1) := by decide +kernel
theorem dX12_text_171 : decode cX12_text 171 = .ok (.iload_n 2, 1) := by decide +kernel
theorem dX12_text_172 : decode cX12_text 172 = .ok (.iadd, 1) := by decide +kernel
theorem dX12_text_173 : decode cX12_text 173 = .ok (.aload_n 0, 1) := by decide +kernel
theorem dX12_text_174 : decode cX12_text 174 = .ok (.getfield 116, 3) := by decide +kernel
theorem dX12_text_177 : decode cX12_text 177 = .ok (.iload_n 2, 1) := by decide +kernel
theorem dX12_text_178 : decode cX12_text 178 = .ok (.iaload, 1) := by decide +kernel
theorem dX12_text_179 : decode cX12_text 179 = .ok (.iastore, 1) := by decide +kernel
theorem dX12_text_180 : decode cX12_text 180 = .ok (.iinc 2 1, 3) := by decide +kernel
theorem dX12_text_183 : decode cX12_text 183 = .ok (.goto (-51), 3) := by decide +kernel
theorem dX12_text_186 : decode cX12_text 186 = .ok (.aload_n 0, 1) := by decide +kernel
theorem dX12_text_187 : decode cX12_text 187 = .ok (.dup, 1) := by decide +kernel
theorem dX12_text_188 : decode cX12_text 188 = .ok (.getfield 388, 3) := by decide +kernel
theorem dX12_text_191 : decode cX12_text 191 = .ok (.iconst 1, 1) := by decide +kernel
theorem dX12_text_192 : decode cX12_text 192 = .ok (.iadd, 1) := by decide +kernel
theorem dX12_text_193 : decode cX12_text 193 = .ok (.putfield 388, 3) := by decide +kernel
theorem dX12_text_196 : decode cX12_text 196 = .ok (.aload_n 0, 1) := by decide +kernel
theorem dX12_text_197 : decode cX12_text 197 = .ok (.iconst 0, 1) := by decide +kernel
theorem dX12_text_198 : decode cX12_text 198 = .ok (.putfield 323, 3) := by decide +kernel
theorem dX12_text_201 : decode cX12_text 201 = .ok (.aload_n 0, 1) := by decide +kernel
theorem dX12_text_202 : decode cX12_text 202 = .ok (.getfield 388, 3) := by decide +kernel
theorem dX12_text_205 : decode cX12_text 205 = .ok (.iconst 1, 1) := by decide +kernel
theorem dX12_text_206 : decode cX12_text 206 = .ok (.isub, 1) := by decide +kernel
theorem dX12_text_207 : decode cX12_text 207 = .ok (.ireturn, 1) := by decide +kernel
theorem dX12_isDay_0 : decode cX12_isDay 0 = .ok (.iload_n 0, 1) := by decide +kernel
theorem dX12_isDay_1 : decode cX12_isDay 1 = .ok (.i2l, 1) := by decide +kernel
theorem dX12_isDay_2 : decode cX12_isDay 2 = .ok (.lconst 0, 1) := by decide +kernel
theorem dX12_isDay_3 : decode cX12_isDay 3 = .ok (.ldc2_w 391, 3) := by decide +kernel
theorem dX12_isDay_6 : decode cX12_isDay 6 = .ok (.invokestatic 194, 3) := by decide +kernel
theorem dX12_isDay_9 : decode cX12_isDay 9 = .ok (.ireturn, 1) := by decide +kernel
theorem dX12_force_0 : decode cX12_force 0 = .ok (.iload_n 1, 1) := by decide +kernel
theorem dX12_force_1 : decode cX12_force 1 = .ok (.i2l, 1) := by decide +kernel
theorem dX12_force_2 : decode cX12_force 2 = .ok (.lconst 0, 1) := by decide +kernel
theorem dX12_force_3 : decode cX12_force 3 = .ok (.aload_n 0, 1) := by decide +kernel
theorem dX12_force_4 : decode cX12_force 4 = .ok (.getfield 388, 3) := by decide +kernel
theorem dX12_force_7 : decode cX12_force 7 = .ok (.iconst 1, 1) := by decide +kernel
theorem dX12_force_8 : decode cX12_force 8 = .ok (.isub, 1) := by decide +kernel
theorem dX12_force_9 : decode cX12_force 9 = .ok (.i2l, 1) := by decide +kernel
theorem dX12_force_10 : decode cX12_force 10 = .ok (.invokestatic 194, 3) := by decide +kernel
theorem dX12_force_13 : decode cX12_force 13 = .ok (.ifCond .ne 6, 3) := by decide +kernel
theorem dX12_force_16 : decode cX12_force 16 = .ok (.bipush (-101), 2) := by decide +kernel
theorem dX12_force_18 : decode cX12_force 18 = .ok (.ireturn, 1) := by decide +kernel
theorem dX12_force_19 : decode cX12_force 19 = .ok (.iload_n 2, 1) := by decide +kernel
theorem dX12_force_20 : decode cX12_force 20 = .ok (.invokestatic 393, 3) := by decide +kernel
theorem dX12_force_23 : decode cX12_force 23 = .ok (.ifCond .eq 16, 3) := by decide +kernel
theorem dX12_force_26 : decode cX12_force 26 = .ok (.iload_n 3, 1) := by decide +kernel
theorem dX12_force_27 : decode cX12_force 27 = .ok (.i2l, 1) := by decide +kernel
theorem dX12_force_28 : decode cX12_force 28 = .ok (.iload_n 2, 1) := by decide +kernel
theorem dX12_force_29 : decode cX12_force 29 = .ok (.i2l, 1) := by decide +kernel
theorem dX12_force_30 : decode cX12_force 30 = .ok (.ldc2_w 391, 3) := by decide +kernel
theorem dX12_force_33 : decode cX12_force 33 = .ok (.invokestatic 194, 3) := by decide +kernel
theorem dX12_force_36 : decode cX12_force 36 = .ok (.ifCond .ne 6, 3) := by decide +kernel
theorem dX12_force_39 : decode cX12_force 39 = .ok (.bipush (-102), 2) := by decide +kernel
theorem dX12_force_41 : decode cX12_force 41 = .ok (.ireturn, 1) := by decide +kernel
theorem dX12_force_42 : decode cX12_force 42 = .ok (.aload_n 0, 1) := by decide +kernel
theorem dX12_force_43 : decode cX12_force 43 = .ok (.getfield 98, 3) := by decide +kernel
theorem dX12_force_46 : decode cX12_force 46 = .ok (.iload_n 1, 1) := by decide +kernel
theorem dX12_force_47 : decode cX12_force 47 = .ok (.iload_n 2, 1) := by decide +kernel
theorem dX12_force_48 : decode cX12_force 48 = .ok (.iastore, 1) := by decide +kernel
theorem dX12_force_49 : decode cX12_force 49 = .ok (.aload_n 0, 1) := by decide +kernel
theorem dX12_force_50 : decode cX12_force 50 = .ok (.getfield 101, 3) := by decide +kernel
theorem dX12_force_53 : decode cX12_force 53 = .ok (.iload_n 1, 1) := by decide +kernel
theorem dX12_force_54 : decode cX12_force 54 = .ok (.iload_n 3, 1) := by decide +kernel
theorem dX12_force_55 : decode cX12_force 55 = .ok (.iastore, 1) := by decide +kernel
theorem dX12_force_56 : decode cX12_force 56 = .ok (.iconst 1, 1) := by decide +kernel
theorem dX12_force_57 : decode cX12_force 57 = .ok (.ireturn, 1) := by decide +kernel
theorem dX12_holdsFor_0 : decode cX12_holdsFor 0 = .ok (.iconst 0, 1) := by decide +kernel
theorem dX12_holdsFor_1 : decode cX12_holdsFor 1 = .ok (.istore 4, 2) := by decide +kernel
theorem dX12_holdsFor_3 : decode cX12_holdsFor 3 = .ok (.iconst 0, 1) := by decide +kernel
theorem dX12_holdsFor_4 : decode cX12_holdsFor 4 = .ok (.istore 5, 2) := by decide +kernel
theorem dX12_holdsFor_6 : decode cX12_holdsFor 6 = .ok (.iload 5, 2) := by decide +kernel
theorem dX12_holdsFor_8 : decode cX12_holdsFor 8 = .ok (.aload_n 0, 1) := by decide +kernel
theorem dX12_holdsFor_9 : decode cX12_holdsFor 9 = .ok (.getfield 104, 3) := by decide +kernel
theorem dX12_holdsFor_12 : decode cX12_holdsFor 12 = .ok (.iload_n 1, 1) := by decide +kernel
theorem dX12_holdsFor_13 : decode cX12_holdsFor 13 = .ok (.iaload, 1) := by decide +kernel
theorem dX12_holdsFor_14 : decode cX12_holdsFor 14 = .ok (.if_icmp .ge 293, 3) := by decide +kernel
theorem dX12_holdsFor_17 : decode cX12_holdsFor 17 = .ok (.aload_n 0, 1) := by decide +kernel
theorem dX12_holdsFor_18 : decode cX12_holdsFor 18 = .ok (.getfield 107, 3) := by decide +kernel
theorem dX12_holdsFor_21 : decode cX12_holdsFor 21 = .ok (.bipush 60, 2) := by decide +kernel
theorem dX12_holdsFor_23 : decode cX12_holdsFor 23 = .ok (.iload_n 1, 1) := by decide +kernel
theorem dX12_holdsFor_24 : decode cX12_holdsFor 24 = .ok (.imul, 1) := by decide +kernel
theorem dX12_holdsFor_25 : decode cX12_holdsFor 25 = .ok (.iload 5, 2) := by decide +kernel
theorem dX12_holdsFor_27 : decode cX12_holdsFor 27 = .ok (.iadd, 1) := by decide +kernel
theorem dX12_holdsFor_28 : decode cX12_holdsFor 28 = .ok (.iaload, 1) := by decide +kernel
theorem dX12_holdsFor_29 : decode cX12_holdsFor 29 = .ok (.istore 6, 2) := by decide +kernel
theorem dX12_holdsFor_31 : decode cX12_holdsFor 31 = .ok (.iload 6, 2) := by decide +kernel
theorem dX12_holdsFor_33 : decode cX12_holdsFor 33 = .ok (.bipush 15, 2) := by decide +kernel
theorem dX12_holdsFor_35 : decode cX12_holdsFor 35 = .ok (.if_icmp .ge 154, 3) := by decide +kernel
theorem dX12_holdsFor_38 : decode cX12_holdsFor 38 = .ok (.iload 6, 2) := by decide +kernel
theorem dX12_holdsFor_40 : decode cX12_holdsFor 40 = .ok (.iconst 3, 1) := by decide +kernel
theorem dX12_holdsFor_41 : decode cX12_holdsFor 41 = .ok (.idiv, 1) := by decide +kernel
theorem dX12_holdsFor_42 : decode cX12_holdsFor 42 = .ok (.istore 7, 2) := by decide +kernel
theorem dX12_holdsFor_44 : decode cX12_holdsFor 44 = .ok (.iload 7, 2) := by decide +kernel
theorem dX12_holdsFor_46 : decode cX12_holdsFor 46 = .ok (.ifCond .ne 12, 3) := by decide +kernel
theorem dX12_holdsFor_49 : decode cX12_holdsFor 49 = .ok (.aload_n 0, 1) := by decide +kernel
theorem dX12_holdsFor_50 : decode cX12_holdsFor 50 = .ok (.getfield 62, 3) := by decide +kernel
theorem dX12_holdsFor_53 : decode cX12_holdsFor 53 = .ok (.iload_n 2, 1) := by decide +kernel
theorem dX12_holdsFor_54 : decode cX12_holdsFor 54 = .ok (.iaload, 1) := by decide +kernel
theorem dX12_holdsFor_55 : decode cX12_holdsFor 55 = .ok (.goto 48, 3) := by decide +kernel
theorem dX12_holdsFor_58 : decode cX12_holdsFor 58 = .ok (.iload 7, 2) := by decide +kernel
theorem dX12_holdsFor_60 : decode cX12_holdsFor 60 = .ok (.iconst 1, 1) := by decide +kernel
theorem dX12_holdsFor_61 : decode cX12_holdsFor 61 = .ok (.if_icmp .ne 11, 3) := by decide +kernel
theorem dX12_holdsFor_64 : decode cX12_holdsFor 64 = .ok (.aload_n 0, 1) := by decide +kernel
theorem dX12_holdsFor_65 : decode cX12_holdsFor 65 = .ok (.iload_n 2, 1) := by decide +kernel
theorem dX12_holdsFor_66 : decode cX12_holdsFor 66 = .ok (.invokevirtual 257, 3) := by decide +kernel
theorem dX12_holdsFor_69 : decode cX12_holdsFor 69 = .ok (.goto 34, 3) := by decide +kernel
theorem dX12_holdsFor_72 : decode cX12_holdsFor 72 = .ok (.iload 7, 2) := by decide +kernel
theorem dX12_holdsFor_74 : decode cX12_holdsFor 74 = .ok (.iconst 2, 1) := by decide +kernel
theorem dX12_holdsFor_75 : decode cX12_holdsFor 75 = .ok (.if_icmp .ne 12, 3) := by decide +kernel
theorem dX12_holdsFor_78 : decode cX12_holdsFor 78 = .ok (.aload_n 0, 1) := by decide +kernel
theorem dX12_holdsFor_79 : decode cX12_holdsFor 79 = .ok (.getfield 68, 3) := by decide +kernel
theorem dX12_holdsFor_82 : decode cX12_holdsFor 82 = .ok (.iload_n 2, 1) := by decide +kernel
theorem dX12_holdsFor_83 : decode cX12_holdsFor 83 = .ok (.iaload, 1) := by decide +kernel
theorem dX12_holdsFor_84 : decode cX12_holdsFor 84 = .ok (.goto 19, 3) := by decide +kernel
theorem dX12_holdsFor_87 : decode cX12_holdsFor 87 = .ok (.iload 7, 2) := by decide +kernel
theorem dX12_holdsFor_89 : decode cX12_holdsFor 89 = .ok (.iconst 3, 1) := by decide +kernel
theorem dX12_holdsFor_90 : decode cX12_holdsFor 90 = .ok (.if_icmp .ne 12, 3) := by decide +kernel
theorem dX12_holdsFor_93 : decode cX12_holdsFor 93 = .ok (.aload_n 0, 1) := by decide +kernel
theorem dX12_holdsFor_94 : decode cX12_holdsFor 94 = .ok (.getfield 71, 3) := by decide +kernel
theorem dX12_holdsFor_97 : decode cX12_holdsFor 97 = .ok (.iload_n 2, 1) := by decide +kernel
theorem dX12_holdsFor_98 : decode cX12_holdsFor 98 = .ok (.iaload, 1) := by decide +kernel
theorem dX12_holdsFor_99 : decode cX12_holdsFor 99 = .ok (.goto 4, 3) := by decide +kernel
theorem dX12_holdsFor_102 : decode cX12_holdsFor 102 = .ok (.iload_n 3, 1) := by decide +kernel
theorem dX12_holdsFor_103 : decode cX12_holdsFor 103 = .ok (.istore 8, 2) := by decide +kernel
theorem dX12_holdsFor_105 : decode cX12_holdsFor 105 = .ok (.aload_n 0, 1) := by decide +kernel
theorem dX12_holdsFor_106 : decode cX12_holdsFor 106 = .ok (.getfield 110, 3) := by decide +kernel
theorem dX12_holdsFor_109 : decode cX12_holdsFor 109 = .ok (.bipush 60, 2) := by decide +kernel
theorem dX12_holdsFor_111 : decode cX12_holdsFor 111 = .ok (.iload_n 1, 1) := by decide +kernel
theorem dX12_holdsFor_112 : decode cX12_holdsFor 112 = .ok (.imul, 1) := by decide +kernel
theorem dX12_holdsFor_113 : decode cX12_holdsFor 113 = .ok (.iload 5, 2) := by decide +kernel
theorem dX12_holdsFor_115 : decode cX12_holdsFor 115 = .ok (.iadd, 1) := by decide +kernel
theorem dX12_holdsFor_116 : decode cX12_holdsFor 116 = .ok (.iaload, 1) := by decide +kernel
theorem dX12_holdsFor_117 : decode cX12_holdsFor 117 = .ok (.istore 9, 2) := by decide +kernel
theorem dX12_holdsFor_119 : decode cX12_holdsFor 119 = .ok (.aload_n 0, 1) := by decide +kernel
theorem dX12_holdsFor_120 : decode cX12_holdsFor 120 = .ok (.getfield 122, 3) := by decide +kernel
theorem dX12_holdsFor_123 : decode cX12_holdsFor 123 = .ok (.iload 4, 2) := by decide +kernel
theorem dX12_holdsFor_125 : decode cX12_holdsFor 125 = .ok (.iload 6, 2) := by decide +kernel
theorem dX12_holdsFor_127 : decode cX12_holdsFor 127 = .ok (.iconst 3, 1) := by decide +kernel
theorem dX12_holdsFor_128 : decode cX12_holdsFor 128 = .ok (.irem, 1) := by decide +kernel
theorem dX12_holdsFor_129 : decode cX12_holdsFor 129 = .ok (.ifCond .ne 18, 3) := by decide +kernel
theorem dX12_holdsFor_132 : decode cX12_holdsFor 132 = .ok (.iload 8, 2) := by decide +kernel
theorem dX12_holdsFor_134 : decode cX12_holdsFor 134 = .ok (.iload 9, 2) := by decide +kernel
theorem dX12_holdsFor_136 : decode cX12_holdsFor 136 = .ok (.if_icmp .ge 7, 3) := by decide +kernel
theorem dX12_holdsFor_139 : decode cX12_holdsFor 139 = .ok (.iconst 1, 1) := by decide +kernel
theorem dX12_holdsFor_140 : decode cX12_holdsFor 140 = .ok (.goto 42, 3) := by decide +kernel
theorem dX12_holdsFor_143 : decode cX12_holdsFor 143 = .ok (.iconst 0, 1) := by decide +kernel
theorem dX12_holdsFor_144 : decode cX12_holdsFor 144 = .ok (.goto 38, 3) := by decide +kernel
theorem dX12_holdsFor_147 : decode cX12_holdsFor 147 = .ok (.iload 6, 2) := by decide +kernel
theorem dX12_holdsFor_149 : decode cX12_holdsFor 149 = .ok (.iconst 3, 1) := by decide +kernel
theorem dX12_holdsFor_150 : decode cX12_holdsFor 150 = .ok (.irem, 1) := by decide +kernel
theorem dX12_holdsFor_151 : decode cX12_holdsFor 151 = .ok (.iconst 1, 1) := by decide +kernel
theorem dX12_holdsFor_152 : decode cX12_holdsFor 152 = .ok (.if_icmp .ne 18, 3) := by decide +kernel
theorem dX12_holdsFor_155 : decode cX12_holdsFor 155 = .ok (.iload 8, 2) := by decide +kernel
theorem dX12_holdsFor_157 : decode cX12_holdsFor 157 = .ok (.iload 9, 2) := by decide +kernel
theorem dX12_holdsFor_159 : decode cX12_holdsFor 159 = .ok (.if_icmp .ne 7, 3) := by decide +kernel
theorem dX12_holdsFor_162 : decode cX12_holdsFor 162 = .ok (.iconst 1, 1) := by decide +kernel
theorem dX12_holdsFor_163 : decode cX12_holdsFor 163 = .ok (.goto 19, 3) := by decide +kernel
theorem dX12_holdsFor_166 : decode cX12_holdsFor 166 = .ok (.iconst 0, 1) := by decide +kernel
theorem dX12_holdsFor_167 : decode cX12_holdsFor 167 = .ok (.goto 15, 3) := by decide +kernel
theorem dX12_holdsFor_170 : decode cX12_holdsFor 170 = .ok (.iload 8, 2) := by decide +kernel
theorem dX12_holdsFor_172 : decode cX12_holdsFor 172 = .ok (.iload 9, 2) := by decide +kernel
theorem dX12_holdsFor_174 : decode cX12_holdsFor 174 = .ok (.if_icmp .le 7, 3) := by decide +kernel
theorem dX12_holdsFor_177 : decode cX12_holdsFor 177 = .ok (.iconst 1, 1) := by decide +kernel
theorem dX12_holdsFor_178 : decode cX12_holdsFor 178 = .ok (.goto 4, 3) := by decide +kernel
theorem dX12_holdsFor_181 : decode cX12_holdsFor 181 = .ok (.iconst 0, 1) := by decide +kernel
theorem dX12_holdsFor_182 : decode cX12_holdsFor 182 = .ok (.bastore, 1) := by decide +kernel
theorem dX12_holdsFor_183 : decode cX12_holdsFor 183 = .ok (.iinc 4 1, 3) := by decide +kernel
theorem dX12_holdsFor_186 : decode cX12_holdsFor 186 = .ok (.goto 115, 3) := by decide +kernel
theorem dX12_holdsFor_189 : decode cX12_holdsFor 189 = .ok (.iload 6, 2) := by decide +kernel
theorem dX12_holdsFor_191 : decode cX12_holdsFor 191 = .ok (.bipush 15, 2) := by decide +kernel
theorem dX12_holdsFor_193 : decode cX12_holdsFor 193 = .ok (.if_icmp .ne 32, 3) := by decide +kernel
theorem dX12_holdsFor_196 : decode cX12_holdsFor 196 = .ok (.aload_n 0, 1) := by decide +kernel
theorem dX12_holdsFor_197 : decode cX12_holdsFor 197 = .ok (.getfield 122, 3) := by decide +kernel
theorem dX12_holdsFor_200 : decode cX12_holdsFor 200 = .ok (.iload 4, 2) := by decide +kernel
theorem dX12_holdsFor_202 : decode cX12_holdsFor 202 = .ok (.iconst 1, 1) := by decide +kernel
theorem dX12_holdsFor_203 : decode cX12_holdsFor 203 = .ok (.isub, 1) := by decide +kernel
theorem dX12_holdsFor_204 : decode cX12_holdsFor 204 = .ok (.aload_n 0, 1) := by decide +kernel
theorem dX12_holdsFor_205 : decode cX12_holdsFor 205 = .ok (.getfield 122, 3) := by decide +kernel
theorem dX12_holdsFor_208 : decode cX12_holdsFor 208 = .ok (.iload 4, 2) := by decide +kernel
theorem dX12_holdsFor_210 : decode cX12_holdsFor 210 = .ok (.iconst 1, 1) := by decide +kernel
theorem dX12_holdsFor_211 : decode cX12_holdsFor 211 = .ok (.isub, 1) := by decide +kernel
theorem dX12_holdsFor_212 : decode cX12_holdsFor 212 = .ok (.baload, 1) := by decide +kernel
theorem dX12_holdsFor_213 : decode cX12_holdsFor 213 = .ok (.ifCond .ne 7, 3) := by decide +kernel
theorem dX12_holdsFor_216 : decode cX12_holdsFor 216 = .ok (.iconst 1, 1) := by decide +kernel
theorem dX12_holdsFor_217 : decode cX12_holdsFor 217 = .ok (.goto 4, 3) := by decide +kernel
theorem dX12_holdsFor_220 : decode cX12_holdsFor 220 = .ok (.iconst 0, 1) := by decide +kernel
theorem dX12_holdsFor_221 : decode cX12_holdsFor 221 = .ok (.bastore, 1) := by decide +kernel
theorem dX12_holdsFor_222 : decode cX12_holdsFor 222 = .ok (.goto 79, 3) := by decide +kernel
theorem dX12_holdsFor_225 : decode cX12_holdsFor 225 = .ok (.iinc 4 (-1), 3) := by decide +kernel
theorem dX12_holdsFor_228 : decode cX12_holdsFor 228 = .ok (.aload_n 0, 1) := by decide +kernel
theorem dX12_holdsFor_229 : decode cX12_holdsFor 229 = .ok (.getfield 122, 3) := by decide +kernel
theorem dX12_holdsFor_232 : decode cX12_holdsFor 232 = .ok (.iload 4, 2) := by decide +kernel
theorem dX12_holdsFor_234 : decode cX12_holdsFor 234 = .ok (.iconst 1, 1) := by decide +kernel
theorem dX12_holdsFor_235 : decode cX12_holdsFor 235 = .ok (.isub, 1) := by decide +kernel
theorem dX12_holdsFor_236 : decode cX12_holdsFor 236 = .ok (.iload 6, 2) := by decide +kernel
theorem dX12_holdsFor_238 : decode cX12_holdsFor 238 = .ok (.bipush 16, 2) := by decide +kernel
theorem dX12_holdsFor_240 : decode cX12_holdsFor 240 = .ok (.if_icmp .ne 33, 3) := by decide +kernel
theorem dX12_holdsFor_243 : decode cX12_holdsFor 243 = .ok (.aload_n 0, 1) := by decide +kernel
theorem dX12_holdsFor_244 : decode cX12_holdsFor 244 = .ok (.getfield 122, 3) := by decide +kernel
theorem dX12_holdsFor_247 : decode cX12_holdsFor 247 = .ok (.iload 4, 2) := by decide +kernel
theorem dX12_holdsFor_249 : decode cX12_holdsFor 249 = .ok (.iconst 1, 1) := by decide +kernel
theorem dX12_holdsFor_250 : decode cX12_holdsFor 250 = .ok (.isub, 1) := by decide +kernel
theorem dX12_holdsFor_251 : decode cX12_holdsFor 251 = .ok (.baload, 1) := by decide +kernel
theorem dX12_holdsFor_252 : decode cX12_holdsFor 252 = .ok (.ifCond .eq 17, 3) := by decide +kernel
theorem dX12_holdsFor_255 : decode cX12_holdsFor 255 = .ok (.aload_n 0, 1) := by decide +kernel
theorem dX12_holdsFor_256 : decode cX12_holdsFor 256 = .ok (.getfield 122, 3) := by decide +kernel
theorem dX12_holdsFor_259 : decode cX12_holdsFor 259 = .ok (.iload 4, 2) := by decide +kernel
theorem dX12_holdsFor_261 : decode cX12_holdsFor 261 = .ok (.baload, 1) := by decide +kernel
theorem dX12_holdsFor_262 : decode cX12_holdsFor 262 = .ok (.ifCond .eq 7, 3) := by decide +kernel
theorem dX12_holdsFor_265 : decode cX12_holdsFor 265 = .ok (.iconst 1, 1) := by decide +kernel
theorem dX12_holdsFor_266 : decode cX12_holdsFor 266 = .ok (.goto 34, 3) := by decide +kernel
theorem dX12_holdsFor_269 : decode cX12_holdsFor 269 = .ok (.iconst 0, 1) := by decide +kernel
theorem dX12_holdsFor_270 : decode cX12_holdsFor 270 = .ok (.goto 30, 3) := by decide +kernel
theorem dX12_holdsFor_273 : decode cX12_holdsFor 273 = .ok (.aload_n 0, 1) := by decide +kernel
theorem dX12_holdsFor_274 : decode cX12_holdsFor 274 = .ok (.getfield 122, 3) := by decide +kernel
theorem dX12_holdsFor_277 : decode cX12_holdsFor 277 = .ok (.iload 4, 2) := by decide +kernel
theorem dX12_holdsFor_279 : decode cX12_holdsFor 279 = .ok (.iconst 1, 1) := by decide +kernel
theorem dX12_holdsFor_280 : decode cX12_holdsFor 280 = .ok (.isub, 1) := by decide +kernel
theorem dX12_holdsFor_281 : decode cX12_holdsFor 281 = .ok (.baload, 1) := by decide +kernel
theorem dX12_holdsFor_282 : decode cX12_holdsFor 282 = .ok (.ifCond .ne 13, 3) := by decide +kernel
theorem dX12_holdsFor_285 : decode cX12_holdsFor 285 = .ok (.aload_n 0, 1) := by decide +kernel
theorem dX12_holdsFor_286 : decode cX12_holdsFor 286 = .ok (.getfield 122, 3) := by decide +kernel
theorem dX12_holdsFor_289 : decode cX12_holdsFor 289 = .ok (.iload 4, 2) := by decide +kernel
theorem dX12_holdsFor_291 : decode cX12_holdsFor 291 = .ok (.baload, 1) := by decide +kernel
theorem dX12_holdsFor_292 : decode cX12_holdsFor 292 = .ok (.ifCond .eq 7, 3) := by decide +kernel
theorem dX12_holdsFor_295 : decode cX12_holdsFor 295 = .ok (.iconst 1, 1) := by decide +kernel
theorem dX12_holdsFor_296 : decode cX12_holdsFor 296 = .ok (.goto 4, 3) := by decide +kernel
theorem dX12_holdsFor_299 : decode cX12_holdsFor 299 = .ok (.iconst 0, 1) := by decide +kernel
theorem dX12_holdsFor_300 : decode cX12_holdsFor 300 = .ok (.bastore, 1) := by decide +kernel
theorem dX12_holdsFor_301 : decode cX12_holdsFor 301 = .ok (.iinc 5 1, 3) := by decide +kernel
theorem dX12_holdsFor_304 : decode cX12_holdsFor 304 = .ok (.goto (-298), 3) := by decide +kernel
theorem dX12_holdsFor_307 : decode cX12_holdsFor 307 = .ok (.iload 4, 2) := by decide +kernel
theorem dX12_holdsFor_309 : decode cX12_holdsFor 309 = .ok (.ifCond .eq 12, 3) := by decide +kernel
theorem dX12_holdsFor_312 : decode cX12_holdsFor 312 = .ok (.aload_n 0, 1) := by decide +kernel
theorem dX12_holdsFor_313 : decode cX12_holdsFor 313 = .ok (.getfield 122, 3) := by decide +kernel
theorem dX12_holdsFor_316 : decode cX12_holdsFor 316 = .ok (.iconst 0, 1) := by decide +kernel
theorem dX12_holdsFor_317 : decode cX12_holdsFor 317 = .ok (.baload, 1) := by decide +kernel
theorem dX12_holdsFor_318 : decode cX12_holdsFor 318 = .ok (.ifCond .eq 7, 3) := by decide +kernel
theorem dX12_holdsFor_321 : decode cX12_holdsFor 321 = .ok (.iconst 1, 1) := by decide +kernel
theorem dX12_holdsFor_322 : decode cX12_holdsFor 322 = .ok (.goto 4, 3) := by decide +kernel
theorem dX12_holdsFor_325 : decode cX12_holdsFor 325 = .ok (.iconst 0, 1) := by decide +kernel
theorem dX12_holdsFor_326 : decode cX12_holdsFor 326 = .ok (.ireturn, 1) := by decide +kernel
theorem dX12_binds_0 : decode cX12_binds 0 = .ok (.aload_n 0, 1) := by decide +kernel
theorem dX12_binds_1 : decode cX12_binds 1 = .ok (.getfield 92, 3) := by decide +kernel
theorem dX12_binds_4 : decode cX12_binds 4 = .ok (.iload_n 1, 1) := by decide +kernel
theorem dX12_binds_5 : decode cX12_binds 5 = .ok (.iaload, 1) := by decide +kernel
theorem dX12_binds_6 : decode cX12_binds 6 = .ok (.iload_n 2, 1) := by decide +kernel
theorem dX12_binds_7 : decode cX12_binds 7 = .ok (.if_icmp .ne 41, 3) := by decide +kernel
theorem dX12_binds_10 : decode cX12_binds 10 = .ok (.iload 4, 2) := by decide +kernel
theorem dX12_binds_12 : decode cX12_binds 12 = .ok (.i2l, 1) := by decide +kernel
theorem dX12_binds_13 : decode cX12_binds 13 = .ok (.aload_n 0, 1) := by decide +kernel
theorem dX12_binds_14 : decode cX12_binds 14 = .ok (.getfield 98, 3) := by decide +kernel
theorem dX12_binds_17 : decode cX12_binds 17 = .ok (.iload_n 1, 1) := by decide +kernel
theorem dX12_binds_18 : decode cX12_binds 18 = .ok (.iaload, 1) := by decide +kernel
theorem dX12_binds_19 : decode cX12_binds 19 = .ok (.i2l, 1) := by decide +kernel
theorem dX12_binds_20 : decode cX12_binds 20 = .ok (.aload_n 0, 1) := by decide +kernel
theorem dX12_binds_21 : decode cX12_binds 21 = .ok (.getfield 101, 3) := by decide +kernel
theorem dX12_binds_24 : decode cX12_binds 24 = .ok (.iload_n 1, 1) := by decide +kernel
theorem dX12_binds_25 : decode cX12_binds 25 = .ok (.iaload, 1) := by decide +kernel
theorem dX12_binds_26 : decode cX12_binds 26 = .ok (.i2l, 1) := by decide +kernel
theorem dX12_binds_27 : decode cX12_binds 27 = .ok (.invokestatic 194, 3) := by decide +kernel
theorem dX12_binds_30 : decode cX12_binds 30 = .ok (.ifCond .eq 18, 3) := by decide +kernel
theorem dX12_binds_33 : decode cX12_binds 33 = .ok (.aload_n 0, 1) := by decide +kernel
theorem dX12_binds_34 : decode cX12_binds 34 = .ok (.iload_n 1, 1) := by decide +kernel
theorem dX12_binds_35 : decode cX12_binds 35 = .ok (.iload_n 3, 1) := by decide +kernel
theorem dX12_binds_36 : decode cX12_binds 36 = .ok (.iload 4, 2) := by decide +kernel
theorem dX12_binds_38 : decode cX12_binds 38 = .ok (.invokevirtual 396, 3) := by decide +kernel
theorem dX12_binds_41 : decode cX12_binds 41 = .ok (.ifCond .eq 7, 3) := by decide +kernel
theorem dX12_binds_44 : decode cX12_binds 44 = .ok (.iconst 1, 1) := by decide +kernel
theorem dX12_binds_45 : decode cX12_binds 45 = .ok (.goto 4, 3) := by decide +kernel
theorem dX12_binds_48 : decode cX12_binds 48 = .ok (.iconst 0, 1) := by decide +kernel
theorem dX12_binds_49 : decode cX12_binds 49 = .ok (.ireturn, 1) := by decide +kernel
theorem dX12_speaker_0 : decode cX12_speaker 0 = .ok (.iconst (-1), 1) := by decide +kernel
theorem dX12_speaker_1 : decode cX12_speaker 1 = .ok (.istore 4, 2) := by decide +kernel
theorem dX12_speaker_3 : decode cX12_speaker 3 = .ok (.iconst 0, 1) := by decide +kernel
theorem dX12_speaker_4 : decode cX12_speaker 4 = .ok (.istore 5, 2) := by decide +kernel
theorem dX12_speaker_6 : decode cX12_speaker 6 = .ok (.iload 5, 2) := by decide +kernel
theorem dX12_speaker_8 : decode cX12_speaker 8 = .ok (.aload_n 0, 1) := by decide +kernel
theorem dX12_speaker_9 : decode cX12_speaker 9 = .ok (.getfield 388, 3) := by decide +kernel
theorem dX12_speaker_12 : decode cX12_speaker 12 = .ok (.if_icmp .ge 30, 3) := by decide +kernel
theorem dX12_speaker_15 : decode cX12_speaker 15 = .ok (.aload_n 0, 1) := by decide +kernel
theorem dX12_speaker_16 : decode cX12_speaker 16 = .ok (.iload 5, 2) := by decide +kernel
theorem dX12_speaker_18 : decode cX12_speaker 18 = .ok (.iload_n 1, 1) := by decide +kernel
theorem dX12_speaker_19 : decode cX12_speaker 19 = .ok (.iload_n 2, 1) := by decide +kernel
theorem dX12_speaker_20 : decode cX12_speaker 20 = .ok (.iload_n 3, 1) := by decide +kernel
theorem dX12_speaker_21 : decode cX12_speaker 21 = .ok (.invokevirtual 400, 3) := by decide +kernel
theorem dX12_speaker_24 : decode cX12_speaker 24 = .ok (.ifCond .eq 8, 3) := by decide +kernel
theorem dX12_speaker_27 : decode cX12_speaker 27 = .ok (.iload 5, 2) := by decide +kernel
theorem dX12_speaker_29 : decode cX12_speaker 29 = .ok (.goto 5, 3) := by decide +kernel
theorem dX12_speaker_32 : decode cX12_speaker 32 = .ok (.iload 4, 2) := by decide +kernel
theorem dX12_speaker_34 : decode cX12_speaker 34 = .ok (.istore 4, 2) := by decide +kernel
theorem dX12_speaker_36 : decode cX12_speaker 36 = .ok (.iinc 5 1, 3) := by decide +kernel
theorem dX12_speaker_39 : decode cX12_speaker 39 = .ok (.goto (-33), 3) := by decide +kernel
theorem dX12_speaker_42 : decode cX12_speaker 42 = .ok (.iload 4, 2) := by decide +kernel
theorem dX12_speaker_44 : decode cX12_speaker 44 = .ok (.ireturn, 1) := by decide +kernel
theorem dX12_refusal_0 : decode cX12_refusal 0 = .ok (.iload_n 1, 1) := by decide +kernel
theorem dX12_refusal_1 : decode cX12_refusal 1 = .ok (.i2l, 1) := by decide +kernel
theorem dX12_refusal_2 : decode cX12_refusal 2 = .ok (.lconst 0, 1) := by decide +kernel
theorem dX12_refusal_3 : decode cX12_refusal 3 = .ok (.lconst 1, 1) := by decide +kernel
theorem dX12_refusal_4 : decode cX12_refusal 4 = .ok (.invokestatic 194, 3) := by decide +kernel
theorem dX12_refusal_7 : decode cX12_refusal 7 = .ok (.ifCond .eq 10, 3) := by decide +kernel
theorem dX12_refusal_10 : decode cX12_refusal 10 = .ok (.iload_n 3, 1) := by decide +kernel
theorem dX12_refusal_11 : decode cX12_refusal 11 = .ok (.invokestatic 393, 3) := by decide +kernel
theorem dX12_refusal_14 : decode cX12_refusal 14 = .ok (.ifCond .ne 6, 3) := by decide +kernel
theorem dX12_refusal_17 : decode cX12_refusal 17 = .ok (.bipush (-102), 2) := by decide +kernel
theorem dX12_refusal_19 : decode cX12_refusal 19 = .ok (.ireturn, 1) := by decide +kernel
theorem dX12_refusal_20 : decode cX12_refusal 20 = .ok (.aload_n 0, 1) := by decide +kernel
theorem dX12_refusal_21 : decode cX12_refusal 21 = .ok (.iload_n 2, 1) := by decide +kernel
theorem dX12_refusal_22 : decode cX12_refusal 22 = .ok (.invokevirtual 261, 3) := by decide +kernel
theorem dX12_refusal_25 : decode cX12_refusal 25 = .ok (.ifCond .eq 7, 3) := by decide +kernel
theorem dX12_refusal_28 : decode cX12_refusal 28 = .ok (.iconst 0, 1) := by decide +kernel
theorem dX12_refusal_29 : decode cX12_refusal 29 = .ok (.goto 5, 3) := by decide +kernel
theorem dX12_refusal_32 : decode cX12_refusal 32 = .ok (.bipush (-101), 2) := by decide +kernel
theorem dX12_refusal_34 : decode cX12_refusal 34 = .ok (.ireturn, 1) := by decide +kernel
theorem dX12_speaks_0 : decode cX12_speaks 0 = .ok (.aload_n 0, 1) := by decide +kernel
theorem dX12_speaks_1 : decode cX12_speaks 1 = .ok (.iload_n 1, 1) := by decide +kernel
theorem dX12_speaks_2 : decode cX12_speaks 2 = .ok (.iload_n 2, 1) := by decide +kernel
theorem dX12_speaks_3 : decode cX12_speaks 3 = .ok (.iload_n 3, 1) := by decide +kernel
theorem dX12_speaks_4 : decode cX12_speaks 4 = .ok (.invokevirtual 404, 3) := by decide +kernel
theorem dX12_speaks_7 : decode cX12_speaks 7 = .ok (.istore 4, 2) := by decide +kernel
theorem dX12_speaks_9 : decode cX12_speaks 9 = .ok (.iload 4, 2) := by decide +kernel
theorem dX12_speaks_11 : decode cX12_speaks 11 = .ok (.ifCond .eq 8, 3) := by decide +kernel
theorem dX12_speaks_14 : decode cX12_speaks 14 = .ok (.iload 4, 2) := by decide +kernel
theorem dX12_speaks_16 : decode cX12_speaks 16 = .ok (.goto 10, 3) := by decide +kernel
theorem dX12_speaks_19 : decode cX12_speaks 19 = .ok (.aload_n 0, 1) := by decide +kernel
theorem dX12_speaks_20 : decode cX12_speaks 20 = .ok (.iload_n 1, 1) := by decide +kernel
theorem dX12_speaks_21 : decode cX12_speaks 21 = .ok (.iload_n 2, 1) := by decide +kernel
theorem dX12_speaks_22 : decode cX12_speaks 22 = .ok (.iload_n 3, 1) := by decide +kernel
theorem dX12_speaks_23 : decode cX12_speaks 23 = .ok (.invokevirtual 408, 3) := by decide +kernel
theorem dX12_speaks_26 : decode cX12_speaks 26 = .ok (.ireturn, 1) := by decide +kernel
theorem dX12_quarrel_0 : decode cX12_quarrel 0 = .ok (.aload_n 0, 1) := by decide +kernel
theorem dX12_quarrel_1 : decode cX12_quarrel 1 = .ok (.iload_n 1, 1) := by decide +kernel
theorem dX12_quarrel_2 : decode cX12_quarrel 2 = .ok (.iload_n 2, 1) := by decide +kernel
theorem dX12_quarrel_3 : decode cX12_quarrel 3 = .ok (.iload_n 3, 1) := by decide +kernel
theorem dX12_quarrel_4 : decode cX12_quarrel 4 = .ok (.invokevirtual 404, 3) := by decide +kernel
theorem dX12_quarrel_7 : decode cX12_quarrel 7 = .ok (.istore 4, 2) := by decide +kernel
theorem dX12_quarrel_9 : decode cX12_quarrel 9 = .ok (.iload 4, 2) := by decide +kernel
theorem dX12_quarrel_11 : decode cX12_quarrel 11 = .ok (.ifCond .eq 6, 3) := by decide +kernel
theorem dX12_quarrel_14 : decode cX12_quarrel 14 = .ok (.iload 4, 2) := by decide +kernel
theorem dX12_quarrel_16 : decode cX12_quarrel 16 = .ok (.ireturn, 1) := by decide +kernel
theorem dX12_quarrel_17 : decode cX12_quarrel 17 = .ok (.aload_n 0, 1) := by decide +kernel
theorem dX12_quarrel_18 : decode cX12_quarrel 18 = .ok (.iload_n 1, 1) := by decide +kernel
theorem dX12_quarrel_19 : decode cX12_quarrel 19 = .ok (.iload_n 2, 1) := by decide +kernel
theorem dX12_quarrel_20 : decode cX12_quarrel 20 = .ok (.iload_n 3, 1) := by decide +kernel
theorem dX12_quarrel_21 : decode cX12_quarrel 21 = .ok (.invokevirtual 408, 3) := by decide +kernel
theorem dX12_quarrel_24 : decode cX12_quarrel 24 = .ok (.istore 5, 2) := by decide +kernel
theorem dX12_quarrel_26 : decode cX12_quarrel 26 = .ok (.iconst 0, 1) := by decide +kernel
theorem dX12_quarrel_27 : decode cX12_quarrel 27 = .ok (.istore 6, 2) := by decide +kernel
theorem dX12_quarrel_29 : decode cX12_quarrel 29 = .ok (.iconst 0, 1) := by decide +kernel
theorem dX12_quarrel_30 : decode cX12_quarrel 30 = .ok (.istore 7, 2) := by decide +kernel
theorem dX12_quarrel_32 : decode cX12_quarrel 32 = .ok (.iload 7, 2) := by decide +kernel
theorem dX12_quarrel_34 : decode cX12_quarrel 34 = .ok (.aload_n 0, 1) := by decide +kernel
theorem dX12_quarrel_35 : decode cX12_quarrel 35 = .ok (.getfield 388, 3) := by decide +kernel
theorem dX12_quarrel_38 : decode cX12_quarrel 38 = .ok (.if_icmp .ge 54, 3) := by decide +kernel
theorem dX12_quarrel_41 : decode cX12_quarrel 41 = .ok (.iload 6, 2) := by decide +kernel
theorem dX12_quarrel_43 : decode cX12_quarrel 43 = .ok (.iload 5, 2) := by decide +kernel
theorem dX12_quarrel_45 : decode cX12_quarrel 45 = .ok (.iconst (-1), 1) := by decide +kernel
theorem dX12_quarrel_46 : decode cX12_quarrel 46 = .ok (.if_icmp .eq 36, 3) := by decide +kernel
theorem dX12_quarrel_49 : decode cX12_quarrel 49 = .ok (.aload_n 0, 1) := by decide +kernel
theorem dX12_quarrel_50 : decode cX12_quarrel 50 = .ok (.iload 7, 2) := by decide +kernel
theorem dX12_quarrel_52 : decode cX12_quarrel 52 = .ok (.iload_n 1, 1) := by decide +kernel
theorem dX12_quarrel_53 : decode cX12_quarrel 53 = .ok (.iload_n 2, 1) := by decide +kernel
theorem dX12_quarrel_54 : decode cX12_quarrel 54 = .ok (.iload_n 3, 1) := by decide +kernel
theorem dX12_quarrel_55 : decode cX12_quarrel 55 = .ok (.invokevirtual 400, 3) := by decide +kernel
theorem dX12_quarrel_58 : decode cX12_quarrel 58 = .ok (.ifCond .eq 24, 3) := by decide +kernel
theorem dX12_quarrel_61 : decode cX12_quarrel 61 = .ok (.aload_n 0, 1) := by decide +kernel
theorem dX12_quarrel_62 : decode cX12_quarrel 62 = .ok (.getfield 95, 3) := by decide +kernel
theorem dX12_quarrel_65 : decode cX12_quarrel 65 = .ok (.iload 7, 2) := by decide +kernel
theorem dX12_quarrel_67 : decode cX12_quarrel 67 = .ok (.iaload, 1) := by decide +kernel
theorem dX12_quarrel_68 : decode cX12_quarrel 68 = .ok (.aload_n 0, 1) := by decide +kernel
theorem dX12_quarrel_69 : decode cX12_quarrel 69 = .ok (.getfield 95, 3) := by decide +kernel
theorem dX12_quarrel_72 : decode cX12_quarrel 72 = .ok (.iload 5, 2) := by decide +kernel
theorem dX12_quarrel_74 : decode cX12_quarrel 74 = .ok (.iaload, 1) := by decide +kernel
theorem dX12_quarrel_75 : decode cX12_quarrel 75 = .ok (.if_icmp .eq 7, 3) := by decide +kernel
theorem dX12_quarrel_78 : decode cX12_quarrel 78 = .ok (.iconst 1, 1) := by decide +kernel
theorem dX12_quarrel_79 : decode cX12_quarrel 79 = .ok (.goto 4, 3) := by decide +kernel
theorem dX12_quarrel_82 : decode cX12_quarrel 82 = .ok (.iconst 0, 1) := by decide +kernel
theorem dX12_quarrel_83 : decode cX12_quarrel 83 = .ok (.iadd, 1) := by decide +kernel
theorem dX12_quarrel_84 : decode cX12_quarrel 84 = .ok (.istore 6, 2) := by decide +kernel
theorem dX12_quarrel_86 : decode cX12_quarrel 86 = .ok (.iinc 7 1, 3) := by decide +kernel
theorem dX12_quarrel_89 : decode cX12_quarrel 89 = .ok (.goto (-57), 3) := by decide +kernel
theorem dX12_quarrel_92 : decode cX12_quarrel 92 = .ok (.iload 6, 2) := by decide +kernel
theorem dX12_quarrel_94 : decode cX12_quarrel 94 = .ok (.ireturn, 1) := by decide +kernel
theorem dX12_says_0 : decode cX12_says 0 = .ok (.aload_n 0, 1) := by decide +kernel
theorem dX12_says_1 : decode cX12_says 1 = .ok (.iload_n 1, 1) := by decide +kernel
theorem dX12_says_2 : decode cX12_says 2 = .ok (.iload_n 2, 1) := by decide +kernel
theorem dX12_says_3 : decode cX12_says 3 = .ok (.iload_n 3, 1) := by decide +kernel
theorem dX12_says_4 : decode cX12_says 4 = .ok (.invokevirtual 408, 3) := by decide +kernel
theorem dX12_says_7 : decode cX12_says 7 = .ok (.istore 4, 2) := by decide +kernel
theorem dX12_says_9 : decode cX12_says 9 = .ok (.iload 4, 2) := by decide +kernel
theorem dX12_says_11 : decode cX12_says 11 = .ok (.iconst (-1), 1) := by decide +kernel
theorem dX12_says_12 : decode cX12_says 12 = .ok (.if_icmp .ne 7, 3) := by decide +kernel
theorem dX12_says_15 : decode cX12_says 15 = .ok (.iconst 0, 1) := by decide +kernel
theorem dX12_says_16 : decode cX12_says 16 = .ok (.goto 10, 3) := by decide +kernel
theorem dX12_says_19 : decode cX12_says 19 = .ok (.aload_n 0, 1) := by decide +kernel
theorem dX12_says_20 : decode cX12_says 20 = .ok (.getfield 95, 3) := by decide +kernel
theorem dX12_says_23 : decode cX12_says 23 = .ok (.iload 4, 2) := by decide +kernel
theorem dX12_says_25 : decode cX12_says 25 = .ok (.iaload, 1) := by decide +kernel
theorem dX12_says_26 : decode cX12_says 26 = .ok (.ireturn, 1) := by decide +kernel
theorem dX12_tollOf_0 : decode cX12_tollOf 0 = .ok (.aload_n 0, 1) := by decide +kernel
theorem dX12_tollOf_1 : decode cX12_tollOf 1 = .ok (.iconst 0, 1) := by decide +kernel
theorem dX12_tollOf_2 : decode cX12_tollOf 2 = .ok (.iload_n 1, 1) := by decide +kernel
theorem dX12_tollOf_3 : decode cX12_tollOf 3 = .ok (.iload_n 2, 1) := by decide +kernel
theorem dX12_tollOf_4 : decode cX12_tollOf 4 = .ok (.invokevirtual 411, 3) := by decide +kernel
theorem dX12_tollOf_7 : decode cX12_tollOf 7 = .ok (.aload_n 0, 1) := by decide +kernel
theorem dX12_tollOf_8 : decode cX12_tollOf 8 = .ok (.getfield 62, 3) := by decide +kernel
theorem dX12_tollOf_11 : decode cX12_tollOf 11 = .ok (.iload_n 1, 1) := by decide +kernel
theorem dX12_tollOf_12 : decode cX12_tollOf 12 = .ok (.iaload, 1) := by decide +kernel
theorem dX12_tollOf_13 : decode cX12_tollOf 13 = .ok (.imul, 1) := by decide +kernel
theorem dX12_tollOf_14 : decode cX12_tollOf 14 = .ok (.aload_n 0, 1) := by decide +kernel
theorem dX12_tollOf_15 : decode cX12_tollOf 15 = .ok (.iload_n 1, 1) := by decide +kernel
theorem dX12_tollOf_16 : decode cX12_tollOf 16 = .ok (.invokevirtual 257, 3) := by decide +kernel
theorem dX12_tollOf_19 : decode cX12_tollOf 19 = .ok (.imul, 1) := by decide +kernel
theorem dX12_tollOf_20 : decode cX12_tollOf 20 = .ok (.ireturn, 1) := by decide +kernel
theorem dX12_toll_0 : decode cX12_toll 0 = .ok (.aload_n 0, 1) := by decide +kernel
theorem dX12_toll_1 : decode cX12_toll 1 = .ok (.iload_n 1, 1) := by decide +kernel
theorem dX12_toll_2 : decode cX12_toll 2 = .ok (.invokevirtual 261, 3) := by decide +kernel
theorem dX12_toll_5 : decode cX12_toll 5 = .ok (.ifCond .ne 6, 3) := by decide +kernel
theorem dX12_toll_8 : decode cX12_toll 8 = .ok (.bipush (-101), 2) := by decide +kernel
theorem dX12_toll_10 : decode cX12_toll 10 = .ok (.ireturn, 1) := by decide +kernel
theorem dX12_toll_11 : decode cX12_toll 11 = .ok (.iload_n 2, 1) := by decide +kernel
theorem dX12_toll_12 : decode cX12_toll 12 = .ok (.invokestatic 393, 3) := by decide +kernel
theorem dX12_toll_15 : decode cX12_toll 15 = .ok (.ifCond .eq 12, 3) := by decide +kernel
theorem dX12_toll_18 : decode cX12_toll 18 = .ok (.aload_n 0, 1) := by decide +kernel
theorem dX12_toll_19 : decode cX12_toll 19 = .ok (.iload_n 1, 1) := by decide +kernel
theorem dX12_toll_20 : decode cX12_toll 20 = .ok (.iload_n 2, 1) := by decide +kernel
theorem dX12_toll_21 : decode cX12_toll 21 = .ok (.invokevirtual 414, 3) := by decide +kernel
theorem dX12_toll_24 : decode cX12_toll 24 = .ok (.goto 5, 3) := by decide +kernel
theorem dX12_toll_27 : decode cX12_toll 27 = .ok (.bipush (-102), 2) := by decide +kernel
theorem dX12_toll_29 : decode cX12_toll 29 = .ok (.ireturn, 1) := by decide +kernel
theorem dX12_comer_0 : decode cX12_comer 0 = .ok (.iload_n 2, 1) := by decide +kernel
theorem dX12_comer_1 : decode cX12_comer 1 = .ok (.i2l, 1) := by decide +kernel
theorem dX12_comer_2 : decode cX12_comer 2 = .ok (.lconst 0, 1) := by decide +kernel
theorem dX12_comer_3 : decode cX12_comer 3 = .ok (.ldc2_w 417, 3) := by decide +kernel
theorem dX12_comer_6 : decode cX12_comer 6 = .ok (.invokestatic 194, 3) := by decide +kernel
theorem dX12_comer_9 : decode cX12_comer 9 = .ok (.ifCond .eq 10, 3) := by decide +kernel
theorem dX12_comer_12 : decode cX12_comer 12 = .ok (.iload_n 3, 1) := by decide +kernel
theorem dX12_comer_13 : decode cX12_comer 13 = .ok (.invokestatic 393, 3) := by decide +kernel
theorem dX12_comer_16 : decode cX12_comer 16 = .ok (.ifCond .ne 6, 3) := by decide +kernel
theorem dX12_comer_19 : decode cX12_comer 19 = .ok (.bipush (-102), 2) := by decide +kernel
theorem dX12_comer_21 : decode cX12_comer 21 = .ok (.ireturn, 1) := by decide +kernel
theorem dX12_comer_22 : decode cX12_comer 22 = .ok (.aload_n 0, 1) := by decide +kernel
theorem dX12_comer_23 : decode cX12_comer 23 = .ok (.getfield 419, 3) := by decide +kernel
theorem dX12_comer_26 : decode cX12_comer 26 = .ok (.bipush 8, 2) := by decide +kernel
theorem dX12_comer_28 : decode cX12_comer 28 = .ok (.if_icmp .ne 6, 3) := by decide +kernel
theorem dX12_comer_31 : decode cX12_comer 31 = .ok (.bipush (-104), 2) := by decide +kernel
theorem dX12_comer_33 : decode cX12_comer 33 = .ok (.ireturn, 1) := by decide +kernel
theorem dX12_comer_34 : decode cX12_comer 34 = .ok (.aload_n 0, 1) := by decide +kernel
theorem dX12_comer_35 : decode cX12_comer 35 = .ok (.getfield 125, 3) := by decide +kernel
theorem dX12_comer_38 : decode cX12_comer 38 = .ok (.aload_n 0, 1) := by decide +kernel
theorem dX12_comer_39 : decode cX12_comer 39 = .ok (.getfield 419, 3) := by decide +kernel
theorem dX12_comer_42 : decode cX12_comer 42 = .ok (.iload_n 1, 1) := by decide +kernel
theorem dX12_comer_43 : decode cX12_comer 43 = .ok (.bastore, 1) := by decide +kernel
theorem dX12_comer_44 : decode cX12_comer 44 = .ok (.aload_n 0, 1) := by decide +kernel
theorem dX12_comer_45 : decode cX12_comer 45 = .ok (.getfield 128, 3) := by decide +kernel
theorem dX12_comer_48 : decode cX12_comer 48 = .ok (.aload_n 0, 1) := by decide +kernel
theorem dX12_comer_49 : decode cX12_comer 49 = .ok (.getfield 419, 3) := by decide +kernel
theorem dX12_comer_52 : decode cX12_comer 52 = .ok (.iload_n 2, 1) := by decide +kernel
theorem dX12_comer_53 : decode cX12_comer 53 = .ok (.iastore, 1) := by decide +kernel
theorem dX12_comer_54 : decode cX12_comer 54 = .ok (.aload_n 0, 1) := by decide +kernel
theorem dX12_comer_55 : decode cX12_comer 55 = .ok (.getfield 131, 3) := by decide +kernel
theorem dX12_comer_58 : decode cX12_comer 58 = .ok (.aload_n 0, 1) := by decide +kernel
theorem dX12_comer_59 : decode cX12_comer 59 = .ok (.getfield 419, 3) := by decide +kernel
theorem dX12_comer_62 : decode cX12_comer 62 = .ok (.iload_n 3, 1) := by decide +kernel
theorem dX12_comer_63 : decode cX12_comer 63 = .ok (.iastore, 1) := by decide +kernel
theorem dX12_comer_64 : decode cX12_comer 64 = .ok (.aload_n 0, 1) := by decide +kernel
theorem dX12_comer_65 : decode cX12_comer 65 = .ok (.dup, 1) := by decide +kernel
theorem dX12_comer_66 : decode cX12_comer 66 = .ok (.getfield 419, 3) := by decide +kernel
theorem dX12_comer_69 : decode cX12_comer 69 = .ok (.iconst 1, 1) := by decide +kernel
theorem dX12_comer_70 : decode cX12_comer 70 = .ok (.iadd, 1) := by decide +kernel
theorem dX12_comer_71 : decode cX12_comer 71 = .ok (.putfield 419, 3) := by decide +kernel
theorem dX12_comer_74 : decode cX12_comer 74 = .ok (.aload_n 0, 1) := by decide +kernel
theorem dX12_comer_75 : decode cX12_comer 75 = .ok (.getfield 419, 3) := by decide +kernel
theorem dX12_comer_78 : decode cX12_comer 78 = .ok (.iconst 1, 1) := by decide +kernel
theorem dX12_comer_79 : decode cX12_comer 79 = .ok (.isub, 1) := by decide +kernel
theorem dX12_comer_80 : decode cX12_comer 80 = .ok (.ireturn, 1) := by decide +kernel
theorem dX12_clear_0 : decode cX12_clear 0 = .ok (.aload_n 0, 1) := by decide +kernel
theorem dX12_clear_1 : decode cX12_clear 1 = .ok (.getfield 419, 3) := by decide +kernel
theorem dX12_clear_4 : decode cX12_clear 4 = .ok (.istore_n 1, 1) := by decide +kernel
theorem dX12_clear_5 : decode cX12_clear 5 = .ok (.aload_n 0, 1) := by decide +kernel
theorem dX12_clear_6 : decode cX12_clear 6 = .ok (.iconst 0, 1) := by decide +kernel
theorem dX12_clear_7 : decode cX12_clear 7 = .ok (.putfield 419, 3) := by decide +kernel
theorem dX12_clear_10 : decode cX12_clear 10 = .ok (.iload_n 1, 1) := by decide +kernel
theorem dX12_clear_11 : decode cX12_clear 11 = .ok (.ireturn, 1) := by decide +kernel
theorem dX12_workOff_0 : decode cX12_workOff 0 = .ok (.iconst 0, 1) := by decide +kernel
theorem dX12_workOff_1 : decode cX12_workOff 1 = .ok (.istore_n 1, 1) := by decide +kernel
theorem dX12_workOff_2 : decode cX12_workOff 2 = .ok (.iconst (-1), 1) := by decide +kernel
theorem dX12_workOff_3 : decode cX12_workOff 3 = .ok (.istore_n 2, 1) := by decide +kernel
theorem dX12_workOff_4 : decode cX12_workOff 4 = .ok (.aload_n 0, 1) := by decide +kernel
theorem dX12_workOff_5 : decode cX12_workOff 5 = .ok (.iconst 0, 1) := by decide +kernel
theorem dX12_workOff_6 : decode cX12_workOff 6 = .ok (.putfield 422, 3) := by decide +kernel
theorem dX12_workOff_9 : decode cX12_workOff 9 = .ok (.aload_n 0, 1) := by decide +kernel
theorem dX12_workOff_10 : decode cX12_workOff 10 = .ok (.iconst (-1), 1) := by decide +kernel
theorem dX12_workOff_11 : decode cX12_workOff 11 = .ok (.putfield 425, 3) := by decide +kernel
theorem dX12_workOff_14 : decode cX12_workOff 14 = .ok (.iconst 0, 1) := by decide +kernel
theorem dX12_workOff_15 : decode cX12_workOff 15 = .ok (.istore_n 3, 1) := by decide +kernel
theorem dX12_workOff_16 : decode cX12_workOff 16 = .ok (.iload_n 3, 1) := by decide +kernel
theorem dX12_workOff_17 : decode cX12_workOff 17 = .ok (.aload_n 0, 1) := by decide +kernel
theorem dX12_workOff_18 : decode cX12_workOff 18 = .ok (.getfield 419, 3) := by decide +kernel
theorem dX12_workOff_21 : decode cX12_workOff 21 = .ok (.if_icmp .ge 114, 3) := by decide +kernel
theorem dX12_workOff_24 : decode cX12_workOff 24 = .ok (.aload_n 0, 1) := by decide +kernel
theorem dX12_workOff_25 : decode cX12_workOff 25 = .ok (.getfield 134, 3) := by decide +kernel
theorem dX12_workOff_28 : decode cX12_workOff 28 = .ok (.iload_n 3, 1) := by decide +kernel
theorem dX12_workOff_29 : decode cX12_workOff 29 = .ok (.iaload, 1) := by decide +kernel
theorem dX12_workOff_30 : decode cX12_workOff 30 = .ok (.istore 4, 2) := by decide +kernel
theorem dX12_workOff_32 : decode cX12_workOff 32 = .ok (.aload_n 0, 1) := by decide +kernel
theorem dX12_workOff_33 : decode cX12_workOff 33 = .ok (.aload_n 0, 1) := by decide +kernel
theorem dX12_workOff_34 : decode cX12_workOff 34 = .ok (.getfield 425, 3) := by decide +kernel
theorem dX12_workOff_37 : decode cX12_workOff 37 = .ok (.iconst 1, 1) := by decide +kernel
theorem dX12_workOff_38 : decode cX12_workOff 38 = .ok (.iadd, 1) := by decide +kernel
theorem dX12_workOff_39 : decode cX12_workOff 39 = .ok (.aload_n 0, 1) := by decide +kernel
theorem dX12_workOff_40 : decode cX12_workOff 40 = .ok (.getfield 128, 3) := by decide +kernel
theorem dX12_workOff_43 : decode cX12_workOff 43 = .ok (.iload 4, 2) := by decide +kernel
theorem dX12_workOff_45 : decode cX12_workOff 45 = .ok (.iaload, 1) := by decide +kernel
theorem dX12_workOff_46 : decode cX12_workOff 46 = .ok (.if_icmp .le 12, 3) := by decide +kernel
theorem dX12_workOff_49 : decode cX12_workOff 49 = .ok (.aload_n 0, 1) := by decide +kernel
theorem dX12_workOff_50 : decode cX12_workOff 50 = .ok (.getfield 425, 3) := by decide +kernel
theorem dX12_workOff_53 : decode cX12_workOff 53 = .ok (.iconst 1, 1) := by decide +kernel
theorem dX12_workOff_54 : decode cX12_workOff 54 = .ok (.iadd, 1) := by decide +kernel
theorem dX12_workOff_55 : decode cX12_workOff 55 = .ok (.goto 10, 3) := by decide +kernel
theorem dX12_workOff_58 : decode cX12_workOff 58 = .ok (.aload_n 0, 1) := by decide +kernel
theorem dX12_workOff_59 : decode cX12_workOff 59 = .ok (.getfield 128, 3) := by decide +kernel
theorem dX12_workOff_62 : decode cX12_workOff 62 = .ok (.iload 4, 2) := by decide +kernel
theorem dX12_workOff_64 : decode cX12_workOff 64 = .ok (.iaload, 1) := by decide +kernel
theorem dX12_workOff_65 : decode cX12_workOff 65 = .ok (.putfield 425, 3) := by decide +kernel
theorem dX12_workOff_68 : decode cX12_workOff 68 = .ok (.iload_n 2, 1) := by decide +kernel
theorem dX12_workOff_69 : decode cX12_workOff 69 = .ok (.iconst (-1), 1) := by decide +kernel
theorem dX12_workOff_70 : decode cX12_workOff 70 = .ok (.if_icmp .ne 21, 3) := by decide +kernel
theorem dX12_workOff_73 : decode cX12_workOff 73 = .ok (.aload_n 0, 1) := by decide +kernel
theorem dX12_workOff_74 : decode cX12_workOff 74 = .ok (.getfield 425, 3) := by decide +kernel
theorem dX12_workOff_77 : decode cX12_workOff 77 = .ok (.aload_n 0, 1) := by decide +kernel
theorem dX12_workOff_78 : decode cX12_workOff 78 = .ok (.getfield 131, 3) := by decide +kernel
theorem dX12_workOff_81 : decode cX12_workOff 81 = .ok (.iload 4, 2) := by decide +kernel
theorem dX12_workOff_83 : decode cX12_workOff 83 = .ok (.iaload, 1) := by decide +kernel
theorem dX12_workOff_84 : decode cX12_workOff 84 = .ok (.if_icmp .le 7, 3) := by decide +kernel
theorem dX12_workOff_87 : decode cX12_workOff 87 = .ok (.iload_n 3, 1) := by decide +kernel
theorem dX12_workOff_88 : decode cX12_workOff 88 = .ok (.goto 4, 3) := by decide +kernel
theorem dX12_workOff_91 : decode cX12_workOff 91 = .ok (.iload_n 2, 1) := by decide +kernel
theorem dX12_workOff_92 : decode cX12_workOff 92 = .ok (.istore_n 2, 1) := by decide +kernel
theorem dX12_workOff_93 : decode cX12_workOff 93 = .ok (.aload_n 0, 1) := by decide +kernel
theorem dX12_workOff_94 : decode cX12_workOff 94 = .ok (.dup, 1) := by decide +kernel
theorem dX12_workOff_95 : decode cX12_workOff 95 = .ok (.getfield 422, 3) := by decide +kernel
theorem dX12_workOff_98 : decode cX12_workOff 98 = .ok (.aload_n 0, 1) := by decide +kernel
theorem dX12_workOff_99 : decode cX12_workOff 99 = .ok (.getfield 125, 3) := by decide +kernel
theorem dX12_workOff_102 : decode cX12_workOff 102 = .ok (.iload 4, 2) := by decide +kernel
theorem dX12_workOff_104 : decode cX12_workOff 104 = .ok (.baload, 1) := by decide +kernel
theorem dX12_workOff_105 : decode cX12_workOff 105 = .ok (.ifCond .ne 7, 3) := by decide +kernel
theorem dX12_workOff_108 : decode cX12_workOff 108 = .ok (.iload_n 1, 1) := by decide +kernel
theorem dX12_workOff_109 : decode cX12_workOff 109 = .ok (.ifCond .ne 7, 3) := by decide +kernel
theorem dX12_workOff_112 : decode cX12_workOff 112 = .ok (.iconst 1, 1) := by decide +kernel
theorem dX12_workOff_113 : decode cX12_workOff 113 = .ok (.goto 4, 3) := by decide +kernel
theorem dX12_workOff_116 : decode cX12_workOff 116 = .ok (.iconst 0, 1) := by decide +kernel
theorem dX12_workOff_117 : decode cX12_workOff 117 = .ok (.iadd, 1) := by decide +kernel
theorem dX12_workOff_118 : decode cX12_workOff 118 = .ok (.putfield 422, 3) := by decide +kernel
theorem dX12_workOff_121 : decode cX12_workOff 121 = .ok (.aload_n 0, 1) := by decide +kernel
theorem dX12_workOff_122 : decode cX12_workOff 122 = .ok (.getfield 125, 3) := by decide +kernel
theorem dX12_workOff_125 : decode cX12_workOff 125 = .ok (.iload 4, 2) := by decide +kernel
theorem dX12_workOff_127 : decode cX12_workOff 127 = .ok (.baload, 1) := by decide +kernel
theorem dX12_workOff_128 : decode cX12_workOff 128 = .ok (.istore_n 1, 1) := by decide +kernel
theorem dX12_workOff_129 : decode cX12_workOff 129 = .ok (.iinc 3 1, 3) := by decide +kernel
theorem dX12_workOff_132 : decode cX12_workOff 132 = .ok (.goto (-116), 3) := by decide +kernel
theorem dX12_workOff_135 : decode cX12_workOff 135 = .ok (.iload_n 2, 1) := by decide +kernel
theorem dX12_workOff_136 : decode cX12_workOff 136 = .ok (.ireturn, 1) := by decide +kernel
theorem dX12_nextOrder_0 : decode cX12_nextOrder 0 = .ok (.aload_n 0, 1) := by decide +kernel
theorem dX12_nextOrder_1 : decode cX12_nextOrder 1 = .ok (.getfield 419, 3) := by decide +kernel
theorem dX12_nextOrder_4 : decode cX12_nextOrder 4 = .ok (.iconst 2, 1) := by decide +kernel
theorem dX12_nextOrder_5 : decode cX12_nextOrder 5 = .ok (.isub, 1) := by decide +kernel
theorem dX12_nextOrder_6 : decode cX12_nextOrder 6 = .ok (.istore_n 1, 1) := by decide +kernel
theorem dX12_nextOrder_7 : decode cX12_nextOrder 7 = .ok (.iload_n 1, 1) := by decide +kernel
theorem dX12_nextOrder_8 : decode cX12_nextOrder 8 = .ok (.ifCond .lt 26, 3) := by decide +kernel
theorem dX12_nextOrder_11 : decode cX12_nextOrder 11 = .ok (.aload_n 0, 1) := by decide +kernel
theorem dX12_nextOrder_12 : decode cX12_nextOrder 12 = .ok (.getfield 134, 3) := by decide +kernel
theorem dX12_nextOrder_15 : decode cX12_nextOrder 15 = .ok (.iload_n 1, 1) := by decide +kernel
theorem dX12_nextOrder_16 : decode cX12_nextOrder 16 = .ok (.iaload, 1) := by decide +kernel
theorem dX12_nextOrder_17 : decode cX12_nextOrder 17 = .ok (.aload_n 0, 1) := by decide +kernel
theorem dX12_nextOrder_18 : decode cX12_nextOrder 18 = .ok (.getfield 134, 3) := by decide +kernel
theorem dX12_nextOrder_21 : decode cX12_nextOrder 21 = .ok (.iload_n 1, 1) := by decide +kernel
theorem dX12_nextOrder_22 : decode cX12_nextOrder 22 = .ok (.iconst 1, 1) := by decide +kernel
theorem dX12_nextOrder_23 : decode cX12_nextOrder 23 = .ok (.iadd, 1) := by decide +kernel
theorem dX12_nextOrder_24 : decode cX12_nextOrder 24 = .ok (.iaload, 1) := by decide +kernel
theorem dX12_nextOrder_25 : decode cX12_nextOrder 25 = .ok (.if_icmp .le 9, 3) := by decide +kernel
theorem dX12_nextOrder_28 : decode cX12_nextOrder 28 = .ok (.iinc 1 (-1), 3) := by decide +kernel
theorem dX12_nextOrder_31 : decode cX12_nextOrder 31 = .ok (.goto (-24), 3) := by decide +kernel
theorem dX12_nextOrder_34 : decode cX12_nextOrder 34 = .ok (.iload_n 1, 1) := by decide +kernel
theorem dX12_nextOrder_35 : decode cX12_nextOrder 35 = .ok (.ifCond .ge 5, 3) := by decide +kernel
theorem dX12_nextOrder_38 : decode cX12_nextOrder 38 = .ok (.iconst 0, 1) := by decide +kernel
theorem dX12_nextOrder_39 : decode cX12_nextOrder 39 = .ok (.ireturn, 1) := by decide +kernel
theorem dX12_nextOrder_40 : decode cX12_nextOrder 40 = .ok (.aload_n 0, 1) := by decide +kernel
theorem dX12_nextOrder_41 : decode cX12_nextOrder 41 = .ok (.getfield 419, 3) := by decide +kernel
theorem dX12_nextOrder_44 : decode cX12_nextOrder 44 = .ok (.iconst 1, 1) := by decide +kernel
theorem dX12_nextOrder_45 : decode cX12_nextOrder 45 = .ok (.isub, 1) := by decide +kernel
theorem dX12_nextOrder_46 : decode cX12_nextOrder 46 = .ok (.istore_n 2, 1) := by decide +kernel
theorem dX12_nextOrder_47 : decode cX12_nextOrder 47 = .ok (.aload_n 0, 1) := by decide +kernel
theorem dX12_nextOrder_48 : decode cX12_nextOrder 48 = .ok (.getfield 134, 3) := by decide +kernel
theorem dX12_nextOrder_51 : decode cX12_nextOrder 51 = .ok (.iload_n 2, 1) := by decide +kernel
theorem dX12_nextOrder_52 : decode cX12_nextOrder 52 = .ok (.iaload, 1) := by decide +kernel
theorem dX12_nextOrder_53 : decode cX12_nextOrder 53 = .ok (.aload_n 0, 1) := by decide +kernel
theorem dX12_nextOrder_54 : decode cX12_nextOrder 54 = .ok (.getfield 134, 3) := by decide +kernel
theorem dX12_nextOrder_57 : decode cX12_nextOrder 57 = .ok (.iload_n 1, 1) := by decide +kernel
theorem dX12_nextOrder_58 : decode cX12_nextOrder 58 = .ok (.iaload, 1) := by decide +kernel
theorem dX12_nextOrder_59 : decode cX12_nextOrder 59 = .ok (.if_icmp .ge 9, 3) := by decide +kernel
theorem dX12_nextOrder_62 : decode cX12_nextOrder 62 = .ok (.iinc 2 (-1), 3) := by decide +kernel
theorem dX12_nextOrder_65 : decode cX12_nextOrder 65 = .ok (.goto (-18), 3) := by decide +kernel
theorem dX12_nextOrder_68 : decode cX12_nextOrder 68 = .ok (.aload_n 0, 1) := by decide +kernel
theorem dX12_nextOrder_69 : decode cX12_nextOrder 69 = .ok (.getfield 134, 3) := by decide +kernel
theorem dX12_nextOrder_72 : decode cX12_nextOrder 72 = .ok (.iload_n 1, 1) := by decide +kernel
theorem dX12_nextOrder_73 : decode cX12_nextOrder 73 = .ok (.iaload, 1) := by decide +kernel
theorem dX12_nextOrder_74 : decode cX12_nextOrder 74 = .ok (.istore_n 3, 1) := by decide +kernel
theorem dX12_nextOrder_75 : decode cX12_nextOrder 75 = .ok (.aload_n 0, 1) := by decide +kernel
theorem dX12_nextOrder_76 : decode cX12_nextOrder 76 = .ok (.getfield 134, 3) := by decide +kernel
theorem dX12_nextOrder_79 : decode cX12_nextOrder 79 = .ok (.iload_n 1, 1) := by decide +kernel
theorem dX12_nextOrder_80 : decode cX12_nextOrder 80 = .ok (.aload_n 0, 1) := by decide +kernel
theorem dX12_nextOrder_81 : decode cX12_nextOrder 81 = .ok (.getfield 134, 3) := by decide +kernel
theorem dX12_nextOrder_84 : decode cX12_nextOrder 84 = .ok (.iload_n 2, 1) := by decide +kernel
theorem dX12_nextOrder_85 : decode cX12_nextOrder 85 = .ok (.iaload, 1) := by decide +kernel
theorem dX12_nextOrder_86 : decode cX12_nextOrder 86 = .ok (.iastore, 1) := by decide +kernel
theorem dX12_nextOrder_87 : decode cX12_nextOrder 87 = .ok (.aload_n 0, 1) := by decide +kernel
theorem dX12_nextOrder_88 : decode cX12_nextOrder 88 = .ok (.getfield 134, 3) := by decide +kernel
theorem dX12_nextOrder_91 : decode cX12_nextOrder 91 = .ok (.iload_n 2, 1) := by decide +kernel
theorem dX12_nextOrder_92 : decode cX12_nextOrder 92 = .ok (.iload_n 3, 1) := by decide +kernel
theorem dX12_nextOrder_93 : decode cX12_nextOrder 93 = .ok (.iastore, 1) := by decide +kernel
theorem dX12_nextOrder_94 : decode cX12_nextOrder 94 = .ok (.iload_n 1, 1) := by decide +kernel
theorem dX12_nextOrder_95 : decode cX12_nextOrder 95 = .ok (.iconst 1, 1) := by decide +kernel
theorem dX12_nextOrder_96 : decode cX12_nextOrder 96 = .ok (.iadd, 1) := by decide +kernel
theorem dX12_nextOrder_97 : decode cX12_nextOrder 97 = .ok (.istore 4, 2) := by decide +kernel
theorem dX12_nextOrder_99 : decode cX12_nextOrder 99 = .ok (.aload_n 0, 1) := by decide +kernel
theorem dX12_nextOrder_100 : decode cX12_nextOrder 100 = .ok (.getfield 419, 3) := by decide +kernel
theorem dX12_nextOrder_103 : decode cX12_nextOrder 103 = .ok (.iconst 1, 1) := by decide +kernel
theorem dX12_nextOrder_104 : decode cX12_nextOrder 104 = .ok (.isub, 1) := by decide +kernel
theorem dX12_nextOrder_105 : decode cX12_nextOrder 105 = .ok (.istore 5, 2) := by decide +kernel
theorem dX12_nextOrder_107 : decode cX12_nextOrder 107 = .ok (.iload 4, 2) := by decide +kernel
theorem dX12_nextOrder_109 : decode cX12_nextOrder 109 = .ok (.iload 5, 2) := by decide +kernel
theorem dX12_nextOrder_111 : decode cX12_nextOrder 111 = .ok (.if_icmp .ge 42, 3) := by decide +kernel
theorem dX12_nextOrder_114 : decode cX12_nextOrder 114 = .ok (.aload_n 0, 1) := by decide +kernel
theorem dX12_nextOrder_115 : decode cX12_nextOrder 115 = .ok (.getfield 134, 3) := by decide +kernel
theorem dX12_nextOrder_118 : decode cX12_nextOrder 118 = .ok (.iload 4, 2) := by decide +kernel
theorem dX12_nextOrder_120 : decode cX12_nextOrder 120 = .ok (.iaload, 1) := by decide +kernel
theorem dX12_nextOrder_121 : decode cX12_nextOrder 121 = .ok (.istore_n 3, 1) := by decide +kernel
theorem dX12_nextOrder_122 : decode cX12_nextOrder 122 = .ok (.aload_n 0, 1) := by decide +kernel
theorem dX12_nextOrder_123 : decode cX12_nextOrder 123 = .ok (.getfield 134, 3) := by decide +kernel
theorem dX12_nextOrder_126 : decode cX12_nextOrder 126 = .ok (.iload 4, 2) := by decide +kernel
theorem dX12_nextOrder_128 : decode cX12_nextOrder 128 = .ok (.aload_n 0, 1) := by decide +kernel
theorem dX12_nextOrder_129 : decode cX12_nextOrder 129 = .ok (.getfield 134, 3) := by decide +kernel
theorem dX12_nextOrder_132 : decode cX12_nextOrder 132 = .ok (.iload 5, 2) := by decide +kernel
theorem dX12_nextOrder_134 : decode cX12_nextOrder 134 = .ok (.iaload, 1) := by decide +kernel
theorem dX12_nextOrder_135 : decode cX12_nextOrder 135 = .ok (.iastore, 1) := by decide +kernel
theorem dX12_nextOrder_136 : decode cX12_nextOrder 136 = .ok (.aload_n 0, 1) := by decide +kernel
theorem dX12_nextOrder_137 : decode cX12_nextOrder 137 = .ok (.getfield 134, 3) := by decide +kernel
theorem dX12_nextOrder_140 : decode cX12_nextOrder 140 = .ok (.iload 5, 2) := by decide +kernel
theorem dX12_nextOrder_142 : decode cX12_nextOrder 142 = .ok (.iload_n 3, 1) := by decide +kernel
theorem dX12_nextOrder_143 : decode cX12_nextOrder 143 = .ok (.iastore, 1) := by decide +kernel
theorem dX12_nextOrder_144 : decode cX12_nextOrder 144 = .ok (.iinc 4 1, 3) := by decide +kernel
theorem dX12_nextOrder_147 : decode cX12_nextOrder 147 = .ok (.iinc 5 (-1), 3) := by decide +kernel
theorem dX12_nextOrder_150 : decode cX12_nextOrder 150 = .ok (.goto (-43), 3) := by decide +kernel
theorem dX12_nextOrder_153 : decode cX12_nextOrder 153 = .ok (.iconst 1, 1) := by decide +kernel
theorem dX12_nextOrder_154 : decode cX12_nextOrder 154 = .ok (.ireturn, 1) := by decide +kernel
theorem dX12_turn_0 : decode cX12_turn 0 = .ok (.iload_n 1, 1) := by decide +kernel
theorem dX12_turn_1 : decode cX12_turn 1 = .ok (.i2l, 1) := by decide +kernel
theorem dX12_turn_2 : decode cX12_turn 2 = .ok (.lconst 0, 1) := by decide +kernel
theorem dX12_turn_3 : decode cX12_turn 3 = .ok (.lconst 1, 1) := by decide +kernel
theorem dX12_turn_4 : decode cX12_turn 4 = .ok (.invokestatic 194, 3) := by decide +kernel
theorem dX12_turn_7 : decode cX12_turn 7 = .ok (.ifCond .ne 20, 3) := by decide +kernel
theorem dX12_turn_10 : decode cX12_turn 10 = .ok (.iload_n 1, 1) := by decide +kernel
theorem dX12_turn_11 : decode cX12_turn 11 = .ok (.i2l, 1) := by decide +kernel
theorem dX12_turn_12 : decode cX12_turn 12 = .ok (.ldc2_w 218, 3) := by decide +kernel
theorem dX12_turn_15 : decode cX12_turn 15 = .ok (.ldc2_w 236, 3) := by decide +kernel
theorem dX12_turn_18 : decode cX12_turn 18 = .ok (.invokestatic 194, 3) := by decide +kernel
theorem dX12_turn_21 : decode cX12_turn 21 = .ok (.ifCond .ne 6, 3) := by decide +kernel
theorem dX12_turn_24 : decode cX12_turn 24 = .ok (.bipush (-102), 2) := by decide +kernel
theorem dX12_turn_26 : decode cX12_turn 26 = .ok (.ireturn, 1) := by decide +kernel
theorem dX12_turn_27 : decode cX12_turn 27 = .ok (.aload_n 0, 1) := by decide +kernel
theorem dX12_turn_28 : decode cX12_turn 28 = .ok (.getfield 428, 3) := by decide +kernel
theorem dX12_turn_31 : decode cX12_turn 31 = .ok (.bipush 20, 2) := by decide +kernel
theorem dX12_turn_33 : decode cX12_turn 33 = .ok (.if_icmp .ne 6, 3) := by decide +kernel
theorem dX12_turn_36 : decode cX12_turn 36 = .ok (.bipush (-103), 2) := by decide +kernel
theorem dX12_turn_38 : decode cX12_turn 38 = .ok (.ireturn, 1) := by decide +kernel
theorem dX12_turn_39 : decode cX12_turn 39 = .ok (.aload_n 0, 1) := by decide +kernel
theorem dX12_turn_40 : decode cX12_turn 40 = .ok (.dup, 1) := by decide +kernel
theorem dX12_turn_41 : decode cX12_turn 41 = .ok (.getfield 428, 3) := by decide +kernel
theorem dX12_turn_44 : decode cX12_turn 44 = .ok (.iconst 1, 1) := by decide +kernel
theorem dX12_turn_45 : decode cX12_turn 45 = .ok (.iadd, 1) := by decide +kernel
theorem dX12_turn_46 : decode cX12_turn 46 = .ok (.putfield 428, 3) := by decide +kernel
theorem dX12_turn_49 : decode cX12_turn 49 = .ok (.iconst (-1), 1) := by decide +kernel
theorem dX12_turn_50 : decode cX12_turn 50 = .ok (.istore_n 2, 1) := by decide +kernel
theorem dX12_turn_51 : decode cX12_turn 51 = .ok (.iconst 0, 1) := by decide +kernel
theorem dX12_turn_52 : decode cX12_turn 52 = .ok (.istore_n 3, 1) := by decide +kernel
theorem dX12_turn_53 : decode cX12_turn 53 = .ok (.iconst 0, 1) := by decide +kernel
theorem dX12_turn_54 : decode cX12_turn 54 = .ok (.istore 4, 2) := by decide +kernel
theorem dX12_turn_56 : decode cX12_turn 56 = .ok (.iload 4, 2) := by decide +kernel
theorem dX12_turn_58 : decode cX12_turn 58 = .ok (.aload_n 0, 1) := by decide +kernel
theorem dX12_turn_59 : decode cX12_turn 59 = .ok (.getfield 419, 3) := by decide +kernel
theorem dX12_turn_62 : decode cX12_turn 62 = .ok (.if_icmp .ge 18, 3) := by decide +kernel
theorem dX12_turn_65 : decode cX12_turn 65 = .ok (.aload_n 0, 1) := by decide +kernel
theorem dX12_turn_66 : decode cX12_turn 66 = .ok (.getfield 134, 3) := by decide +kernel
theorem dX12_turn_69 : decode cX12_turn 69 = .ok (.iload 4, 2) := by decide +kernel
theorem dX12_turn_71 : decode cX12_turn 71 = .ok (.iload 4, 2) := by decide +kernel
theorem dX12_turn_73 : decode cX12_turn 73 = .ok (.iastore, 1) := by decide +kernel
theorem dX12_turn_74 : decode cX12_turn 74 = .ok (.iinc 4 1, 3) := by decide +kernel
theorem dX12_turn_77 : decode cX12_turn 77 = .ok (.goto (-21), 3) := by decide +kernel
theorem dX12_turn_80 : decode cX12_turn 80 = .ok (.iconst 1, 1) := by decide +kernel
theorem dX12_turn_81 : decode cX12_turn 81 = .ok (.istore 4, 2) := by decide +kernel
theorem dX12_turn_83 : decode cX12_turn 83 = .ok (.iload 4, 2) := by decide +kernel
theorem dX12_turn_85 : decode cX12_turn 85 = .ok (.ifCond .eq 103, 3) := by decide +kernel
theorem dX12_turn_88 : decode cX12_turn 88 = .ok (.aload_n 0, 1) := by decide +kernel
theorem dX12_turn_89 : decode cX12_turn 89 = .ok (.invokevirtual 431, 3) := by decide +kernel
theorem dX12_turn_92 : decode cX12_turn 92 = .ok (.iconst (-1), 1) := by decide +kernel
theorem dX12_turn_93 : decode cX12_turn 93 = .ok (.if_icmp .ne 7, 3) := by decide +kernel
theorem dX12_turn_96 : decode cX12_turn 96 = .ok (.iconst 1, 1) := by decide +kernel
theorem dX12_turn_97 : decode cX12_turn 97 = .ok (.goto 4, 3) := by decide +kernel
theorem dX12_turn_100 : decode cX12_turn 100 = .ok (.iconst 0, 1) := by decide +kernel
theorem dX12_turn_101 : decode cX12_turn 101 = .ok (.istore 5, 2) := by decide +kernel
theorem dX12_turn_103 : decode cX12_turn 103 = .ok (.iload 5, 2) := by decide +kernel
theorem dX12_turn_105 : decode cX12_turn 105 = .ok (.ifCond .eq 74, 3) := by decide +kernel
theorem dX12_turn_108 : decode cX12_turn 108 = .ok (.iload_n 2, 1) := by decide +kernel
theorem dX12_turn_109 : decode cX12_turn 109 = .ok (.iconst (-1), 1) := by decide +kernel
theorem dX12_turn_110 : decode cX12_turn 110 = .ok (.if_icmp .eq 27, 3) := by decide +kernel
theorem dX12_turn_113 : decode cX12_turn 113 = .ok (.aload_n 0, 1) := by decide +kernel
theorem dX12_turn_114 : decode cX12_turn 114 = .ok (.getfield 422, 3) := by decide +kernel
theorem dX12_turn_117 : decode cX12_turn 117 = .ok (.iload_n 2, 1) := by decide +kernel
theorem dX12_turn_118 : decode cX12_turn 118 = .ok (.if_icmp .lt 19, 3) := by decide +kernel
theorem dX12_turn_121 : decode cX12_turn 121 = .ok (.aload_n 0, 1) := by decide +kernel
theorem dX12_turn_122 : decode cX12_turn 122 = .ok (.getfield 422, 3) := by decide +kernel
theorem dX12_turn_125 : decode cX12_turn 125 = .ok (.iload_n 2, 1) := by decide +kernel
theorem dX12_turn_126 : decode cX12_turn 126 = .ok (.if_icmp .ne 53, 3) := by decide +kernel
theorem dX12_turn_129 : decode cX12_turn 129 = .ok (.aload_n 0, 1) := by decide +kernel
theorem dX12_turn_130 : decode cX12_turn 130 = .ok (.getfield 425, 3) := by decide +kernel
theorem dX12_turn_133 : decode cX12_turn 133 = .ok (.iload_n 3, 1) := by decide +kernel
theorem dX12_turn_134 : decode cX12_turn 134 = .ok (.if_icmp .ge 45, 3) := by decide +kernel
theorem dX12_turn_137 : decode cX12_turn 137 = .ok (.aload_n 0, 1) := by decide +kernel
theorem dX12_turn_138 : decode cX12_turn 138 = .ok (.getfield 422, 3) := by decide +kernel
theorem dX12_turn_141 : decode cX12_turn 141 = .ok (.istore_n 2, 1) := by decide +kernel
theorem dX12_turn_142 : decode cX12_turn 142 = .ok (.aload_n 0, 1) := by decide +kernel
theorem dX12_turn_143 : decode cX12_turn 143 = .ok (.getfield 425, 3) := by decide +kernel
theorem dX12_turn_146 : decode cX12_turn 146 = .ok (.istore_n 3, 1) := by decide +kernel
theorem dX12_turn_147 : decode cX12_turn 147 = .ok (.iconst 0, 1) := by decide +kernel
theorem dX12_turn_148 : decode cX12_turn 148 = .ok (.istore 6, 2) := by decide +kernel
theorem dX12_turn_150 : decode cX12_turn 150 = .ok (.iload 6, 2) := by decide +kernel
theorem dX12_turn_152 : decode cX12_turn 152 = .ok (.aload_n 0, 1) := by decide +kernel
theorem dX12_turn_153 : decode cX12_turn 153 = .ok (.getfield 419, 3) := by decide +kernel
theorem dX12_turn_156 : decode cX12_turn 156 = .ok (.if_icmp .ge 23, 3) := by decide +kernel
theorem dX12_turn_159 : decode cX12_turn 159 = .ok (.aload_n 0, 1) := by decide +kernel
theorem dX12_turn_160 : decode cX12_turn 160 = .ok (.getfield 137, 3) := by decide +kernel
theorem dX12_turn_163 : decode cX12_turn 163 = .ok (.iload 6, 2) := by decide +kernel
theorem dX12_turn_165 : decode cX12_turn 165 = .ok (.aload_n 0, 1) := by decide +kernel
theorem dX12_turn_166 : decode cX12_turn 166 = .ok (.getfield 134, 3) := by decide +kernel
theorem dX12_turn_169 : decode cX12_turn 169 = .ok (.iload 6, 2) := by decide +kernel
theorem dX12_turn_171 : decode cX12_turn 171 = .ok (.iaload, 1) := by decide +kernel
theorem dX12_turn_172 : decode cX12_turn 172 = .ok (.iastore, 1) := by decide +kernel
theorem dX12_turn_173 : decode cX12_turn 173 = .ok (.iinc 6 1, 3) := by decide +kernel
theorem dX12_turn_176 : decode cX12_turn 176 = .ok (.goto (-26), 3) := by decide +kernel
theorem dX12_turn_179 : decode cX12_turn 179 = .ok (.aload_n 0, 1) := by decide +kernel
theorem dX12_turn_180 : decode cX12_turn 180 = .ok (.invokevirtual 434, 3) := by decide +kernel
theorem dX12_turn_183 : decode cX12_turn 183 = .ok (.istore 4, 2) := by decide +kernel
theorem dX12_turn_185 : decode cX12_turn 185 = .ok (.goto (-102), 3) := by decide +kernel
theorem dX12_turn_188 : decode cX12_turn 188 = .ok (.iload_n 2, 1) := by decide +kernel
theorem dX12_turn_189 : decode cX12_turn 189 = .ok (.iconst (-1), 1) := by decide +kernel
theorem dX12_turn_190 : decode cX12_turn 190 = .ok (.if_icmp .eq 7, 3) := by decide +kernel
theorem dX12_turn_193 : decode cX12_turn 193 = .ok (.iload_n 1, 1) := by decide +kernel
theorem dX12_turn_194 : decode cX12_turn 194 = .ok (.ifCond .ne 5, 3) := by decide +kernel
theorem dX12_turn_197 : decode cX12_turn 197 = .ok (.iload_n 2, 1) := by decide +kernel
theorem dX12_turn_198 : decode cX12_turn 198 = .ok (.ireturn, 1) := by decide +kernel
theorem dX12_turn_199 : decode cX12_turn 199 = .ok (.iload_n 1, 1) := by decide +kernel
theorem dX12_turn_200 : decode cX12_turn 200 = .ok (.iconst 1, 1) := by decide +kernel
theorem dX12_turn_201 : decode cX12_turn 201 = .ok (.if_icmp .ne 7, 3) := by decide +kernel
theorem dX12_turn_204 : decode cX12_turn 204 = .ok (.iload_n 3, 1) := by decide +kernel
theorem dX12_turn_205 : decode cX12_turn 205 = .ok (.goto 27, 3) := by decide +kernel
theorem dX12_turn_208 : decode cX12_turn 208 = .ok (.iload_n 1, 1) := by decide +kernel
theorem dX12_turn_209 : decode cX12_turn 209 = .ok (.bipush 10, 2) := by decide +kernel
theorem dX12_turn_211 : decode cX12_turn 211 = .ok (.isub, 1) := by decide +kernel
theorem dX12_turn_212 : decode cX12_turn 212 = .ok (.aload_n 0, 1) := by decide +kernel
theorem dX12_turn_213 : decode cX12_turn 213 = .ok (.getfield 419, 3) := by decide +kernel
theorem dX12_turn_216 : decode cX12_turn 216 = .ok (.if_icmp .ge 15, 3) := by decide +kernel
theorem dX12_turn_219 : decode cX12_turn 219 = .ok (.aload_n 0, 1) := by decide +kernel
theorem dX12_turn_220 : decode cX12_turn 220 = .ok (.getfield 137, 3) := by decide +kernel
theorem dX12_turn_223 : decode cX12_turn 223 = .ok (.iload_n 1, 1) := by decide +kernel
theorem dX12_turn_224 : decode cX12_turn 224 = .ok (.bipush 10, 2) := by decide +kernel
theorem dX12_turn_226 : decode cX12_turn 226 = .ok (.isub, 1) := by decide +kernel
theorem dX12_turn_227 : decode cX12_turn 227 = .ok (.iaload, 1) := by decide +kernel
theorem dX12_turn_228 : decode cX12_turn 228 = .ok (.goto 4, 3) := by decide +kernel
theorem dX12_turn_231 : decode cX12_turn 231 = .ok (.iconst (-1), 1) := by decide +kernel
theorem dX12_turn_232 : decode cX12_turn 232 = .ok (.ireturn, 1) := by decide +kernel
theorem dX12_judge_0 : decode cX12_judge 0 = .ok (.aload_n 0, 1) := by decide +kernel
theorem dX12_judge_1 : decode cX12_judge 1 = .ok (.getfield 419, 3) := by decide +kernel
theorem dX12_judge_4 : decode cX12_judge 4 = .ok (.ifCond .ne 6, 3) := by decide +kernel
theorem dX12_judge_7 : decode cX12_judge 7 = .ok (.bipush (-103), 2) := by decide +kernel
theorem dX12_judge_9 : decode cX12_judge 9 = .ok (.ireturn, 1) := by decide +kernel
theorem dX12_judge_10 : decode cX12_judge 10 = .ok (.iload_n 1, 1) := by decide +kernel
theorem dX12_judge_11 : decode cX12_judge 11 = .ok (.istore_n 2, 1) := by decide +kernel
theorem dX12_judge_12 : decode cX12_judge 12 = .ok (.iconst 0, 1) := by decide +kernel
theorem dX12_judge_13 : decode cX12_judge 13 = .ok (.istore_n 3, 1) := by decide +kernel
theorem dX12_judge_14 : decode cX12_judge 14 = .ok (.aload_n 0, 1) := by decide +kernel
theorem dX12_judge_15 : decode cX12_judge 15 = .ok (.getfield 419, 3) := by decide +kernel
theorem dX12_judge_18 : decode cX12_judge 18 = .ok (.iconst 1, 1) := by decide +kernel
theorem dX12_judge_19 : decode cX12_judge 19 = .ok (.isub, 1) := by decide +kernel
theorem dX12_judge_20 : decode cX12_judge 20 = .ok (.istore 4, 2) := by decide +kernel
theorem dX12_judge_22 : decode cX12_judge 22 = .ok (.iload 4, 2) := by decide +kernel
theorem dX12_judge_24 : decode cX12_judge 24 = .ok (.ifCond .lt 41, 3) := by decide +kernel
theorem dX12_judge_27 : decode cX12_judge 27 = .ok (.iload_n 1, 1) := by decide +kernel
theorem dX12_judge_28 : decode cX12_judge 28 = .ok (.ifCond .lt 37, 3) := by decide +kernel
theorem dX12_judge_31 : decode cX12_judge 31 = .ok (.aload_n 0, 1) := by decide +kernel
theorem dX12_judge_32 : decode cX12_judge 32 = .ok (.getfield 134, 3) := by decide +kernel
theorem dX12_judge_35 : decode cX12_judge 35 = .ok (.iload 4, 2) := by decide +kernel
theorem dX12_judge_37 : decode cX12_judge 37 = .ok (.iload_n 2, 1) := by decide +kernel
theorem dX12_judge_38 : decode cX12_judge 38 = .ok (.bipush 8, 2) := by decide +kernel
theorem dX12_judge_40 : decode cX12_judge 40 = .ok (.irem, 1) := by decide +kernel
theorem dX12_judge_41 : decode cX12_judge 41 = .ok (.iastore, 1) := by decide +kernel
theorem dX12_judge_42 : decode cX12_judge 42 = .ok (.iload_n 2, 1) := by decide +kernel
theorem dX12_judge_43 : decode cX12_judge 43 = .ok (.bipush 8, 2) := by decide +kernel
theorem dX12_judge_45 : decode cX12_judge 45 = .ok (.idiv, 1) := by decide +kernel
theorem dX12_judge_46 : decode cX12_judge 46 = .ok (.istore_n 2, 1) := by decide +kernel
theorem dX12_judge_47 : decode cX12_judge 47 = .ok (.iload_n 3, 1) := by decide +kernel
theorem dX12_judge_48 : decode cX12_judge 48 = .ok (.iconst 1, 1) := by decide +kernel
theorem dX12_judge_49 : decode cX12_judge 49 = .ok (.aload_n 0, 1) := by decide +kernel
theorem dX12_judge_50 : decode cX12_judge 50 = .ok (.getfield 134, 3) := by decide +kernel
theorem dX12_judge_53 : decode cX12_judge 53 = .ok (.iload 4, 2) := by decide +kernel
theorem dX12_judge_55 : decode cX12_judge 55 = .ok (.iaload, 1) := by decide +kernel
theorem dX12_judge_56 : decode cX12_judge 56 = .ok (.ishl, 1) := by decide +kernel
theorem dX12_judge_57 : decode cX12_judge 57 = .ok (.ior, 1) := by decide +kernel
theorem dX12_judge_58 : decode cX12_judge 58 = .ok (.istore_n 3, 1) := by decide +kernel
theorem dX12_judge_59 : decode cX12_judge 59 = .ok (.iinc 4 (-1), 3) := by decide +kernel
theorem dX12_judge_62 : decode cX12_judge 62 = .ok (.goto (-40), 3) := by decide +kernel
theorem dX12_judge_65 : decode cX12_judge 65 = .ok (.iload_n 1, 1) := by decide +kernel
theorem dX12_judge_66 : decode cX12_judge 66 = .ok (.ifCond .lt 19, 3) := by decide +kernel
theorem dX12_judge_69 : decode cX12_judge 69 = .ok (.iload_n 2, 1) := by decide +kernel
theorem dX12_judge_70 : decode cX12_judge 70 = .ok (.ifCond .gt 15, 3) := by decide +kernel
theorem dX12_judge_73 : decode cX12_judge 73 = .ok (.iload_n 3, 1) := by decide +kernel
theorem dX12_judge_74 : decode cX12_judge 74 = .ok (.iconst 1, 1) := by decide +kernel
theorem dX12_judge_75 : decode cX12_judge 75 = .ok (.aload_n 0, 1) := by decide +kernel
theorem dX12_judge_76 : decode cX12_judge 76 = .ok (.getfield 419, 3) := by decide +kernel
theorem dX12_judge_79 : decode cX12_judge 79 = .ok (.ishl, 1) := by decide +kernel
theorem dX12_judge_80 : decode cX12_judge 80 = .ok (.iconst 1, 1) := by decide +kernel
theorem dX12_judge_81 : decode cX12_judge 81 = .ok (.isub, 1) := by decide +kernel
theorem dX12_judge_82 : decode cX12_judge 82 = .ok (.if_icmp .eq 6, 3) := by decide +kernel
theorem dX12_judge_85 : decode cX12_judge 85 = .ok (.bipush (-102), 2) := by decide +kernel
theorem dX12_judge_87 : decode cX12_judge 87 = .ok (.ireturn, 1) := by decide +kernel
theorem dX12_judge_88 : decode cX12_judge 88 = .ok (.aload_n 0, 1) := by decide +kernel
theorem dX12_judge_89 : decode cX12_judge 89 = .ok (.invokevirtual 431, 3) := by decide +kernel
theorem dX12_judge_92 : decode cX12_judge 92 = .ok (.istore 4, 2) := by decide +kernel
theorem dX12_judge_94 : decode cX12_judge 94 = .ok (.iload 4, 2) := by decide +kernel
theorem dX12_judge_96 : decode cX12_judge 96 = .ok (.iconst (-1), 1) := by decide +kernel
theorem dX12_judge_97 : decode cX12_judge 97 = .ok (.if_icmp .ne 10, 3) := by decide +kernel
theorem dX12_judge_100 : decode cX12_judge 100 = .ok (.aload_n 0, 1) := by decide +kernel
theorem dX12_judge_101 : decode cX12_judge 101 = .ok (.getfield 422, 3) := by decide +kernel
theorem dX12_judge_104 : decode cX12_judge 104 = .ok (.goto 9, 3) := by decide +kernel
theorem dX12_judge_107 : decode cX12_judge 107 = .ok (.sipush (-1000), 3) := by decide +kernel
theorem dX12_judge_110 : decode cX12_judge 110 = .ok (.iload 4, 2) := by decide +kernel
theorem dX12_judge_112 : decode cX12_judge 112 = .ok (.isub, 1) := by decide +kernel
theorem dX12_judge_113 : decode cX12_judge 113 = .ok (.ireturn, 1) := by decide +kernel
theorem dX12_dry_0 : decode cX12_dry 0 = .ok (.iload_n 1, 1) := by decide +kernel
theorem dX12_dry_1 : decode cX12_dry 1 = .ok (.i2l, 1) := by decide +kernel
theorem dX12_dry_2 : decode cX12_dry 2 = .ok (.lconst 0, 1) := by decide +kernel
theorem dX12_dry_3 : decode cX12_dry 3 = .ok (.lconst 1, 1) := by decide +kernel
theorem dX12_dry_4 : decode cX12_dry 4 = .ok (.invokestatic 194, 3) := by decide +kernel
theorem dX12_dry_7 : decode cX12_dry 7 = .ok (.ifCond .eq 60, 3) := by decide +kernel
theorem dX12_dry_10 : decode cX12_dry 10 = .ok (.iload_n 2, 1) := by decide +kernel
theorem dX12_dry_11 : decode cX12_dry 11 = .ok (.i2l, 1) := by decide +kernel
theorem dX12_dry_12 : decode cX12_dry 12 = .ok (.lconst 0, 1) := by decide +kernel
theorem dX12_dry_13 : decode cX12_dry 13 = .ok (.ldc2_w 204, 3) := by decide +kernel
theorem dX12_dry_16 : decode cX12_dry 16 = .ok (.invokestatic 194, 3) := by decide +kernel
theorem dX12_dry_19 : decode cX12_dry 19 = .ok (.ifCond .eq 48, 3) := by decide +kernel
theorem dX12_dry_22 : decode cX12_dry 22 = .ok (.iload_n 3, 1) := by decide +kernel
theorem dX12_dry_23 : decode cX12_dry 23 = .ok (.i2l, 1) := by decide +kernel
theorem dX12_dry_24 : decode cX12_dry 24 = .ok (.iload_n 2, 1) := by decide +kernel
theorem dX12_dry_25 : decode cX12_dry 25 = .ok (.i2l, 1) := by decide +kernel
theorem dX12_dry_26 : decode cX12_dry 26 = .ok (.ldc2_w 204, 3) := by decide +kernel
theorem dX12_dry_29 : decode cX12_dry 29 = .ok (.invokestatic 194, 3) := by decide +kernel
theorem dX12_dry_32 : decode cX12_dry 32 = .ok (.ifCond .eq 35, 3) := by decide +kernel
theorem dX12_dry_35 : decode cX12_dry 35 = .ok (.iload 4, 2) := by decide +kernel
theorem dX12_dry_37 : decode cX12_dry 37 = .ok (.i2l, 1) := by decide +kernel
theorem dX12_dry_38 : decode cX12_dry 38 = .ok (.lconst 0, 1) := by decide +kernel
theorem dX12_dry_39 : decode cX12_dry 39 = .ok (.ldc2_w 204, 3) := by decide +kernel
theorem dX12_dry_42 : decode cX12_dry 42 = .ok (.invokestatic 194, 3) := by decide +kernel
theorem dX12_dry_45 : decode cX12_dry 45 = .ok (.ifCond .eq 22, 3) := by decide +kernel
theorem dX12_dry_48 : decode cX12_dry 48 = .ok (.iload 5, 2) := by decide +kernel
theorem dX12_dry_50 : decode cX12_dry 50 = .ok (.i2l, 1) := by decide +kernel
theorem dX12_dry_51 : decode cX12_dry 51 = .ok (.iload 4, 2) := by decide +kernel
theorem dX12_dry_53 : decode cX12_dry 53 = .ok (.i2l, 1) := by decide +kernel
theorem dX12_dry_54 : decode cX12_dry 54 = .ok (.ldc2_w 204, 3) := by decide +kernel
theorem dX12_dry_57 : decode cX12_dry 57 = .ok (.invokestatic 194, 3) := by decide +kernel
theorem dX12_dry_60 : decode cX12_dry 60 = .ok (.ifCond .eq 7, 3) := by decide +kernel
theorem dX12_dry_63 : decode cX12_dry 63 = .ok (.iconst 1, 1) := by decide +kernel
theorem dX12_dry_64 : decode cX12_dry 64 = .ok (.goto 4, 3) := by decide +kernel
theorem dX12_dry_67 : decode cX12_dry 67 = .ok (.iconst 0, 1) := by decide +kernel
theorem dX12_dry_68 : decode cX12_dry 68 = .ok (.istore 6, 2) := by decide +kernel
theorem dX12_dry_70 : decode cX12_dry 70 = .ok (.iload 6, 2) := by decide +kernel
theorem dX12_dry_72 : decode cX12_dry 72 = .ok (.ifCond .ne 6, 3) := by decide +kernel
theorem dX12_dry_75 : decode cX12_dry 75 = .ok (.bipush (-102), 2) := by decide +kernel
theorem dX12_dry_77 : decode cX12_dry 77 = .ok (.ireturn, 1) := by decide +kernel
theorem dX12_dry_78 : decode cX12_dry 78 = .ok (.iload_n 1, 1) := by decide +kernel
theorem dX12_dry_79 : decode cX12_dry 79 = .ok (.ifCond .ne 7, 3) := by decide +kernel
theorem dX12_dry_82 : decode cX12_dry 82 = .ok (.iload_n 3, 1) := by decide +kernel
theorem dX12_dry_83 : decode cX12_dry 83 = .ok (.goto 4, 3) := by decide +kernel
theorem dX12_dry_86 : decode cX12_dry 86 = .ok (.iload_n 2, 1) := by decide +kernel
theorem dX12_dry_87 : decode cX12_dry 87 = .ok (.istore 7, 2) := by decide +kernel
theorem dX12_dry_89 : decode cX12_dry 89 = .ok (.iload_n 1, 1) := by decide +kernel
theorem dX12_dry_90 : decode cX12_dry 90 = .ok (.ifCond .ne 8, 3) := by decide +kernel
theorem dX12_dry_93 : decode cX12_dry 93 = .ok (.iload 4, 2) := by decide +kernel
theorem dX12_dry_95 : decode cX12_dry 95 = .ok (.goto 5, 3) := by decide +kernel
theorem dX12_dry_98 : decode cX12_dry 98 = .ok (.iload 5, 2) := by decide +kernel
theorem dX12_dry_100 : decode cX12_dry 100 = .ok (.istore 8, 2) := by decide +kernel
theorem dX12_dry_102 : decode cX12_dry 102 = .ok (.aload_n 0, 1) := by decide +kernel
theorem dX12_dry_103 : decode cX12_dry 103 = .ok (.getfield 7, 3) := by decide +kernel
theorem dX12_dry_106 : decode cX12_dry 106 = .ok (.aload_n 0, 1) := by decide +kernel
theorem dX12_dry_107 : decode cX12_dry 107 = .ok (.getfield 185, 3) := by decide +kernel
theorem dX12_dry_110 : decode cX12_dry 110 = .ok (.iaload, 1) := by decide +kernel
theorem dX12_dry_111 : decode cX12_dry 111 = .ok (.istore 9, 2) := by decide +kernel
theorem dX12_dry_113 : decode cX12_dry 113 = .ok (.iconst 0, 1) := by decide +kernel
theorem dX12_dry_114 : decode cX12_dry 114 = .ok (.istore 10, 2) := by decide +kernel
theorem dX12_dry_116 : decode cX12_dry 116 = .ok (.iload 10, 2) := by decide +kernel
theorem dX12_dry_118 : decode cX12_dry 118 = .ok (.sipush 400, 3) := by decide +kernel
theorem dX12_dry_121 : decode cX12_dry 121 = .ok (.if_icmp .ge 63, 3) := by decide +kernel
theorem dX12_dry_124 : decode cX12_dry 124 = .ok (.iload 9, 2) := by decide +kernel
theorem dX12_dry_126 : decode cX12_dry 126 = .ok (.iload 7, 2) := by decide +kernel
theorem dX12_dry_128 : decode cX12_dry 128 = .ok (.if_icmp .le 11, 3) := by decide +kernel
theorem dX12_dry_131 : decode cX12_dry 131 = .ok (.iload 9, 2) := by decide +kernel
theorem dX12_dry_133 : decode cX12_dry 133 = .ok (.iload 7, 2) := by decide +kernel
theorem dX12_dry_135 : decode cX12_dry 135 = .ok (.isub, 1) := by decide +kernel
theorem dX12_dry_136 : decode cX12_dry 136 = .ok (.goto 4, 3) := by decide +kernel
theorem dX12_dry_139 : decode cX12_dry 139 = .ok (.iconst 0, 1) := by decide +kernel
theorem dX12_dry_140 : decode cX12_dry 140 = .ok (.istore 9, 2) := by decide +kernel
theorem dX12_dry_142 : decode cX12_dry 142 = .ok (.aload_n 0, 1) := by decide +kernel
theorem dX12_dry_143 : decode cX12_dry 143 = .ok (.getfield 13, 3) := by decide +kernel
theorem dX12_dry_146 : decode cX12_dry 146 = .ok (.aload_n 0, 1) := by decide +kernel
theorem dX12_dry_147 : decode cX12_dry 147 = .ok (.getfield 185, 3) := by decide +kernel
theorem dX12_dry_150 : decode cX12_dry 150 = .ok (.iaload, 1) := by decide +kernel
theorem dX12_dry_151 : decode cX12_dry 151 = .ok (.iload 9, 2) := by decide +kernel
theorem dX12_dry_153 : decode cX12_dry 153 = .ok (.iload 8, 2) := by decide +kernel
theorem dX12_dry_155 : decode cX12_dry 155 = .ok (.iadd, 1) := by decide +kernel
theorem dX12_dry_156 : decode cX12_dry 156 = .ok (.invokestatic 243, 3) := by decide +kernel
theorem dX12_dry_159 : decode cX12_dry 159 = .ok (.istore 9, 2) := by decide +kernel
theorem dX12_dry_161 : decode cX12_dry 161 = .ok (.iload 9, 2) := by decide +kernel
theorem dX12_dry_163 : decode cX12_dry 163 = .ok (.aload_n 0, 1) := by decide +kernel
theorem dX12_dry_164 : decode cX12_dry 164 = .ok (.getfield 16, 3) := by decide +kernel
theorem dX12_dry_167 : decode cX12_dry 167 = .ok (.aload_n 0, 1) := by decide +kernel
theorem dX12_dry_168 : decode cX12_dry 168 = .ok (.getfield 185, 3) := by decide +kernel
theorem dX12_dry_171 : decode cX12_dry 171 = .ok (.iaload, 1) := by decide +kernel
theorem dX12_dry_172 : decode cX12_dry 172 = .ok (.if_icmp .ge 6, 3) := by decide +kernel
theorem dX12_dry_175 : decode cX12_dry 175 = .ok (.iload 10, 2) := by decide +kernel
theorem dX12_dry_177 : decode cX12_dry 177 = .ok (.ireturn, 1) := by decide +kernel
theorem dX12_dry_178 : decode cX12_dry 178 = .ok (.iinc 10 1, 3) := by decide +kernel
theorem dX12_dry_181 : decode cX12_dry 181 = .ok (.goto (-65), 3) := by decide +kernel
theorem dX12_dry_184 : decode cX12_dry 184 = .ok (.iconst (-1), 1) := by decide +kernel
theorem dX12_dry_185 : decode cX12_dry 185 = .ok (.ireturn, 1) := by decide +kernel
theorem dX12_bank_0 : decode cX12_bank 0 = .ok (.iload_n 1, 1) := by decide +kernel
theorem dX12_bank_1 : decode cX12_bank 1 = .ok (.invokestatic 198, 3) := by decide +kernel
theorem dX12_bank_4 : decode cX12_bank 4 = .ok (.ifCond .ne 6, 3) := by decide +kernel
theorem dX12_bank_7 : decode cX12_bank 7 = .ok (.bipush (-101), 2) := by decide +kernel
theorem dX12_bank_9 : decode cX12_bank 9 = .ok (.ireturn, 1) := by decide +kernel
theorem dX12_bank_10 : decode cX12_bank 10 = .ok (.iload_n 2, 1) := by decide +kernel
theorem dX12_bank_11 : decode cX12_bank 11 = .ok (.i2l, 1) := by decide +kernel
theorem dX12_bank_12 : decode cX12_bank 12 = .ok (.lconst 1, 1) := by decide +kernel
theorem dX12_bank_13 : decode cX12_bank 13 = .ok (.ldc2_w 438, 3) := by decide +kernel
theorem dX12_bank_16 : decode cX12_bank 16 = .ok (.invokestatic 194, 3) := by decide +kernel
theorem dX12_bank_19 : decode cX12_bank 19 = .ok (.ifCond .ne 6, 3) := by decide +kernel
theorem dX12_bank_22 : decode cX12_bank 22 = .ok (.bipush (-102), 2) := by decide +kernel
theorem dX12_bank_24 : decode cX12_bank 24 = .ok (.ireturn, 1) := by decide +kernel
theorem dX12_bank_25 : decode cX12_bank 25 = .ok (.aload_n 0, 1) := by decide +kernel
theorem dX12_bank_26 : decode cX12_bank 26 = .ok (.getfield 440, 3) := by decide +kernel
theorem dX12_bank_29 : decode cX12_bank 29 = .ok (.bipush 10, 2) := by decide +kernel
theorem dX12_bank_31 : decode cX12_bank 31 = .ok (.if_icmp .ne 6, 3) := by decide +kernel
theorem dX12_bank_34 : decode cX12_bank 34 = .ok (.bipush (-104), 2) := by decide +kernel
theorem dX12_bank_36 : decode cX12_bank 36 = .ok (.ireturn, 1) := by decide +kernel
theorem dX12_bank_37 : decode cX12_bank 37 = .ok (.aload_n 0, 1) := by decide +kernel
theorem dX12_bank_38 : decode cX12_bank 38 = .ok (.getfield 140, 3) := by decide +kernel
theorem dX12_bank_41 : decode cX12_bank 41 = .ok (.aload_n 0, 1) := by decide +kernel
theorem dX12_bank_42 : decode cX12_bank 42 = .ok (.getfield 440, 3) := by decide +kernel
theorem dX12_bank_45 : decode cX12_bank 45 = .ok (.iload_n 1, 1) := by decide +kernel
theorem dX12_bank_46 : decode cX12_bank 46 = .ok (.iastore, 1) := by decide +kernel
theorem dX12_bank_47 : decode cX12_bank 47 = .ok (.aload_n 0, 1) := by decide +kernel
theorem dX12_bank_48 : decode cX12_bank 48 = .ok (.getfield 143, 3) := by decide +kernel
theorem dX12_bank_51 : decode cX12_bank 51 = .ok (.aload_n 0, 1) := by decide +kernel
theorem dX12_bank_52 : decode cX12_bank 52 = .ok (.getfield 440, 3) := by decide +kernel
theorem dX12_bank_55 : decode cX12_bank 55 = .ok (.iload_n 2, 1) := by decide +kernel
theorem dX12_bank_56 : decode cX12_bank 56 = .ok (.iastore, 1) := by decide +kernel
theorem dX12_bank_57 : decode cX12_bank 57 = .ok (.aload_n 0, 1) := by decide +kernel
theorem dX12_bank_58 : decode cX12_bank 58 = .ok (.dup, 1) := by decide +kernel
theorem dX12_bank_59 : decode cX12_bank 59 = .ok (.getfield 440, 3) := by decide +kernel
theorem dX12_bank_62 : decode cX12_bank 62 = .ok (.iconst 1, 1) := by decide +kernel
theorem dX12_bank_63 : decode cX12_bank 63 = .ok (.iadd, 1) := by decide +kernel
theorem dX12_bank_64 : decode cX12_bank 64 = .ok (.putfield 440, 3) := by decide +kernel
theorem dX12_bank_67 : decode cX12_bank 67 = .ok (.aload_n 0, 1) := by decide +kernel
theorem dX12_bank_68 : decode cX12_bank 68 = .ok (.getfield 440, 3) := by decide +kernel
theorem dX12_bank_71 : decode cX12_bank 71 = .ok (.iconst 1, 1) := by decide +kernel
theorem dX12_bank_72 : decode cX12_bank 72 = .ok (.isub, 1) := by decide +kernel
theorem dX12_bank_73 : decode cX12_bank 73 = .ok (.ireturn, 1) := by decide +kernel
theorem dX12_read_0 : decode cX12_read 0 = .ok (.iload_n 1, 1) := by decide +kernel
theorem dX12_read_1 : decode cX12_read 1 = .ok (.invokestatic 198, 3) := by decide +kernel
theorem dX12_read_4 : decode cX12_read 4 = .ok (.ifCond .ne 6, 3) := by decide +kernel
theorem dX12_read_7 : decode cX12_read 7 = .ok (.bipush (-101), 2) := by decide +kernel
theorem dX12_read_9 : decode cX12_read 9 = .ok (.ireturn, 1) := by decide +kernel
theorem dX12_read_10 : decode cX12_read 10 = .ok (.iload_n 2, 1) := by decide +kernel
theorem dX12_read_11 : decode cX12_read 11 = .ok (.i2l, 1) := by decide +kernel
theorem dX12_read_12 : decode cX12_read 12 = .ok (.lconst 0, 1) := by decide +kernel
theorem dX12_read_13 : decode cX12_read 13 = .ok (.ldc2_w 204, 3) := by decide +kernel
theorem dX12_read_16 : decode cX12_read 16 = .ok (.invokestatic 194, 3) := by decide +kernel
theorem dX12_read_19 : decode cX12_read 19 = .ok (.ifCond .eq 10, 3) := by decide +kernel
theorem dX12_read_22 : decode cX12_read 22 = .ok (.iload_n 3, 1) := by decide +kernel
theorem dX12_read_23 : decode cX12_read 23 = .ok (.invokestatic 393, 3) := by decide +kernel
theorem dX12_read_26 : decode cX12_read 26 = .ok (.ifCond .ne 6, 3) := by decide +kernel
theorem dX12_read_29 : decode cX12_read 29 = .ok (.bipush (-102), 2) := by decide +kernel
theorem dX12_read_31 : decode cX12_read 31 = .ok (.ireturn, 1) := by decide +kernel
theorem dX12_read_32 : decode cX12_read 32 = .ok (.aload_n 0, 1) := by decide +kernel
theorem dX12_read_33 : decode cX12_read 33 = .ok (.getfield 146, 3) := by decide +kernel
theorem dX12_read_36 : decode cX12_read 36 = .ok (.iload_n 1, 1) := by decide +kernel
theorem dX12_read_37 : decode cX12_read 37 = .ok (.iload_n 2, 1) := by decide +kernel
theorem dX12_read_38 : decode cX12_read 38 = .ok (.iastore, 1) := by decide +kernel
theorem dX12_read_39 : decode cX12_read 39 = .ok (.aload_n 0, 1) := by decide +kernel
theorem dX12_read_40 : decode cX12_read 40 = .ok (.getfield 149, 3) := by decide +kernel
theorem dX12_read_43 : decode cX12_read 43 = .ok (.iload_n 1, 1) := by decide +kernel
theorem dX12_read_44 : decode cX12_read 44 = .ok (.iload_n 3, 1) := by decide +kernel
theorem dX12_read_45 : decode cX12_read 45 = .ok (.iastore, 1) := by decide +kernel
theorem dX12_read_46 : decode cX12_read 46 = .ok (.iconst 1, 1) := by decide +kernel
theorem dX12_read_47 : decode cX12_read 47 = .ok (.ireturn, 1) := by decide +kernel
theorem dX12_readMany_0 : decode cX12_readMany 0 = .ok (.iconst 0, 1) := by decide +kernel
theorem dX12_readMany_1 : decode cX12_readMany 1 = .ok (.istore_n 1, 1) := by decide +kernel
theorem dX12_readMany_2 : decode cX12_readMany 2 = .ok (.iconst 0, 1) := by decide +kernel
theorem dX12_readMany_3 : decode cX12_readMany 3 = .ok (.istore_n 2, 1) := by decide +kernel
theorem dX12_readMany_4 : decode cX12_readMany 4 = .ok (.iload_n 2, 1) := by decide +kernel
theorem dX12_readMany_5 : decode cX12_readMany 5 = .ok (.bipush 8, 2) := by decide +kernel
theorem dX12_readMany_7 : decode cX12_readMany 7 = .ok (.if_icmp .ge 27, 3) := by decide +kernel
theorem dX12_readMany_10 : decode cX12_readMany 10 = .ok (.iload_n 1, 1) := by decide +kernel
theorem dX12_readMany_11 : decode cX12_readMany 11 = .ok (.aload_n 0, 1) := by decide +kernel
theorem dX12_readMany_12 : decode cX12_readMany 12 = .ok (.getfield 146, 3) := by decide +kernel
theorem dX12_readMany_15 : decode cX12_readMany 15 = .ok (.iload_n 2, 1) := by decide +kernel
theorem dX12_readMany_16 : decode cX12_readMany 16 = .ok (.iaload, 1) := by decide +kernel
theorem dX12_readMany_17 : decode cX12_readMany 17 = .ok (.iconst (-1), 1) := by decide +kernel
theorem dX12_readMany_18 : decode cX12_readMany 18 = .ok (.if_icmp .ne 7, 3) := by decide +kernel
theorem dX12_readMany_21 : decode cX12_readMany 21 = .ok (.iconst 0, 1) := by decide +kernel
theorem dX12_readMany_22 : decode cX12_readMany 22 = .ok (.goto 4, 3) := by decide +kernel
theorem dX12_readMany_25 : decode cX12_readMany 25 = .ok (.iconst 1, 1) := by decide +kernel
theorem dX12_readMany_26 : decode cX12_readMany 26 = .ok (.iadd, 1) := by decide +kernel
theorem dX12_readMany_27 : decode cX12_readMany 27 = .ok (.istore_n 1, 1) := by decide +kernel
theorem dX12_readMany_28 : decode cX12_readMany 28 = .ok (.iinc 2 1, 3) := by decide +kernel
theorem dX12_readMany_31 : decode cX12_readMany 31 = .ok (.goto (-27), 3) := by decide +kernel
theorem dX12_readMany_34 : decode cX12_readMany 34 = .ok (.iload_n 1, 1) := by decide +kernel
theorem dX12_readMany_35 : decode cX12_readMany 35 = .ok (.ireturn, 1) := by decide +kernel
theorem dX12_unread_0 : decode cX12_unread 0 = .ok (.aload_n 0, 1) := by decide +kernel
theorem dX12_unread_1 : decode cX12_unread 1 = .ok (.invokevirtual 443, 3) := by decide +kernel
theorem dX12_unread_4 : decode cX12_unread 4 = .ok (.istore_n 1, 1) := by decide +kernel
theorem dX12_unread_5 : decode cX12_unread 5 = .ok (.iconst 0, 1) := by decide +kernel
theorem dX12_unread_6 : decode cX12_unread 6 = .ok (.istore_n 2, 1) := by decide +kernel
theorem dX12_unread_7 : decode cX12_unread 7 = .ok (.iload_n 2, 1) := by decide +kernel
theorem dX12_unread_8 : decode cX12_unread 8 = .ok (.bipush 8, 2) := by decide +kernel
theorem dX12_unread_10 : decode cX12_unread 10 = .ok (.if_icmp .ge 16, 3) := by decide +kernel
theorem dX12_unread_13 : decode cX12_unread 13 = .ok (.aload_n 0, 1) := by decide +kernel
theorem dX12_unread_14 : decode cX12_unread 14 = .ok (.getfield 146, 3) := by decide +kernel
theorem dX12_unread_17 : decode cX12_unread 17 = .ok (.iload_n 2, 1) := by decide +kernel
theorem dX12_unread_18 : decode cX12_unread 18 = .ok (.iconst (-1), 1) := by decide +kernel
theorem dX12_unread_19 : decode cX12_unread 19 = .ok (.iastore, 1) := by decide +kernel
theorem dX12_unread_20 : decode cX12_unread 20 = .ok (.iinc 2 1, 3) := by decide +kernel
theorem dX12_unread_23 : decode cX12_unread 23 = .ok (.goto (-16), 3) := by decide +kernel
theorem dX12_unread_26 : decode cX12_unread 26 = .ok (.iload_n 1, 1) := by decide +kernel
theorem dX12_unread_27 : decode cX12_unread 27 = .ok (.ireturn, 1) := by decide +kernel
theorem dX12_explains_0 : decode cX12_explains 0 = .ok (.iconst 1, 1) := by decide +kernel
theorem dX12_explains_1 : decode cX12_explains 1 = .ok (.istore_n 2, 1) := by decide +kernel
theorem dX12_explains_2 : decode cX12_explains 2 = .ok (.iconst 0, 1) := by decide +kernel
theorem dX12_explains_3 : decode cX12_explains 3 = .ok (.istore_n 3, 1) := by decide +kernel
theorem dX12_explains_4 : decode cX12_explains 4 = .ok (.iload_n 3, 1) := by decide +kernel
theorem dX12_explains_5 : decode cX12_explains 5 = .ok (.bipush 8, 2) := by decide +kernel
theorem dX12_explains_7 : decode cX12_explains 7 = .ok (.if_icmp .ge 124, 3) := by decide +kernel
theorem dX12_explains_10 : decode cX12_explains 10 = .ok (.iconst 0, 1) := by decide +kernel
theorem dX12_explains_11 : decode cX12_explains 11 = .ok (.istore 4, 2) := by decide +kernel
theorem dX12_explains_13 : decode cX12_explains 13 = .ok (.iconst 0, 1) := by decide +kernel
theorem dX12_explains_14 : decode cX12_explains 14 = .ok (.istore 5, 2) := by decide +kernel
theorem dX12_explains_16 : decode cX12_explains 16 = .ok (.iload 5, 2) := by decide +kernel
theorem dX12_explains_18 : decode cX12_explains 18 = .ok (.aload_n 0, 1) := by decide +kernel
theorem dX12_explains_19 : decode cX12_explains 19 = .ok (.getfield 440, 3) := by decide +kernel
theorem dX12_explains_22 : decode cX12_explains 22 = .ok (.if_icmp .ge 46, 3) := by decide +kernel
theorem dX12_explains_25 : decode cX12_explains 25 = .ok (.iload 4, 2) := by decide +kernel
theorem dX12_explains_27 : decode cX12_explains 27 = .ok (.iload_n 1, 1) := by decide +kernel
theorem dX12_explains_28 : decode cX12_explains 28 = .ok (.iload 5, 2) := by decide +kernel
theorem dX12_explains_30 : decode cX12_explains 30 = .ok (.ishr, 1) := by decide +kernel
theorem dX12_explains_31 : decode cX12_explains 31 = .ok (.iconst 1, 1) := by decide +kernel
theorem dX12_explains_32 : decode cX12_explains 32 = .ok (.iand, 1) := by decide +kernel
theorem dX12_explains_33 : decode cX12_explains 33 = .ok (.iconst 1, 1) := by decide +kernel
theorem dX12_explains_34 : decode cX12_explains 34 = .ok (.if_icmp .ne 24, 3) := by decide +kernel
theorem dX12_explains_37 : decode cX12_explains 37 = .ok (.aload_n 0, 1) := by decide +kernel
theorem dX12_explains_38 : decode cX12_explains 38 = .ok (.getfield 140, 3) := by decide +kernel
theorem dX12_explains_41 : decode cX12_explains 41 = .ok (.iload 5, 2) := by decide +kernel
theorem dX12_explains_43 : decode cX12_explains 43 = .ok (.iaload, 1) := by decide +kernel
theorem dX12_explains_44 : decode cX12_explains 44 = .ok (.iload_n 3, 1) := by decide +kernel
theorem dX12_explains_45 : decode cX12_explains 45 = .ok (.if_icmp .ne 13, 3) := by decide +kernel
theorem dX12_explains_48 : decode cX12_explains 48 = .ok (.aload_n 0, 1) := by decide +kernel
theorem dX12_explains_49 : decode cX12_explains 49 = .ok (.getfield 143, 3) := by decide +kernel
theorem dX12_explains_52 : decode cX12_explains 52 = .ok (.iload 5, 2) := by decide +kernel
theorem dX12_explains_54 : decode cX12_explains 54 = .ok (.iaload, 1) := by decide +kernel
theorem dX12_explains_55 : decode cX12_explains 55 = .ok (.goto 4, 3) := by decide +kernel
theorem dX12_explains_58 : decode cX12_explains 58 = .ok (.iconst 0, 1) := by decide +kernel
theorem dX12_explains_59 : decode cX12_explains 59 = .ok (.iadd, 1) := by decide +kernel
theorem dX12_explains_60 : decode cX12_explains 60 = .ok (.istore 4, 2) := by decide +kernel
theorem dX12_explains_62 : decode cX12_explains 62 = .ok (.iinc 5 1, 3) := by decide +kernel
theorem dX12_explains_65 : decode cX12_explains 65 = .ok (.goto (-49), 3) := by decide +kernel
theorem dX12_explains_68 : decode cX12_explains 68 = .ok (.iload_n 2, 1) := by decide +kernel
theorem dX12_explains_69 : decode cX12_explains 69 = .ok (.ifCond .eq 54, 3) := by decide +kernel
theorem dX12_explains_72 : decode cX12_explains 72 = .ok (.aload_n 0, 1) := by decide +kernel
theorem dX12_explains_73 : decode cX12_explains 73 = .ok (.getfield 146, 3) := by decide +kernel
theorem dX12_explains_76 : decode cX12_explains 76 = .ok (.iload_n 3, 1) := by decide +kernel
theorem dX12_explains_77 : decode cX12_explains 77 = .ok (.iaload, 1) := by decide +kernel
theorem dX12_explains_78 : decode cX12_explains 78 = .ok (.iconst (-1), 1) := by decide +kernel
theorem dX12_explains_79 : decode cX12_explains 79 = .ok (.if_icmp .eq 40, 3) := by decide +kernel
theorem dX12_explains_82 : decode cX12_explains 82 = .ok (.iload 4, 2) := by decide +kernel
theorem dX12_explains_84 : decode cX12_explains 84 = .ok (.i2l, 1) := by decide +kernel
theorem dX12_explains_85 : decode cX12_explains 85 = .ok (.aload_n 0, 1) := by decide +kernel
theorem dX12_explains_86 : decode cX12_explains 86 = .ok (.getfield 146, 3) := by decide +kernel
theorem dX12_explains_89 : decode cX12_explains 89 = .ok (.iload_n 3, 1) := by decide +kernel
theorem dX12_explains_90 : decode cX12_explains 90 = .ok (.iaload, 1) := by decide +kernel
theorem dX12_explains_91 : decode cX12_explains 91 = .ok (.aload_n 0, 1) := by decide +kernel
theorem dX12_explains_92 : decode cX12_explains 92 = .ok (.getfield 149, 3) := by decide +kernel
theorem dX12_explains_95 : decode cX12_explains 95 = .ok (.iload_n 3, 1) := by decide +kernel
theorem dX12_explains_96 : decode cX12_explains 96 = .ok (.iaload, 1) := by decide +kernel
theorem dX12_explains_97 : decode cX12_explains 97 = .ok (.isub, 1) := by decide +kernel
theorem dX12_explains_98 : decode cX12_explains 98 = .ok (.i2l, 1) := by decide +kernel
theorem dX12_explains_99 : decode cX12_explains 99 = .ok (.aload_n 0, 1) := by decide +kernel
theorem dX12_explains_100 : decode cX12_explains 100 = .ok (.getfield 146, 3) := by decide +kernel
theorem dX12_explains_103 : decode cX12_explains 103 = .ok (.iload_n 3, 1) := by decide +kernel
theorem dX12_explains_104 : decode cX12_explains 104 = .ok (.iaload, 1) := by decide +kernel
theorem dX12_explains_105 : decode cX12_explains 105 = .ok (.aload_n 0, 1) := by decide +kernel
theorem dX12_explains_106 : decode cX12_explains 106 = .ok (.getfield 149, 3) := by decide +kernel
theorem dX12_explains_109 : decode cX12_explains 109 = .ok (.iload_n 3, 1) := by decide +kernel
theorem dX12_explains_110 : decode cX12_explains 110 = .ok (.iaload, 1) := by decide +kernel
theorem dX12_explains_111 : decode cX12_explains 111 = .ok (.iadd, 1) := by decide +kernel
theorem dX12_explains_112 : decode cX12_explains 112 = .ok (.i2l, 1) := by decide +kernel
theorem dX12_explains_113 : decode cX12_explains 113 = .ok (.invokestatic 194, 3) := by decide +kernel
theorem dX12_explains_116 : decode cX12_explains 116 = .ok (.ifCond .eq 7, 3) := by decide +kernel
theorem dX12_explains_119 : decode cX12_explains 119 = .ok (.iconst 1, 1) := by decide +kernel
theorem dX12_explains_120 : decode cX12_explains 120 = .ok (.goto 4, 3) := by decide +kernel
theorem dX12_explains_123 : decode cX12_explains 123 = .ok (.iconst 0, 1) := by decide +kernel
theorem dX12_explains_124 : decode cX12_explains 124 = .ok (.istore_n 2, 1) := by decide +kernel
theorem dX12_explains_125 : decode cX12_explains 125 = .ok (.iinc 3 1, 3) := by decide +kernel
theorem dX12_explains_128 : decode cX12_explains 128 = .ok (.goto (-124), 3) := by decide +kernel
theorem dX12_explains_131 : decode cX12_explains 131 = .ok (.iload_n 2, 1) := by decide +kernel
theorem dX12_explains_132 : decode cX12_explains 132 = .ok (.ireturn, 1) := by decide +kernel
theorem dX12_find_0 : decode cX12_find 0 = .ok (.iload_n 1, 1) := by decide +kernel
theorem dX12_find_1 : decode cX12_find 1 = .ok (.i2l, 1) := by decide +kernel
theorem dX12_find_2 : decode cX12_find 2 = .ok (.lconst 0, 1) := by decide +kernel
theorem dX12_find_3 : decode cX12_find 3 = .ok (.lconst 1, 1) := by decide +kernel
theorem dX12_find_4 : decode cX12_find 4 = .ok (.invokestatic 194, 3) := by decide +kernel
theorem dX12_find_7 : decode cX12_find 7 = .ok (.ifCond .ne 6, 3) := by decide +kernel
theorem dX12_find_10 : decode cX12_find 10 = .ok (.bipush (-102), 2) := by decide +kernel
theorem dX12_find_12 : decode cX12_find 12 = .ok (.ireturn, 1) := by decide +kernel
theorem dX12_find_13 : decode cX12_find 13 = .ok (.iconst (-1), 1) := by decide +kernel
theorem dX12_find_14 : decode cX12_find 14 = .ok (.istore_n 2, 1) := by decide +kernel
theorem dX12_find_15 : decode cX12_find 15 = .ok (.iconst 0, 1) := by decide +kernel
theorem dX12_find_16 : decode cX12_find 16 = .ok (.istore_n 3, 1) := by decide +kernel
theorem dX12_find_17 : decode cX12_find 17 = .ok (.iconst 0, 1) := by decide +kernel
theorem dX12_find_18 : decode cX12_find 18 = .ok (.istore 4, 2) := by decide +kernel
theorem dX12_find_20 : decode cX12_find 20 = .ok (.iload 4, 2) := by decide +kernel
theorem dX12_find_22 : decode cX12_find 22 = .ok (.iconst 1, 1) := by decide +kernel
theorem dX12_find_23 : decode cX12_find 23 = .ok (.aload_n 0, 1) := by decide +kernel
theorem dX12_find_24 : decode cX12_find 24 = .ok (.getfield 440, 3) := by decide +kernel
theorem dX12_find_27 : decode cX12_find 27 = .ok (.ishl, 1) := by decide +kernel
theorem dX12_find_28 : decode cX12_find 28 = .ok (.if_icmp .ge 83, 3) := by decide +kernel
theorem dX12_find_31 : decode cX12_find 31 = .ok (.aload_n 0, 1) := by decide +kernel
theorem dX12_find_32 : decode cX12_find 32 = .ok (.iload 4, 2) := by decide +kernel
theorem dX12_find_34 : decode cX12_find 34 = .ok (.invokevirtual 445, 3) := by decide +kernel
theorem dX12_find_37 : decode cX12_find 37 = .ok (.ifCond .eq 68, 3) := by decide +kernel
theorem dX12_find_40 : decode cX12_find 40 = .ok (.iload_n 2, 1) := by decide +kernel
theorem dX12_find_41 : decode cX12_find 41 = .ok (.iconst (-1), 1) := by decide +kernel
theorem dX12_find_42 : decode cX12_find 42 = .ok (.if_icmp .eq 15, 3) := by decide +kernel
theorem dX12_find_45 : decode cX12_find 45 = .ok (.iload 4, 2) := by decide +kernel
theorem dX12_find_47 : decode cX12_find 47 = .ok (.invokestatic 448, 3) := by decide +kernel
theorem dX12_find_50 : decode cX12_find 50 = .ok (.iload_n 2, 1) := by decide +kernel
theorem dX12_find_51 : decode cX12_find 51 = .ok (.invokestatic 448, 3) := by decide +kernel
theorem dX12_find_54 : decode cX12_find 54 = .ok (.if_icmp .ge 7, 3) := by decide +kernel
theorem dX12_find_57 : decode cX12_find 57 = .ok (.iconst 1, 1) := by decide +kernel
theorem dX12_find_58 : decode cX12_find 58 = .ok (.goto 4, 3) := by decide +kernel
theorem dX12_find_61 : decode cX12_find 61 = .ok (.iconst 0, 1) := by decide +kernel
theorem dX12_find_62 : decode cX12_find 62 = .ok (.istore 5, 2) := by decide +kernel
theorem dX12_find_64 : decode cX12_find 64 = .ok (.iload 5, 2) := by decide +kernel
theorem dX12_find_66 : decode cX12_find 66 = .ok (.ifCond .eq 7, 3) := by decide +kernel
theorem dX12_find_69 : decode cX12_find 69 = .ok (.iconst 0, 1) := by decide +kernel
theorem dX12_find_70 : decode cX12_find 70 = .ok (.goto 22, 3) := by decide +kernel
theorem dX12_find_73 : decode cX12_find 73 = .ok (.iload_n 3, 1) := by decide +kernel
theorem dX12_find_74 : decode cX12_find 74 = .ok (.iload 4, 2) := by decide +kernel
theorem dX12_find_76 : decode cX12_find 76 = .ok (.invokestatic 448, 3) := by decide +kernel
theorem dX12_find_79 : decode cX12_find 79 = .ok (.iload_n 2, 1) := by decide +kernel
theorem dX12_find_80 : decode cX12_find 80 = .ok (.invokestatic 448, 3) := by decide +kernel
theorem dX12_find_83 : decode cX12_find 83 = .ok (.if_icmp .ne 7, 3) := by decide +kernel
theorem dX12_find_86 : decode cX12_find 86 = .ok (.iconst 1, 1) := by decide +kernel
theorem dX12_find_87 : decode cX12_find 87 = .ok (.goto 4, 3) := by decide +kernel
theorem dX12_find_90 : decode cX12_find 90 = .ok (.iconst 0, 1) := by decide +kernel
theorem dX12_find_91 : decode cX12_find 91 = .ok (.iadd, 1) := by decide +kernel
theorem dX12_find_92 : decode cX12_find 92 = .ok (.istore_n 3, 1) := by decide +kernel
theorem dX12_find_93 : decode cX12_find 93 = .ok (.iload 5, 2) := by decide +kernel
theorem dX12_find_95 : decode cX12_find 95 = .ok (.ifCond .eq 8, 3) := by decide +kernel
theorem dX12_find_98 : decode cX12_find 98 = .ok (.iload 4, 2) := by decide +kernel
theorem dX12_find_100 : decode cX12_find 100 = .ok (.goto 4, 3) := by decide +kernel
theorem dX12_find_103 : decode cX12_find 103 = .ok (.iload_n 2, 1) := by decide +kernel
theorem dX12_find_104 : decode cX12_find 104 = .ok (.istore_n 2, 1) := by decide +kernel
theorem dX12_find_105 : decode cX12_find 105 = .ok (.iinc 4 1, 3) := by decide +kernel
theorem dX12_find_108 : decode cX12_find 108 = .ok (.goto (-88), 3) := by decide +kernel
theorem dX12_find_111 : decode cX12_find 111 = .ok (.iload_n 1, 1) := by decide +kernel
theorem dX12_find_112 : decode cX12_find 112 = .ok (.ifCond .eq 8, 3) := by decide +kernel
theorem dX12_find_115 : decode cX12_find 115 = .ok (.iload_n 2, 1) := by decide +kernel
theorem dX12_find_116 : decode cX12_find 116 = .ok (.iconst (-1), 1) := by decide +kernel
theorem dX12_find_117 : decode cX12_find 117 = .ok (.if_icmp .ne 7, 3) := by decide +kernel
theorem dX12_find_120 : decode cX12_find 120 = .ok (.iload_n 2, 1) := by decide +kernel
theorem dX12_find_121 : decode cX12_find 121 = .ok (.goto 4, 3) := by decide +kernel
theorem dX12_find_124 : decode cX12_find 124 = .ok (.iload_n 3, 1) := by decide +kernel
theorem dX12_find_125 : decode cX12_find 125 = .ok (.ireturn, 1) := by decide +kernel
theorem dX12_isCarrier_0 : decode cX12_isCarrier 0 = .ok (.iload_n 0, 1) := by decide +kernel
theorem dX12_isCarrier_1 : decode cX12_isCarrier 1 = .ok (.i2l, 1) := by decide +kernel
theorem dX12_isCarrier_2 : decode cX12_isCarrier 2 = .ok (.lconst 0, 1) := by decide +kernel
theorem dX12_isCarrier_3 : decode cX12_isCarrier 3 = .ok (.ldc2_w 255, 3) := by decide +kernel
theorem dX12_isCarrier_6 : decode cX12_isCarrier 6 = .ok (.invokestatic 194, 3) := by decide +kernel
theorem dX12_isCarrier_9 : decode cX12_isCarrier 9 = .ok (.ireturn, 1) := by decide +kernel
theorem dX12_bill_0 : decode cX12_bill 0 = .ok (.aload_n 0, 1) := by decide +kernel
theorem dX12_bill_1 : decode cX12_bill 1 = .ok (.iload_n 1, 1) := by decide +kernel
theorem dX12_bill_2 : decode cX12_bill 2 = .ok (.invokevirtual 261, 3) := by decide +kernel
theorem dX12_bill_5 : decode cX12_bill 5 = .ok (.ifCond .ne 6, 3) := by decide +kernel
theorem dX12_bill_8 : decode cX12_bill 8 = .ok (.bipush (-101), 2) := by decide +kernel
theorem dX12_bill_10 : decode cX12_bill 10 = .ok (.ireturn, 1) := by decide +kernel
theorem dX12_bill_11 : decode cX12_bill 11 = .ok (.iload_n 2, 1) := by decide +kernel
theorem dX12_bill_12 : decode cX12_bill 12 = .ok (.invokestatic 393, 3) := by decide +kernel
theorem dX12_bill_15 : decode cX12_bill 15 = .ok (.ifCond .ne 6, 3) := by decide +kernel
theorem dX12_bill_18 : decode cX12_bill 18 = .ok (.bipush (-102), 2) := by decide +kernel
theorem dX12_bill_20 : decode cX12_bill 20 = .ok (.ireturn, 1) := by decide +kernel
theorem dX12_bill_21 : decode cX12_bill 21 = .ok (.aload_n 0, 1) := by decide +kernel
theorem dX12_bill_22 : decode cX12_bill 22 = .ok (.getfield 155, 3) := by decide +kernel
theorem dX12_bill_25 : decode cX12_bill 25 = .ok (.iload_n 1, 1) := by decide +kernel
theorem dX12_bill_26 : decode cX12_bill 26 = .ok (.baload, 1) := by decide +kernel
theorem dX12_bill_27 : decode cX12_bill 27 = .ok (.ifCond .eq 6, 3) := by decide +kernel
theorem dX12_bill_30 : decode cX12_bill 30 = .ok (.bipush (-103), 2) := by decide +kernel
theorem dX12_bill_32 : decode cX12_bill 32 = .ok (.ireturn, 1) := by decide +kernel
theorem dX12_bill_33 : decode cX12_bill 33 = .ok (.aload_n 0, 1) := by decide +kernel
theorem dX12_bill_34 : decode cX12_bill 34 = .ok (.getfield 152, 3) := by decide +kernel
theorem dX12_bill_37 : decode cX12_bill 37 = .ok (.aload_n 0, 1) := by decide +kernel
theorem dX12_bill_38 : decode cX12_bill 38 = .ok (.getfield 71, 3) := by decide +kernel
theorem dX12_bill_41 : decode cX12_bill 41 = .ok (.iload_n 1, 1) := by decide +kernel
theorem dX12_bill_42 : decode cX12_bill 42 = .ok (.iaload, 1) := by decide +kernel
theorem dX12_bill_43 : decode cX12_bill 43 = .ok (.iaload, 1) := by decide +kernel
theorem dX12_bill_44 : decode cX12_bill 44 = .ok (.aload_n 0, 1) := by decide +kernel
theorem dX12_bill_45 : decode cX12_bill 45 = .ok (.iload_n 1, 1) := by decide +kernel
theorem dX12_bill_46 : decode cX12_bill 46 = .ok (.iload_n 2, 1) := by decide +kernel
theorem dX12_bill_47 : decode cX12_bill 47 = .ok (.invokevirtual 414, 3) := by decide +kernel
theorem dX12_bill_50 : decode cX12_bill 50 = .ok (.iadd, 1) := by decide +kernel
theorem dX12_bill_51 : decode cX12_bill 51 = .ok (.istore_n 3, 1) := by decide +kernel
theorem dX12_bill_52 : decode cX12_bill 52 = .ok (.iload_n 3, 1) := by decide +kernel
theorem dX12_bill_53 : decode cX12_bill 53 = .ok (.aload_n 0, 1) := by decide +kernel
theorem dX12_bill_54 : decode cX12_bill 54 = .ok (.iconst 1, 1) := by decide +kernel
theorem dX12_bill_55 : decode cX12_bill 55 = .ok (.iload_n 1, 1) := by decide +kernel
theorem dX12_bill_56 : decode cX12_bill 56 = .ok (.iload_n 2, 1) := by decide +kernel
theorem dX12_bill_57 : decode cX12_bill 57 = .ok (.invokevirtual 411, 3) := by decide +kernel
theorem dX12_bill_60 : decode cX12_bill 60 = .ok (.if_icmp .le 5, 3) := by decide +kernel
theorem dX12_bill_63 : decode cX12_bill 63 = .ok (.iconst (-1), 1) := by decide +kernel
theorem dX12_bill_64 : decode cX12_bill 64 = .ok (.ireturn, 1) := by decide +kernel
theorem dX12_bill_65 : decode cX12_bill 65 = .ok (.aload_n 0, 1) := by decide +kernel
theorem dX12_bill_66 : decode cX12_bill 66 = .ok (.getfield 155, 3) := by decide +kernel
theorem dX12_bill_69 : decode cX12_bill 69 = .ok (.iload_n 1, 1) := by decide +kernel
theorem dX12_bill_70 : decode cX12_bill 70 = .ok (.iconst 1, 1) := by decide +kernel
theorem dX12_bill_71 : decode cX12_bill 71 = .ok (.bastore, 1) := by decide +kernel
theorem dX12_bill_72 : decode cX12_bill 72 = .ok (.aload_n 0, 1) := by decide +kernel
theorem dX12_bill_73 : decode cX12_bill 73 = .ok (.getfield 152, 3) := by decide +kernel
theorem dX12_bill_76 : decode cX12_bill 76 = .ok (.aload_n 0, 1) := by decide +kernel
theorem dX12_bill_77 : decode cX12_bill 77 = .ok (.getfield 71, 3) := by decide +kernel
theorem dX12_bill_80 : decode cX12_bill 80 = .ok (.iload_n 1, 1) := by decide +kernel
theorem dX12_bill_81 : decode cX12_bill 81 = .ok (.iaload, 1) := by decide +kernel
theorem dX12_bill_82 : decode cX12_bill 82 = .ok (.iload_n 3, 1) := by decide +kernel
theorem dX12_bill_83 : decode cX12_bill 83 = .ok (.iastore, 1) := by decide +kernel
theorem dX12_bill_84 : decode cX12_bill 84 = .ok (.iload_n 3, 1) := by decide +kernel
theorem dX12_bill_85 : decode cX12_bill 85 = .ok (.ireturn, 1) := by decide +kernel
theorem dX12_pay_0 : decode cX12_pay 0 = .ok (.iload_n 1, 1) := by decide +kernel
theorem dX12_pay_1 : decode cX12_pay 1 = .ok (.invokestatic 451, 3) := by decide +kernel
theorem dX12_pay_4 : decode cX12_pay 4 = .ok (.ifCond .ne 6, 3) := by decide +kernel
theorem dX12_pay_7 : decode cX12_pay 7 = .ok (.bipush (-101), 2) := by decide +kernel
theorem dX12_pay_9 : decode cX12_pay 9 = .ok (.ireturn, 1) := by decide +kernel
theorem dX12_pay_10 : decode cX12_pay 10 = .ok (.iload_n 2, 1) := by decide +kernel
theorem dX12_pay_11 : decode cX12_pay 11 = .ok (.i2l, 1) := by decide +kernel
theorem dX12_pay_12 : decode cX12_pay 12 = .ok (.lconst 0, 1) := by decide +kernel
theorem dX12_pay_13 : decode cX12_pay 13 = .ok (.ldc2_w 454, 3) := by decide +kernel
theorem dX12_pay_16 : decode cX12_pay 16 = .ok (.invokestatic 194, 3) := by decide +kernel
theorem dX12_pay_19 : decode cX12_pay 19 = .ok (.ifCond .ne 6, 3) := by decide +kernel
theorem dX12_pay_22 : decode cX12_pay 22 = .ok (.bipush (-102), 2) := by decide +kernel
theorem dX12_pay_24 : decode cX12_pay 24 = .ok (.ireturn, 1) := by decide +kernel
theorem dX12_pay_25 : decode cX12_pay 25 = .ok (.aload_n 0, 1) := by decide +kernel
theorem dX12_pay_26 : decode cX12_pay 26 = .ok (.getfield 152, 3) := by decide +kernel
theorem dX12_pay_29 : decode cX12_pay 29 = .ok (.iload_n 1, 1) := by decide +kernel
theorem dX12_pay_30 : decode cX12_pay 30 = .ok (.aload_n 0, 1) := by decide +kernel
theorem dX12_pay_31 : decode cX12_pay 31 = .ok (.getfield 152, 3) := by decide +kernel
theorem dX12_pay_34 : decode cX12_pay 34 = .ok (.iload_n 1, 1) := by decide +kernel
theorem dX12_pay_35 : decode cX12_pay 35 = .ok (.iaload, 1) := by decide +kernel
theorem dX12_pay_36 : decode cX12_pay 36 = .ok (.iload_n 2, 1) := by decide +kernel
theorem dX12_pay_37 : decode cX12_pay 37 = .ok (.if_icmp .le 14, 3) := by decide +kernel
theorem dX12_pay_40 : decode cX12_pay 40 = .ok (.aload_n 0, 1) := by decide +kernel
theorem dX12_pay_41 : decode cX12_pay 41 = .ok (.getfield 152, 3) := by decide +kernel
theorem dX12_pay_44 : decode cX12_pay 44 = .ok (.iload_n 1, 1) := by decide +kernel
theorem dX12_pay_45 : decode cX12_pay 45 = .ok (.iaload, 1) := by decide +kernel
theorem dX12_pay_46 : decode cX12_pay 46 = .ok (.iload_n 2, 1) := by decide +kernel
theorem dX12_pay_47 : decode cX12_pay 47 = .ok (.isub, 1) := by decide +kernel
theorem dX12_pay_48 : decode cX12_pay 48 = .ok (.goto 4, 3) := by decide +kernel
theorem dX12_pay_51 : decode cX12_pay 51 = .ok (.iconst 0, 1) := by decide +kernel
theorem dX12_pay_52 : decode cX12_pay 52 = .ok (.iastore, 1) := by decide +kernel
theorem dX12_pay_53 : decode cX12_pay 53 = .ok (.aload_n 0, 1) := by decide +kernel
theorem dX12_pay_54 : decode cX12_pay 54 = .ok (.getfield 152, 3) := by decide +kernel
theorem dX12_pay_57 : decode cX12_pay 57 = .ok (.iload_n 1, 1) := by decide +kernel
theorem dX12_pay_58 : decode cX12_pay 58 = .ok (.iaload, 1) := by decide +kernel
theorem dX12_pay_59 : decode cX12_pay 59 = .ok (.ireturn, 1) := by decide +kernel
theorem dX12_debt_0 : decode cX12_debt 0 = .ok (.iload_n 1, 1) := by decide +kernel
theorem dX12_debt_1 : decode cX12_debt 1 = .ok (.invokestatic 451, 3) := by decide +kernel
theorem dX12_debt_4 : decode cX12_debt 4 = .ok (.ifCond .eq 15, 3) := by decide +kernel
theorem dX12_debt_7 : decode cX12_debt 7 = .ok (.iload_n 2, 1) := by decide +kernel
theorem dX12_debt_8 : decode cX12_debt 8 = .ok (.i2l, 1) := by decide +kernel
theorem dX12_debt_9 : decode cX12_debt 9 = .ok (.lconst 0, 1) := by decide +kernel
theorem dX12_debt_10 : decode cX12_debt 10 = .ok (.ldc2_w 202, 3) := by decide +kernel
theorem dX12_debt_13 : decode cX12_debt 13 = .ok (.invokestatic 194, 3) := by decide +kernel
theorem dX12_debt_16 : decode cX12_debt 16 = .ok (.ifCond .ne 6, 3) := by decide +kernel
theorem dX12_debt_19 : decode cX12_debt 19 = .ok (.bipush (-101), 2) := by decide +kernel
theorem dX12_debt_21 : decode cX12_debt 21 = .ok (.ireturn, 1) := by decide +kernel
theorem dX12_debt_22 : decode cX12_debt 22 = .ok (.iload_n 3, 1) := by decide +kernel
theorem dX12_debt_23 : decode cX12_debt 23 = .ok (.i2l, 1) := by decide +kernel
theorem dX12_debt_24 : decode cX12_debt 24 = .ok (.lconst 0, 1) := by decide +kernel
theorem dX12_debt_25 : decode cX12_debt 25 = .ok (.ldc2_w 204, 3) := by decide +kernel
theorem dX12_debt_28 : decode cX12_debt 28 = .ok (.invokestatic 194, 3) := by decide +kernel
theorem dX12_debt_31 : decode cX12_debt 31 = .ok (.ifCond .ne 6, 3) := by decide +kernel
theorem dX12_debt_34 : decode cX12_debt 34 = .ok (.bipush (-102), 2) := by decide +kernel
theorem dX12_debt_36 : decode cX12_debt 36 = .ok (.ireturn, 1) := by decide +kernel
theorem dX12_debt_37 : decode cX12_debt 37 = .ok (.aload_n 0, 1) := by decide +kernel
theorem dX12_debt_38 : decode cX12_debt 38 = .ok (.getfield 158, 3) := by decide +kernel
theorem dX12_debt_41 : decode cX12_debt 41 = .ok (.iconst 3, 1) := by decide +kernel
theorem dX12_debt_42 : decode cX12_debt 42 = .ok (.iload_n 1, 1) := by decide +kernel
theorem dX12_debt_43 : decode cX12_debt 43 = .ok (.imul, 1) := by decide +kernel
theorem dX12_debt_44 : decode cX12_debt 44 = .ok (.iload_n 2, 1) := by decide +kernel
theorem dX12_debt_45 : decode cX12_debt 45 = .ok (.iadd, 1) := by decide +kernel
theorem dX12_debt_46 : decode cX12_debt 46 = .ok (.iaload, 1) := by decide +kernel
theorem dX12_debt_47 : decode cX12_debt 47 = .ok (.istore 4, 2) := by decide +kernel
theorem dX12_debt_49 : decode cX12_debt 49 = .ok (.aload_n 0, 1) := by decide +kernel
theorem dX12_debt_50 : decode cX12_debt 50 = .ok (.getfield 158, 3) := by decide +kernel
theorem dX12_debt_53 : decode cX12_debt 53 = .ok (.iconst 3, 1) := by decide +kernel
theorem dX12_debt_54 : decode cX12_debt 54 = .ok (.iload_n 1, 1) := by decide +kernel
theorem dX12_debt_55 : decode cX12_debt 55 = .ok (.imul, 1) := by decide +kernel
theorem dX12_debt_56 : decode cX12_debt 56 = .ok (.iload_n 2, 1) := by decide +kernel
theorem dX12_debt_57 : decode cX12_debt 57 = .ok (.iadd, 1) := by decide +kernel
theorem dX12_debt_58 : decode cX12_debt 58 = .ok (.iload_n 3, 1) := by decide +kernel
theorem dX12_debt_59 : decode cX12_debt 59 = .ok (.iastore, 1) := by decide +kernel
theorem dX12_debt_60 : decode cX12_debt 60 = .ok (.iload 4, 2) := by decide +kernel
theorem dX12_debt_62 : decode cX12_debt 62 = .ok (.ireturn, 1) := by decide +kernel
theorem dX12_failed_0 : decode cX12_failed 0 = .ok (.iload_n 1, 1) := by decide +kernel
theorem dX12_failed_1 : decode cX12_failed 1 = .ok (.invokestatic 451, 3) := by decide +kernel
theorem dX12_failed_4 : decode cX12_failed 4 = .ok (.ifCond .ne 6, 3) := by decide +kernel
theorem dX12_failed_7 : decode cX12_failed 7 = .ok (.bipush (-101), 2) := by decide +kernel
theorem dX12_failed_9 : decode cX12_failed 9 = .ok (.ireturn, 1) := by decide +kernel
theorem dX12_failed_10 : decode cX12_failed 10 = .ok (.iload_n 2, 1) := by decide +kernel
theorem dX12_failed_11 : decode cX12_failed 11 = .ok (.i2l, 1) := by decide +kernel
theorem dX12_failed_12 : decode cX12_failed 12 = .ok (.lconst 0, 1) := by decide +kernel
theorem dX12_failed_13 : decode cX12_failed 13 = .ok (.ldc2_w 456, 3) := by decide +kernel
theorem dX12_failed_16 : decode cX12_failed 16 = .ok (.invokestatic 194, 3) := by decide +kernel
theorem dX12_failed_19 : decode cX12_failed 19 = .ok (.ifCond .ne 6, 3) := by decide +kernel
theorem dX12_failed_22 : decode cX12_failed 22 = .ok (.bipush (-102), 2) := by decide +kernel
theorem dX12_failed_24 : decode cX12_failed 24 = .ok (.ireturn, 1) := by decide +kernel
theorem dX12_failed_25 : decode cX12_failed 25 = .ok (.iload_n 2, 1) := by decide +kernel
theorem dX12_failed_26 : decode cX12_failed 26 = .ok (.i2l, 1) := by decide +kernel
theorem dX12_failed_27 : decode cX12_failed 27 = .ok (.lstore_n 3, 1) := by decide +kernel
theorem dX12_failed_28 : decode cX12_failed 28 = .ok (.lconst 0, 1) := by decide +kernel
theorem dX12_failed_29 : decode cX12_failed 29 = .ok (.lstore 5, 2) := by decide +kernel
theorem dX12_failed_31 : decode cX12_failed 31 = .ok (.iconst 0, 1) := by decide +kernel
theorem dX12_failed_32 : decode cX12_failed 32 = .ok (.istore 7, 2) := by decide +kernel
theorem dX12_failed_34 : decode cX12_failed 34 = .ok (.iload 7, 2) := by decide +kernel
theorem dX12_failed_36 : decode cX12_failed 36 = .ok (.iconst 3, 1) := by decide +kernel
theorem dX12_failed_37 : decode cX12_failed 37 = .ok (.if_icmp .ge 208, 3) := by decide +kernel
theorem dX12_failed_40 : decode cX12_failed 40 = .ok (.lconst 0, 1) := by decide +kernel
theorem dX12_failed_41 : decode cX12_failed 41 = .ok (.lstore 8, 2) := by decide +kernel
theorem dX12_failed_43 : decode cX12_failed 43 = .ok (.iconst 0, 1) := by decide +kernel
theorem dX12_failed_44 : decode cX12_failed 44 = .ok (.istore 10, 2) := by decide +kernel
theorem dX12_failed_46 : decode cX12_failed 46 = .ok (.iload 10, 2) := by decide +kernel
theorem dX12_failed_48 : decode cX12_failed 48 = .ok (.iconst 4, 1) := by decide +kernel
theorem dX12_failed_49 : decode cX12_failed 49 = .ok (.if_icmp .ge 27, 3) := by decide +kernel
theorem dX12_failed_52 : decode cX12_failed 52 = .ok (.lload 8, 2) := by decide +kernel
theorem dX12_failed_54 : decode cX12_failed 54 = .ok (.aload_n 0, 1) := by decide +kernel
theorem dX12_failed_55 : decode cX12_failed 55 = .ok (.getfield 158, 3) := by decide +kernel
theorem dX12_failed_58 : decode cX12_failed 58 = .ok (.iconst 3, 1) := by decide +kernel
theorem dX12_failed_59 : decode cX12_failed 59 = .ok (.iload 10, 2) := by decide +kernel
theorem dX12_failed_61 : decode cX12_failed 61 = .ok (.imul, 1) := by decide +kernel
theorem dX12_failed_62 : decode cX12_failed 62 = .ok (.iload 7, 2) := by decide +kernel
theorem dX12_failed_64 : decode cX12_failed 64 = .ok (.iadd, 1) := by decide +kernel
theorem dX12_failed_65 : decode cX12_failed 65 = .ok (.iaload, 1) := by decide +kernel
theorem dX12_failed_66 : decode cX12_failed 66 = .ok (.i2l, 1) := by decide +kernel
theorem dX12_failed_67 : decode cX12_failed 67 = .ok (.ladd, 1) := by decide +kernel
theorem dX12_failed_68 : decode cX12_failed 68 = .ok (.lstore 8, 2) := by decide +kernel
theorem dX12_failed_70 : decode cX12_failed 70 = .ok (.iinc 10 1, 3) := by decide +kernel
theorem dX12_failed_73 : decode cX12_failed 73 = .ok (.goto (-27), 3) := by decide +kernel
theorem dX12_failed_76 : decode cX12_failed 76 = .ok (.lload_n 3, 1) := by decide +kernel
theorem dX12_failed_77 : decode cX12_failed 77 = .ok (.lload 8, 2) := by decide +kernel
theorem dX12_failed_79 : decode cX12_failed 79 = .ok (.lcmp, 1) := by decide +kernel
theorem dX12_failed_80 : decode cX12_failed 80 = .ok (.ifCond .ge 7, 3) := by decide +kernel
theorem dX12_failed_83 : decode cX12_failed 83 = .ok (.lload_n 3, 1) := by decide +kernel
theorem dX12_failed_84 : decode cX12_failed 84 = .ok (.goto 5, 3) := by decide +kernel
theorem dX12_failed_87 : decode cX12_failed 87 = .ok (.lload 8, 2) := by decide +kernel
theorem dX12_failed_89 : decode cX12_failed 89 = .ok (.lstore 10, 2) := by decide +kernel
theorem dX12_failed_91 : decode cX12_failed 91 = .ok (.lload 10, 2) := by decide +kernel
theorem dX12_failed_93 : decode cX12_failed 93 = .ok (.lstore 12, 2) := by decide +kernel
theorem dX12_failed_95 : decode cX12_failed 95 = .ok (.iconst 0, 1) := by decide +kernel
theorem dX12_failed_96 : decode cX12_failed 96 = .ok (.istore 14, 2) := by decide +kernel
theorem dX12_failed_98 : decode cX12_failed 98 = .ok (.iconst 0, 1) := by decide +kernel
theorem dX12_failed_99 : decode cX12_failed 99 = .ok (.istore 15, 2) := by decide +kernel
theorem dX12_failed_101 : decode cX12_failed 101 = .ok (.iload 15, 2) := by decide +kernel
theorem dX12_failed_103 : decode cX12_failed 103 = .ok (.iconst 4, 1) := by decide +kernel
theorem dX12_failed_104 : decode cX12_failed 104 = .ok (.if_icmp .ge 71, 3) := by decide +kernel
theorem dX12_failed_107 : decode cX12_failed 107 = .ok (.lload 8, 2) := by decide +kernel
theorem dX12_failed_109 : decode cX12_failed 109 = .ok (.lconst 0, 1) := by decide +kernel
theorem dX12_failed_110 : decode cX12_failed 110 = .ok (.lcmp, 1) := by decide +kernel
theorem dX12_failed_111 : decode cX12_failed 111 = .ok (.ifCond .le 64, 3) := by decide +kernel
theorem dX12_failed_114 : decode cX12_failed 114 = .ok (.lload 12, 2) := by decide +kernel
theorem dX12_failed_116 : decode cX12_failed 116 = .ok (.aload_n 0, 1) := by decide +kernel
theorem dX12_failed_117 : decode cX12_failed 117 = .ok (.getfield 158, 3) := by decide +kernel
theorem dX12_failed_120 : decode cX12_failed 120 = .ok (.iconst 3, 1) := by decide +kernel
theorem dX12_failed_121 : decode cX12_failed 121 = .ok (.iload 15, 2) := by decide +kernel
theorem dX12_failed_123 : decode cX12_failed 123 = .ok (.imul, 1) := by decide +kernel
theorem dX12_failed_124 : decode cX12_failed 124 = .ok (.iload 7, 2) := by decide +kernel
theorem dX12_failed_126 : decode cX12_failed 126 = .ok (.iadd, 1) := by decide +kernel
theorem dX12_failed_127 : decode cX12_failed 127 = .ok (.iaload, 1) := by decide +kernel
theorem dX12_failed_128 : decode cX12_failed 128 = .ok (.i2l, 1) := by decide +kernel
theorem dX12_failed_129 : decode cX12_failed 129 = .ok (.lload 10, 2) := by decide +kernel
theorem dX12_failed_131 : decode cX12_failed 131 = .ok (.lmul, 1) := by decide +kernel
theorem dX12_failed_132 : decode cX12_failed 132 = .ok (.lload 8, 2) := by decide +kernel
theorem dX12_failed_134 : decode cX12_failed 134 = .ok (.ldiv, 1) := by decide +kernel
theorem dX12_failed_135 : decode cX12_failed 135 = .ok (.lsub, 1) := by decide +kernel
theorem dX12_failed_136 : decode cX12_failed 136 = .ok (.lstore 12, 2) := by decide +kernel
theorem dX12_failed_138 : decode cX12_failed 138 = .ok (.iload 14, 2) := by decide +kernel
theorem dX12_failed_140 : decode cX12_failed 140 = .ok (.iload 15, 2) := by decide +kernel
theorem dX12_failed_142 : decode cX12_failed 142 = .ok (.iload_n 1, 1) := by decide +kernel
theorem dX12_failed_143 : decode cX12_failed 143 = .ok (.if_icmp .ge 22, 3) := by decide +kernel
theorem dX12_failed_146 : decode cX12_failed 146 = .ok (.aload_n 0, 1) := by decide +kernel
theorem dX12_failed_147 : decode cX12_failed 147 = .ok (.getfield 158, 3) := by decide +kernel
theorem dX12_failed_150 : decode cX12_failed 150 = .ok (.iconst 3, 1) := by decide +kernel
theorem dX12_failed_151 : decode cX12_failed 151 = .ok (.iload 15, 2) := by decide +kernel
theorem dX12_failed_153 : decode cX12_failed 153 = .ok (.imul, 1) := by decide +kernel
theorem dX12_failed_154 : decode cX12_failed 154 = .ok (.iload 7, 2) := by decide +kernel
theorem dX12_failed_156 : decode cX12_failed 156 = .ok (.iadd, 1) := by decide +kernel
theorem dX12_failed_157 : decode cX12_failed 157 = .ok (.iaload, 1) := by decide +kernel
theorem dX12_failed_158 : decode cX12_failed 158 = .ok (.ifCond .le 7, 3) := by decide +kernel
theorem dX12_failed_161 : decode cX12_failed 161 = .ok (.iconst 1, 1) := by decide +kernel
theorem dX12_failed_162 : decode cX12_failed 162 = .ok (.goto 4, 3) := by decide +kernel
theorem dX12_failed_165 : decode cX12_failed 165 = .ok (.iconst 0, 1) := by decide +kernel
theorem dX12_failed_166 : decode cX12_failed 166 = .ok (.iadd, 1) := by decide +kernel
theorem dX12_failed_167 : decode cX12_failed 167 = .ok (.istore 14, 2) := by decide +kernel
theorem dX12_failed_169 : decode cX12_failed 169 = .ok (.iinc 15 1, 3) := by decide +kernel
theorem dX12_failed_172 : decode cX12_failed 172 = .ok (.goto (-71), 3) := by decide +kernel
theorem dX12_failed_175 : decode cX12_failed 175 = .ok (.lload 8, 2) := by decide +kernel
theorem dX12_failed_177 : decode cX12_failed 177 = .ok (.lconst 0, 1) := by decide +kernel
theorem dX12_failed_178 : decode cX12_failed 178 = .ok (.lcmp, 1) := by decide +kernel
theorem dX12_failed_179 : decode cX12_failed 179 = .ok (.ifCond .le 55, 3) := by decide +kernel
theorem dX12_failed_182 : decode cX12_failed 182 = .ok (.lload 5, 2) := by decide +kernel
theorem dX12_failed_184 : decode cX12_failed 184 = .ok (.aload_n 0, 1) := by decide +kernel
theorem dX12_failed_185 : decode cX12_failed 185 = .ok (.getfield 158, 3) := by decide +kernel
theorem dX12_failed_188 : decode cX12_failed 188 = .ok (.iconst 3, 1) := by decide +kernel
theorem dX12_failed_189 : decode cX12_failed 189 = .ok (.iload_n 1, 1) := by decide +kernel
theorem dX12_failed_190 : decode cX12_failed 190 = .ok (.imul, 1) := by decide +kernel
theorem dX12_failed_191 : decode cX12_failed 191 = .ok (.iload 7, 2) := by decide +kernel
theorem dX12_failed_193 : decode cX12_failed 193 = .ok (.iadd, 1) := by decide +kernel
theorem dX12_failed_194 : decode cX12_failed 194 = .ok (.iaload, 1) := by decide +kernel
theorem dX12_failed_195 : decode cX12_failed 195 = .ok (.i2l, 1) := by decide +kernel
theorem dX12_failed_196 : decode cX12_failed 196 = .ok (.lload 10, 2) := by decide +kernel
theorem dX12_failed_198 : decode cX12_failed 198 = .ok (.lmul, 1) := by decide +kernel
theorem dX12_failed_199 : decode cX12_failed 199 = .ok (.lload 8, 2) := by decide +kernel
theorem dX12_failed_201 : decode cX12_failed 201 = .ok (.ldiv, 1) := by decide +kernel
theorem dX12_failed_202 : decode cX12_failed 202 = .ok (.aload_n 0, 1) := by decide +kernel
theorem dX12_failed_203 : decode cX12_failed 203 = .ok (.getfield 158, 3) := by decide +kernel
theorem dX12_failed_206 : decode cX12_failed 206 = .ok (.iconst 3, 1) := by decide +kernel
theorem dX12_failed_207 : decode cX12_failed 207 = .ok (.iload_n 1, 1) := by decide +kernel
theorem dX12_failed_208 : decode cX12_failed 208 = .ok (.imul, 1) := by decide +kernel
theorem dX12_failed_209 : decode cX12_failed 209 = .ok (.iload 7, 2) := by decide +kernel
theorem dX12_failed_211 : decode cX12_failed 211 = .ok (.iadd, 1) := by decide +kernel
theorem dX12_failed_212 : decode cX12_failed 212 = .ok (.iaload, 1) := by decide +kernel
theorem dX12_failed_213 : decode cX12_failed 213 = .ok (.ifCond .le 16, 3) := by decide +kernel
theorem dX12_failed_216 : decode cX12_failed 216 = .ok (.iload 14, 2) := by decide +kernel
theorem dX12_failed_218 : decode cX12_failed 218 = .ok (.i2l, 1) := by decide +kernel
theorem dX12_failed_219 : decode cX12_failed 219 = .ok (.lload 12, 2) := by decide +kernel
theorem dX12_failed_221 : decode cX12_failed 221 = .ok (.lcmp, 1) := by decide +kernel
theorem dX12_failed_222 : decode cX12_failed 222 = .ok (.ifCond .ge 7, 3) := by decide +kernel
theorem dX12_failed_225 : decode cX12_failed 225 = .ok (.lconst 1, 1) := by decide +kernel
theorem dX12_failed_226 : decode cX12_failed 226 = .ok (.goto 4, 3) := by decide +kernel
theorem dX12_failed_229 : decode cX12_failed 229 = .ok (.lconst 0, 1) := by decide +kernel
theorem dX12_failed_230 : decode cX12_failed 230 = .ok (.ladd, 1) := by decide +kernel
theorem dX12_failed_231 : decode cX12_failed 231 = .ok (.ladd, 1) := by decide +kernel
theorem dX12_failed_232 : decode cX12_failed 232 = .ok (.lstore 5, 2) := by decide +kernel
theorem dX12_failed_234 : decode cX12_failed 234 = .ok (.lload_n 3, 1) := by decide +kernel
theorem dX12_failed_235 : decode cX12_failed 235 = .ok (.lload 10, 2) := by decide +kernel
theorem dX12_failed_237 : decode cX12_failed 237 = .ok (.lsub, 1) := by decide +kernel
theorem dX12_failed_238 : decode cX12_failed 238 = .ok (.lstore_n 3, 1) := by decide +kernel
theorem dX12_failed_239 : decode cX12_failed 239 = .ok (.iinc 7 1, 3) := by decide +kernel
theorem dX12_failed_242 : decode cX12_failed 242 = .ok (.goto (-208), 3) := by decide +kernel
theorem dX12_failed_245 : decode cX12_failed 245 = .ok (.lload 5, 2) := by decide +kernel
theorem dX12_failed_247 : decode cX12_failed 247 = .ok (.l2i, 1) := by decide +kernel
theorem dX12_failed_248 : decode cX12_failed 248 = .ok (.ireturn, 1) := by decide +kernel
theorem dX12_isHolder_0 : decode cX12_isHolder 0 = .ok (.iload_n 0, 1) := by decide +kernel
theorem dX12_isHolder_1 : decode cX12_isHolder 1 = .ok (.i2l, 1) := by decide +kernel
theorem dX12_isHolder_2 : decode cX12_isHolder 2 = .ok (.lconst 0, 1) := by decide +kernel
theorem dX12_isHolder_3 : decode cX12_isHolder 3 = .ok (.ldc2_w 458, 3) := by decide +kernel
theorem dX12_isHolder_6 : decode cX12_isHolder 6 = .ok (.invokestatic 194, 3) := by decide +kernel
theorem dX12_isHolder_9 : decode cX12_isHolder 9 = .ok (.ireturn, 1) := by decide +kernel
theorem dX12_shares_0 : decode cX12_shares 0 = .ok (.iload_n 1, 1) := by decide +kernel
theorem dX12_shares_1 : decode cX12_shares 1 = .ok (.invokestatic 460, 3) := by decide +kernel
theorem dX12_shares_4 : decode cX12_shares 4 = .ok (.ifCond .ne 6, 3) := by decide +kernel
theorem dX12_shares_7 : decode cX12_shares 7 = .ok (.bipush (-101), 2) := by decide +kernel
theorem dX12_shares_9 : decode cX12_shares 9 = .ok (.ireturn, 1) := by decide +kernel
theorem dX12_shares_10 : decode cX12_shares 10 = .ok (.iload_n 2, 1) := by decide +kernel
theorem dX12_shares_11 : decode cX12_shares 11 = .ok (.i2l, 1) := by decide +kernel
theorem dX12_shares_12 : decode cX12_shares 12 = .ok (.lconst 0, 1) := by decide +kernel
theorem dX12_shares_13 : decode cX12_shares 13 = .ok (.ldc2_w 438, 3) := by decide +kernel
theorem dX12_shares_16 : decode cX12_shares 16 = .ok (.invokestatic 194, 3) := by decide +kernel
theorem dX12_shares_19 : decode cX12_shares 19 = .ok (.ifCond .ne 6, 3) := by decide +kernel
theorem dX12_shares_22 : decode cX12_shares 22 = .ok (.bipush (-102), 2) := by decide +kernel
theorem dX12_shares_24 : decode cX12_shares 24 = .ok (.ireturn, 1) := by decide +kernel
theorem dX12_shares_25 : decode cX12_shares 25 = .ok (.aload_n 0, 1) := by decide +kernel
theorem dX12_shares_26 : decode cX12_shares 26 = .ok (.getfield 463, 3) := by decide +kernel
theorem dX12_shares_29 : decode cX12_shares 29 = .ok (.ifCond .le 6, 3) := by decide +kernel
theorem dX12_shares_32 : decode cX12_shares 32 = .ok (.bipush (-103), 2) := by decide +kernel
theorem dX12_shares_34 : decode cX12_shares 34 = .ok (.ireturn, 1) := by decide +kernel
theorem dX12_shares_35 : decode cX12_shares 35 = .ok (.aload_n 0, 1) := by decide +kernel
theorem dX12_shares_36 : decode cX12_shares 36 = .ok (.getfield 161, 3) := by decide +kernel
theorem dX12_shares_39 : decode cX12_shares 39 = .ok (.iload_n 1, 1) := by decide +kernel
theorem dX12_shares_40 : decode cX12_shares 40 = .ok (.iaload, 1) := by decide +kernel
theorem dX12_shares_41 : decode cX12_shares 41 = .ok (.istore_n 3, 1) := by decide +kernel
theorem dX12_shares_42 : decode cX12_shares 42 = .ok (.aload_n 0, 1) := by decide +kernel
theorem dX12_shares_43 : decode cX12_shares 43 = .ok (.getfield 161, 3) := by decide +kernel
theorem dX12_shares_46 : decode cX12_shares 46 = .ok (.iload_n 1, 1) := by decide +kernel
theorem dX12_shares_47 : decode cX12_shares 47 = .ok (.iload_n 2, 1) := by decide +kernel
theorem dX12_shares_48 : decode cX12_shares 48 = .ok (.iastore, 1) := by decide +kernel
theorem dX12_shares_49 : decode cX12_shares 49 = .ok (.iload_n 3, 1) := by decide +kernel
theorem dX12_shares_50 : decode cX12_shares 50 = .ok (.ireturn, 1) := by decide +kernel
theorem dX12_hadOf_0 : decode cX12_hadOf 0 = .ok (.aload_n 0, 1) := by decide +kernel
theorem dX12_hadOf_1 : decode cX12_hadOf 1 = .ok (.getfield 161, 3) := by decide +kernel
theorem dX12_hadOf_4 : decode cX12_hadOf 4 = .ok (.iload_n 1, 1) := by decide +kernel
theorem dX12_hadOf_5 : decode cX12_hadOf 5 = .ok (.iaload, 1) := by decide +kernel
theorem dX12_hadOf_6 : decode cX12_hadOf 6 = .ok (.istore_n 3, 1) := by decide +kernel
theorem dX12_hadOf_7 : decode cX12_hadOf 7 = .ok (.iconst 0, 1) := by decide +kernel
theorem dX12_hadOf_8 : decode cX12_hadOf 8 = .ok (.istore 4, 2) := by decide +kernel
theorem dX12_hadOf_10 : decode cX12_hadOf 10 = .ok (.iload 4, 2) := by decide +kernel
theorem dX12_hadOf_12 : decode cX12_hadOf 12 = .ok (.aload_n 0, 1) := by decide +kernel
theorem dX12_hadOf_13 : decode cX12_hadOf 13 = .ok (.getfield 463, 3) := by decide +kernel
theorem dX12_hadOf_16 : decode cX12_hadOf 16 = .ok (.if_icmp .ge 67, 3) := by decide +kernel
theorem dX12_hadOf_19 : decode cX12_hadOf 19 = .ok (.aload_n 0, 1) := by decide +kernel
theorem dX12_hadOf_20 : decode cX12_hadOf 20 = .ok (.getfield 173, 3) := by decide +kernel
theorem dX12_hadOf_23 : decode cX12_hadOf 23 = .ok (.iload 4, 2) := by decide +kernel
theorem dX12_hadOf_25 : decode cX12_hadOf 25 = .ok (.iaload, 1) := by decide +kernel
theorem dX12_hadOf_26 : decode cX12_hadOf 26 = .ok (.iload_n 2, 1) := by decide +kernel
theorem dX12_hadOf_27 : decode cX12_hadOf 27 = .ok (.if_icmp .gt 50, 3) := by decide +kernel
theorem dX12_hadOf_30 : decode cX12_hadOf 30 = .ok (.iload_n 3, 1) := by decide +kernel
theorem dX12_hadOf_31 : decode cX12_hadOf 31 = .ok (.aload_n 0, 1) := by decide +kernel
theorem dX12_hadOf_32 : decode cX12_hadOf 32 = .ok (.getfield 167, 3) := by decide +kernel
theorem dX12_hadOf_35 : decode cX12_hadOf 35 = .ok (.iload 4, 2) := by decide +kernel
theorem dX12_hadOf_37 : decode cX12_hadOf 37 = .ok (.iaload, 1) := by decide +kernel
theorem dX12_hadOf_38 : decode cX12_hadOf 38 = .ok (.iload_n 1, 1) := by decide +kernel
theorem dX12_hadOf_39 : decode cX12_hadOf 39 = .ok (.if_icmp .ne 13, 3) := by decide +kernel
theorem dX12_hadOf_42 : decode cX12_hadOf 42 = .ok (.aload_n 0, 1) := by decide +kernel
theorem dX12_hadOf_43 : decode cX12_hadOf 43 = .ok (.getfield 170, 3) := by decide +kernel
theorem dX12_hadOf_46 : decode cX12_hadOf 46 = .ok (.iload 4, 2) := by decide +kernel
theorem dX12_hadOf_48 : decode cX12_hadOf 48 = .ok (.iaload, 1) := by decide +kernel
theorem dX12_hadOf_49 : decode cX12_hadOf 49 = .ok (.goto 26, 3) := by decide +kernel
theorem dX12_hadOf_52 : decode cX12_hadOf 52 = .ok (.aload_n 0, 1) := by decide +kernel
theorem dX12_hadOf_53 : decode cX12_hadOf 53 = .ok (.getfield 164, 3) := by decide +kernel
theorem dX12_hadOf_56 : decode cX12_hadOf 56 = .ok (.iload 4, 2) := by decide +kernel
theorem dX12_hadOf_58 : decode cX12_hadOf 58 = .ok (.iaload, 1) := by decide +kernel
theorem dX12_hadOf_59 : decode cX12_hadOf 59 = .ok (.iload_n 1, 1) := by decide +kernel
theorem dX12_hadOf_60 : decode cX12_hadOf 60 = .ok (.if_icmp .ne 14, 3) := by decide +kernel
theorem dX12_hadOf_63 : decode cX12_hadOf 63 = .ok (.aload_n 0, 1) := by decide +kernel
theorem dX12_hadOf_64 : decode cX12_hadOf 64 = .ok (.getfield 170, 3) := by decide +kernel
theorem dX12_hadOf_67 : decode cX12_hadOf 67 = .ok (.iload 4, 2) := by decide +kernel
theorem dX12_hadOf_69 : decode cX12_hadOf 69 = .ok (.iaload, 1) := by decide +kernel
theorem dX12_hadOf_70 : decode cX12_hadOf 70 = .ok (.ineg, 1) := by decide +kernel
theorem dX12_hadOf_71 : decode cX12_hadOf 71 = .ok (.goto 4, 3) := by decide +kernel
theorem dX12_hadOf_74 : decode cX12_hadOf 74 = .ok (.iconst 0, 1) := by decide +kernel
theorem dX12_hadOf_75 : decode cX12_hadOf 75 = .ok (.iadd, 1) := by decide +kernel
theorem dX12_hadOf_76 : decode cX12_hadOf 76 = .ok (.istore_n 3, 1) := by decide +kernel
theorem dX12_hadOf_77 : decode cX12_hadOf 77 = .ok (.iinc 4 1, 3) := by decide +kernel
theorem dX12_hadOf_80 : decode cX12_hadOf 80 = .ok (.goto (-70), 3) := by decide +kernel
theorem dX12_hadOf_83 : decode cX12_hadOf 83 = .ok (.iload_n 3, 1) := by decide +kernel
theorem dX12_hadOf_84 : decode cX12_hadOf 84 = .ok (.ireturn, 1) := by decide +kernel
theorem dX12_pass_0 : decode cX12_pass 0 = .ok (.iload_n 1, 1) := by decide +kernel
theorem dX12_pass_1 : decode cX12_pass 1 = .ok (.invokestatic 460, 3) := by decide +kernel
theorem dX12_pass_4 : decode cX12_pass 4 = .ok (.ifCond .eq 15, 3) := by decide +kernel
theorem dX12_pass_7 : decode cX12_pass 7 = .ok (.iload_n 2, 1) := by decide +kernel
theorem dX12_pass_8 : decode cX12_pass 8 = .ok (.invokestatic 460, 3) := by decide +kernel
theorem dX12_pass_11 : decode cX12_pass 11 = .ok (.ifCond .eq 8, 3) := by decide +kernel
theorem dX12_pass_14 : decode cX12_pass 14 = .ok (.iload_n 1, 1) := by decide +kernel
theorem dX12_pass_15 : decode cX12_pass 15 = .ok (.iload_n 2, 1) := by decide +kernel
theorem dX12_pass_16 : decode cX12_pass 16 = .ok (.if_icmp .ne 6, 3) := by decide +kernel
theorem dX12_pass_19 : decode cX12_pass 19 = .ok (.bipush (-101), 2) := by decide +kernel
theorem dX12_pass_21 : decode cX12_pass 21 = .ok (.ireturn, 1) := by decide +kernel
theorem dX12_pass_22 : decode cX12_pass 22 = .ok (.iload_n 3, 1) := by decide +kernel
theorem dX12_pass_23 : decode cX12_pass 23 = .ok (.i2l, 1) := by decide +kernel
theorem dX12_pass_24 : decode cX12_pass 24 = .ok (.lconst 1, 1) := by decide +kernel
theorem dX12_pass_25 : decode cX12_pass 25 = .ok (.ldc2_w 438, 3) := by decide +kernel
theorem dX12_pass_28 : decode cX12_pass 28 = .ok (.invokestatic 194, 3) := by decide +kernel
theorem dX12_pass_31 : decode cX12_pass 31 = .ok (.ifCond .eq 38, 3) := by decide +kernel
theorem dX12_pass_34 : decode cX12_pass 34 = .ok (.iload 4, 2) := by decide +kernel
theorem dX12_pass_36 : decode cX12_pass 36 = .ok (.i2l, 1) := by decide +kernel
theorem dX12_pass_37 : decode cX12_pass 37 = .ok (.aload_n 0, 1) := by decide +kernel
theorem dX12_pass_38 : decode cX12_pass 38 = .ok (.getfield 463, 3) := by decide +kernel
theorem dX12_pass_41 : decode cX12_pass 41 = .ok (.ifCond .le 18, 3) := by decide +kernel
theorem dX12_pass_44 : decode cX12_pass 44 = .ok (.aload_n 0, 1) := by decide +kernel
theorem dX12_pass_45 : decode cX12_pass 45 = .ok (.getfield 173, 3) := by decide +kernel
theorem dX12_pass_48 : decode cX12_pass 48 = .ok (.aload_n 0, 1) := by decide +kernel
theorem dX12_pass_49 : decode cX12_pass 49 = .ok (.getfield 463, 3) := by decide +kernel
theorem dX12_pass_52 : decode cX12_pass 52 = .ok (.iconst 1, 1) := by decide +kernel
theorem dX12_pass_53 : decode cX12_pass 53 = .ok (.isub, 1) := by decide +kernel
theorem dX12_pass_54 : decode cX12_pass 54 = .ok (.iaload, 1) := by decide +kernel
theorem dX12_pass_55 : decode cX12_pass 55 = .ok (.i2l, 1) := by decide +kernel
theorem dX12_pass_56 : decode cX12_pass 56 = .ok (.goto 4, 3) := by decide +kernel
theorem dX12_pass_59 : decode cX12_pass 59 = .ok (.lconst 0, 1) := by decide +kernel
theorem dX12_pass_60 : decode cX12_pass 60 = .ok (.ldc2_w 391, 3) := by decide +kernel
theorem dX12_pass_63 : decode cX12_pass 63 = .ok (.invokestatic 194, 3) := by decide +kernel
theorem dX12_pass_66 : decode cX12_pass 66 = .ok (.ifCond .ne 6, 3) := by decide +kernel
theorem dX12_pass_69 : decode cX12_pass 69 = .ok (.bipush (-102), 2) := by decide +kernel
theorem dX12_pass_71 : decode cX12_pass 71 = .ok (.ireturn, 1) := by decide +kernel
theorem dX12_pass_72 : decode cX12_pass 72 = .ok (.aload_n 0, 1) := by decide +kernel
theorem dX12_pass_73 : decode cX12_pass 73 = .ok (.iload_n 1, 1) := by decide +kernel
theorem dX12_pass_74 : decode cX12_pass 74 = .ok (.bipush 99, 2) := by decide +kernel
theorem dX12_pass_76 : decode cX12_pass 76 = .ok (.invokevirtual 466, 3) := by decide +kernel
theorem dX12_pass_79 : decode cX12_pass 79 = .ok (.iload_n 3, 1) := by decide +kernel
theorem dX12_pass_80 : decode cX12_pass 80 = .ok (.if_icmp .ge 6, 3) := by decide +kernel
theorem dX12_pass_83 : decode cX12_pass 83 = .ok (.bipush (-103), 2) := by decide +kernel
theorem dX12_pass_85 : decode cX12_pass 85 = .ok (.ireturn, 1) := by decide +kernel
theorem dX12_pass_86 : decode cX12_pass 86 = .ok (.aload_n 0, 1) := by decide +kernel
theorem dX12_pass_87 : decode cX12_pass 87 = .ok (.getfield 463, 3) := by decide +kernel
theorem dX12_pass_90 : decode cX12_pass 90 = .ok (.bipush 24, 2) := by decide +kernel
theorem dX12_pass_92 : decode cX12_pass 92 = .ok (.if_icmp .ne 6, 3) := by decide +kernel
theorem dX12_pass_95 : decode cX12_pass 95 = .ok (.bipush (-104), 2) := by decide +kernel
theorem dX12_pass_97 : decode cX12_pass 97 = .ok (.ireturn, 1) := by decide +kernel
theorem dX12_pass_98 : decode cX12_pass 98 = .ok (.aload_n 0, 1) := by decide +kernel
theorem dX12_pass_99 : decode cX12_pass 99 = .ok (.getfield 164, 3) := by decide +kernel
theorem dX12_pass_102 : decode cX12_pass 102 = .ok (.aload_n 0, 1) := by decide +kernel
theorem dX12_pass_103 : decode cX12_pass 103 = .ok (.getfield 463, 3) := by decide +kernel
theorem dX12_pass_106 : decode cX12_pass 106 = .ok (.iload_n 1, 1) := by decide +kernel
theorem dX12_pass_107 : decode cX12_pass 107 = .ok (.iastore, 1) := by decide +kernel
theorem dX12_pass_108 : decode cX12_pass 108 = .ok (.aload_n 0, 1) := by decide +kernel
theorem dX12_pass_109 : decode cX12_pass 109 = .ok (.getfield 167, 3) := by decide +kernel
theorem dX12_pass_112 : decode cX12_pass 112 = .ok (.aload_n 0, 1) := by decide +kernel
theorem dX12_pass_113 : decode cX12_pass 113 = .ok (.getfield 463, 3) := by decide +kernel
theorem dX12_pass_116 : decode cX12_pass 116 = .ok (.iload_n 2, 1) := by decide +kernel
theorem dX12_pass_117 : decode cX12_pass 117 = .ok (.iastore, 1) := by decide +kernel
theorem dX12_pass_118 : decode cX12_pass 118 = .ok (.aload_n 0, 1) := by decide +kernel
theorem dX12_pass_119 : decode cX12_pass 119 = .ok (.getfield 170, 3) := by decide +kernel
theorem dX12_pass_122 : decode cX12_pass 122 = .ok (.aload_n 0, 1) := by decide +kernel
theorem dX12_pass_123 : decode cX12_pass 123 = .ok (.getfield 463, 3) := by decide +kernel
theorem dX12_pass_126 : decode cX12_pass 126 = .ok (.iload_n 3, 1) := by decide +kernel
theorem dX12_pass_127 : decode cX12_pass 127 = .ok (.iastore, 1) := by decide +kernel
theorem dX12_pass_128 : decode cX12_pass 128 = .ok (.aload_n 0, 1) := by decide +kernel
theorem dX12_pass_129 : decode cX12_pass 129 = .ok (.getfield 173, 3) := by decide +kernel
theorem dX12_pass_132 : decode cX12_pass 132 = .ok (.aload_n 0, 1) := by decide +kernel
theorem dX12_pass_133 : decode cX12_pass 133 = .ok (.getfield 463, 3) := by decide +kernel
theorem dX12_pass_136 : decode cX12_pass 136 = .ok (.iload 4, 2) := by decide +kernel
theorem dX12_pass_138 : decode cX12_pass 138 = .ok (.iastore, 1) := by decide +kernel
theorem dX12_pass_139 : decode cX12_pass 139 = .ok (.aload_n 0, 1) := by decide +kernel
theorem dX12_pass_140 : decode cX12_pass 140 = .ok (.dup, 1) := by decide +kernel
theorem dX12_pass_141 : decode cX12_pass 141 = .ok (.getfield 463, 3) := by decide +kernel
theorem dX12_pass_144 : decode cX12_pass 144 = .ok (.iconst 1, 1) := by decide +kernel
theorem dX12_pass_145 : decode cX12_pass 145 = .ok (.iadd, 1) := by decide +kernel
theorem dX12_pass_146 : decode cX12_pass 146 = .ok (.putfield 463, 3) := by decide +kernel
theorem dX12_pass_149 : decode cX12_pass 149 = .ok (.aload_n 0, 1) := by decide +kernel
theorem dX12_pass_150 : decode cX12_pass 150 = .ok (.getfield 463, 3) := by decide +kernel
theorem dX12_pass_153 : decode cX12_pass 153 = .ok (.ireturn, 1) := by decide +kernel
theorem dX12_had_0 : decode cX12_had 0 = .ok (.iload_n 1, 1) := by decide +kernel
theorem dX12_had_1 : decode cX12_had 1 = .ok (.invokestatic 460, 3) := by decide +kernel
theorem dX12_had_4 : decode cX12_had 4 = .ok (.ifCond .ne 6, 3) := by decide +kernel
theorem dX12_had_7 : decode cX12_had 7 = .ok (.bipush (-101), 2) := by decide +kernel
theorem dX12_had_9 : decode cX12_had 9 = .ok (.ireturn, 1) := by decide +kernel
theorem dX12_had_10 : decode cX12_had 10 = .ok (.iload_n 2, 1) := by decide +kernel
theorem dX12_had_11 : decode cX12_had 11 = .ok (.invokestatic 393, 3) := by decide +kernel
theorem dX12_had_14 : decode cX12_had 14 = .ok (.ifCond .eq 12, 3) := by decide +kernel
theorem dX12_had_17 : decode cX12_had 17 = .ok (.aload_n 0, 1) := by decide +kernel
theorem dX12_had_18 : decode cX12_had 18 = .ok (.iload_n 1, 1) := by decide +kernel
theorem dX12_had_19 : decode cX12_had 19 = .ok (.iload_n 2, 1) := by decide +kernel
theorem dX12_had_20 : decode cX12_had 20 = .ok (.invokevirtual 466, 3) := by decide +kernel
theorem dX12_had_23 : decode cX12_had 23 = .ok (.goto 5, 3) := by decide +kernel
theorem dX12_had_26 : decode cX12_had 26 = .ok (.bipush (-102), 2) := by decide +kernel
theorem dX12_had_28 : decode cX12_had 28 = .ok (.ireturn, 1) := by decide +kernel
theorem dX12_dividend_0 : decode cX12_dividend 0 = .ok (.iload_n 1, 1) := by decide +kernel
theorem dX12_dividend_1 : decode cX12_dividend 1 = .ok (.invokestatic 460, 3) := by decide +kernel
theorem dX12_dividend_4 : decode cX12_dividend 4 = .ok (.ifCond .ne 6, 3) := by decide +kernel
theorem dX12_dividend_7 : decode cX12_dividend 7 = .ok (.bipush (-101), 2) := by decide +kernel
theorem dX12_dividend_9 : decode cX12_dividend 9 = .ok (.ireturn, 1) := by decide +kernel
theorem dX12_dividend_10 : decode cX12_dividend 10 = .ok (.iload_n 2, 1) := by decide +kernel
theorem dX12_dividend_11 : decode cX12_dividend 11 = .ok (.i2l, 1) := by decide +kernel
theorem dX12_dividend_12 : decode cX12_dividend 12 = .ok (.lconst 0, 1) := by decide +kernel
theorem dX12_dividend_13 : decode cX12_dividend 13 = .ok (.ldc2_w 454, 3) := by decide +kernel
theorem dX12_dividend_16 : decode cX12_dividend 16 = .ok (.invokestatic 194, 3) := by decide +kernel
theorem dX12_dividend_19 : decode cX12_dividend 19 = .ok (.ifCond .eq 10, 3) := by decide +kernel
theorem dX12_dividend_22 : decode cX12_dividend 22 = .ok (.iload_n 3, 1) := by decide +kernel
theorem dX12_dividend_23 : decode cX12_dividend 23 = .ok (.invokestatic 393, 3) := by decide +kernel
theorem dX12_dividend_26 : decode cX12_dividend 26 = .ok (.ifCond .ne 6, 3) := by decide +kernel
theorem dX12_dividend_29 : decode cX12_dividend 29 = .ok (.bipush (-102), 2) := by decide +kernel
theorem dX12_dividend_31 : decode cX12_dividend 31 = .ok (.ireturn, 1) := by decide +kernel
theorem dX12_dividend_32 : decode cX12_dividend 32 = .ok (.lconst 0, 1) := by decide +kernel
theorem dX12_dividend_33 : decode cX12_dividend 33 = .ok (.lstore 4, 2) := by decide +kernel
theorem dX12_dividend_35 : decode cX12_dividend 35 = .ok (.iconst 0, 1) := by decide +kernel
theorem dX12_dividend_36 : decode cX12_dividend 36 = .ok (.istore 6, 2) := by decide +kernel
theorem dX12_dividend_38 : decode cX12_dividend 38 = .ok (.iload 6, 2) := by decide +kernel
theorem dX12_dividend_40 : decode cX12_dividend 40 = .ok (.bipush 6, 2) := by decide +kernel
theorem dX12_dividend_42 : decode cX12_dividend 42 = .ok (.if_icmp .ge 22, 3) := by decide +kernel
theorem dX12_dividend_45 : decode cX12_dividend 45 = .ok (.lload 4, 2) := by decide +kernel
theorem dX12_dividend_47 : decode cX12_dividend 47 = .ok (.aload_n 0, 1) := by decide +kernel
theorem dX12_dividend_48 : decode cX12_dividend 48 = .ok (.iload 6, 2) := by decide +kernel
theorem dX12_dividend_50 : decode cX12_dividend 50 = .ok (.iload_n 3, 1) := by decide +kernel
theorem dX12_dividend_51 : decode cX12_dividend 51 = .ok (.invokevirtual 466, 3) := by decide +kernel
theorem dX12_dividend_54 : decode cX12_dividend 54 = .ok (.i2l, 1) := by decide +kernel
theorem dX12_dividend_55 : decode cX12_dividend 55 = .ok (.ladd, 1) := by decide +kernel
theorem dX12_dividend_56 : decode cX12_dividend 56 = .ok (.lstore 4, 2) := by decide +kernel
theorem dX12_dividend_58 : decode cX12_dividend 58 = .ok (.iinc 6 1, 3) := by decide +kernel
theorem dX12_dividend_61 : decode cX12_dividend 61 = .ok (.goto (-23), 3) := by decide +kernel
theorem dX12_dividend_64 : decode cX12_dividend 64 = .ok (.lload 4, 2) := by decide +kernel
theorem dX12_dividend_66 : decode cX12_dividend 66 = .ok (.lconst 0, 1) := by decide +kernel
theorem dX12_dividend_67 : decode cX12_dividend 67 = .ok (.lcmp, 1) := by decide +kernel
theorem dX12_dividend_68 : decode cX12_dividend 68 = .ok (.ifCond .ne 6, 3) := by decide +kernel
theorem dX12_dividend_71 : decode cX12_dividend 71 = .ok (.bipush (-103), 2) := by decide +kernel
theorem dX12_dividend_73 : decode cX12_dividend 73 = .ok (.ireturn, 1) := by decide +kernel
theorem dX12_dividend_74 : decode cX12_dividend 74 = .ok (.iload_n 2, 1) := by decide +kernel
theorem dX12_dividend_75 : decode cX12_dividend 75 = .ok (.i2l, 1) := by decide +kernel
theorem dX12_dividend_76 : decode cX12_dividend 76 = .ok (.lstore 6, 2) := by decide +kernel
theorem dX12_dividend_78 : decode cX12_dividend 78 = .ok (.iconst 0, 1) := by decide +kernel
theorem dX12_dividend_79 : decode cX12_dividend 79 = .ok (.istore 8, 2) := by decide +kernel
theorem dX12_dividend_81 : decode cX12_dividend 81 = .ok (.iload_n 2, 1) := by decide +kernel
theorem dX12_dividend_82 : decode cX12_dividend 82 = .ok (.i2l, 1) := by decide +kernel
theorem dX12_dividend_83 : decode cX12_dividend 83 = .ok (.aload_n 0, 1) := by decide +kernel
theorem dX12_dividend_84 : decode cX12_dividend 84 = .ok (.iload_n 1, 1) := by decide +kernel
theorem dX12_dividend_85 : decode cX12_dividend 85 = .ok (.iload_n 3, 1) := by decide +kernel
theorem dX12_dividend_86 : decode cX12_dividend 86 = .ok (.invokevirtual 466, 3) := by decide +kernel
theorem dX12_dividend_89 : decode cX12_dividend 89 = .ok (.i2l, 1) := by decide +kernel
theorem dX12_dividend_90 : decode cX12_dividend 90 = .ok (.lmul, 1) := by decide +kernel
theorem dX12_dividend_91 : decode cX12_dividend 91 = .ok (.lstore 9, 2) := by decide +kernel
theorem dX12_dividend_93 : decode cX12_dividend 93 = .ok (.iconst 0, 1) := by decide +kernel
theorem dX12_dividend_94 : decode cX12_dividend 94 = .ok (.istore 11, 2) := by decide +kernel
theorem dX12_dividend_96 : decode cX12_dividend 96 = .ok (.iload 11, 2) := by decide +kernel
theorem dX12_dividend_98 : decode cX12_dividend 98 = .ok (.bipush 6, 2) := by decide +kernel
theorem dX12_dividend_100 : decode cX12_dividend 100 = .ok (.if_icmp .ge 76, 3) := by decide +kernel
theorem dX12_dividend_103 : decode cX12_dividend 103 = .ok (.iload_n 2, 1) := by decide +kernel
theorem dX12_dividend_104 : decode cX12_dividend 104 = .ok (.i2l, 1) := by decide +kernel
theorem dX12_dividend_105 : decode cX12_dividend 105 = .ok (.aload_n 0, 1) := by decide +kernel
theorem dX12_dividend_106 : decode cX12_dividend 106 = .ok (.iload 11, 2) := by decide +kernel
theorem dX12_dividend_108 : decode cX12_dividend 108 = .ok (.iload_n 3, 1) := by decide +kernel
theorem dX12_dividend_109 : decode cX12_dividend 109 = .ok (.invokevirtual 466, 3) := by decide +kernel
theorem dX12_dividend_112 : decode cX12_dividend 112 = .ok (.i2l, 1) := by decide +kernel
theorem dX12_dividend_113 : decode cX12_dividend 113 = .ok (.lmul, 1) := by decide +kernel
theorem dX12_dividend_114 : decode cX12_dividend 114 = .ok (.lstore 12, 2) := by decide +kernel
theorem dX12_dividend_116 : decode cX12_dividend 116 = .ok (.lload 6, 2) := by decide +kernel
theorem dX12_dividend_118 : decode cX12_dividend 118 = .ok (.lload 12, 2) := by decide +kernel
theorem dX12_dividend_120 : decode cX12_dividend 120 = .ok (.lload 4, 2) := by decide +kernel
theorem dX12_dividend_122 : decode cX12_dividend 122 = .ok (.ldiv, 1) := by decide +kernel
theorem dX12_dividend_123 : decode cX12_dividend 123 = .ok (.lsub, 1) := by decide +kernel
theorem dX12_dividend_124 : decode cX12_dividend 124 = .ok (.lstore 6, 2) := by decide +kernel
theorem dX12_dividend_126 : decode cX12_dividend 126 = .ok (.iload 8, 2) := by decide +kernel
theorem dX12_dividend_128 : decode cX12_dividend 128 = .ok (.lload 12, 2) := by decide +kernel
theorem dX12_dividend_130 : decode cX12_dividend 130 = .ok (.lload 4, 2) := by decide +kernel
theorem dX12_dividend_132 : decode cX12_dividend 132 = .ok (.lrem, 1) := by decide +kernel
theorem dX12_dividend_133 : decode cX12_dividend 133 = .ok (.lload 9, 2) := by decide +kernel
theorem dX12_dividend_135 : decode cX12_dividend 135 = .ok (.lload 4, 2) := by decide +kernel
theorem dX12_dividend_137 : decode cX12_dividend 137 = .ok (.lrem, 1) := by decide +kernel
theorem dX12_dividend_138 : decode cX12_dividend 138 = .ok (.lcmp, 1) := by decide +kernel
theorem dX12_dividend_139 : decode cX12_dividend 139 = .ok (.ifCond .gt 23, 3) := by decide +kernel
theorem dX12_dividend_142 : decode cX12_dividend 142 = .ok (.lload 12, 2) := by decide +kernel
theorem dX12_dividend_144 : decode cX12_dividend 144 = .ok (.lload 4, 2) := by decide +kernel
theorem dX12_dividend_146 : decode cX12_dividend 146 = .ok (.lrem, 1) := by decide +kernel
theorem dX12_dividend_147 : decode cX12_dividend 147 = .ok (.lload 9, 2) := by decide +kernel
theorem dX12_dividend_149 : decode cX12_dividend 149 = .ok (.lload 4, 2) := by decide +kernel
theorem dX12_dividend_151 : decode cX12_dividend 151 = .ok (.lrem, 1) := by decide +kernel
theorem dX12_dividend_152 : decode cX12_dividend 152 = .ok (.lcmp, 1) := by decide +kernel
theorem dX12_dividend_153 : decode cX12_dividend 153 = .ok (.ifCond .ne 13, 3) := by decide +kernel
theorem dX12_dividend_156 : decode cX12_dividend 156 = .ok (.iload 11, 2) := by decide +kernel
theorem dX12_dividend_158 : decode cX12_dividend 158 = .ok (.iload_n 1, 1) := by decide +kernel
theorem dX12_dividend_159 : decode cX12_dividend 159 = .ok (.if_icmp .ge 7, 3) := by decide +kernel
theorem dX12_dividend_162 : decode cX12_dividend 162 = .ok (.iconst 1, 1) := by decide +kernel
theorem dX12_dividend_163 : decode cX12_dividend 163 = .ok (.goto 4, 3) := by decide +kernel
theorem dX12_dividend_166 : decode cX12_dividend 166 = .ok (.iconst 0, 1) := by decide +kernel
theorem dX12_dividend_167 : decode cX12_dividend 167 = .ok (.iadd, 1) := by decide +kernel
theorem dX12_dividend_168 : decode cX12_dividend 168 = .ok (.istore 8, 2) := by decide +kernel
theorem dX12_dividend_170 : decode cX12_dividend 170 = .ok (.iinc 11 1, 3) := by decide +kernel
theorem dX12_dividend_173 : decode cX12_dividend 173 = .ok (.goto (-77), 3) := by decide +kernel
theorem dX12_dividend_176 : decode cX12_dividend 176 = .ok (.lload 9, 2) := by decide +kernel
theorem dX12_dividend_178 : decode cX12_dividend 178 = .ok (.lload 4, 2) := by decide +kernel
theorem dX12_dividend_180 : decode cX12_dividend 180 = .ok (.ldiv, 1) := by decide +kernel
theorem dX12_dividend_181 : decode cX12_dividend 181 = .ok (.l2i, 1) := by decide +kernel
theorem dX12_dividend_182 : decode cX12_dividend 182 = .ok (.iload 8, 2) := by decide +kernel
theorem dX12_dividend_184 : decode cX12_dividend 184 = .ok (.i2l, 1) := by decide +kernel
theorem dX12_dividend_185 : decode cX12_dividend 185 = .ok (.lload 6, 2) := by decide +kernel
theorem dX12_dividend_187 : decode cX12_dividend 187 = .ok (.lcmp, 1) := by decide +kernel
theorem dX12_dividend_188 : decode cX12_dividend 188 = .ok (.ifCond .ge 7, 3) := by decide +kernel
theorem dX12_dividend_191 : decode cX12_dividend 191 = .ok (.iconst 1, 1) := by decide +kernel
theorem dX12_dividend_192 : decode cX12_dividend 192 = .ok (.goto 4, 3) := by decide +kernel
theorem dX12_dividend_195 : decode cX12_dividend 195 = .ok (.iconst 0, 1) := by decide +kernel
theorem dX12_dividend_196 : decode cX12_dividend 196 = .ok (.iadd, 1) := by decide +kernel
theorem dX12_dividend_197 : decode cX12_dividend 197 = .ok (.ireturn, 1) := by decide +kernel
theorem dX12_rate_0 : decode cX12_rate 0 = .ok (.iload_n 1, 1) := by decide +kernel
theorem dX12_rate_1 : decode cX12_rate 1 = .ok (.i2l, 1) := by decide +kernel
theorem dX12_rate_2 : decode cX12_rate 2 = .ok (.lconst 0, 1) := by decide +kernel
theorem dX12_rate_3 : decode cX12_rate 3 = .ok (.ldc2_w 438, 3) := by decide +kernel
theorem dX12_rate_6 : decode cX12_rate 6 = .ok (.invokestatic 194, 3) := by decide +kernel
theorem dX12_rate_9 : decode cX12_rate 9 = .ok (.ifCond .ne 6, 3) := by decide +kernel
theorem dX12_rate_12 : decode cX12_rate 12 = .ok (.bipush (-102), 2) := by decide +kernel
theorem dX12_rate_14 : decode cX12_rate 14 = .ok (.ireturn, 1) := by decide +kernel
theorem dX12_rate_15 : decode cX12_rate 15 = .ok (.aload_n 0, 1) := by decide +kernel
theorem dX12_rate_16 : decode cX12_rate 16 = .ok (.getfield 189, 3) := by decide +kernel
theorem dX12_rate_19 : decode cX12_rate 19 = .ok (.istore_n 2, 1) := by decide +kernel
theorem dX12_rate_20 : decode cX12_rate 20 = .ok (.aload_n 0, 1) := by decide +kernel
theorem dX12_rate_21 : decode cX12_rate 21 = .ok (.iload_n 1, 1) := by decide +kernel
theorem dX12_rate_22 : decode cX12_rate 22 = .ok (.putfield 189, 3) := by decide +kernel
theorem dX12_rate_25 : decode cX12_rate 25 = .ok (.iload_n 2, 1) := by decide +kernel
theorem dX12_rate_26 : decode cX12_rate 26 = .ok (.ireturn, 1) := by decide +kernel
theorem dX12_goesOver_0 : decode cX12_goesOver 0 = .ok (.aload_n 0, 1) := by decide +kernel
theorem dX12_goesOver_1 : decode cX12_goesOver 1 = .ok (.getfield 62, 3) := by decide +kernel
theorem dX12_goesOver_4 : decode cX12_goesOver 4 = .ok (.iload_n 1, 1) := by decide +kernel
theorem dX12_goesOver_5 : decode cX12_goesOver 5 = .ok (.iaload, 1) := by decide +kernel
theorem dX12_goesOver_6 : decode cX12_goesOver 6 = .ok (.aload_n 0, 1) := by decide +kernel
theorem dX12_goesOver_7 : decode cX12_goesOver 7 = .ok (.iload_n 1, 1) := by decide +kernel
theorem dX12_goesOver_8 : decode cX12_goesOver 8 = .ok (.invokevirtual 257, 3) := by decide +kernel
theorem dX12_goesOver_11 : decode cX12_goesOver 11 = .ok (.imul, 1) := by decide +kernel
theorem dX12_goesOver_12 : decode cX12_goesOver 12 = .ok (.istore_n 3, 1) := by decide +kernel
theorem dX12_goesOver_13 : decode cX12_goesOver 13 = .ok (.aload_n 0, 1) := by decide +kernel
theorem dX12_goesOver_14 : decode cX12_goesOver 14 = .ok (.getfield 189, 3) := by decide +kernel
theorem dX12_goesOver_17 : decode cX12_goesOver 17 = .ok (.iload_n 3, 1) := by decide +kernel
theorem dX12_goesOver_18 : decode cX12_goesOver 18 = .ok (.imul, 1) := by decide +kernel
theorem dX12_goesOver_19 : decode cX12_goesOver 19 = .ok (.bipush 10, 2) := by decide +kernel
theorem dX12_goesOver_21 : decode cX12_goesOver 21 = .ok (.idiv, 1) := by decide +kernel
theorem dX12_goesOver_22 : decode cX12_goesOver 22 = .ok (.iload_n 2, 1) := by decide +kernel
theorem dX12_goesOver_23 : decode cX12_goesOver 23 = .ok (.iload_n 3, 1) := by decide +kernel
theorem dX12_goesOver_24 : decode cX12_goesOver 24 = .ok (.imul, 1) := by decide +kernel
theorem dX12_goesOver_25 : decode cX12_goesOver 25 = .ok (.if_icmp .ge 7, 3) := by decide +kernel
theorem dX12_goesOver_28 : decode cX12_goesOver 28 = .ok (.iconst 1, 1) := by decide +kernel
theorem dX12_goesOver_29 : decode cX12_goesOver 29 = .ok (.goto 4, 3) := by decide +kernel
theorem dX12_goesOver_32 : decode cX12_goesOver 32 = .ok (.iconst 0, 1) := by decide +kernel
theorem dX12_goesOver_33 : decode cX12_goesOver 33 = .ok (.ireturn, 1) := by decide +kernel
theorem dX12_over_0 : decode cX12_over 0 = .ok (.iload_n 1, 1) := by decide +kernel
theorem dX12_over_1 : decode cX12_over 1 = .ok (.invokestatic 393, 3) := by decide +kernel
theorem dX12_over_4 : decode cX12_over 4 = .ok (.ifCond .ne 6, 3) := by decide +kernel
theorem dX12_over_7 : decode cX12_over 7 = .ok (.bipush (-102), 2) := by decide +kernel
theorem dX12_over_9 : decode cX12_over 9 = .ok (.ireturn, 1) := by decide +kernel
theorem dX12_over_10 : decode cX12_over 10 = .ok (.iconst 0, 1) := by decide +kernel
theorem dX12_over_11 : decode cX12_over 11 = .ok (.istore_n 2, 1) := by decide +kernel
theorem dX12_over_12 : decode cX12_over 12 = .ok (.iconst 0, 1) := by decide +kernel
theorem dX12_over_13 : decode cX12_over 13 = .ok (.istore_n 3, 1) := by decide +kernel
theorem dX12_over_14 : decode cX12_over 14 = .ok (.iload_n 3, 1) := by decide +kernel
theorem dX12_over_15 : decode cX12_over 15 = .ok (.aload_n 0, 1) := by decide +kernel
theorem dX12_over_16 : decode cX12_over 16 = .ok (.getfield 215, 3) := by decide +kernel
theorem dX12_over_19 : decode cX12_over 19 = .ok (.if_icmp .ge 28, 3) := by decide +kernel
theorem dX12_over_22 : decode cX12_over 22 = .ok (.iload_n 2, 1) := by decide +kernel
theorem dX12_over_23 : decode cX12_over 23 = .ok (.aload_n 0, 1) := by decide +kernel
theorem dX12_over_24 : decode cX12_over 24 = .ok (.iload_n 3, 1) := by decide +kernel
theorem dX12_over_25 : decode cX12_over 25 = .ok (.iload_n 1, 1) := by decide +kernel
theorem dX12_over_26 : decode cX12_over 26 = .ok (.invokevirtual 469, 3) := by decide +kernel
theorem dX12_over_29 : decode cX12_over 29 = .ok (.ifCond .eq 9, 3) := by decide +kernel
theorem dX12_over_32 : decode cX12_over 32 = .ok (.iconst 1, 1) := by decide +kernel
theorem dX12_over_33 : decode cX12_over 33 = .ok (.iload_n 3, 1) := by decide +kernel
theorem dX12_over_34 : decode cX12_over 34 = .ok (.ishl, 1) := by decide +kernel
theorem dX12_over_35 : decode cX12_over 35 = .ok (.goto 4, 3) := by decide +kernel
theorem dX12_over_38 : decode cX12_over 38 = .ok (.iconst 0, 1) := by decide +kernel
theorem dX12_over_39 : decode cX12_over 39 = .ok (.ior, 1) := by decide +kernel
theorem dX12_over_40 : decode cX12_over 40 = .ok (.istore_n 2, 1) := by decide +kernel
theorem dX12_over_41 : decode cX12_over 41 = .ok (.iinc 3 1, 3) := by decide +kernel
theorem dX12_over_44 : decode cX12_over 44 = .ok (.goto (-30), 3) := by decide +kernel
theorem dX12_over_47 : decode cX12_over 47 = .ok (.iload_n 2, 1) := by decide +kernel
theorem dX12_over_48 : decode cX12_over 48 = .ok (.ireturn, 1) := by decide +kernel
theorem dX12_bestPence_0 : decode cX12_bestPence 0 = .ok (.iload_n 1, 1) := by decide +kernel
theorem dX12_bestPence_1 : decode cX12_bestPence 1 = .ok (.i2l, 1) := by decide +kernel
theorem dX12_bestPence_2 : decode cX12_bestPence 2 = .ok (.lconst 0, 1) := by decide +kernel
theorem dX12_bestPence_3 : decode cX12_bestPence 3 = .ok (.lconst 1, 1) := by decide +kernel
theorem dX12_bestPence_4 : decode cX12_bestPence 4 = .ok (.invokestatic 194, 3) := by decide +kernel
theorem dX12_bestPence_7 : decode cX12_bestPence 7 = .ok (.ifCond .ne 6, 3) := by decide +kernel
theorem dX12_bestPence_10 : decode cX12_bestPence 10 = .ok (.bipush (-102), 2) := by decide +kernel
theorem dX12_bestPence_12 : decode cX12_bestPence 12 = .ok (.ireturn, 1) := by decide +kernel
theorem dX12_bestPence_13 : decode cX12_bestPence 13 = .ok (.iconst 0, 1) := by decide +kernel
theorem dX12_bestPence_14 : decode cX12_bestPence 14 = .ok (.istore_n 2, 1) := by decide +kernel
theorem dX12_bestPence_15 : decode cX12_bestPence 15 = .ok (.iconst 0, 1) := by decide +kernel
theorem dX12_bestPence_16 : decode cX12_bestPence 16 = .ok (.istore_n 3, 1) := by decide +kernel
theorem dX12_bestPence_17 : decode cX12_bestPence 17 = .ok (.iconst 0, 1) := by decide +kernel
theorem dX12_bestPence_18 : decode cX12_bestPence 18 = .ok (.istore 4, 2) := by decide +kernel
theorem dX12_bestPence_20 : decode cX12_bestPence 20 = .ok (.iload 4, 2) := by decide +kernel
theorem dX12_bestPence_22 : decode cX12_bestPence 22 = .ok (.bipush 100, 2) := by decide +kernel
theorem dX12_bestPence_24 : decode cX12_bestPence 24 = .ok (.if_icmp .ge 93, 3) := by decide +kernel
theorem dX12_bestPence_27 : decode cX12_bestPence 27 = .ok (.iconst 0, 1) := by decide +kernel
theorem dX12_bestPence_28 : decode cX12_bestPence 28 = .ok (.istore 5, 2) := by decide +kernel
theorem dX12_bestPence_30 : decode cX12_bestPence 30 = .ok (.iconst 0, 1) := by decide +kernel
theorem dX12_bestPence_31 : decode cX12_bestPence 31 = .ok (.istore 6, 2) := by decide +kernel
theorem dX12_bestPence_33 : decode cX12_bestPence 33 = .ok (.iload 6, 2) := by decide +kernel
theorem dX12_bestPence_35 : decode cX12_bestPence 35 = .ok (.aload_n 0, 1) := by decide +kernel
theorem dX12_bestPence_36 : decode cX12_bestPence 36 = .ok (.getfield 215, 3) := by decide +kernel
theorem dX12_bestPence_39 : decode cX12_bestPence 39 = .ok (.if_icmp .ge 46, 3) := by decide +kernel
theorem dX12_bestPence_42 : decode cX12_bestPence 42 = .ok (.iload 5, 2) := by decide +kernel
theorem dX12_bestPence_44 : decode cX12_bestPence 44 = .ok (.aload_n 0, 1) := by decide +kernel
theorem dX12_bestPence_45 : decode cX12_bestPence 45 = .ok (.iload 6, 2) := by decide +kernel
theorem dX12_bestPence_47 : decode cX12_bestPence 47 = .ok (.iload 4, 2) := by decide +kernel
theorem dX12_bestPence_49 : decode cX12_bestPence 49 = .ok (.invokevirtual 469, 3) := by decide +kernel
theorem dX12_bestPence_52 : decode cX12_bestPence 52 = .ok (.ifCond .eq 7, 3) := by decide +kernel
theorem dX12_bestPence_55 : decode cX12_bestPence 55 = .ok (.iconst 0, 1) := by decide +kernel
theorem dX12_bestPence_56 : decode cX12_bestPence 56 = .ok (.goto 20, 3) := by decide +kernel
theorem dX12_bestPence_59 : decode cX12_bestPence 59 = .ok (.iload 4, 2) := by decide +kernel
theorem dX12_bestPence_61 : decode cX12_bestPence 61 = .ok (.aload_n 0, 1) := by decide +kernel
theorem dX12_bestPence_62 : decode cX12_bestPence 62 = .ok (.getfield 62, 3) := by decide +kernel
theorem dX12_bestPence_65 : decode cX12_bestPence 65 = .ok (.iload 6, 2) := by decide +kernel
theorem dX12_bestPence_67 : decode cX12_bestPence 67 = .ok (.iaload, 1) := by decide +kernel
theorem dX12_bestPence_68 : decode cX12_bestPence 68 = .ok (.imul, 1) := by decide +kernel
theorem dX12_bestPence_69 : decode cX12_bestPence 69 = .ok (.aload_n 0, 1) := by decide +kernel
theorem dX12_bestPence_70 : decode cX12_bestPence 70 = .ok (.iload 6, 2) := by decide +kernel
theorem dX12_bestPence_72 : decode cX12_bestPence 72 = .ok (.invokevirtual 257, 3) := by decide +kernel
theorem dX12_bestPence_75 : decode cX12_bestPence 75 = .ok (.imul, 1) := by decide +kernel
theorem dX12_bestPence_76 : decode cX12_bestPence 76 = .ok (.iadd, 1) := by decide +kernel
theorem dX12_bestPence_77 : decode cX12_bestPence 77 = .ok (.istore 5, 2) := by decide +kernel
theorem dX12_bestPence_79 : decode cX12_bestPence 79 = .ok (.iinc 6 1, 3) := by decide +kernel
theorem dX12_bestPence_82 : decode cX12_bestPence 82 = .ok (.goto (-49), 3) := by decide +kernel
theorem dX12_bestPence_85 : decode cX12_bestPence 85 = .ok (.iload 5, 2) := by decide +kernel
theorem dX12_bestPence_87 : decode cX12_bestPence 87 = .ok (.iload_n 3, 1) := by decide +kernel
theorem dX12_bestPence_88 : decode cX12_bestPence 88 = .ok (.if_icmp .le 8, 3) := by decide +kernel
theorem dX12_bestPence_91 : decode cX12_bestPence 91 = .ok (.iload 4, 2) := by decide +kernel
theorem dX12_bestPence_93 : decode cX12_bestPence 93 = .ok (.goto 4, 3) := by decide +kernel
theorem dX12_bestPence_96 : decode cX12_bestPence 96 = .ok (.iload_n 2, 1) := by decide +kernel
theorem dX12_bestPence_97 : decode cX12_bestPence 97 = .ok (.istore_n 2, 1) := by decide +kernel
theorem dX12_bestPence_98 : decode cX12_bestPence 98 = .ok (.iload 5, 2) := by decide +kernel
theorem dX12_bestPence_100 : decode cX12_bestPence 100 = .ok (.iload_n 3, 1) := by decide +kernel
theorem dX12_bestPence_101 : decode cX12_bestPence 101 = .ok (.if_icmp .le 8, 3) := by decide +kernel
theorem dX12_bestPence_104 : decode cX12_bestPence 104 = .ok (.iload 5, 2) := by decide +kernel
theorem dX12_bestPence_106 : decode cX12_bestPence 106 = .ok (.goto 4, 3) := by decide +kernel
theorem dX12_bestPence_109 : decode cX12_bestPence 109 = .ok (.iload_n 3, 1) := by decide +kernel
theorem dX12_bestPence_110 : decode cX12_bestPence 110 = .ok (.istore_n 3, 1) := by decide +kernel
theorem dX12_bestPence_111 : decode cX12_bestPence 111 = .ok (.iinc 4 1, 3) := by decide +kernel
theorem dX12_bestPence_114 : decode cX12_bestPence 114 = .ok (.goto (-94), 3) := by decide +kernel
theorem dX12_bestPence_117 : decode cX12_bestPence 117 = .ok (.iload_n 1, 1) := by decide +kernel
theorem dX12_bestPence_118 : decode cX12_bestPence 118 = .ok (.ifCond .ne 7, 3) := by decide +kernel
theorem dX12_bestPence_121 : decode cX12_bestPence 121 = .ok (.iload_n 2, 1) := by decide +kernel
theorem dX12_bestPence_122 : decode cX12_bestPence 122 = .ok (.goto 4, 3) := by decide +kernel
theorem dX12_bestPence_125 : decode cX12_bestPence 125 = .ok (.iload_n 3, 1) := by decide +kernel
theorem dX12_bestPence_126 : decode cX12_bestPence 126 = .ok (.ireturn, 1) := by decide +kernel
theorem dX12_work_0 : decode cX12_work 0 = .ok (.iload_n 3, 1) := by decide +kernel
theorem dX12_work_1 : decode cX12_work 1 = .ok (.i2l, 1) := by decide +kernel
theorem dX12_work_2 : decode cX12_work 2 = .ok (.ldc2_w 319, 3) := by decide +kernel
theorem dX12_work_5 : decode cX12_work 5 = .ok (.aload_n 0, 1) := by decide +kernel
theorem dX12_work_6 : decode cX12_work 6 = .ok (.getfield 472, 3) := by decide +kernel
theorem dX12_work_9 : decode cX12_work 9 = .ok (.iconst 1, 1) := by decide +kernel
theorem dX12_work_10 : decode cX12_work 10 = .ok (.isub, 1) := by decide +kernel
theorem dX12_work_11 : decode cX12_work 11 = .ok (.i2l, 1) := by decide +kernel
theorem dX12_work_12 : decode cX12_work 12 = .ok (.invokestatic 194, 3) := by decide +kernel
theorem dX12_work_15 : decode cX12_work 15 = .ok (.ifCond .ne 6, 3) := by decide +kernel
theorem dX12_work_18 : decode cX12_work 18 = .ok (.bipush (-101), 2) := by decide +kernel
theorem dX12_work_20 : decode cX12_work 20 = .ok (.ireturn, 1) := by decide +kernel
theorem dX12_work_21 : decode cX12_work 21 = .ok (.iload_n 1, 1) := by decide +kernel
theorem dX12_work_22 : decode cX12_work 22 = .ok (.i2l, 1) := by decide +kernel
theorem dX12_work_23 : decode cX12_work 23 = .ok (.lconst 1, 1) := by decide +kernel
theorem dX12_work_24 : decode cX12_work 24 = .ok (.ldc2_w 438, 3) := by decide +kernel
theorem dX12_work_27 : decode cX12_work 27 = .ok (.invokestatic 194, 3) := by decide +kernel
theorem dX12_work_30 : decode cX12_work 30 = .ok (.ifCond .eq 15, 3) := by decide +kernel
theorem dX12_work_33 : decode cX12_work 33 = .ok (.iload_n 2, 1) := by decide +kernel
theorem dX12_work_34 : decode cX12_work 34 = .ok (.i2l, 1) := by decide +kernel
theorem dX12_work_35 : decode cX12_work 35 = .ok (.lconst 0, 1) := by decide +kernel
theorem dX12_work_36 : decode cX12_work 36 = .ok (.ldc2_w 438, 3) := by decide +kernel
theorem dX12_work_39 : decode cX12_work 39 = .ok (.invokestatic 194, 3) := by decide +kernel
theorem dX12_work_42 : decode cX12_work 42 = .ok (.ifCond .ne 6, 3) := by decide +kernel
theorem dX12_work_45 : decode cX12_work 45 = .ok (.bipush (-102), 2) := by decide +kernel
theorem dX12_work_47 : decode cX12_work 47 = .ok (.ireturn, 1) := by decide +kernel
theorem dX12_work_48 : decode cX12_work 48 = .ok (.aload_n 0, 1) := by decide +kernel
theorem dX12_work_49 : decode cX12_work 49 = .ok (.getfield 472, 3) := by decide +kernel
theorem dX12_work_52 : decode cX12_work 52 = .ok (.bipush 8, 2) := by decide +kernel
theorem dX12_work_54 : decode cX12_work 54 = .ok (.if_icmp .ne 6, 3) := by decide +kernel
theorem dX12_work_57 : decode cX12_work 57 = .ok (.bipush (-104), 2) := by decide +kernel
theorem dX12_work_59 : decode cX12_work 59 = .ok (.ireturn, 1) := by decide +kernel
theorem dX12_work_60 : decode cX12_work 60 = .ok (.aload_n 0, 1) := by decide +kernel
theorem dX12_work_61 : decode cX12_work 61 = .ok (.getfield 176, 3) := by decide +kernel
theorem dX12_work_64 : decode cX12_work 64 = .ok (.aload_n 0, 1) := by decide +kernel
theorem dX12_work_65 : decode cX12_work 65 = .ok (.getfield 472, 3) := by decide +kernel
theorem dX12_work_68 : decode cX12_work 68 = .ok (.iload_n 1, 1) := by decide +kernel
theorem dX12_work_69 : decode cX12_work 69 = .ok (.iastore, 1) := by decide +kernel
theorem dX12_work_70 : decode cX12_work 70 = .ok (.aload_n 0, 1) := by decide +kernel
theorem dX12_work_71 : decode cX12_work 71 = .ok (.getfield 179, 3) := by decide +kernel
theorem dX12_work_74 : decode cX12_work 74 = .ok (.aload_n 0, 1) := by decide +kernel
theorem dX12_work_75 : decode cX12_work 75 = .ok (.getfield 472, 3) := by decide +kernel
theorem dX12_work_78 : decode cX12_work 78 = .ok (.iload_n 2, 1) := by decide +kernel
theorem dX12_work_79 : decode cX12_work 79 = .ok (.iastore, 1) := by decide +kernel
theorem dX12_work_80 : decode cX12_work 80 = .ok (.aload_n 0, 1) := by decide +kernel
theorem dX12_work_81 : decode cX12_work 81 = .ok (.getfield 182, 3) := by decide +kernel
theorem dX12_work_84 : decode cX12_work 84 = .ok (.aload_n 0, 1) := by decide +kernel
theorem dX12_work_85 : decode cX12_work 85 = .ok (.getfield 472, 3) := by decide +kernel
theorem dX12_work_88 : decode cX12_work 88 = .ok (.iload_n 3, 1) := by decide +kernel
theorem dX12_work_89 : decode cX12_work 89 = .ok (.iastore, 1) := by decide +kernel
theorem dX12_work_90 : decode cX12_work 90 = .ok (.aload_n 0, 1) := by decide +kernel
theorem dX12_work_91 : decode cX12_work 91 = .ok (.dup, 1) := by decide +kernel
theorem dX12_work_92 : decode cX12_work 92 = .ok (.getfield 472, 3) := by decide +kernel
theorem dX12_work_95 : decode cX12_work 95 = .ok (.iconst 1, 1) := by decide +kernel
theorem dX12_work_96 : decode cX12_work 96 = .ok (.iadd, 1) := by decide +kernel
theorem dX12_work_97 : decode cX12_work 97 = .ok (.putfield 472, 3) := by decide +kernel
theorem dX12_work_100 : decode cX12_work 100 = .ok (.aload_n 0, 1) := by decide +kernel
theorem dX12_work_101 : decode cX12_work 101 = .ok (.getfield 472, 3) := by decide +kernel
theorem dX12_work_104 : decode cX12_work 104 = .ok (.iconst 1, 1) := by decide +kernel
theorem dX12_work_105 : decode cX12_work 105 = .ok (.isub, 1) := by decide +kernel
theorem dX12_work_106 : decode cX12_work 106 = .ok (.ireturn, 1) := by decide +kernel
theorem dX12_plan_0 : decode cX12_plan 0 = .ok (.iload_n 1, 1) := by decide +kernel
theorem dX12_plan_1 : decode cX12_plan 1 = .ok (.i2l, 1) := by decide +kernel
theorem dX12_plan_2 : decode cX12_plan 2 = .ok (.lconst 0, 1) := by decide +kernel
theorem dX12_plan_3 : decode cX12_plan 3 = .ok (.ldc2_w 204, 3) := by decide +kernel
theorem dX12_plan_6 : decode cX12_plan 6 = .ok (.invokestatic 194, 3) := by decide +kernel
theorem dX12_plan_9 : decode cX12_plan 9 = .ok (.ifCond .eq 15, 3) := by decide +kernel
theorem dX12_plan_12 : decode cX12_plan 12 = .ok (.iload_n 2, 1) := by decide +kernel
theorem dX12_plan_13 : decode cX12_plan 13 = .ok (.i2l, 1) := by decide +kernel
theorem dX12_plan_14 : decode cX12_plan 14 = .ok (.lconst 0, 1) := by decide +kernel
theorem dX12_plan_15 : decode cX12_plan 15 = .ok (.ldc2_w 202, 3) := by decide +kernel
theorem dX12_plan_18 : decode cX12_plan 18 = .ok (.invokestatic 194, 3) := by decide +kernel
theorem dX12_plan_21 : decode cX12_plan 21 = .ok (.ifCond .ne 6, 3) := by decide +kernel
theorem dX12_plan_24 : decode cX12_plan 24 = .ok (.bipush (-102), 2) := by decide +kernel
theorem dX12_plan_26 : decode cX12_plan 26 = .ok (.ireturn, 1) := by decide +kernel
theorem dX12_plan_27 : decode cX12_plan 27 = .ok (.iconst 0, 1) := by decide +kernel
theorem dX12_plan_28 : decode cX12_plan 28 = .ok (.istore_n 3, 1) := by decide +kernel
theorem dX12_plan_29 : decode cX12_plan 29 = .ok (.iconst 0, 1) := by decide +kernel
theorem dX12_plan_30 : decode cX12_plan 30 = .ok (.istore 4, 2) := by decide +kernel
theorem dX12_plan_32 : decode cX12_plan 32 = .ok (.iconst 0, 1) := by decide +kernel
theorem dX12_plan_33 : decode cX12_plan 33 = .ok (.istore 5, 2) := by decide +kernel
theorem dX12_plan_35 : decode cX12_plan 35 = .ok (.iconst 1, 1) := by decide +kernel
theorem dX12_plan_36 : decode cX12_plan 36 = .ok (.istore 6, 2) := by decide +kernel
theorem dX12_plan_38 : decode cX12_plan 38 = .ok (.iload 6, 2) := by decide +kernel
theorem dX12_plan_40 : decode cX12_plan 40 = .ok (.iconst 1, 1) := by decide +kernel
theorem dX12_plan_41 : decode cX12_plan 41 = .ok (.aload_n 0, 1) := by decide +kernel
theorem dX12_plan_42 : decode cX12_plan 42 = .ok (.getfield 472, 3) := by decide +kernel
theorem dX12_plan_45 : decode cX12_plan 45 = .ok (.ishl, 1) := by decide +kernel
theorem dX12_plan_46 : decode cX12_plan 46 = .ok (.if_icmp .ge 153, 3) := by decide +kernel
theorem dX12_plan_49 : decode cX12_plan 49 = .ok (.iconst 0, 1) := by decide +kernel
theorem dX12_plan_50 : decode cX12_plan 50 = .ok (.istore 7, 2) := by decide +kernel
theorem dX12_plan_52 : decode cX12_plan 52 = .ok (.iconst 0, 1) := by decide +kernel
theorem dX12_plan_53 : decode cX12_plan 53 = .ok (.istore 8, 2) := by decide +kernel
theorem dX12_plan_55 : decode cX12_plan 55 = .ok (.iconst 1, 1) := by decide +kernel
theorem dX12_plan_56 : decode cX12_plan 56 = .ok (.istore 9, 2) := by decide +kernel
theorem dX12_plan_58 : decode cX12_plan 58 = .ok (.iconst 0, 1) := by decide +kernel
theorem dX12_plan_59 : decode cX12_plan 59 = .ok (.istore 10, 2) := by decide +kernel
theorem dX12_plan_61 : decode cX12_plan 61 = .ok (.iload 10, 2) := by decide +kernel
theorem dX12_plan_63 : decode cX12_plan 63 = .ok (.aload_n 0, 1) := by decide +kernel
theorem dX12_plan_64 : decode cX12_plan 64 = .ok (.getfield 472, 3) := by decide +kernel
theorem dX12_plan_67 : decode cX12_plan 67 = .ok (.if_icmp .ge 83, 3) := by decide +kernel
theorem dX12_plan_70 : decode cX12_plan 70 = .ok (.iload 6, 2) := by decide +kernel
theorem dX12_plan_72 : decode cX12_plan 72 = .ok (.iload 10, 2) := by decide +kernel
theorem dX12_plan_74 : decode cX12_plan 74 = .ok (.ishr, 1) := by decide +kernel
theorem dX12_plan_75 : decode cX12_plan 75 = .ok (.iconst 1, 1) := by decide +kernel
theorem dX12_plan_76 : decode cX12_plan 76 = .ok (.iand, 1) := by decide +kernel
theorem dX12_plan_77 : decode cX12_plan 77 = .ok (.iconst 1, 1) := by decide +kernel
theorem dX12_plan_78 : decode cX12_plan 78 = .ok (.if_icmp .ne 66, 3) := by decide +kernel
theorem dX12_plan_81 : decode cX12_plan 81 = .ok (.iload 7, 2) := by decide +kernel
theorem dX12_plan_83 : decode cX12_plan 83 = .ok (.aload_n 0, 1) := by decide +kernel
theorem dX12_plan_84 : decode cX12_plan 84 = .ok (.getfield 176, 3) := by decide +kernel
theorem dX12_plan_87 : decode cX12_plan 87 = .ok (.iload 10, 2) := by decide +kernel
theorem dX12_plan_89 : decode cX12_plan 89 = .ok (.iaload, 1) := by decide +kernel
theorem dX12_plan_90 : decode cX12_plan 90 = .ok (.iadd, 1) := by decide +kernel
theorem dX12_plan_91 : decode cX12_plan 91 = .ok (.istore 7, 2) := by decide +kernel
theorem dX12_plan_93 : decode cX12_plan 93 = .ok (.iload 8, 2) := by decide +kernel
theorem dX12_plan_95 : decode cX12_plan 95 = .ok (.aload_n 0, 1) := by decide +kernel
theorem dX12_plan_96 : decode cX12_plan 96 = .ok (.getfield 179, 3) := by decide +kernel
theorem dX12_plan_99 : decode cX12_plan 99 = .ok (.iload 10, 2) := by decide +kernel
theorem dX12_plan_101 : decode cX12_plan 101 = .ok (.iaload, 1) := by decide +kernel
theorem dX12_plan_102 : decode cX12_plan 102 = .ok (.iadd, 1) := by decide +kernel
theorem dX12_plan_103 : decode cX12_plan 103 = .ok (.istore 8, 2) := by decide +kernel
theorem dX12_plan_105 : decode cX12_plan 105 = .ok (.iload 9, 2) := by decide +kernel
theorem dX12_plan_107 : decode cX12_plan 107 = .ok (.ifCond .eq 34, 3) := by decide +kernel
theorem dX12_plan_110 : decode cX12_plan 110 = .ok (.aload_n 0, 1) := by decide +kernel
theorem dX12_plan_111 : decode cX12_plan 111 = .ok (.getfield 182, 3) := by decide +kernel
theorem dX12_plan_114 : decode cX12_plan 114 = .ok (.iload 10, 2) := by decide +kernel
theorem dX12_plan_116 : decode cX12_plan 116 = .ok (.iaload, 1) := by decide +kernel
theorem dX12_plan_117 : decode cX12_plan 117 = .ok (.iconst (-1), 1) := by decide +kernel
theorem dX12_plan_118 : decode cX12_plan 118 = .ok (.if_icmp .eq 19, 3) := by decide +kernel
theorem dX12_plan_121 : decode cX12_plan 121 = .ok (.iload 6, 2) := by decide +kernel
theorem dX12_plan_123 : decode cX12_plan 123 = .ok (.aload_n 0, 1) := by decide +kernel
theorem dX12_plan_124 : decode cX12_plan 124 = .ok (.getfield 182, 3) := by decide +kernel
theorem dX12_plan_127 : decode cX12_plan 127 = .ok (.iload 10, 2) := by decide +kernel
theorem dX12_plan_129 : decode cX12_plan 129 = .ok (.iaload, 1) := by decide +kernel
theorem dX12_plan_130 : decode cX12_plan 130 = .ok (.ishr, 1) := by decide +kernel
theorem dX12_plan_131 : decode cX12_plan 131 = .ok (.iconst 1, 1) := by decide +kernel
theorem dX12_plan_132 : decode cX12_plan 132 = .ok (.iand, 1) := by decide +kernel
theorem dX12_plan_133 : decode cX12_plan 133 = .ok (.iconst 1, 1) := by decide +kernel
theorem dX12_plan_134 : decode cX12_plan 134 = .ok (.if_icmp .ne 7, 3) := by decide +kernel
theorem dX12_plan_137 : decode cX12_plan 137 = .ok (.iconst 1, 1) := by decide +kernel
theorem dX12_plan_138 : decode cX12_plan 138 = .ok (.goto 4, 3) := by decide +kernel
theorem dX12_plan_141 : decode cX12_plan 141 = .ok (.iconst 0, 1) := by decide +kernel
theorem dX12_plan_142 : decode cX12_plan 142 = .ok (.istore 9, 2) := by decide +kernel
theorem dX12_plan_144 : decode cX12_plan 144 = .ok (.iinc 10 1, 3) := by decide +kernel
theorem dX12_plan_147 : decode cX12_plan 147 = .ok (.goto (-86), 3) := by decide +kernel
theorem dX12_plan_150 : decode cX12_plan 150 = .ok (.iload 9, 2) := by decide +kernel
theorem dX12_plan_152 : decode cX12_plan 152 = .ok (.ifCond .eq 41, 3) := by decide +kernel
theorem dX12_plan_155 : decode cX12_plan 155 = .ok (.iload 7, 2) := by decide +kernel
theorem dX12_plan_157 : decode cX12_plan 157 = .ok (.iload_n 1, 1) := by decide +kernel
theorem dX12_plan_158 : decode cX12_plan 158 = .ok (.if_icmp .gt 35, 3) := by decide +kernel
theorem dX12_plan_161 : decode cX12_plan 161 = .ok (.iload 8, 2) := by decide +kernel
theorem dX12_plan_163 : decode cX12_plan 163 = .ok (.iload 4, 2) := by decide +kernel
theorem dX12_plan_165 : decode cX12_plan 165 = .ok (.if_icmp .gt 17, 3) := by decide +kernel
theorem dX12_plan_168 : decode cX12_plan 168 = .ok (.iload 8, 2) := by decide +kernel
theorem dX12_plan_170 : decode cX12_plan 170 = .ok (.iload 4, 2) := by decide +kernel
theorem dX12_plan_172 : decode cX12_plan 172 = .ok (.if_icmp .ne 21, 3) := by decide +kernel
theorem dX12_plan_175 : decode cX12_plan 175 = .ok (.iload 7, 2) := by decide +kernel
theorem dX12_plan_177 : decode cX12_plan 177 = .ok (.iload 5, 2) := by decide +kernel
theorem dX12_plan_179 : decode cX12_plan 179 = .ok (.if_icmp .ge 14, 3) := by decide +kernel
theorem dX12_plan_182 : decode cX12_plan 182 = .ok (.iload 6, 2) := by decide +kernel
theorem dX12_plan_184 : decode cX12_plan 184 = .ok (.istore_n 3, 1) := by decide +kernel
theorem dX12_plan_185 : decode cX12_plan 185 = .ok (.iload 8, 2) := by decide +kernel
theorem dX12_plan_187 : decode cX12_plan 187 = .ok (.istore 4, 2) := by decide +kernel
theorem dX12_plan_189 : decode cX12_plan 189 = .ok (.iload 7, 2) := by decide +kernel
theorem dX12_plan_191 : decode cX12_plan 191 = .ok (.istore 5, 2) := by decide +kernel
theorem dX12_plan_193 : decode cX12_plan 193 = .ok (.iinc 6 1, 3) := by decide +kernel
theorem dX12_plan_196 : decode cX12_plan 196 = .ok (.goto (-158), 3) := by decide +kernel
theorem dX12_plan_199 : decode cX12_plan 199 = .ok (.iload_n 2, 1) := by decide +kernel
theorem dX12_plan_200 : decode cX12_plan 200 = .ok (.ifCond .ne 7, 3) := by decide +kernel
theorem dX12_plan_203 : decode cX12_plan 203 = .ok (.iload_n 3, 1) := by decide +kernel
theorem dX12_plan_204 : decode cX12_plan 204 = .ok (.goto 15, 3) := by decide +kernel
theorem dX12_plan_207 : decode cX12_plan 207 = .ok (.iload_n 2, 1) := by decide +kernel
theorem dX12_plan_208 : decode cX12_plan 208 = .ok (.iconst 1, 1) := by decide +kernel
theorem dX12_plan_209 : decode cX12_plan 209 = .ok (.if_icmp .ne 8, 3) := by decide +kernel
theorem dX12_plan_212 : decode cX12_plan 212 = .ok (.iload 4, 2) := by decide +kernel
theorem dX12_plan_214 : decode cX12_plan 214 = .ok (.goto 5, 3) := by decide +kernel
theorem dX12_plan_217 : decode cX12_plan 217 = .ok (.iload 5, 2) := by decide +kernel
theorem dX12_plan_219 : decode cX12_plan 219 = .ok (.ireturn, 1) := by decide +kernel
theorem dX12_countOf_0 : decode cX12_countOf 0 = .ok (.iconst 0, 1) := by decide +kernel
theorem dX12_countOf_1 : decode cX12_countOf 1 = .ok (.istore_n 2, 1) := by decide +kernel
theorem dX12_countOf_2 : decode cX12_countOf 2 = .ok (.iload_n 1, 1) := by decide +kernel
theorem dX12_countOf_3 : decode cX12_countOf 3 = .ok (.tableswitch 152 0 11 #[61, 66, 71, 76, 112, 117, 122, 127, 132, 137, 142, 147], 61) := by decide +kernel
theorem dX12_countOf_64 : decode cX12_countOf 64 = .ok (.aload_n 0, 1) := by decide +kernel
theorem dX12_countOf_65 : decode cX12_countOf 65 = .ok (.getfield 212, 3) := by decide +kernel
theorem dX12_countOf_68 : decode cX12_countOf 68 = .ok (.ireturn, 1) := by decide +kernel
theorem dX12_countOf_69 : decode cX12_countOf 69 = .ok (.aload_n 0, 1) := by decide +kernel
theorem dX12_countOf_70 : decode cX12_countOf 70 = .ok (.getfield 230, 3) := by decide +kernel
theorem dX12_countOf_73 : decode cX12_countOf 73 = .ok (.ireturn, 1) := by decide +kernel
theorem dX12_countOf_74 : decode cX12_countOf 74 = .ok (.aload_n 0, 1) := by decide +kernel
theorem dX12_countOf_75 : decode cX12_countOf 75 = .ok (.getfield 215, 3) := by decide +kernel
theorem dX12_countOf_78 : decode cX12_countOf 78 = .ok (.ireturn, 1) := by decide +kernel
theorem dX12_countOf_79 : decode cX12_countOf 79 = .ok (.iconst 0, 1) := by decide +kernel
theorem dX12_countOf_80 : decode cX12_countOf 80 = .ok (.istore_n 3, 1) := by decide +kernel
theorem dX12_countOf_81 : decode cX12_countOf 81 = .ok (.iload_n 3, 1) := by decide +kernel
theorem dX12_countOf_82 : decode cX12_countOf 82 = .ok (.aload_n 0, 1) := by decide +kernel
theorem dX12_countOf_83 : decode cX12_countOf 83 = .ok (.getfield 215, 3) := by decide +kernel
theorem dX12_countOf_86 : decode cX12_countOf 86 = .ok (.if_icmp .ge 27, 3) := by decide +kernel
theorem dX12_countOf_89 : decode cX12_countOf 89 = .ok (.iload_n 2, 1) := by decide +kernel
theorem dX12_countOf_90 : decode cX12_countOf 90 = .ok (.aload_n 0, 1) := by decide +kernel
theorem dX12_countOf_91 : decode cX12_countOf 91 = .ok (.getfield 77, 3) := by decide +kernel
theorem dX12_countOf_94 : decode cX12_countOf 94 = .ok (.iload_n 3, 1) := by decide +kernel
theorem dX12_countOf_95 : decode cX12_countOf 95 = .ok (.iaload, 1) := by decide +kernel
theorem dX12_countOf_96 : decode cX12_countOf 96 = .ok (.iconst (-1), 1) := by decide +kernel
theorem dX12_countOf_97 : decode cX12_countOf 97 = .ok (.if_icmp .ne 7, 3) := by decide +kernel
theorem dX12_countOf_100 : decode cX12_countOf 100 = .ok (.iconst 1, 1) := by decide +kernel
theorem dX12_countOf_101 : decode cX12_countOf 101 = .ok (.goto 4, 3) := by decide +kernel
theorem dX12_countOf_104 : decode cX12_countOf 104 = .ok (.iconst 0, 1) := by decide +kernel
theorem dX12_countOf_105 : decode cX12_countOf 105 = .ok (.iadd, 1) := by decide +kernel
theorem dX12_countOf_106 : decode cX12_countOf 106 = .ok (.istore_n 2, 1) := by decide +kernel
theorem dX12_countOf_107 : decode cX12_countOf 107 = .ok (.iinc 3 1, 3) := by decide +kernel
theorem dX12_countOf_110 : decode cX12_countOf 110 = .ok (.goto (-29), 3) := by decide +kernel
theorem dX12_countOf_113 : decode cX12_countOf 113 = .ok (.iload_n 2, 1) := by decide +kernel
theorem dX12_countOf_114 : decode cX12_countOf 114 = .ok (.ireturn, 1) := by decide +kernel
theorem dX12_countOf_115 : decode cX12_countOf 115 = .ok (.aload_n 0, 1) := by decide +kernel
theorem dX12_countOf_116 : decode cX12_countOf 116 = .ok (.getfield 388, 3) := by decide +kernel
theorem dX12_countOf_119 : decode cX12_countOf 119 = .ok (.ireturn, 1) := by decide +kernel
theorem dX12_countOf_120 : decode cX12_countOf 120 = .ok (.aload_n 0, 1) := by decide +kernel
theorem dX12_countOf_121 : decode cX12_countOf 121 = .ok (.getfield 419, 3) := by decide +kernel
theorem dX12_countOf_124 : decode cX12_countOf 124 = .ok (.ireturn, 1) := by decide +kernel
theorem dX12_countOf_125 : decode cX12_countOf 125 = .ok (.aload_n 0, 1) := by decide +kernel
theorem dX12_countOf_126 : decode cX12_countOf 126 = .ok (.getfield 440, 3) := by decide +kernel
theorem dX12_countOf_129 : decode cX12_countOf 129 = .ok (.ireturn, 1) := by decide +kernel
theorem dX12_countOf_130 : decode cX12_countOf 130 = .ok (.aload_n 0, 1) := by decide +kernel
theorem dX12_countOf_131 : decode cX12_countOf 131 = .ok (.invokevirtual 443, 3) := by decide +kernel
theorem dX12_countOf_134 : decode cX12_countOf 134 = .ok (.ireturn, 1) := by decide +kernel
theorem dX12_countOf_135 : decode cX12_countOf 135 = .ok (.aload_n 0, 1) := by decide +kernel
theorem dX12_countOf_136 : decode cX12_countOf 136 = .ok (.getfield 463, 3) := by decide +kernel
theorem dX12_countOf_139 : decode cX12_countOf 139 = .ok (.ireturn, 1) := by decide +kernel
theorem dX12_countOf_140 : decode cX12_countOf 140 = .ok (.aload_n 0, 1) := by decide +kernel
theorem dX12_countOf_141 : decode cX12_countOf 141 = .ok (.getfield 472, 3) := by decide +kernel
theorem dX12_countOf_144 : decode cX12_countOf 144 = .ok (.ireturn, 1) := by decide +kernel
theorem dX12_countOf_145 : decode cX12_countOf 145 = .ok (.aload_n 0, 1) := by decide +kernel
theorem dX12_countOf_146 : decode cX12_countOf 146 = .ok (.getfield 323, 3) := by decide +kernel
theorem dX12_countOf_149 : decode cX12_countOf 149 = .ok (.ireturn, 1) := by decide +kernel
theorem dX12_countOf_150 : decode cX12_countOf 150 = .ok (.aload_n 0, 1) := by decide +kernel
theorem dX12_countOf_151 : decode cX12_countOf 151 = .ok (.getfield 428, 3) := by decide +kernel
theorem dX12_countOf_154 : decode cX12_countOf 154 = .ok (.ireturn, 1) := by decide +kernel
theorem dX12_countOf_155 : decode cX12_countOf 155 = .ok (.bipush (-102), 2) := by decide +kernel
theorem dX12_countOf_157 : decode cX12_countOf 157 = .ok (.ireturn, 1) := by decide +kernel
theorem dX12_count_0 : decode cX12_count 0 = .ok (.aload_n 0, 1) := by decide +kernel
theorem dX12_count_1 : decode cX12_count 1 = .ok (.iload_n 1, 1) := by decide +kernel
theorem dX12_count_2 : decode cX12_count 2 = .ok (.invokevirtual 475, 3) := by decide +kernel
theorem dX12_count_5 : decode cX12_count 5 = .ok (.ireturn, 1) := by decide +kernel
theorem dX12_tell_0 : decode cX12_tell 0 = .ok (.aload_n 0, 1) := by decide +kernel
theorem dX12_tell_1 : decode cX12_tell 1 = .ok (.ldc2_w 478, 3) := by decide +kernel
theorem dX12_tell_4 : decode cX12_tell 4 = .ok (.aload_n 0, 1) := by decide +kernel
theorem dX12_tell_5 : decode cX12_tell 5 = .ok (.getfield 480, 3) := by decide +kernel
theorem dX12_tell_8 : decode cX12_tell 8 = .ok (.lmul, 1) := by decide +kernel
theorem dX12_tell_9 : decode cX12_tell 9 = .ok (.lload_n 1, 1) := by decide +kernel
theorem dX12_tell_10 : decode cX12_tell 10 = .ok (.ladd, 1) := by decide +kernel
theorem dX12_tell_11 : decode cX12_tell 11 = .ok (.putfield 480, 3) := by decide +kernel
theorem dX12_tell_14 : decode cX12_tell 14 = .ok (.return_, 1) := by decide +kernel
theorem dX12_tellLine_0 : decode cX12_tellLine 0 = .ok (.aload_n 0, 1) := by decide +kernel
theorem dX12_tellLine_1 : decode cX12_tellLine 1 = .ok (.aload_n 0, 1) := by decide +kernel
theorem dX12_tellLine_2 : decode cX12_tellLine 2 = .ok (.getfield 185, 3) := by decide +kernel
theorem dX12_tellLine_5 : decode cX12_tellLine 5 = .ok (.i2l, 1) := by decide +kernel
theorem dX12_tellLine_6 : decode cX12_tellLine 6 = .ok (.invokevirtual 483, 3) := by decide +kernel
theorem dX12_tellLine_9 : decode cX12_tellLine 9 = .ok (.iconst 0, 1) := by decide +kernel
theorem dX12_tellLine_10 : decode cX12_tellLine 10 = .ok (.istore_n 1, 1) := by decide +kernel
theorem dX12_tellLine_11 : decode cX12_tellLine 11 = .ok (.iload_n 1, 1) := by decide +kernel
theorem dX12_tellLine_12 : decode cX12_tellLine 12 = .ok (.bipush 8, 2) := by decide +kernel
theorem dX12_tellLine_14 : decode cX12_tellLine 14 = .ok (.if_icmp .ge 33, 3) := by decide +kernel
theorem dX12_tellLine_17 : decode cX12_tellLine 17 = .ok (.iconst 0, 1) := by decide +kernel
theorem dX12_tellLine_18 : decode cX12_tellLine 18 = .ok (.istore_n 2, 1) := by decide +kernel
theorem dX12_tellLine_19 : decode cX12_tellLine 19 = .ok (.iload_n 2, 1) := by decide +kernel
theorem dX12_tellLine_20 : decode cX12_tellLine 20 = .ok (.iconst 3, 1) := by decide +kernel
theorem dX12_tellLine_21 : decode cX12_tellLine 21 = .ok (.if_icmp .ge 20, 3) := by decide +kernel
theorem dX12_tellLine_24 : decode cX12_tellLine 24 = .ok (.aload_n 0, 1) := by decide +kernel
theorem dX12_tellLine_25 : decode cX12_tellLine 25 = .ok (.aload_n 0, 1) := by decide +kernel
theorem dX12_tellLine_26 : decode cX12_tellLine 26 = .ok (.iload_n 1, 1) := by decide +kernel
theorem dX12_tellLine_27 : decode cX12_tellLine 27 = .ok (.iload_n 2, 1) := by decide +kernel
theorem dX12_tellLine_28 : decode cX12_tellLine 28 = .ok (.invokevirtual 206, 3) := by decide +kernel
theorem dX12_tellLine_31 : decode cX12_tellLine 31 = .ok (.i2l, 1) := by decide +kernel
theorem dX12_tellLine_32 : decode cX12_tellLine 32 = .ok (.invokevirtual 483, 3) := by decide +kernel
theorem dX12_tellLine_35 : decode cX12_tellLine 35 = .ok (.iinc 2 1, 3) := by decide +kernel
theorem dX12_tellLine_38 : decode cX12_tellLine 38 = .ok (.goto (-19), 3) := by decide +kernel
theorem dX12_tellLine_41 : decode cX12_tellLine 41 = .ok (.iinc 1 1, 3) := by decide +kernel
theorem dX12_tellLine_44 : decode cX12_tellLine 44 = .ok (.goto (-33), 3) := by decide +kernel
theorem dX12_tellLine_47 : decode cX12_tellLine 47 = .ok (.iconst 0, 1) := by decide +kernel
theorem dX12_tellLine_48 : decode cX12_tellLine 48 = .ok (.istore_n 1, 1) := by decide +kernel
theorem dX12_tellLine_49 : decode cX12_tellLine 49 = .ok (.iload_n 1, 1) := by decide +kernel
theorem dX12_tellLine_50 : decode cX12_tellLine 50 = .ok (.bipush 7, 2) := by decide +kernel
theorem dX12_tellLine_52 : decode cX12_tellLine 52 = .ok (.if_icmp .ge 73, 3) := by decide +kernel
theorem dX12_tellLine_55 : decode cX12_tellLine 55 = .ok (.aload_n 0, 1) := by decide +kernel
theorem dX12_tellLine_56 : decode cX12_tellLine 56 = .ok (.aload_n 0, 1) := by decide +kernel
theorem dX12_tellLine_57 : decode cX12_tellLine 57 = .ok (.getfield 19, 3) := by decide +kernel
theorem dX12_tellLine_60 : decode cX12_tellLine 60 = .ok (.iload_n 1, 1) := by decide +kernel
theorem dX12_tellLine_61 : decode cX12_tellLine 61 = .ok (.iaload, 1) := by decide +kernel
theorem dX12_tellLine_62 : decode cX12_tellLine 62 = .ok (.i2l, 1) := by decide +kernel
theorem dX12_tellLine_63 : decode cX12_tellLine 63 = .ok (.invokevirtual 483, 3) := by decide +kernel
theorem dX12_tellLine_66 : decode cX12_tellLine 66 = .ok (.aload_n 0, 1) := by decide +kernel
theorem dX12_tellLine_67 : decode cX12_tellLine 67 = .ok (.aload_n 0, 1) := by decide +kernel
theorem dX12_tellLine_68 : decode cX12_tellLine 68 = .ok (.getfield 22, 3) := by decide +kernel
theorem dX12_tellLine_71 : decode cX12_tellLine 71 = .ok (.iload_n 1, 1) := by decide +kernel
theorem dX12_tellLine_72 : decode cX12_tellLine 72 = .ok (.baload, 1) := by decide +kernel
theorem dX12_tellLine_73 : decode cX12_tellLine 73 = .ok (.ifCond .eq 7, 3) := by decide +kernel
theorem dX12_tellLine_76 : decode cX12_tellLine 76 = .ok (.lconst 1, 1) := by decide +kernel
theorem dX12_tellLine_77 : decode cX12_tellLine 77 = .ok (.goto 4, 3) := by decide +kernel
theorem dX12_tellLine_80 : decode cX12_tellLine 80 = .ok (.lconst 0, 1) := by decide +kernel
theorem dX12_tellLine_81 : decode cX12_tellLine 81 = .ok (.invokevirtual 483, 3) := by decide +kernel
theorem dX12_tellLine_84 : decode cX12_tellLine 84 = .ok (.aload_n 0, 1) := by decide +kernel
theorem dX12_tellLine_85 : decode cX12_tellLine 85 = .ok (.aload_n 0, 1) := by decide +kernel
theorem dX12_tellLine_86 : decode cX12_tellLine 86 = .ok (.getfield 26, 3) := by decide +kernel
theorem dX12_tellLine_89 : decode cX12_tellLine 89 = .ok (.iload_n 1, 1) := by decide +kernel
theorem dX12_tellLine_90 : decode cX12_tellLine 90 = .ok (.iaload, 1) := by decide +kernel
theorem dX12_tellLine_91 : decode cX12_tellLine 91 = .ok (.i2l, 1) := by decide +kernel
theorem dX12_tellLine_92 : decode cX12_tellLine 92 = .ok (.invokevirtual 483, 3) := by decide +kernel
theorem dX12_tellLine_95 : decode cX12_tellLine 95 = .ok (.iconst 0, 1) := by decide +kernel
theorem dX12_tellLine_96 : decode cX12_tellLine 96 = .ok (.istore_n 2, 1) := by decide +kernel
theorem dX12_tellLine_97 : decode cX12_tellLine 97 = .ok (.iload_n 2, 1) := by decide +kernel
theorem dX12_tellLine_98 : decode cX12_tellLine 98 = .ok (.iconst 4, 1) := by decide +kernel
theorem dX12_tellLine_99 : decode cX12_tellLine 99 = .ok (.if_icmp .ge 20, 3) := by decide +kernel
theorem dX12_tellLine_102 : decode cX12_tellLine 102 = .ok (.aload_n 0, 1) := by decide +kernel
theorem dX12_tellLine_103 : decode cX12_tellLine 103 = .ok (.aload_n 0, 1) := by decide +kernel
theorem dX12_tellLine_104 : decode cX12_tellLine 104 = .ok (.iload_n 1, 1) := by decide +kernel
theorem dX12_tellLine_105 : decode cX12_tellLine 105 = .ok (.iload_n 2, 1) := by decide +kernel
theorem dX12_tellLine_106 : decode cX12_tellLine 106 = .ok (.invokevirtual 310, 3) := by decide +kernel
theorem dX12_tellLine_109 : decode cX12_tellLine 109 = .ok (.i2l, 1) := by decide +kernel
theorem dX12_tellLine_110 : decode cX12_tellLine 110 = .ok (.invokevirtual 483, 3) := by decide +kernel
theorem dX12_tellLine_113 : decode cX12_tellLine 113 = .ok (.iinc 2 1, 3) := by decide +kernel
theorem dX12_tellLine_116 : decode cX12_tellLine 116 = .ok (.goto (-19), 3) := by decide +kernel
theorem dX12_tellLine_119 : decode cX12_tellLine 119 = .ok (.iinc 1 1, 3) := by decide +kernel
theorem dX12_tellLine_122 : decode cX12_tellLine 122 = .ok (.goto (-73), 3) := by decide +kernel
theorem dX12_tellLine_125 : decode cX12_tellLine 125 = .ok (.iconst 0, 1) := by decide +kernel
theorem dX12_tellLine_126 : decode cX12_tellLine 126 = .ok (.istore_n 1, 1) := by decide +kernel
theorem dX12_tellLine_127 : decode cX12_tellLine 127 = .ok (.iload_n 1, 1) := by decide +kernel
theorem dX12_tellLine_128 : decode cX12_tellLine 128 = .ok (.aload_n 0, 1) := by decide +kernel
theorem dX12_tellLine_129 : decode cX12_tellLine 129 = .ok (.getfield 230, 3) := by decide +kernel
theorem dX12_tellLine_132 : decode cX12_tellLine 132 = .ok (.if_icmp .ge 64, 3) := by decide +kernel
theorem dX12_tellLine_135 : decode cX12_tellLine 135 = .ok (.aload_n 0, 1) := by decide +kernel
theorem dX12_tellLine_136 : decode cX12_tellLine 136 = .ok (.aload_n 0, 1) := by decide +kernel
theorem dX12_tellLine_137 : decode cX12_tellLine 137 = .ok (.getfield 41, 3) := by decide +kernel
theorem dX12_tellLine_140 : decode cX12_tellLine 140 = .ok (.iload_n 1, 1) := by decide +kernel
theorem dX12_tellLine_141 : decode cX12_tellLine 141 = .ok (.iaload, 1) := by decide +kernel
theorem dX12_tellLine_142 : decode cX12_tellLine 142 = .ok (.i2l, 1) := by decide +kernel
theorem dX12_tellLine_143 : decode cX12_tellLine 143 = .ok (.invokevirtual 483, 3) := by decide +kernel
theorem dX12_tellLine_146 : decode cX12_tellLine 146 = .ok (.aload_n 0, 1) := by decide +kernel
theorem dX12_tellLine_147 : decode cX12_tellLine 147 = .ok (.aload_n 0, 1) := by decide +kernel
theorem dX12_tellLine_148 : decode cX12_tellLine 148 = .ok (.getfield 44, 3) := by decide +kernel
theorem dX12_tellLine_151 : decode cX12_tellLine 151 = .ok (.iload_n 1, 1) := by decide +kernel
theorem dX12_tellLine_152 : decode cX12_tellLine 152 = .ok (.iaload, 1) := by decide +kernel
theorem dX12_tellLine_153 : decode cX12_tellLine 153 = .ok (.i2l, 1) := by decide +kernel
theorem dX12_tellLine_154 : decode cX12_tellLine 154 = .ok (.invokevirtual 483, 3) := by decide +kernel
theorem dX12_tellLine_157 : decode cX12_tellLine 157 = .ok (.aload_n 0, 1) := by decide +kernel
theorem dX12_tellLine_158 : decode cX12_tellLine 158 = .ok (.aload_n 0, 1) := by decide +kernel
theorem dX12_tellLine_159 : decode cX12_tellLine 159 = .ok (.getfield 47, 3) := by decide +kernel
theorem dX12_tellLine_162 : decode cX12_tellLine 162 = .ok (.iload_n 1, 1) := by decide +kernel
theorem dX12_tellLine_163 : decode cX12_tellLine 163 = .ok (.iaload, 1) := by decide +kernel
theorem dX12_tellLine_164 : decode cX12_tellLine 164 = .ok (.i2l, 1) := by decide +kernel
theorem dX12_tellLine_165 : decode cX12_tellLine 165 = .ok (.invokevirtual 483, 3) := by decide +kernel
theorem dX12_tellLine_168 : decode cX12_tellLine 168 = .ok (.aload_n 0, 1) := by decide +kernel
theorem dX12_tellLine_169 : decode cX12_tellLine 169 = .ok (.aload_n 0, 1) := by decide +kernel
theorem dX12_tellLine_170 : decode cX12_tellLine 170 = .ok (.getfield 50, 3) := by decide +kernel
theorem dX12_tellLine_173 : decode cX12_tellLine 173 = .ok (.iload_n 1, 1) := by decide +kernel
theorem dX12_tellLine_174 : decode cX12_tellLine 174 = .ok (.iaload, 1) := by decide +kernel
theorem dX12_tellLine_175 : decode cX12_tellLine 175 = .ok (.i2l, 1) := by decide +kernel
theorem dX12_tellLine_176 : decode cX12_tellLine 176 = .ok (.invokevirtual 483, 3) := by decide +kernel
theorem dX12_tellLine_179 : decode cX12_tellLine 179 = .ok (.aload_n 0, 1) := by decide +kernel
theorem dX12_tellLine_180 : decode cX12_tellLine 180 = .ok (.aload_n 0, 1) := by decide +kernel
theorem dX12_tellLine_181 : decode cX12_tellLine 181 = .ok (.getfield 53, 3) := by decide +kernel
theorem dX12_tellLine_184 : decode cX12_tellLine 184 = .ok (.iload_n 1, 1) := by decide +kernel
theorem dX12_tellLine_185 : decode cX12_tellLine 185 = .ok (.iaload, 1) := by decide +kernel
theorem dX12_tellLine_186 : decode cX12_tellLine 186 = .ok (.i2l, 1) := by decide +kernel
theorem dX12_tellLine_187 : decode cX12_tellLine 187 = .ok (.invokevirtual 483, 3) := by decide +kernel
theorem dX12_tellLine_190 : decode cX12_tellLine 190 = .ok (.iinc 1 1, 3) := by decide +kernel
theorem dX12_tellLine_193 : decode cX12_tellLine 193 = .ok (.goto (-66), 3) := by decide +kernel
theorem dX12_tellLine_196 : decode cX12_tellLine 196 = .ok (.iconst 0, 1) := by decide +kernel
theorem dX12_tellLine_197 : decode cX12_tellLine 197 = .ok (.istore_n 1, 1) := by decide +kernel
theorem dX12_tellLine_198 : decode cX12_tellLine 198 = .ok (.iload_n 1, 1) := by decide +kernel
theorem dX12_tellLine_199 : decode cX12_tellLine 199 = .ok (.aload_n 0, 1) := by decide +kernel
theorem dX12_tellLine_200 : decode cX12_tellLine 200 = .ok (.getfield 215, 3) := by decide +kernel
theorem dX12_tellLine_203 : decode cX12_tellLine 203 = .ok (.if_icmp .ge 66, 3) := by decide +kernel
theorem dX12_tellLine_206 : decode cX12_tellLine 206 = .ok (.iconst 0, 1) := by decide +kernel
theorem dX12_tellLine_207 : decode cX12_tellLine 207 = .ok (.istore_n 2, 1) := by decide +kernel
theorem dX12_tellLine_208 : decode cX12_tellLine 208 = .ok (.iload_n 2, 1) := by decide +kernel
theorem dX12_tellLine_209 : decode cX12_tellLine 209 = .ok (.iconst 5, 1) := by decide +kernel
theorem dX12_tellLine_210 : decode cX12_tellLine 210 = .ok (.if_icmp .ge 20, 3) := by decide +kernel
theorem dX12_tellLine_213 : decode cX12_tellLine 213 = .ok (.aload_n 0, 1) := by decide +kernel
theorem dX12_tellLine_214 : decode cX12_tellLine 214 = .ok (.aload_n 0, 1) := by decide +kernel
theorem dX12_tellLine_215 : decode cX12_tellLine 215 = .ok (.iload_n 1, 1) := by decide +kernel
theorem dX12_tellLine_216 : decode cX12_tellLine 216 = .ok (.iload_n 2, 1) := by decide +kernel
theorem dX12_tellLine_217 : decode cX12_tellLine 217 = .ok (.invokevirtual 264, 3) := by decide +kernel
theorem dX12_tellLine_220 : decode cX12_tellLine 220 = .ok (.i2l, 1) := by decide +kernel
theorem dX12_tellLine_221 : decode cX12_tellLine 221 = .ok (.invokevirtual 483, 3) := by decide +kernel
theorem dX12_tellLine_224 : decode cX12_tellLine 224 = .ok (.iinc 2 1, 3) := by decide +kernel
theorem dX12_tellLine_227 : decode cX12_tellLine 227 = .ok (.goto (-19), 3) := by decide +kernel
theorem dX12_tellLine_230 : decode cX12_tellLine 230 = .ok (.aload_n 0, 1) := by decide +kernel
theorem dX12_tellLine_231 : decode cX12_tellLine 231 = .ok (.aload_n 0, 1) := by decide +kernel
theorem dX12_tellLine_232 : decode cX12_tellLine 232 = .ok (.getfield 62, 3) := by decide +kernel
theorem dX12_tellLine_235 : decode cX12_tellLine 235 = .ok (.iload_n 1, 1) := by decide +kernel
theorem dX12_tellLine_236 : decode cX12_tellLine 236 = .ok (.iaload, 1) := by decide +kernel
theorem dX12_tellLine_237 : decode cX12_tellLine 237 = .ok (.i2l, 1) := by decide +kernel
theorem dX12_tellLine_238 : decode cX12_tellLine 238 = .ok (.invokevirtual 483, 3) := by decide +kernel
theorem dX12_tellLine_241 : decode cX12_tellLine 241 = .ok (.aload_n 0, 1) := by decide +kernel
theorem dX12_tellLine_242 : decode cX12_tellLine 242 = .ok (.aload_n 0, 1) := by decide +kernel
theorem dX12_tellLine_243 : decode cX12_tellLine 243 = .ok (.getfield 68, 3) := by decide +kernel
theorem dX12_tellLine_246 : decode cX12_tellLine 246 = .ok (.iload_n 1, 1) := by decide +kernel
theorem dX12_tellLine_247 : decode cX12_tellLine 247 = .ok (.iaload, 1) := by decide +kernel
theorem dX12_tellLine_248 : decode cX12_tellLine 248 = .ok (.i2l, 1) := by decide +kernel
theorem dX12_tellLine_249 : decode cX12_tellLine 249 = .ok (.invokevirtual 483, 3) := by decide +kernel
theorem dX12_tellLine_252 : decode cX12_tellLine 252 = .ok (.aload_n 0, 1) := by decide +kernel
theorem dX12_tellLine_253 : decode cX12_tellLine 253 = .ok (.aload_n 0, 1) := by decide +kernel
theorem dX12_tellLine_254 : decode cX12_tellLine 254 = .ok (.getfield 71, 3) := by decide +kernel
theorem dX12_tellLine_257 : decode cX12_tellLine 257 = .ok (.iload_n 1, 1) := by decide +kernel
theorem dX12_tellLine_258 : decode cX12_tellLine 258 = .ok (.iaload, 1) := by decide +kernel
theorem dX12_tellLine_259 : decode cX12_tellLine 259 = .ok (.i2l, 1) := by decide +kernel
theorem dX12_tellLine_260 : decode cX12_tellLine 260 = .ok (.invokevirtual 483, 3) := by decide +kernel
theorem dX12_tellLine_263 : decode cX12_tellLine 263 = .ok (.iinc 1 1, 3) := by decide +kernel
theorem dX12_tellLine_266 : decode cX12_tellLine 266 = .ok (.goto (-68), 3) := by decide +kernel
theorem dX12_tellLine_269 : decode cX12_tellLine 269 = .ok (.iconst 0, 1) := by decide +kernel
theorem dX12_tellLine_270 : decode cX12_tellLine 270 = .ok (.istore_n 1, 1) := by decide +kernel
theorem dX12_tellLine_271 : decode cX12_tellLine 271 = .ok (.iload_n 1, 1) := by decide +kernel
theorem dX12_tellLine_272 : decode cX12_tellLine 272 = .ok (.iconst 5, 1) := by decide +kernel
theorem dX12_tellLine_273 : decode cX12_tellLine 273 = .ok (.if_icmp .ge 18, 3) := by decide +kernel
theorem dX12_tellLine_276 : decode cX12_tellLine 276 = .ok (.aload_n 0, 1) := by decide +kernel
theorem dX12_tellLine_277 : decode cX12_tellLine 277 = .ok (.aload_n 0, 1) := by decide +kernel
theorem dX12_tellLine_278 : decode cX12_tellLine 278 = .ok (.iload_n 1, 1) := by decide +kernel
theorem dX12_tellLine_279 : decode cX12_tellLine 279 = .ok (.invokevirtual 315, 3) := by decide +kernel
theorem dX12_tellLine_282 : decode cX12_tellLine 282 = .ok (.invokevirtual 483, 3) := by decide +kernel
theorem dX12_tellLine_285 : decode cX12_tellLine 285 = .ok (.iinc 1 1, 3) := by decide +kernel
theorem dX12_tellLine_288 : decode cX12_tellLine 288 = .ok (.goto (-17), 3) := by decide +kernel
theorem dX12_tellLine_291 : decode cX12_tellLine 291 = .ok (.return_, 1) := by decide +kernel
theorem dX12_tellMoney_0 : decode cX12_tellMoney 0 = .ok (.iconst 0, 1) := by decide +kernel
theorem dX12_tellMoney_1 : decode cX12_tellMoney 1 = .ok (.istore_n 1, 1) := by decide +kernel
theorem dX12_tellMoney_2 : decode cX12_tellMoney 2 = .ok (.iload_n 1, 1) := by decide +kernel
theorem dX12_tellMoney_3 : decode cX12_tellMoney 3 = .ok (.aload_n 0, 1) := by decide +kernel
theorem dX12_tellMoney_4 : decode cX12_tellMoney 4 = .ok (.getfield 388, 3) := by decide +kernel
theorem dX12_tellMoney_7 : decode cX12_tellMoney 7 = .ok (.if_icmp .ge 42, 3) := by decide +kernel
theorem dX12_tellMoney_10 : decode cX12_tellMoney 10 = .ok (.aload_n 0, 1) := by decide +kernel
theorem dX12_tellMoney_11 : decode cX12_tellMoney 11 = .ok (.aload_n 0, 1) := by decide +kernel
theorem dX12_tellMoney_12 : decode cX12_tellMoney 12 = .ok (.getfield 98, 3) := by decide +kernel
theorem dX12_tellMoney_15 : decode cX12_tellMoney 15 = .ok (.iload_n 1, 1) := by decide +kernel
theorem dX12_tellMoney_16 : decode cX12_tellMoney 16 = .ok (.iaload, 1) := by decide +kernel
theorem dX12_tellMoney_17 : decode cX12_tellMoney 17 = .ok (.i2l, 1) := by decide +kernel
theorem dX12_tellMoney_18 : decode cX12_tellMoney 18 = .ok (.invokevirtual 483, 3) := by decide +kernel
theorem dX12_tellMoney_21 : decode cX12_tellMoney 21 = .ok (.aload_n 0, 1) := by decide +kernel
theorem dX12_tellMoney_22 : decode cX12_tellMoney 22 = .ok (.aload_n 0, 1) := by decide +kernel
theorem dX12_tellMoney_23 : decode cX12_tellMoney 23 = .ok (.getfield 101, 3) := by decide +kernel
theorem dX12_tellMoney_26 : decode cX12_tellMoney 26 = .ok (.iload_n 1, 1) := by decide +kernel
theorem dX12_tellMoney_27 : decode cX12_tellMoney 27 = .ok (.iaload, 1) := by decide +kernel
theorem dX12_tellMoney_28 : decode cX12_tellMoney 28 = .ok (.i2l, 1) := by decide +kernel
theorem dX12_tellMoney_29 : decode cX12_tellMoney 29 = .ok (.invokevirtual 483, 3) := by decide +kernel
theorem dX12_tellMoney_32 : decode cX12_tellMoney 32 = .ok (.aload_n 0, 1) := by decide +kernel
theorem dX12_tellMoney_33 : decode cX12_tellMoney 33 = .ok (.aload_n 0, 1) := by decide +kernel
theorem dX12_tellMoney_34 : decode cX12_tellMoney 34 = .ok (.getfield 95, 3) := by decide +kernel
theorem dX12_tellMoney_37 : decode cX12_tellMoney 37 = .ok (.iload_n 1, 1) := by decide +kernel
theorem dX12_tellMoney_38 : decode cX12_tellMoney 38 = .ok (.iaload, 1) := by decide +kernel
theorem dX12_tellMoney_39 : decode cX12_tellMoney 39 = .ok (.i2l, 1) := by decide +kernel
theorem dX12_tellMoney_40 : decode cX12_tellMoney 40 = .ok (.invokevirtual 483, 3) := by decide +kernel
theorem dX12_tellMoney_43 : decode cX12_tellMoney 43 = .ok (.iinc 1 1, 3) := by decide +kernel
theorem dX12_tellMoney_46 : decode cX12_tellMoney 46 = .ok (.goto (-44), 3) := by decide +kernel
theorem dX12_tellMoney_49 : decode cX12_tellMoney 49 = .ok (.iconst 0, 1) := by decide +kernel
theorem dX12_tellMoney_50 : decode cX12_tellMoney 50 = .ok (.istore_n 1, 1) := by decide +kernel
theorem dX12_tellMoney_51 : decode cX12_tellMoney 51 = .ok (.iload_n 1, 1) := by decide +kernel
theorem dX12_tellMoney_52 : decode cX12_tellMoney 52 = .ok (.aload_n 0, 1) := by decide +kernel
theorem dX12_tellMoney_53 : decode cX12_tellMoney 53 = .ok (.getfield 419, 3) := by decide +kernel
theorem dX12_tellMoney_56 : decode cX12_tellMoney 56 = .ok (.if_icmp .ge 49, 3) := by decide +kernel
theorem dX12_tellMoney_59 : decode cX12_tellMoney 59 = .ok (.aload_n 0, 1) := by decide +kernel
theorem dX12_tellMoney_60 : decode cX12_tellMoney 60 = .ok (.aload_n 0, 1) := by decide +kernel
theorem dX12_tellMoney_61 : decode cX12_tellMoney 61 = .ok (.getfield 125, 3) := by decide +kernel
theorem dX12_tellMoney_64 : decode cX12_tellMoney 64 = .ok (.iload_n 1, 1) := by decide +kernel
theorem dX12_tellMoney_65 : decode cX12_tellMoney 65 = .ok (.baload, 1) := by decide +kernel
theorem dX12_tellMoney_66 : decode cX12_tellMoney 66 = .ok (.ifCond .eq 7, 3) := by decide +kernel
theorem dX12_tellMoney_69 : decode cX12_tellMoney 69 = .ok (.lconst 1, 1) := by decide +kernel
theorem dX12_tellMoney_70 : decode cX12_tellMoney 70 = .ok (.goto 4, 3) := by decide +kernel
theorem dX12_tellMoney_73 : decode cX12_tellMoney 73 = .ok (.lconst 0, 1) := by decide +kernel
theorem dX12_tellMoney_74 : decode cX12_tellMoney 74 = .ok (.invokevirtual 483, 3) := by decide +kernel
theorem dX12_tellMoney_77 : decode cX12_tellMoney 77 = .ok (.aload_n 0, 1) := by decide +kernel
theorem dX12_tellMoney_78 : decode cX12_tellMoney 78 = .ok (.aload_n 0, 1) := by decide +kernel
theorem dX12_tellMoney_79 : decode cX12_tellMoney 79 = .ok (.getfield 128, 3) := by decide +kernel
theorem dX12_tellMoney_82 : decode cX12_tellMoney 82 = .ok (.iload_n 1, 1) := by decide +kernel
theorem dX12_tellMoney_83 : decode cX12_tellMoney 83 = .ok (.iaload, 1) := by decide +kernel
theorem dX12_tellMoney_84 : decode cX12_tellMoney 84 = .ok (.i2l, 1) := by decide +kernel
theorem dX12_tellMoney_85 : decode cX12_tellMoney 85 = .ok (.invokevirtual 483, 3) := by decide +kernel
theorem dX12_tellMoney_88 : decode cX12_tellMoney 88 = .ok (.aload_n 0, 1) := by decide +kernel
theorem dX12_tellMoney_89 : decode cX12_tellMoney 89 = .ok (.aload_n 0, 1) := by decide +kernel
theorem dX12_tellMoney_90 : decode cX12_tellMoney 90 = .ok (.getfield 131, 3) := by decide +kernel
theorem dX12_tellMoney_93 : decode cX12_tellMoney 93 = .ok (.iload_n 1, 1) := by decide +kernel
theorem dX12_tellMoney_94 : decode cX12_tellMoney 94 = .ok (.iaload, 1) := by decide +kernel
theorem dX12_tellMoney_95 : decode cX12_tellMoney 95 = .ok (.i2l, 1) := by decide +kernel
theorem dX12_tellMoney_96 : decode cX12_tellMoney 96 = .ok (.invokevirtual 483, 3) := by decide +kernel
theorem dX12_tellMoney_99 : decode cX12_tellMoney 99 = .ok (.iinc 1 1, 3) := by decide +kernel
theorem dX12_tellMoney_102 : decode cX12_tellMoney 102 = .ok (.goto (-51), 3) := by decide +kernel
theorem dX12_tellMoney_105 : decode cX12_tellMoney 105 = .ok (.iconst 0, 1) := by decide +kernel
theorem dX12_tellMoney_106 : decode cX12_tellMoney 106 = .ok (.istore_n 1, 1) := by decide +kernel
theorem dX12_tellMoney_107 : decode cX12_tellMoney 107 = .ok (.iload_n 1, 1) := by decide +kernel
theorem dX12_tellMoney_108 : decode cX12_tellMoney 108 = .ok (.aload_n 0, 1) := by decide +kernel
theorem dX12_tellMoney_109 : decode cX12_tellMoney 109 = .ok (.getfield 440, 3) := by decide +kernel
theorem dX12_tellMoney_112 : decode cX12_tellMoney 112 = .ok (.if_icmp .ge 31, 3) := by decide +kernel
theorem dX12_tellMoney_115 : decode cX12_tellMoney 115 = .ok (.aload_n 0, 1) := by decide +kernel
theorem dX12_tellMoney_116 : decode cX12_tellMoney 116 = .ok (.aload_n 0, 1) := by decide +kernel
theorem dX12_tellMoney_117 : decode cX12_tellMoney 117 = .ok (.getfield 140, 3) := by decide +kernel
theorem dX12_tellMoney_120 : decode cX12_tellMoney 120 = .ok (.iload_n 1, 1) := by decide +kernel
theorem dX12_tellMoney_121 : decode cX12_tellMoney 121 = .ok (.iaload, 1) := by decide +kernel
theorem dX12_tellMoney_122 : decode cX12_tellMoney 122 = .ok (.i2l, 1) := by decide +kernel
theorem dX12_tellMoney_123 : decode cX12_tellMoney 123 = .ok (.invokevirtual 483, 3) := by decide +kernel
theorem dX12_tellMoney_126 : decode cX12_tellMoney 126 = .ok (.aload_n 0, 1) := by decide +kernel
theorem dX12_tellMoney_127 : decode cX12_tellMoney 127 = .ok (.aload_n 0, 1) := by decide +kernel
theorem dX12_tellMoney_128 : decode cX12_tellMoney 128 = .ok (.getfield 143, 3) := by decide +kernel
theorem dX12_tellMoney_131 : decode cX12_tellMoney 131 = .ok (.iload_n 1, 1) := by decide +kernel
theorem dX12_tellMoney_132 : decode cX12_tellMoney 132 = .ok (.iaload, 1) := by decide +kernel
theorem dX12_tellMoney_133 : decode cX12_tellMoney 133 = .ok (.i2l, 1) := by decide +kernel
theorem dX12_tellMoney_134 : decode cX12_tellMoney 134 = .ok (.invokevirtual 483, 3) := by decide +kernel
theorem dX12_tellMoney_137 : decode cX12_tellMoney 137 = .ok (.iinc 1 1, 3) := by decide +kernel
theorem dX12_tellMoney_140 : decode cX12_tellMoney 140 = .ok (.goto (-33), 3) := by decide +kernel
theorem dX12_tellMoney_143 : decode cX12_tellMoney 143 = .ok (.iconst 0, 1) := by decide +kernel
theorem dX12_tellMoney_144 : decode cX12_tellMoney 144 = .ok (.istore_n 1, 1) := by decide +kernel
theorem dX12_tellMoney_145 : decode cX12_tellMoney 145 = .ok (.iload_n 1, 1) := by decide +kernel
theorem dX12_tellMoney_146 : decode cX12_tellMoney 146 = .ok (.bipush 8, 2) := by decide +kernel
theorem dX12_tellMoney_148 : decode cX12_tellMoney 148 = .ok (.if_icmp .ge 41, 3) := by decide +kernel
theorem dX12_tellMoney_151 : decode cX12_tellMoney 151 = .ok (.aload_n 0, 1) := by decide +kernel
theorem dX12_tellMoney_152 : decode cX12_tellMoney 152 = .ok (.getfield 146, 3) := by decide +kernel
theorem dX12_tellMoney_155 : decode cX12_tellMoney 155 = .ok (.iload_n 1, 1) := by decide +kernel
theorem dX12_tellMoney_156 : decode cX12_tellMoney 156 = .ok (.iaload, 1) := by decide +kernel
theorem dX12_tellMoney_157 : decode cX12_tellMoney 157 = .ok (.iconst (-1), 1) := by decide +kernel
theorem dX12_tellMoney_158 : decode cX12_tellMoney 158 = .ok (.if_icmp .eq 25, 3) := by decide +kernel
theorem dX12_tellMoney_161 : decode cX12_tellMoney 161 = .ok (.aload_n 0, 1) := by decide +kernel
theorem dX12_tellMoney_162 : decode cX12_tellMoney 162 = .ok (.aload_n 0, 1) := by decide +kernel
theorem dX12_tellMoney_163 : decode cX12_tellMoney 163 = .ok (.getfield 146, 3) := by decide +kernel
theorem dX12_tellMoney_166 : decode cX12_tellMoney 166 = .ok (.iload_n 1, 1) := by decide +kernel
theorem dX12_tellMoney_167 : decode cX12_tellMoney 167 = .ok (.iaload, 1) := by decide +kernel
theorem dX12_tellMoney_168 : decode cX12_tellMoney 168 = .ok (.i2l, 1) := by decide +kernel
theorem dX12_tellMoney_169 : decode cX12_tellMoney 169 = .ok (.invokevirtual 483, 3) := by decide +kernel
theorem dX12_tellMoney_172 : decode cX12_tellMoney 172 = .ok (.aload_n 0, 1) := by decide +kernel
theorem dX12_tellMoney_173 : decode cX12_tellMoney 173 = .ok (.aload_n 0, 1) := by decide +kernel
theorem dX12_tellMoney_174 : decode cX12_tellMoney 174 = .ok (.getfield 149, 3) := by decide +kernel
theorem dX12_tellMoney_177 : decode cX12_tellMoney 177 = .ok (.iload_n 1, 1) := by decide +kernel
theorem dX12_tellMoney_178 : decode cX12_tellMoney 178 = .ok (.iaload, 1) := by decide +kernel
theorem dX12_tellMoney_179 : decode cX12_tellMoney 179 = .ok (.i2l, 1) := by decide +kernel
theorem dX12_tellMoney_180 : decode cX12_tellMoney 180 = .ok (.invokevirtual 483, 3) := by decide +kernel
theorem dX12_tellMoney_183 : decode cX12_tellMoney 183 = .ok (.iinc 1 1, 3) := by decide +kernel
theorem dX12_tellMoney_186 : decode cX12_tellMoney 186 = .ok (.goto (-41), 3) := by decide +kernel
theorem dX12_tellMoney_189 : decode cX12_tellMoney 189 = .ok (.iconst 0, 1) := by decide +kernel
theorem dX12_tellMoney_190 : decode cX12_tellMoney 190 = .ok (.istore_n 1, 1) := by decide +kernel
theorem dX12_tellMoney_191 : decode cX12_tellMoney 191 = .ok (.iload_n 1, 1) := by decide +kernel
theorem dX12_tellMoney_192 : decode cX12_tellMoney 192 = .ok (.iconst 4, 1) := by decide +kernel
theorem dX12_tellMoney_193 : decode cX12_tellMoney 193 = .ok (.if_icmp .ge 20, 3) := by decide +kernel
theorem dX12_tellMoney_196 : decode cX12_tellMoney 196 = .ok (.aload_n 0, 1) := by decide +kernel
theorem dX12_tellMoney_197 : decode cX12_tellMoney 197 = .ok (.aload_n 0, 1) := by decide +kernel
theorem dX12_tellMoney_198 : decode cX12_tellMoney 198 = .ok (.getfield 152, 3) := by decide +kernel
theorem dX12_tellMoney_201 : decode cX12_tellMoney 201 = .ok (.iload_n 1, 1) := by decide +kernel
theorem dX12_tellMoney_202 : decode cX12_tellMoney 202 = .ok (.iaload, 1) := by decide +kernel
theorem dX12_tellMoney_203 : decode cX12_tellMoney 203 = .ok (.i2l, 1) := by decide +kernel
theorem dX12_tellMoney_204 : decode cX12_tellMoney 204 = .ok (.invokevirtual 483, 3) := by decide +kernel
theorem dX12_tellMoney_207 : decode cX12_tellMoney 207 = .ok (.iinc 1 1, 3) := by decide +kernel
theorem dX12_tellMoney_210 : decode cX12_tellMoney 210 = .ok (.goto (-19), 3) := by decide +kernel
theorem dX12_tellMoney_213 : decode cX12_tellMoney 213 = .ok (.iconst 0, 1) := by decide +kernel
theorem dX12_tellMoney_214 : decode cX12_tellMoney 214 = .ok (.istore_n 1, 1) := by decide +kernel
theorem dX12_tellMoney_215 : decode cX12_tellMoney 215 = .ok (.iload_n 1, 1) := by decide +kernel
theorem dX12_tellMoney_216 : decode cX12_tellMoney 216 = .ok (.bipush 12, 2) := by decide +kernel
theorem dX12_tellMoney_218 : decode cX12_tellMoney 218 = .ok (.if_icmp .ge 20, 3) := by decide +kernel
theorem dX12_tellMoney_221 : decode cX12_tellMoney 221 = .ok (.aload_n 0, 1) := by decide +kernel
theorem dX12_tellMoney_222 : decode cX12_tellMoney 222 = .ok (.aload_n 0, 1) := by decide +kernel
theorem dX12_tellMoney_223 : decode cX12_tellMoney 223 = .ok (.getfield 158, 3) := by decide +kernel
theorem dX12_tellMoney_226 : decode cX12_tellMoney 226 = .ok (.iload_n 1, 1) := by decide +kernel
theorem dX12_tellMoney_227 : decode cX12_tellMoney 227 = .ok (.iaload, 1) := by decide +kernel
theorem dX12_tellMoney_228 : decode cX12_tellMoney 228 = .ok (.i2l, 1) := by decide +kernel
theorem dX12_tellMoney_229 : decode cX12_tellMoney 229 = .ok (.invokevirtual 483, 3) := by decide +kernel
theorem dX12_tellMoney_232 : decode cX12_tellMoney 232 = .ok (.iinc 1 1, 3) := by decide +kernel
theorem dX12_tellMoney_235 : decode cX12_tellMoney 235 = .ok (.goto (-20), 3) := by decide +kernel
theorem dX12_tellMoney_238 : decode cX12_tellMoney 238 = .ok (.iconst 0, 1) := by decide +kernel
theorem dX12_tellMoney_239 : decode cX12_tellMoney 239 = .ok (.istore_n 1, 1) := by decide +kernel
theorem dX12_tellMoney_240 : decode cX12_tellMoney 240 = .ok (.iload_n 1, 1) := by decide +kernel
theorem dX12_tellMoney_241 : decode cX12_tellMoney 241 = .ok (.bipush 6, 2) := by decide +kernel
theorem dX12_tellMoney_243 : decode cX12_tellMoney 243 = .ok (.if_icmp .ge 21, 3) := by decide +kernel
theorem dX12_tellMoney_246 : decode cX12_tellMoney 246 = .ok (.aload_n 0, 1) := by decide +kernel
theorem dX12_tellMoney_247 : decode cX12_tellMoney 247 = .ok (.aload_n 0, 1) := by decide +kernel
theorem dX12_tellMoney_248 : decode cX12_tellMoney 248 = .ok (.iload_n 1, 1) := by decide +kernel
theorem dX12_tellMoney_249 : decode cX12_tellMoney 249 = .ok (.bipush 99, 2) := by decide +kernel
theorem dX12_tellMoney_251 : decode cX12_tellMoney 251 = .ok (.invokevirtual 466, 3) := by decide +kernel
theorem dX12_tellMoney_254 : decode cX12_tellMoney 254 = .ok (.i2l, 1) := by decide +kernel
theorem dX12_tellMoney_255 : decode cX12_tellMoney 255 = .ok (.invokevirtual 483, 3) := by decide +kernel
theorem dX12_tellMoney_258 : decode cX12_tellMoney 258 = .ok (.iinc 1 1, 3) := by decide +kernel
theorem dX12_tellMoney_261 : decode cX12_tellMoney 261 = .ok (.goto (-21), 3) := by decide +kernel
theorem dX12_tellMoney_264 : decode cX12_tellMoney 264 = .ok (.aload_n 0, 1) := by decide +kernel
theorem dX12_tellMoney_265 : decode cX12_tellMoney 265 = .ok (.aload_n 0, 1) := by decide +kernel
theorem dX12_tellMoney_266 : decode cX12_tellMoney 266 = .ok (.getfield 189, 3) := by decide +kernel
theorem dX12_tellMoney_269 : decode cX12_tellMoney 269 = .ok (.i2l, 1) := by decide +kernel
theorem dX12_tellMoney_270 : decode cX12_tellMoney 270 = .ok (.invokevirtual 483, 3) := by decide +kernel
theorem dX12_tellMoney_273 : decode cX12_tellMoney 273 = .ok (.iconst 0, 1) := by decide +kernel
theorem dX12_tellMoney_274 : decode cX12_tellMoney 274 = .ok (.istore_n 1, 1) := by decide +kernel
theorem dX12_tellMoney_275 : decode cX12_tellMoney 275 = .ok (.iload_n 1, 1) := by decide +kernel
theorem dX12_tellMoney_276 : decode cX12_tellMoney 276 = .ok (.aload_n 0, 1) := by decide +kernel
theorem dX12_tellMoney_277 : decode cX12_tellMoney 277 = .ok (.getfield 472, 3) := by decide +kernel
theorem dX12_tellMoney_280 : decode cX12_tellMoney 280 = .ok (.if_icmp .ge 42, 3) := by decide +kernel
theorem dX12_tellMoney_283 : decode cX12_tellMoney 283 = .ok (.aload_n 0, 1) := by decide +kernel
theorem dX12_tellMoney_284 : decode cX12_tellMoney 284 = .ok (.aload_n 0, 1) := by decide +kernel
theorem dX12_tellMoney_285 : decode cX12_tellMoney 285 = .ok (.getfield 176, 3) := by decide +kernel
theorem dX12_tellMoney_288 : decode cX12_tellMoney 288 = .ok (.iload_n 1, 1) := by decide +kernel
theorem dX12_tellMoney_289 : decode cX12_tellMoney 289 = .ok (.iaload, 1) := by decide +kernel
theorem dX12_tellMoney_290 : decode cX12_tellMoney 290 = .ok (.i2l, 1) := by decide +kernel
theorem dX12_tellMoney_291 : decode cX12_tellMoney 291 = .ok (.invokevirtual 483, 3) := by decide +kernel
theorem dX12_tellMoney_294 : decode cX12_tellMoney 294 = .ok (.aload_n 0, 1) := by decide +kernel
theorem dX12_tellMoney_295 : decode cX12_tellMoney 295 = .ok (.aload_n 0, 1) := by decide +kernel
theorem dX12_tellMoney_296 : decode cX12_tellMoney 296 = .ok (.getfield 179, 3) := by decide +kernel
theorem dX12_tellMoney_299 : decode cX12_tellMoney 299 = .ok (.iload_n 1, 1) := by decide +kernel
theorem dX12_tellMoney_300 : decode cX12_tellMoney 300 = .ok (.iaload, 1) := by decide +kernel
theorem dX12_tellMoney_301 : decode cX12_tellMoney 301 = .ok (.i2l, 1) := by decide +kernel
theorem dX12_tellMoney_302 : decode cX12_tellMoney 302 = .ok (.invokevirtual 483, 3) := by decide +kernel
theorem dX12_tellMoney_305 : decode cX12_tellMoney 305 = .ok (.aload_n 0, 1) := by decide +kernel
theorem dX12_tellMoney_306 : decode cX12_tellMoney 306 = .ok (.aload_n 0, 1) := by decide +kernel
theorem dX12_tellMoney_307 : decode cX12_tellMoney 307 = .ok (.getfield 182, 3) := by decide +kernel
theorem dX12_tellMoney_310 : decode cX12_tellMoney 310 = .ok (.iload_n 1, 1) := by decide +kernel
theorem dX12_tellMoney_311 : decode cX12_tellMoney 311 = .ok (.iaload, 1) := by decide +kernel
theorem dX12_tellMoney_312 : decode cX12_tellMoney 312 = .ok (.i2l, 1) := by decide +kernel
theorem dX12_tellMoney_313 : decode cX12_tellMoney 313 = .ok (.invokevirtual 483, 3) := by decide +kernel
theorem dX12_tellMoney_316 : decode cX12_tellMoney 316 = .ok (.iinc 1 1, 3) := by decide +kernel
theorem dX12_tellMoney_319 : decode cX12_tellMoney 319 = .ok (.goto (-44), 3) := by decide +kernel
theorem dX12_tellMoney_322 : decode cX12_tellMoney 322 = .ok (.return_, 1) := by decide +kernel
theorem dX12_digest_0 : decode cX12_digest 0 = .ok (.aload_n 0, 1) := by decide +kernel
theorem dX12_digest_1 : decode cX12_digest 1 = .ok (.ldc2_w 487, 3) := by decide +kernel
theorem dX12_digest_4 : decode cX12_digest 4 = .ok (.putfield 480, 3) := by decide +kernel
theorem dX12_digest_7 : decode cX12_digest 7 = .ok (.aload_n 0, 1) := by decide +kernel
theorem dX12_digest_8 : decode cX12_digest 8 = .ok (.invokevirtual 489, 3) := by decide +kernel
theorem dX12_digest_11 : decode cX12_digest 11 = .ok (.aload_n 0, 1) := by decide +kernel
theorem dX12_digest_12 : decode cX12_digest 12 = .ok (.invokevirtual 492, 3) := by decide +kernel
theorem dX12_digest_15 : decode cX12_digest 15 = .ok (.iconst 0, 1) := by decide +kernel
theorem dX12_digest_16 : decode cX12_digest 16 = .ok (.istore_n 1, 1) := by decide +kernel
theorem dX12_digest_17 : decode cX12_digest 17 = .ok (.iload_n 1, 1) := by decide +kernel
theorem dX12_digest_18 : decode cX12_digest 18 = .ok (.aload_n 0, 1) := by decide +kernel
theorem dX12_digest_19 : decode cX12_digest 19 = .ok (.getfield 323, 3) := by decide +kernel
theorem dX12_digest_22 : decode cX12_digest 22 = .ok (.if_icmp .ge 20, 3) := by decide +kernel
theorem dX12_digest_25 : decode cX12_digest 25 = .ok (.aload_n 0, 1) := by decide +kernel
theorem dX12_digest_26 : decode cX12_digest 26 = .ok (.aload_n 0, 1) := by decide +kernel
theorem dX12_digest_27 : decode cX12_digest 27 = .ok (.getfield 89, 3) := by decide +kernel
theorem dX12_digest_30 : decode cX12_digest 30 = .ok (.iload_n 1, 1) := by decide +kernel
theorem dX12_digest_31 : decode cX12_digest 31 = .ok (.iaload, 1) := by decide +kernel
theorem dX12_digest_32 : decode cX12_digest 32 = .ok (.i2l, 1) := by decide +kernel
theorem dX12_digest_33 : decode cX12_digest 33 = .ok (.invokevirtual 483, 3) := by decide +kernel
theorem dX12_digest_36 : decode cX12_digest 36 = .ok (.iinc 1 1, 3) := by decide +kernel
theorem dX12_digest_39 : decode cX12_digest 39 = .ok (.goto (-22), 3) := by decide +kernel
theorem dX12_digest_42 : decode cX12_digest 42 = .ok (.iconst 0, 1) := by decide +kernel
theorem dX12_digest_43 : decode cX12_digest 43 = .ok (.istore_n 1, 1) := by decide +kernel
theorem dX12_digest_44 : decode cX12_digest 44 = .ok (.iload_n 1, 1) := by decide +kernel
theorem dX12_digest_45 : decode cX12_digest 45 = .ok (.bipush 12, 2) := by decide +kernel
theorem dX12_digest_47 : decode cX12_digest 47 = .ok (.if_icmp .ge 19, 3) := by decide +kernel
theorem dX12_digest_50 : decode cX12_digest 50 = .ok (.aload_n 0, 1) := by decide +kernel
theorem dX12_digest_51 : decode cX12_digest 51 = .ok (.aload_n 0, 1) := by decide +kernel
theorem dX12_digest_52 : decode cX12_digest 52 = .ok (.iload_n 1, 1) := by decide +kernel
theorem dX12_digest_53 : decode cX12_digest 53 = .ok (.invokevirtual 475, 3) := by decide +kernel
theorem dX12_digest_56 : decode cX12_digest 56 = .ok (.i2l, 1) := by decide +kernel
theorem dX12_digest_57 : decode cX12_digest 57 = .ok (.invokevirtual 483, 3) := by decide +kernel
theorem dX12_digest_60 : decode cX12_digest 60 = .ok (.iinc 1 1, 3) := by decide +kernel
theorem dX12_digest_63 : decode cX12_digest 63 = .ok (.goto (-19), 3) := by decide +kernel
theorem dX12_digest_66 : decode cX12_digest 66 = .ok (.aload_n 0, 1) := by decide +kernel
theorem dX12_digest_67 : decode cX12_digest 67 = .ok (.getfield 480, 3) := by decide +kernel
theorem dX12_digest_70 : decode cX12_digest 70 = .ok (.lreturn, 1) := by decide +kernel
theorem dJ6_bitCount_0f7a4_0 : decode cJ6_bitCount_0f7a4 0 = .ok (.iload_n 0, 1) := by decide +kernel
theorem dJ6_bitCount_0f7a4_1 : decode cJ6_bitCount_0f7a4 1 = .ok (.iload_n 0, 1) := by decide +kernel
theorem dJ6_bitCount_0f7a4_2 : decode cJ6_bitCount_0f7a4 2 = .ok (.iconst 1, 1) := by decide +kernel
theorem dJ6_bitCount_0f7a4_3 : decode cJ6_bitCount_0f7a4 3 = .ok (.iushr, 1) := by decide +kernel
theorem dJ6_bitCount_0f7a4_4 : decode cJ6_bitCount_0f7a4 4 = .ok (.ldc_w 265, 3) := by decide +kernel
theorem dJ6_bitCount_0f7a4_7 : decode cJ6_bitCount_0f7a4 7 = .ok (.iand, 1) := by decide +kernel
theorem dJ6_bitCount_0f7a4_8 : decode cJ6_bitCount_0f7a4 8 = .ok (.isub, 1) := by decide +kernel
theorem dJ6_bitCount_0f7a4_9 : decode cJ6_bitCount_0f7a4 9 = .ok (.istore_n 0, 1) := by decide +kernel
theorem dJ6_bitCount_0f7a4_10 : decode cJ6_bitCount_0f7a4 10 = .ok (.iload_n 0, 1) := by decide +kernel
theorem dJ6_bitCount_0f7a4_11 : decode cJ6_bitCount_0f7a4 11 = .ok (.ldc_w 266, 3) := by decide +kernel
theorem dJ6_bitCount_0f7a4_14 : decode cJ6_bitCount_0f7a4 14 = .ok (.iand, 1) := by decide +kernel
theorem dJ6_bitCount_0f7a4_15 : decode cJ6_bitCount_0f7a4 15 = .ok (.iload_n 0, 1) := by decide +kernel
theorem dJ6_bitCount_0f7a4_16 : decode cJ6_bitCount_0f7a4 16 = .ok (.iconst 2, 1) := by decide +kernel
theorem dJ6_bitCount_0f7a4_17 : decode cJ6_bitCount_0f7a4 17 = .ok (.iushr, 1) := by decide +kernel
theorem dJ6_bitCount_0f7a4_18 : decode cJ6_bitCount_0f7a4 18 = .ok (.ldc_w 266, 3) := by decide +kernel
theorem dJ6_bitCount_0f7a4_21 : decode cJ6_bitCount_0f7a4 21 = .ok (.iand, 1) := by decide +kernel
theorem dJ6_bitCount_0f7a4_22 : decode cJ6_bitCount_0f7a4 22 = .ok (.iadd, 1) := by decide +kernel
theorem dJ6_bitCount_0f7a4_23 : decode cJ6_bitCount_0f7a4 23 = .ok (.istore_n 0, 1) := by decide +kernel
theorem dJ6_bitCount_0f7a4_24 : decode cJ6_bitCount_0f7a4 24 = .ok (.iload_n 0, 1) := by decide +kernel
theorem dJ6_bitCount_0f7a4_25 : decode cJ6_bitCount_0f7a4 25 = .ok (.iload_n 0, 1) := by decide +kernel
theorem dJ6_bitCount_0f7a4_26 : decode cJ6_bitCount_0f7a4 26 = .ok (.iconst 4, 1) := by decide +kernel
theorem dJ6_bitCount_0f7a4_27 : decode cJ6_bitCount_0f7a4 27 = .ok (.iushr, 1) := by decide +kernel
theorem dJ6_bitCount_0f7a4_28 : decode cJ6_bitCount_0f7a4 28 = .ok (.iadd, 1) := by decide +kernel
theorem dJ6_bitCount_0f7a4_29 : decode cJ6_bitCount_0f7a4 29 = .ok (.ldc_w 267, 3) := by decide +kernel
theorem dJ6_bitCount_0f7a4_32 : decode cJ6_bitCount_0f7a4 32 = .ok (.iand, 1) := by decide +kernel
theorem dJ6_bitCount_0f7a4_33 : decode cJ6_bitCount_0f7a4 33 = .ok (.istore_n 0, 1) := by decide +kernel
theorem dJ6_bitCount_0f7a4_34 : decode cJ6_bitCount_0f7a4 34 = .ok (.iload_n 0, 1) := by decide +kernel
theorem dJ6_bitCount_0f7a4_35 : decode cJ6_bitCount_0f7a4 35 = .ok (.iload_n 0, 1) := by decide +kernel
theorem dJ6_bitCount_0f7a4_36 : decode cJ6_bitCount_0f7a4 36 = .ok (.bipush 8, 2) := by decide +kernel
theorem dJ6_bitCount_0f7a4_38 : decode cJ6_bitCount_0f7a4 38 = .ok (.iushr, 1) := by decide +kernel
theorem dJ6_bitCount_0f7a4_39 : decode cJ6_bitCount_0f7a4 39 = .ok (.iadd, 1) := by decide +kernel
theorem dJ6_bitCount_0f7a4_40 : decode cJ6_bitCount_0f7a4 40 = .ok (.istore_n 0, 1) := by decide +kernel
theorem dJ6_bitCount_0f7a4_41 : decode cJ6_bitCount_0f7a4 41 = .ok (.iload_n 0, 1) := by decide +kernel
theorem dJ6_bitCount_0f7a4_42 : decode cJ6_bitCount_0f7a4 42 = .ok (.iload_n 0, 1) := by decide +kernel
theorem dJ6_bitCount_0f7a4_43 : decode cJ6_bitCount_0f7a4 43 = .ok (.bipush 16, 2) := by decide +kernel
theorem dJ6_bitCount_0f7a4_45 : decode cJ6_bitCount_0f7a4 45 = .ok (.iushr, 1) := by decide +kernel
theorem dJ6_bitCount_0f7a4_46 : decode cJ6_bitCount_0f7a4 46 = .ok (.iadd, 1) := by decide +kernel
theorem dJ6_bitCount_0f7a4_47 : decode cJ6_bitCount_0f7a4 47 = .ok (.istore_n 0, 1) := by decide +kernel
theorem dJ6_bitCount_0f7a4_48 : decode cJ6_bitCount_0f7a4 48 = .ok (.iload_n 0, 1) := by decide +kernel
theorem dJ6_bitCount_0f7a4_49 : decode cJ6_bitCount_0f7a4 49 = .ok (.bipush 63, 2) := by decide +kernel
theorem dJ6_bitCount_0f7a4_51 : decode cJ6_bitCount_0f7a4 51 = .ok (.iand, 1) := by decide +kernel
theorem dJ6_bitCount_0f7a4_52 : decode cJ6_bitCount_0f7a4 52 = .ok (.ireturn, 1) := by decide +kernel
theorem dJ9_abs_0f7a4_0 : decode cJ9_abs_0f7a4 0 = .ok (.iload_n 0, 1) := by decide +kernel
theorem dJ9_abs_0f7a4_1 : decode cJ9_abs_0f7a4 1 = .ok (.ifCond .ge 8, 3) := by decide +kernel
theorem dJ9_abs_0f7a4_4 : decode cJ9_abs_0f7a4 4 = .ok (.iload_n 0, 1) := by decide +kernel
theorem dJ9_abs_0f7a4_5 : decode cJ9_abs_0f7a4 5 = .ok (.ineg, 1) := by decide +kernel
theorem dJ9_abs_0f7a4_6 : decode cJ9_abs_0f7a4 6 = .ok (.goto 4, 3) := by decide +kernel
theorem dJ9_abs_0f7a4_9 : decode cJ9_abs_0f7a4 9 = .ok (.iload_n 0, 1) := by decide +kernel
theorem dJ9_abs_0f7a4_10 : decode cJ9_abs_0f7a4 10 = .ok (.ireturn, 1) := by decide +kernel
theorem dJ9_max_7cf53_0 : decode cJ9_max_7cf53 0 = .ok (.iload_n 0, 1) := by decide +kernel
theorem dJ9_max_7cf53_1 : decode cJ9_max_7cf53 1 = .ok (.iload_n 1, 1) := by decide +kernel
theorem dJ9_max_7cf53_2 : decode cJ9_max_7cf53 2 = .ok (.if_icmp .lt 7, 3) := by decide +kernel
theorem dJ9_max_7cf53_5 : decode cJ9_max_7cf53 5 = .ok (.iload_n 0, 1) := by decide +kernel
theorem dJ9_max_7cf53_6 : decode cJ9_max_7cf53 6 = .ok (.goto 4, 3) := by decide +kernel
theorem dJ9_max_7cf53_9 : decode cJ9_max_7cf53 9 = .ok (.iload_n 1, 1) := by decide +kernel
theorem dJ9_max_7cf53_10 : decode cJ9_max_7cf53 10 = .ok (.ireturn, 1) := by decide +kernel
theorem dJ9_min_7cf53_0 : decode cJ9_min_7cf53 0 = .ok (.iload_n 0, 1) := by decide +kernel
theorem dJ9_min_7cf53_1 : decode cJ9_min_7cf53 1 = .ok (.iload_n 1, 1) := by decide +kernel
theorem dJ9_min_7cf53_2 : decode cJ9_min_7cf53 2 = .ok (.if_icmp .gt 7, 3) := by decide +kernel
theorem dJ9_min_7cf53_5 : decode cJ9_min_7cf53 5 = .ok (.iload_n 0, 1) := by decide +kernel
theorem dJ9_min_7cf53_6 : decode cJ9_min_7cf53 6 = .ok (.goto 4, 3) := by decide +kernel
theorem dJ9_min_7cf53_9 : decode cJ9_min_7cf53 9 = .ok (.iload_n 1, 1) := by decide +kernel
theorem dJ9_min_7cf53_10 : decode cJ9_min_7cf53 10 = .ok (.ireturn, 1) := by decide +kernel
theorem dJ7_fill_53178_0 : decode cJ7_fill_53178 0 = .ok (.iconst 0, 1) := by decide +kernel
theorem dJ7_fill_53178_1 : decode cJ7_fill_53178 1 = .ok (.istore_n 2, 1) := by decide +kernel
theorem dJ7_fill_53178_2 : decode cJ7_fill_53178 2 = .ok (.aload_n 0, 1) := by decide +kernel
theorem dJ7_fill_53178_3 : decode cJ7_fill_53178 3 = .ok (.arraylength, 1) := by decide +kernel
theorem dJ7_fill_53178_4 : decode cJ7_fill_53178 4 = .ok (.istore_n 3, 1) := by decide +kernel
theorem dJ7_fill_53178_5 : decode cJ7_fill_53178 5 = .ok (.iload_n 2, 1) := by decide +kernel
theorem dJ7_fill_53178_6 : decode cJ7_fill_53178 6 = .ok (.iload_n 3, 1) := by decide +kernel
theorem dJ7_fill_53178_7 : decode cJ7_fill_53178 7 = .ok (.if_icmp .ge 13, 3) := by decide +kernel
theorem dJ7_fill_53178_10 : decode cJ7_fill_53178 10 = .ok (.aload_n 0, 1) := by decide +kernel
theorem dJ7_fill_53178_11 : decode cJ7_fill_53178 11 = .ok (.iload_n 2, 1) := by decide +kernel
theorem dJ7_fill_53178_12 : decode cJ7_fill_53178 12 = .ok (.iload_n 1, 1) := by decide +kernel
theorem dJ7_fill_53178_13 : decode cJ7_fill_53178 13 = .ok (.iastore, 1) := by decide +kernel
theorem dJ7_fill_53178_14 : decode cJ7_fill_53178 14 = .ok (.iinc 2 1, 3) := by decide +kernel
theorem dJ7_fill_53178_17 : decode cJ7_fill_53178 17 = .ok (.goto (-12), 3) := by decide +kernel
theorem dJ7_fill_53178_20 : decode cJ7_fill_53178 20 = .ok (.return_, 1) := by decide +kernel
theorem dJ7_copyOf_9075b_0 : decode cJ7_copyOf_9075b 0 = .ok (.iload_n 1, 1) := by decide +kernel
theorem dJ7_copyOf_9075b_1 : decode cJ7_copyOf_9075b 1 = .ok (.aload_n 0, 1) := by decide +kernel
theorem dJ7_copyOf_9075b_2 : decode cJ7_copyOf_9075b 2 = .ok (.arraylength, 1) := by decide +kernel
theorem dJ7_copyOf_9075b_3 : decode cJ7_copyOf_9075b 3 = .ok (.if_icmp .ne 11, 3) := by decide +kernel
theorem dJ7_copyOf_9075b_6 : decode cJ7_copyOf_9075b 6 = .ok (.aload_n 0, 1) := by decide +kernel
theorem dJ7_copyOf_9075b_7 : decode cJ7_copyOf_9075b 7 = .ok (.invokevirtual 310, 3) := by decide +kernel
theorem dJ7_copyOf_9075b_10 : decode cJ7_copyOf_9075b 10 = .ok (.checkcast 311, 3) := by decide +kernel
theorem dJ7_copyOf_9075b_13 : decode cJ7_copyOf_9075b 13 = .ok (.areturn, 1) := by decide +kernel
theorem dJ7_copyOf_9075b_14 : decode cJ7_copyOf_9075b 14 = .ok (.iload_n 1, 1) := by decide +kernel
theorem dJ7_copyOf_9075b_15 : decode cJ7_copyOf_9075b 15 = .ok (.newarray .byte, 2) := by decide +kernel
theorem dJ7_copyOf_9075b_17 : decode cJ7_copyOf_9075b 17 = .ok (.astore_n 2, 1) := by decide +kernel
theorem dJ7_copyOf_9075b_18 : decode cJ7_copyOf_9075b 18 = .ok (.aload_n 0, 1) := by decide +kernel
theorem dJ7_copyOf_9075b_19 : decode cJ7_copyOf_9075b 19 = .ok (.iconst 0, 1) := by decide +kernel
theorem dJ7_copyOf_9075b_20 : decode cJ7_copyOf_9075b 20 = .ok (.aload_n 2, 1) := by decide +kernel
theorem dJ7_copyOf_9075b_21 : decode cJ7_copyOf_9075b 21 = .ok (.iconst 0, 1) := by decide +kernel
theorem dJ7_copyOf_9075b_22 : decode cJ7_copyOf_9075b 22 = .ok (.aload_n 0, 1) := by decide +kernel
theorem dJ7_copyOf_9075b_23 : decode cJ7_copyOf_9075b 23 = .ok (.arraylength, 1) := by decide +kernel
theorem dJ7_copyOf_9075b_24 : decode cJ7_copyOf_9075b 24 = .ok (.iload_n 1, 1) := by decide +kernel
theorem dJ7_copyOf_9075b_25 : decode cJ7_copyOf_9075b 25 = .ok (.invokestatic 304, 3) := by decide +kernel
theorem dJ7_copyOf_9075b_28 : decode cJ7_copyOf_9075b 28 = .ok (.invokestatic 150, 3) := by decide +kernel
theorem dJ7_copyOf_9075b_31 : decode cJ7_copyOf_9075b 31 = .ok (.aload_n 2, 1) := by decide +kernel
theorem dJ7_copyOf_9075b_32 : decode cJ7_copyOf_9075b 32 = .ok (.areturn, 1) := by decide +kernel
