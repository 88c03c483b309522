theorem dX0_init_0 : decode cX0_init 0 = .ok (.aload_n 0, 1) := by decide +kernel
theorem dX0_init_1 : decode cX0_init 1 = .ok (.invokespecial 3, 3) := by decide +kernel
theorem dX0_init_4 : decode cX0_init 4 = .ok (.return_, 1) := by decide +kernel
theorem dX0_begin_0 : decode cX0_begin 0 = .ok (.aload_n 0, 1) := by decide +kernel
theorem dX0_begin_1 : decode cX0_begin 1 = .ok (.iload_n 1, 1) := by decide +kernel
theorem dX0_begin_2 : decode cX0_begin 2 = .ok (.putfield 9, 3) := by decide +kernel
theorem dX0_begin_5 : decode cX0_begin 5 = .ok (.aload_n 0, 1) := by decide +kernel
theorem dX0_begin_6 : decode cX0_begin 6 = .ok (.iload_n 2, 1) := by decide +kernel
theorem dX0_begin_7 : decode cX0_begin 7 = .ok (.putfield 15, 3) := by decide +kernel
theorem dX0_begin_10 : decode cX0_begin 10 = .ok (.aload_n 0, 1) := by decide +kernel
theorem dX0_begin_11 : decode cX0_begin 11 = .ok (.iload_n 3, 1) := by decide +kernel
theorem dX0_begin_12 : decode cX0_begin 12 = .ok (.putfield 18, 3) := by decide +kernel
theorem dX0_begin_15 : decode cX0_begin 15 = .ok (.aload_n 0, 1) := by decide +kernel
theorem dX0_begin_16 : decode cX0_begin 16 = .ok (.iconst 0, 1) := by decide +kernel
theorem dX0_begin_17 : decode cX0_begin 17 = .ok (.putfield 21, 3) := by decide +kernel
theorem dX0_begin_20 : decode cX0_begin 20 = .ok (.aload_n 0, 1) := by decide +kernel
theorem dX0_begin_21 : decode cX0_begin 21 = .ok (.iconst (-1), 1) := by decide +kernel
theorem dX0_begin_22 : decode cX0_begin 22 = .ok (.putfield 24, 3) := by decide +kernel
theorem dX0_begin_25 : decode cX0_begin 25 = .ok (.aload_n 0, 1) := by decide +kernel
theorem dX0_begin_26 : decode cX0_begin 26 = .ok (.iconst 0, 1) := by decide +kernel
theorem dX0_begin_27 : decode cX0_begin 27 = .ok (.putfield 29, 3) := by decide +kernel
theorem dX0_begin_30 : decode cX0_begin 30 = .ok (.aload_n 0, 1) := by decide +kernel
theorem dX0_begin_31 : decode cX0_begin 31 = .ok (.iconst (-1), 1) := by decide +kernel
theorem dX0_begin_32 : decode cX0_begin 32 = .ok (.putfield 32, 3) := by decide +kernel
theorem dX0_begin_35 : decode cX0_begin 35 = .ok (.return_, 1) := by decide +kernel
theorem dX1_init_0 : decode cX1_init 0 = .ok (.aload_n 0, 1) := by decide +kernel
theorem dX1_init_1 : decode cX1_init 1 = .ok (.invokespecial 3, 3) := by decide +kernel
theorem dX1_init_4 : decode cX1_init 4 = .ok (.aload_n 0, 1) := by decide +kernel
theorem dX1_init_5 : decode cX1_init 5 = .ok (.bipush 8, 2) := by decide +kernel
theorem dX1_init_7 : decode cX1_init 7 = .ok (.anewarray 9, 3) := by decide +kernel
theorem dX1_init_10 : decode cX1_init 10 = .ok (.putfield 11, 3) := by decide +kernel
theorem dX1_init_13 : decode cX1_init 13 = .ok (.aload_n 0, 1) := by decide +kernel
theorem dX1_init_14 : decode cX1_init 14 = .ok (.aload_n 1, 1) := by decide +kernel
theorem dX1_init_15 : decode cX1_init 15 = .ok (.putfield 17, 3) := by decide +kernel
theorem dX1_init_18 : decode cX1_init 18 = .ok (.return_, 1) := by decide +kernel
theorem dX1_begin_0 : decode cX1_begin 0 = .ok (.aload_n 0, 1) := by decide +kernel
theorem dX1_begin_1 : decode cX1_begin 1 = .ok (.aload_n 1, 1) := by decide +kernel
theorem dX1_begin_2 : decode cX1_begin 2 = .ok (.putfield 17, 3) := by decide +kernel
theorem dX1_begin_5 : decode cX1_begin 5 = .ok (.aload_n 0, 1) := by decide +kernel
theorem dX1_begin_6 : decode cX1_begin 6 = .ok (.iload_n 2, 1) := by decide +kernel
theorem dX1_begin_7 : decode cX1_begin 7 = .ok (.putfield 21, 3) := by decide +kernel
theorem dX1_begin_10 : decode cX1_begin 10 = .ok (.aload_n 0, 1) := by decide +kernel
theorem dX1_begin_11 : decode cX1_begin 11 = .ok (.iconst 0, 1) := by decide +kernel
theorem dX1_begin_12 : decode cX1_begin 12 = .ok (.putfield 25, 3) := by decide +kernel
theorem dX1_begin_15 : decode cX1_begin 15 = .ok (.iconst 0, 1) := by decide +kernel
theorem dX1_begin_16 : decode cX1_begin 16 = .ok (.istore 4, 2) := by decide +kernel
theorem dX1_begin_18 : decode cX1_begin 18 = .ok (.iload 4, 2) := by decide +kernel
theorem dX1_begin_20 : decode cX1_begin 20 = .ok (.bipush 8, 2) := by decide +kernel
theorem dX1_begin_22 : decode cX1_begin 22 = .ok (.if_icmp .ge 17, 3) := by decide +kernel
theorem dX1_begin_25 : decode cX1_begin 25 = .ok (.aload_n 0, 1) := by decide +kernel
theorem dX1_begin_26 : decode cX1_begin 26 = .ok (.getfield 11, 3) := by decide +kernel
theorem dX1_begin_29 : decode cX1_begin 29 = .ok (.iload 4, 2) := by decide +kernel
theorem dX1_begin_31 : decode cX1_begin 31 = .ok (.aconst_null, 1) := by decide +kernel
theorem dX1_begin_32 : decode cX1_begin 32 = .ok (.aastore, 1) := by decide +kernel
theorem dX1_begin_33 : decode cX1_begin 33 = .ok (.iinc 4 1, 3) := by decide +kernel
theorem dX1_begin_36 : decode cX1_begin 36 = .ok (.goto (-18), 3) := by decide +kernel
theorem dX1_begin_39 : decode cX1_begin 39 = .ok (.aload_n 0, 1) := by decide +kernel
theorem dX1_begin_40 : decode cX1_begin 40 = .ok (.getfield 11, 3) := by decide +kernel
theorem dX1_begin_43 : decode cX1_begin 43 = .ok (.iconst 0, 1) := by decide +kernel
theorem dX1_begin_44 : decode cX1_begin 44 = .ok (.aload_n 3, 1) := by decide +kernel
theorem dX1_begin_45 : decode cX1_begin 45 = .ok (.aastore, 1) := by decide +kernel
theorem dX1_begin_46 : decode cX1_begin 46 = .ok (.return_, 1) := by decide +kernel
theorem dX1_in_0 : decode cX1_in 0 = .ok (.iload_n 1, 1) := by decide +kernel
theorem dX1_in_1 : decode cX1_in 1 = .ok (.bipush 8, 2) := by decide +kernel
theorem dX1_in_3 : decode cX1_in 3 = .ok (.invokestatic 28, 3) := by decide +kernel
theorem dX1_in_6 : decode cX1_in 6 = .ok (.ifCond .eq 12, 3) := by decide +kernel
theorem dX1_in_9 : decode cX1_in 9 = .ok (.aload_n 0, 1) := by decide +kernel
theorem dX1_in_10 : decode cX1_in 10 = .ok (.getfield 11, 3) := by decide +kernel
theorem dX1_in_13 : decode cX1_in 13 = .ok (.iload_n 1, 1) := by decide +kernel
theorem dX1_in_14 : decode cX1_in 14 = .ok (.aaload, 1) := by decide +kernel
theorem dX1_in_15 : decode cX1_in 15 = .ok (.goto 4, 3) := by decide +kernel
theorem dX1_in_18 : decode cX1_in 18 = .ok (.aconst_null, 1) := by decide +kernel
theorem dX1_in_19 : decode cX1_in 19 = .ok (.areturn, 1) := by decide +kernel
theorem dX1_put_0 : decode cX1_put 0 = .ok (.iload_n 1, 1) := by decide +kernel
theorem dX1_put_1 : decode cX1_put 1 = .ok (.bipush 8, 2) := by decide +kernel
theorem dX1_put_3 : decode cX1_put 3 = .ok (.invokestatic 28, 3) := by decide +kernel
theorem dX1_put_6 : decode cX1_put 6 = .ok (.ifCond .eq 10, 3) := by decide +kernel
theorem dX1_put_9 : decode cX1_put 9 = .ok (.aload_n 0, 1) := by decide +kernel
theorem dX1_put_10 : decode cX1_put 10 = .ok (.getfield 11, 3) := by decide +kernel
theorem dX1_put_13 : decode cX1_put 13 = .ok (.iload_n 1, 1) := by decide +kernel
theorem dX1_put_14 : decode cX1_put 14 = .ok (.aload_n 2, 1) := by decide +kernel
theorem dX1_put_15 : decode cX1_put 15 = .ok (.aastore, 1) := by decide +kernel
theorem dX1_put_16 : decode cX1_put 16 = .ok (.return_, 1) := by decide +kernel
theorem dX2_init_0 : decode cX2_init 0 = .ok (.aload_n 0, 1) := by decide +kernel
theorem dX2_init_1 : decode cX2_init 1 = .ok (.invokespecial 3, 3) := by decide +kernel
theorem dX2_init_4 : decode cX2_init 4 = .ok (.aload_n 0, 1) := by decide +kernel
theorem dX2_init_5 : decode cX2_init 5 = .ok (.bipush 16, 2) := by decide +kernel
theorem dX2_init_7 : decode cX2_init 7 = .ok (.newarray .int, 2) := by decide +kernel
theorem dX2_init_9 : decode cX2_init 9 = .ok (.putfield 9, 3) := by decide +kernel
theorem dX2_init_12 : decode cX2_init 12 = .ok (.aload_n 0, 1) := by decide +kernel
theorem dX2_init_13 : decode cX2_init 13 = .ok (.bipush 16, 2) := by decide +kernel
theorem dX2_init_15 : decode cX2_init 15 = .ok (.newarray .int, 2) := by decide +kernel
theorem dX2_init_17 : decode cX2_init 17 = .ok (.putfield 15, 3) := by decide +kernel
theorem dX2_init_20 : decode cX2_init 20 = .ok (.aload_n 0, 1) := by decide +kernel
theorem dX2_init_21 : decode cX2_init 21 = .ok (.bipush 16, 2) := by decide +kernel
theorem dX2_init_23 : decode cX2_init 23 = .ok (.newarray .int, 2) := by decide +kernel
theorem dX2_init_25 : decode cX2_init 25 = .ok (.putfield 18, 3) := by decide +kernel
theorem dX2_init_28 : decode cX2_init 28 = .ok (.aload_n 0, 1) := by decide +kernel
theorem dX2_init_29 : decode cX2_init 29 = .ok (.bipush 16, 2) := by decide +kernel
theorem dX2_init_31 : decode cX2_init 31 = .ok (.newarray .int, 2) := by decide +kernel
theorem dX2_init_33 : decode cX2_init 33 = .ok (.putfield 21, 3) := by decide +kernel
theorem dX2_init_36 : decode cX2_init 36 = .ok (.aload_n 0, 1) := by decide +kernel
theorem dX2_init_37 : decode cX2_init 37 = .ok (.bipush 16, 2) := by decide +kernel
theorem dX2_init_39 : decode cX2_init 39 = .ok (.newarray .int, 2) := by decide +kernel
theorem dX2_init_41 : decode cX2_init 41 = .ok (.putfield 24, 3) := by decide +kernel
theorem dX2_init_44 : decode cX2_init 44 = .ok (.aload_n 0, 1) := by decide +kernel
theorem dX2_init_45 : decode cX2_init 45 = .ok (.bipush 16, 2) := by decide +kernel
theorem dX2_init_47 : decode cX2_init 47 = .ok (.newarray .int, 2) := by decide +kernel
theorem dX2_init_49 : decode cX2_init 49 = .ok (.putfield 27, 3) := by decide +kernel
theorem dX2_init_52 : decode cX2_init 52 = .ok (.return_, 1) := by decide +kernel
theorem dX2_add_0 : decode cX2_add 0 = .ok (.aload_n 0, 1) := by decide +kernel
theorem dX2_add_1 : decode cX2_add 1 = .ok (.getfield 30, 3) := by decide +kernel
theorem dX2_add_4 : decode cX2_add 4 = .ok (.bipush 16, 2) := by decide +kernel
theorem dX2_add_6 : decode cX2_add 6 = .ok (.invokestatic 34, 3) := by decide +kernel
theorem dX2_add_9 : decode cX2_add 9 = .ok (.ifCond .ne 5, 3) := by decide +kernel
theorem dX2_add_12 : decode cX2_add 12 = .ok (.iconst (-1), 1) := by decide +kernel
theorem dX2_add_13 : decode cX2_add 13 = .ok (.ireturn, 1) := by decide +kernel
theorem dX2_add_14 : decode cX2_add 14 = .ok (.aload_n 0, 1) := by decide +kernel
theorem dX2_add_15 : decode cX2_add 15 = .ok (.getfield 9, 3) := by decide +kernel
theorem dX2_add_18 : decode cX2_add 18 = .ok (.aload_n 0, 1) := by decide +kernel
theorem dX2_add_19 : decode cX2_add 19 = .ok (.getfield 30, 3) := by decide +kernel
theorem dX2_add_22 : decode cX2_add 22 = .ok (.iload_n 1, 1) := by decide +kernel
theorem dX2_add_23 : decode cX2_add 23 = .ok (.iastore, 1) := by decide +kernel
theorem dX2_add_24 : decode cX2_add 24 = .ok (.aload_n 0, 1) := by decide +kernel
theorem dX2_add_25 : decode cX2_add 25 = .ok (.getfield 15, 3) := by decide +kernel
theorem dX2_add_28 : decode cX2_add 28 = .ok (.aload_n 0, 1) := by decide +kernel
theorem dX2_add_29 : decode cX2_add 29 = .ok (.getfield 30, 3) := by decide +kernel
theorem dX2_add_32 : decode cX2_add 32 = .ok (.iload_n 2, 1) := by decide +kernel
theorem dX2_add_33 : decode cX2_add 33 = .ok (.iastore, 1) := by decide +kernel
theorem dX2_add_34 : decode cX2_add 34 = .ok (.aload_n 0, 1) := by decide +kernel
theorem dX2_add_35 : decode cX2_add 35 = .ok (.getfield 18, 3) := by decide +kernel
theorem dX2_add_38 : decode cX2_add 38 = .ok (.aload_n 0, 1) := by decide +kernel
theorem dX2_add_39 : decode cX2_add 39 = .ok (.getfield 30, 3) := by decide +kernel
theorem dX2_add_42 : decode cX2_add 42 = .ok (.iload_n 3, 1) := by decide +kernel
theorem dX2_add_43 : decode cX2_add 43 = .ok (.iastore, 1) := by decide +kernel
theorem dX2_add_44 : decode cX2_add 44 = .ok (.aload_n 0, 1) := by decide +kernel
theorem dX2_add_45 : decode cX2_add 45 = .ok (.getfield 21, 3) := by decide +kernel
theorem dX2_add_48 : decode cX2_add 48 = .ok (.aload_n 0, 1) := by decide +kernel
theorem dX2_add_49 : decode cX2_add 49 = .ok (.getfield 30, 3) := by decide +kernel
theorem dX2_add_52 : decode cX2_add 52 = .ok (.iload 4, 2) := by decide +kernel
theorem dX2_add_54 : decode cX2_add 54 = .ok (.iastore, 1) := by decide +kernel
theorem dX2_add_55 : decode cX2_add 55 = .ok (.aload_n 0, 1) := by decide +kernel
theorem dX2_add_56 : decode cX2_add 56 = .ok (.getfield 24, 3) := by decide +kernel
theorem dX2_add_59 : decode cX2_add 59 = .ok (.aload_n 0, 1) := by decide +kernel
theorem dX2_add_60 : decode cX2_add 60 = .ok (.getfield 30, 3) := by decide +kernel
theorem dX2_add_63 : decode cX2_add 63 = .ok (.iconst (-1), 1) := by decide +kernel
theorem dX2_add_64 : decode cX2_add 64 = .ok (.iastore, 1) := by decide +kernel
theorem dX2_add_65 : decode cX2_add 65 = .ok (.aload_n 0, 1) := by decide +kernel
theorem dX2_add_66 : decode cX2_add 66 = .ok (.getfield 27, 3) := by decide +kernel
theorem dX2_add_69 : decode cX2_add 69 = .ok (.aload_n 0, 1) := by decide +kernel
theorem dX2_add_70 : decode cX2_add 70 = .ok (.getfield 30, 3) := by decide +kernel
theorem dX2_add_73 : decode cX2_add 73 = .ok (.iconst (-1), 1) := by decide +kernel
theorem dX2_add_74 : decode cX2_add 74 = .ok (.iastore, 1) := by decide +kernel
theorem dX2_add_75 : decode cX2_add 75 = .ok (.aload_n 0, 1) := by decide +kernel
theorem dX2_add_76 : decode cX2_add 76 = .ok (.dup, 1) := by decide +kernel
theorem dX2_add_77 : decode cX2_add 77 = .ok (.getfield 30, 3) := by decide +kernel
theorem dX2_add_80 : decode cX2_add 80 = .ok (.iconst 1, 1) := by decide +kernel
theorem dX2_add_81 : decode cX2_add 81 = .ok (.iadd, 1) := by decide +kernel
theorem dX2_add_82 : decode cX2_add 82 = .ok (.putfield 30, 3) := by decide +kernel
theorem dX2_add_85 : decode cX2_add 85 = .ok (.aload_n 0, 1) := by decide +kernel
theorem dX2_add_86 : decode cX2_add 86 = .ok (.getfield 30, 3) := by decide +kernel
theorem dX2_add_89 : decode cX2_add 89 = .ok (.iconst 1, 1) := by decide +kernel
theorem dX2_add_90 : decode cX2_add 90 = .ok (.isub, 1) := by decide +kernel
theorem dX2_add_91 : decode cX2_add 91 = .ok (.ireturn, 1) := by decide +kernel
theorem dX2_kindOf_0 : decode cX2_kindOf 0 = .ok (.iload_n 1, 1) := by decide +kernel
theorem dX2_kindOf_1 : decode cX2_kindOf 1 = .ok (.aload_n 0, 1) := by decide +kernel
theorem dX2_kindOf_2 : decode cX2_kindOf 2 = .ok (.getfield 30, 3) := by decide +kernel
theorem dX2_kindOf_5 : decode cX2_kindOf 5 = .ok (.invokestatic 34, 3) := by decide +kernel
theorem dX2_kindOf_8 : decode cX2_kindOf 8 = .ok (.ifCond .eq 12, 3) := by decide +kernel
theorem dX2_kindOf_11 : decode cX2_kindOf 11 = .ok (.aload_n 0, 1) := by decide +kernel
theorem dX2_kindOf_12 : decode cX2_kindOf 12 = .ok (.getfield 9, 3) := by decide +kernel
theorem dX2_kindOf_15 : decode cX2_kindOf 15 = .ok (.iload_n 1, 1) := by decide +kernel
theorem dX2_kindOf_16 : decode cX2_kindOf 16 = .ok (.iaload, 1) := by decide +kernel
theorem dX2_kindOf_17 : decode cX2_kindOf 17 = .ok (.goto 4, 3) := by decide +kernel
theorem dX2_kindOf_20 : decode cX2_kindOf 20 = .ok (.iconst (-1), 1) := by decide +kernel
theorem dX2_kindOf_21 : decode cX2_kindOf 21 = .ok (.ireturn, 1) := by decide +kernel
theorem dX2_giveCause_0 : decode cX2_giveCause 0 = .ok (.iload_n 1, 1) := by decide +kernel
theorem dX2_giveCause_1 : decode cX2_giveCause 1 = .ok (.aload_n 0, 1) := by decide +kernel
theorem dX2_giveCause_2 : decode cX2_giveCause 2 = .ok (.getfield 30, 3) := by decide +kernel
theorem dX2_giveCause_5 : decode cX2_giveCause 5 = .ok (.invokestatic 34, 3) := by decide +kernel
theorem dX2_giveCause_8 : decode cX2_giveCause 8 = .ok (.ifCond .eq 20, 3) := by decide +kernel
theorem dX2_giveCause_11 : decode cX2_giveCause 11 = .ok (.aload_n 0, 1) := by decide +kernel
theorem dX2_giveCause_12 : decode cX2_giveCause 12 = .ok (.getfield 24, 3) := by decide +kernel
theorem dX2_giveCause_15 : decode cX2_giveCause 15 = .ok (.iload_n 1, 1) := by decide +kernel
theorem dX2_giveCause_16 : decode cX2_giveCause 16 = .ok (.iaload, 1) := by decide +kernel
theorem dX2_giveCause_17 : decode cX2_giveCause 17 = .ok (.iconst (-1), 1) := by decide +kernel
theorem dX2_giveCause_18 : decode cX2_giveCause 18 = .ok (.if_icmp .ne 10, 3) := by decide +kernel
theorem dX2_giveCause_21 : decode cX2_giveCause 21 = .ok (.aload_n 0, 1) := by decide +kernel
theorem dX2_giveCause_22 : decode cX2_giveCause 22 = .ok (.getfield 24, 3) := by decide +kernel
theorem dX2_giveCause_25 : decode cX2_giveCause 25 = .ok (.iload_n 1, 1) := by decide +kernel
theorem dX2_giveCause_26 : decode cX2_giveCause 26 = .ok (.iload_n 2, 1) := by decide +kernel
theorem dX2_giveCause_27 : decode cX2_giveCause 27 = .ok (.iastore, 1) := by decide +kernel
theorem dX2_giveCause_28 : decode cX2_giveCause 28 = .ok (.return_, 1) := by decide +kernel
theorem dX2_suppress_0 : decode cX2_suppress 0 = .ok (.iload_n 1, 1) := by decide +kernel
theorem dX2_suppress_1 : decode cX2_suppress 1 = .ok (.aload_n 0, 1) := by decide +kernel
theorem dX2_suppress_2 : decode cX2_suppress 2 = .ok (.getfield 30, 3) := by decide +kernel
theorem dX2_suppress_5 : decode cX2_suppress 5 = .ok (.invokestatic 34, 3) := by decide +kernel
theorem dX2_suppress_8 : decode cX2_suppress 8 = .ok (.ifCond .eq 10, 3) := by decide +kernel
theorem dX2_suppress_11 : decode cX2_suppress 11 = .ok (.aload_n 0, 1) := by decide +kernel
theorem dX2_suppress_12 : decode cX2_suppress 12 = .ok (.getfield 27, 3) := by decide +kernel
theorem dX2_suppress_15 : decode cX2_suppress 15 = .ok (.iload_n 1, 1) := by decide +kernel
theorem dX2_suppress_16 : decode cX2_suppress 16 = .ok (.iload_n 2, 1) := by decide +kernel
theorem dX2_suppress_17 : decode cX2_suppress 17 = .ok (.iastore, 1) := by decide +kernel
theorem dX2_suppress_18 : decode cX2_suppress 18 = .ok (.return_, 1) := by decide +kernel
theorem dX2_told_0 : decode cX2_told 0 = .ok (.iload_n 1, 1) := by decide +kernel
theorem dX2_told_1 : decode cX2_told 1 = .ok (.aload_n 0, 1) := by decide +kernel
theorem dX2_told_2 : decode cX2_told 2 = .ok (.getfield 30, 3) := by decide +kernel
theorem dX2_told_5 : decode cX2_told 5 = .ok (.invokestatic 34, 3) := by decide +kernel
theorem dX2_told_8 : decode cX2_told 8 = .ok (.ifCond .ne 5, 3) := by decide +kernel
theorem dX2_told_11 : decode cX2_told 11 = .ok (.iconst (-1), 1) := by decide +kernel
theorem dX2_told_12 : decode cX2_told 12 = .ok (.ireturn, 1) := by decide +kernel
theorem dX2_told_13 : decode cX2_told 13 = .ok (.iload_n 2, 1) := by decide +kernel
theorem dX2_told_14 : decode cX2_told 14 = .ok (.tableswitch 69 0 4 #[34, 41, 48, 55, 62], 34) := by decide +kernel
theorem dX2_told_48 : decode cX2_told 48 = .ok (.aload_n 0, 1) := by decide +kernel
theorem dX2_told_49 : decode cX2_told 49 = .ok (.getfield 9, 3) := by decide +kernel
theorem dX2_told_52 : decode cX2_told 52 = .ok (.iload_n 1, 1) := by decide +kernel
theorem dX2_told_53 : decode cX2_told 53 = .ok (.iaload, 1) := by decide +kernel
theorem dX2_told_54 : decode cX2_told 54 = .ok (.ireturn, 1) := by decide +kernel
theorem dX2_told_55 : decode cX2_told 55 = .ok (.aload_n 0, 1) := by decide +kernel
theorem dX2_told_56 : decode cX2_told 56 = .ok (.getfield 15, 3) := by decide +kernel
theorem dX2_told_59 : decode cX2_told 59 = .ok (.iload_n 1, 1) := by decide +kernel
theorem dX2_told_60 : decode cX2_told 60 = .ok (.iaload, 1) := by decide +kernel
theorem dX2_told_61 : decode cX2_told 61 = .ok (.ireturn, 1) := by decide +kernel
theorem dX2_told_62 : decode cX2_told 62 = .ok (.aload_n 0, 1) := by decide +kernel
theorem dX2_told_63 : decode cX2_told 63 = .ok (.getfield 18, 3) := by decide +kernel
theorem dX2_told_66 : decode cX2_told 66 = .ok (.iload_n 1, 1) := by decide +kernel
theorem dX2_told_67 : decode cX2_told 67 = .ok (.iaload, 1) := by decide +kernel
theorem dX2_told_68 : decode cX2_told 68 = .ok (.ireturn, 1) := by decide +kernel
theorem dX2_told_69 : decode cX2_told 69 = .ok (.aload_n 0, 1) := by decide +kernel
theorem dX2_told_70 : decode cX2_told 70 = .ok (.getfield 21, 3) := by decide +kernel
theorem dX2_told_73 : decode cX2_told 73 = .ok (.iload_n 1, 1) := by decide +kernel
theorem dX2_told_74 : decode cX2_told 74 = .ok (.iaload, 1) := by decide +kernel
theorem dX2_told_75 : decode cX2_told 75 = .ok (.ireturn, 1) := by decide +kernel
theorem dX2_told_76 : decode cX2_told 76 = .ok (.aload_n 0, 1) := by decide +kernel
theorem dX2_told_77 : decode cX2_told 77 = .ok (.getfield 24, 3) := by decide +kernel
theorem dX2_told_80 : decode cX2_told 80 = .ok (.iload_n 1, 1) := by decide +kernel
theorem dX2_told_81 : decode cX2_told 81 = .ok (.iaload, 1) := by decide +kernel
theorem dX2_told_82 : decode cX2_told 82 = .ok (.ireturn, 1) := by decide +kernel
theorem dX2_told_83 : decode cX2_told 83 = .ok (.aload_n 0, 1) := by decide +kernel
theorem dX2_told_84 : decode cX2_told 84 = .ok (.getfield 27, 3) := by decide +kernel
theorem dX2_told_87 : decode cX2_told 87 = .ok (.iload_n 1, 1) := by decide +kernel
theorem dX2_told_88 : decode cX2_told 88 = .ok (.iaload, 1) := by decide +kernel
theorem dX2_told_89 : decode cX2_told 89 = .ok (.ireturn, 1) := by decide +kernel
theorem dX3_init_0 : decode cX3_init 0 = .ok (.aload_n 0, 1) := by decide +kernel
theorem dX3_init_1 : decode cX3_init 1 = .ok (.invokespecial 3, 3) := by decide +kernel
theorem dX3_init_4 : decode cX3_init 4 = .ok (.aload_n 0, 1) := by decide +kernel
theorem dX3_init_5 : decode cX3_init 5 = .ok (.bipush 60, 2) := by decide +kernel
theorem dX3_init_7 : decode cX3_init 7 = .ok (.anewarray 9, 3) := by decide +kernel
theorem dX3_init_10 : decode cX3_init 10 = .ok (.putfield 11, 3) := by decide +kernel
theorem dX3_init_13 : decode cX3_init 13 = .ok (.aload_n 0, 1) := by decide +kernel
theorem dX3_init_14 : decode cX3_init 14 = .ok (.bipush 60, 2) := by decide +kernel
theorem dX3_init_16 : decode cX3_init 16 = .ok (.newarray .int, 2) := by decide +kernel
theorem dX3_init_18 : decode cX3_init 18 = .ok (.putfield 17, 3) := by decide +kernel
theorem dX3_init_21 : decode cX3_init 21 = .ok (.aload_n 0, 1) := by decide +kernel
theorem dX3_init_22 : decode cX3_init 22 = .ok (.bipush 60, 2) := by decide +kernel
theorem dX3_init_24 : decode cX3_init 24 = .ok (.newarray .int, 2) := by decide +kernel
theorem dX3_init_26 : decode cX3_init 26 = .ok (.putfield 21, 3) := by decide +kernel
theorem dX3_init_29 : decode cX3_init 29 = .ok (.aload_n 0, 1) := by decide +kernel
theorem dX3_init_30 : decode cX3_init 30 = .ok (.bipush 8, 2) := by decide +kernel
theorem dX3_init_32 : decode cX3_init 32 = .ok (.newarray .long, 2) := by decide +kernel
theorem dX3_init_34 : decode cX3_init 34 = .ok (.putfield 24, 3) := by decide +kernel
theorem dX3_init_37 : decode cX3_init 37 = .ok (.aload_n 0, 1) := by decide +kernel
theorem dX3_init_38 : decode cX3_init 38 = .ok (.new 28, 3) := by decide +kernel
theorem dX3_init_41 : decode cX3_init 41 = .ok (.dup, 1) := by decide +kernel
theorem dX3_init_42 : decode cX3_init 42 = .ok (.invokespecial 30, 3) := by decide +kernel
theorem dX3_init_45 : decode cX3_init 45 = .ok (.putfield 31, 3) := by decide +kernel
theorem dX3_init_48 : decode cX3_init 48 = .ok (.aload_n 0, 1) := by decide +kernel
theorem dX3_init_49 : decode cX3_init 49 = .ok (.new 35, 3) := by decide +kernel
theorem dX3_init_52 : decode cX3_init 52 = .ok (.dup, 1) := by decide +kernel
theorem dX3_init_53 : decode cX3_init 53 = .ok (.invokespecial 37, 3) := by decide +kernel
theorem dX3_init_56 : decode cX3_init 56 = .ok (.putfield 38, 3) := by decide +kernel
theorem dX3_init_59 : decode cX3_init 59 = .ok (.return_, 1) := by decide +kernel
theorem dX3_find_0 : decode cX3_find 0 = .ok (.iload_n 1, 1) := by decide +kernel
theorem dX3_find_1 : decode cX3_find 1 = .ok (.aload_n 0, 1) := by decide +kernel
theorem dX3_find_2 : decode cX3_find 2 = .ok (.getfield 42, 3) := by decide +kernel
theorem dX3_find_5 : decode cX3_find 5 = .ok (.invokestatic 46, 3) := by decide +kernel
theorem dX3_find_8 : decode cX3_find 8 = .ok (.ifCond .eq 12, 3) := by decide +kernel
theorem dX3_find_11 : decode cX3_find 11 = .ok (.aload_n 0, 1) := by decide +kernel
theorem dX3_find_12 : decode cX3_find 12 = .ok (.getfield 11, 3) := by decide +kernel
theorem dX3_find_15 : decode cX3_find 15 = .ok (.iload_n 1, 1) := by decide +kernel
theorem dX3_find_16 : decode cX3_find 16 = .ok (.aaload, 1) := by decide +kernel
theorem dX3_find_17 : decode cX3_find 17 = .ok (.goto 4, 3) := by decide +kernel
theorem dX3_find_20 : decode cX3_find 20 = .ok (.aconst_null, 1) := by decide +kernel
theorem dX3_find_21 : decode cX3_find 21 = .ok (.areturn, 1) := by decide +kernel
theorem dX3_findHeld_0 : decode cX3_findHeld 0 = .ok (.iload_n 1, 1) := by decide +kernel
theorem dX3_findHeld_1 : decode cX3_findHeld 1 = .ok (.aload_n 0, 1) := by decide +kernel
theorem dX3_findHeld_2 : decode cX3_findHeld 2 = .ok (.getfield 50, 3) := by decide +kernel
theorem dX3_findHeld_5 : decode cX3_findHeld 5 = .ok (.invokestatic 46, 3) := by decide +kernel
theorem dX3_findHeld_8 : decode cX3_findHeld 8 = .ok (.ifCond .eq 16, 3) := by decide +kernel
theorem dX3_findHeld_11 : decode cX3_findHeld 11 = .ok (.aload_n 0, 1) := by decide +kernel
theorem dX3_findHeld_12 : decode cX3_findHeld 12 = .ok (.aload_n 0, 1) := by decide +kernel
theorem dX3_findHeld_13 : decode cX3_findHeld 13 = .ok (.getfield 21, 3) := by decide +kernel
theorem dX3_findHeld_16 : decode cX3_findHeld 16 = .ok (.iload_n 1, 1) := by decide +kernel
theorem dX3_findHeld_17 : decode cX3_findHeld 17 = .ok (.iaload, 1) := by decide +kernel
theorem dX3_findHeld_18 : decode cX3_findHeld 18 = .ok (.invokevirtual 53, 3) := by decide +kernel
theorem dX3_findHeld_21 : decode cX3_findHeld 21 = .ok (.goto 4, 3) := by decide +kernel
theorem dX3_findHeld_24 : decode cX3_findHeld 24 = .ok (.aconst_null, 1) := by decide +kernel
theorem dX3_findHeld_25 : decode cX3_findHeld 25 = .ok (.areturn, 1) := by decide +kernel
theorem dX3_inCleaning_0 : decode cX3_inCleaning 0 = .ok (.iload_n 1, 1) := by decide +kernel
theorem dX3_inCleaning_1 : decode cX3_inCleaning 1 = .ok (.aload_n 0, 1) := by decide +kernel
theorem dX3_inCleaning_2 : decode cX3_inCleaning 2 = .ok (.getfield 57, 3) := by decide +kernel
theorem dX3_inCleaning_5 : decode cX3_inCleaning 5 = .ok (.invokestatic 46, 3) := by decide +kernel
theorem dX3_inCleaning_8 : decode cX3_inCleaning 8 = .ok (.ifCond .eq 12, 3) := by decide +kernel
theorem dX3_inCleaning_11 : decode cX3_inCleaning 11 = .ok (.aload_n 0, 1) := by decide +kernel
theorem dX3_inCleaning_12 : decode cX3_inCleaning 12 = .ok (.getfield 17, 3) := by decide +kernel
theorem dX3_inCleaning_15 : decode cX3_inCleaning 15 = .ok (.iload_n 1, 1) := by decide +kernel
theorem dX3_inCleaning_16 : decode cX3_inCleaning 16 = .ok (.iaload, 1) := by decide +kernel
theorem dX3_inCleaning_17 : decode cX3_inCleaning 17 = .ok (.goto 4, 3) := by decide +kernel
theorem dX3_inCleaning_20 : decode cX3_inCleaning 20 = .ok (.iconst (-1), 1) := by decide +kernel
theorem dX3_inCleaning_21 : decode cX3_inCleaning 21 = .ok (.ireturn, 1) := by decide +kernel
theorem dX3_takeIn_0 : decode cX3_takeIn 0 = .ok (.aload_n 0, 1) := by decide +kernel
theorem dX3_takeIn_1 : decode cX3_takeIn 1 = .ok (.getfield 42, 3) := by decide +kernel
theorem dX3_takeIn_4 : decode cX3_takeIn 4 = .ok (.bipush 60, 2) := by decide +kernel
theorem dX3_takeIn_6 : decode cX3_takeIn 6 = .ok (.invokestatic 46, 3) := by decide +kernel
theorem dX3_takeIn_9 : decode cX3_takeIn 9 = .ok (.ifCond .ne 6, 3) := by decide +kernel
theorem dX3_takeIn_12 : decode cX3_takeIn 12 = .ok (.bipush (-104), 2) := by decide +kernel
theorem dX3_takeIn_14 : decode cX3_takeIn 14 = .ok (.ireturn, 1) := by decide +kernel
theorem dX3_takeIn_15 : decode cX3_takeIn 15 = .ok (.aload_n 0, 1) := by decide +kernel
theorem dX3_takeIn_16 : decode cX3_takeIn 16 = .ok (.getfield 11, 3) := by decide +kernel
theorem dX3_takeIn_19 : decode cX3_takeIn 19 = .ok (.aload_n 0, 1) := by decide +kernel
theorem dX3_takeIn_20 : decode cX3_takeIn 20 = .ok (.getfield 42, 3) := by decide +kernel
theorem dX3_takeIn_23 : decode cX3_takeIn 23 = .ok (.new 9, 3) := by decide +kernel
theorem dX3_takeIn_26 : decode cX3_takeIn 26 = .ok (.dup, 1) := by decide +kernel
theorem dX3_takeIn_27 : decode cX3_takeIn 27 = .ok (.aload_n 0, 1) := by decide +kernel
theorem dX3_takeIn_28 : decode cX3_takeIn 28 = .ok (.getfield 42, 3) := by decide +kernel
theorem dX3_takeIn_31 : decode cX3_takeIn 31 = .ok (.iload_n 1, 1) := by decide +kernel
theorem dX3_takeIn_32 : decode cX3_takeIn 32 = .ok (.iload_n 2, 1) := by decide +kernel
theorem dX3_takeIn_33 : decode cX3_takeIn 33 = .ok (.invokespecial 60, 3) := by decide +kernel
theorem dX3_takeIn_36 : decode cX3_takeIn 36 = .ok (.aastore, 1) := by decide +kernel
theorem dX3_takeIn_37 : decode cX3_takeIn 37 = .ok (.aload_n 0, 1) := by decide +kernel
theorem dX3_takeIn_38 : decode cX3_takeIn 38 = .ok (.dup, 1) := by decide +kernel
theorem dX3_takeIn_39 : decode cX3_takeIn 39 = .ok (.getfield 42, 3) := by decide +kernel
theorem dX3_takeIn_42 : decode cX3_takeIn 42 = .ok (.iconst 1, 1) := by decide +kernel
theorem dX3_takeIn_43 : decode cX3_takeIn 43 = .ok (.iadd, 1) := by decide +kernel
theorem dX3_takeIn_44 : decode cX3_takeIn 44 = .ok (.putfield 42, 3) := by decide +kernel
theorem dX3_takeIn_47 : decode cX3_takeIn 47 = .ok (.aload_n 0, 1) := by decide +kernel
theorem dX3_takeIn_48 : decode cX3_takeIn 48 = .ok (.getfield 42, 3) := by decide +kernel
theorem dX3_takeIn_51 : decode cX3_takeIn 51 = .ok (.iconst 1, 1) := by decide +kernel
theorem dX3_takeIn_52 : decode cX3_takeIn 52 = .ok (.isub, 1) := by decide +kernel
theorem dX3_takeIn_53 : decode cX3_takeIn 53 = .ok (.ireturn, 1) := by decide +kernel
theorem dX3_firstOnRack_0 : decode cX3_firstOnRack 0 = .ok (.iconst 0, 1) := by decide +kernel
theorem dX3_firstOnRack_1 : decode cX3_firstOnRack 1 = .ok (.istore_n 2, 1) := by decide +kernel
theorem dX3_firstOnRack_2 : decode cX3_firstOnRack 2 = .ok (.iload_n 2, 1) := by decide +kernel
theorem dX3_firstOnRack_3 : decode cX3_firstOnRack 3 = .ok (.aload_n 0, 1) := by decide +kernel
theorem dX3_firstOnRack_4 : decode cX3_firstOnRack 4 = .ok (.getfield 42, 3) := by decide +kernel
theorem dX3_firstOnRack_7 : decode cX3_firstOnRack 7 = .ok (.if_icmp .ge 37, 3) := by decide +kernel
theorem dX3_firstOnRack_10 : decode cX3_firstOnRack 10 = .ok (.aload_n 0, 1) := by decide +kernel
theorem dX3_firstOnRack_11 : decode cX3_firstOnRack 11 = .ok (.getfield 11, 3) := by decide +kernel
theorem dX3_firstOnRack_14 : decode cX3_firstOnRack 14 = .ok (.iload_n 2, 1) := by decide +kernel
theorem dX3_firstOnRack_15 : decode cX3_firstOnRack 15 = .ok (.aaload, 1) := by decide +kernel
theorem dX3_firstOnRack_16 : decode cX3_firstOnRack 16 = .ok (.astore_n 3, 1) := by decide +kernel
theorem dX3_firstOnRack_17 : decode cX3_firstOnRack 17 = .ok (.aload_n 3, 1) := by decide +kernel
theorem dX3_firstOnRack_18 : decode cX3_firstOnRack 18 = .ok (.ifnull 20, 3) := by decide +kernel
theorem dX3_firstOnRack_21 : decode cX3_firstOnRack 21 = .ok (.aload_n 3, 1) := by decide +kernel
theorem dX3_firstOnRack_22 : decode cX3_firstOnRack 22 = .ok (.getfield 63, 3) := by decide +kernel
theorem dX3_firstOnRack_25 : decode cX3_firstOnRack 25 = .ok (.iload_n 1, 1) := by decide +kernel
theorem dX3_firstOnRack_26 : decode cX3_firstOnRack 26 = .ok (.if_icmp .ne 12, 3) := by decide +kernel
theorem dX3_firstOnRack_29 : decode cX3_firstOnRack 29 = .ok (.aload_n 3, 1) := by decide +kernel
theorem dX3_firstOnRack_30 : decode cX3_firstOnRack 30 = .ok (.getfield 66, 3) := by decide +kernel
theorem dX3_firstOnRack_33 : decode cX3_firstOnRack 33 = .ok (.ifCond .ne 5, 3) := by decide +kernel
theorem dX3_firstOnRack_36 : decode cX3_firstOnRack 36 = .ok (.aload_n 3, 1) := by decide +kernel
theorem dX3_firstOnRack_37 : decode cX3_firstOnRack 37 = .ok (.areturn, 1) := by decide +kernel
theorem dX3_firstOnRack_38 : decode cX3_firstOnRack 38 = .ok (.iinc 2 1, 3) := by decide +kernel
theorem dX3_firstOnRack_41 : decode cX3_firstOnRack 41 = .ok (.goto (-39), 3) := by decide +kernel
theorem dX3_firstOnRack_44 : decode cX3_firstOnRack 44 = .ok (.aconst_null, 1) := by decide +kernel
theorem dX3_firstOnRack_45 : decode cX3_firstOnRack 45 = .ok (.areturn, 1) := by decide +kernel
theorem dX3_cleanFirst_0 : decode cX3_cleanFirst 0 = .ok (.iload_n 1, 1) := by decide +kernel
theorem dX3_cleanFirst_1 : decode cX3_cleanFirst 1 = .ok (.aload_n 0, 1) := by decide +kernel
theorem dX3_cleanFirst_2 : decode cX3_cleanFirst 2 = .ok (.getfield 57, 3) := by decide +kernel
theorem dX3_cleanFirst_5 : decode cX3_cleanFirst 5 = .ok (.invokestatic 69, 3) := by decide +kernel
theorem dX3_cleanFirst_8 : decode cX3_cleanFirst 8 = .ok (.istore_n 2, 1) := by decide +kernel
theorem dX3_cleanFirst_9 : decode cX3_cleanFirst 9 = .ok (.iconst 0, 1) := by decide +kernel
theorem dX3_cleanFirst_10 : decode cX3_cleanFirst 10 = .ok (.istore_n 3, 1) := by decide +kernel
theorem dX3_cleanFirst_11 : decode cX3_cleanFirst 11 = .ok (.iload_n 3, 1) := by decide +kernel
theorem dX3_cleanFirst_12 : decode cX3_cleanFirst 12 = .ok (.iload_n 2, 1) := by decide +kernel
theorem dX3_cleanFirst_13 : decode cX3_cleanFirst 13 = .ok (.if_icmp .ge 31, 3) := by decide +kernel
theorem dX3_cleanFirst_16 : decode cX3_cleanFirst 16 = .ok (.aload_n 0, 1) := by decide +kernel
theorem dX3_cleanFirst_17 : decode cX3_cleanFirst 17 = .ok (.aload_n 0, 1) := by decide +kernel
theorem dX3_cleanFirst_18 : decode cX3_cleanFirst 18 = .ok (.iload_n 3, 1) := by decide +kernel
theorem dX3_cleanFirst_19 : decode cX3_cleanFirst 19 = .ok (.invokevirtual 75, 3) := by decide +kernel
theorem dX3_cleanFirst_22 : decode cX3_cleanFirst 22 = .ok (.invokevirtual 53, 3) := by decide +kernel
theorem dX3_cleanFirst_25 : decode cX3_cleanFirst 25 = .ok (.astore 4, 2) := by decide +kernel
theorem dX3_cleanFirst_27 : decode cX3_cleanFirst 27 = .ok (.aload 4, 2) := by decide +kernel
theorem dX3_cleanFirst_29 : decode cX3_cleanFirst 29 = .ok (.ifnull 9, 3) := by decide +kernel
theorem dX3_cleanFirst_32 : decode cX3_cleanFirst 32 = .ok (.aload 4, 2) := by decide +kernel
theorem dX3_cleanFirst_34 : decode cX3_cleanFirst 34 = .ok (.iconst 0, 1) := by decide +kernel
theorem dX3_cleanFirst_35 : decode cX3_cleanFirst 35 = .ok (.putfield 66, 3) := by decide +kernel
theorem dX3_cleanFirst_38 : decode cX3_cleanFirst 38 = .ok (.iinc 3 1, 3) := by decide +kernel
theorem dX3_cleanFirst_41 : decode cX3_cleanFirst 41 = .ok (.goto (-30), 3) := by decide +kernel
theorem dX3_cleanFirst_44 : decode cX3_cleanFirst 44 = .ok (.iload_n 2, 1) := by decide +kernel
theorem dX3_cleanFirst_45 : decode cX3_cleanFirst 45 = .ok (.istore_n 3, 1) := by decide +kernel
theorem dX3_cleanFirst_46 : decode cX3_cleanFirst 46 = .ok (.iload_n 3, 1) := by decide +kernel
theorem dX3_cleanFirst_47 : decode cX3_cleanFirst 47 = .ok (.aload_n 0, 1) := by decide +kernel
theorem dX3_cleanFirst_48 : decode cX3_cleanFirst 48 = .ok (.getfield 57, 3) := by decide +kernel
theorem dX3_cleanFirst_51 : decode cX3_cleanFirst 51 = .ok (.if_icmp .ge 23, 3) := by decide +kernel
theorem dX3_cleanFirst_54 : decode cX3_cleanFirst 54 = .ok (.aload_n 0, 1) := by decide +kernel
theorem dX3_cleanFirst_55 : decode cX3_cleanFirst 55 = .ok (.getfield 17, 3) := by decide +kernel
theorem dX3_cleanFirst_58 : decode cX3_cleanFirst 58 = .ok (.iload_n 3, 1) := by decide +kernel
theorem dX3_cleanFirst_59 : decode cX3_cleanFirst 59 = .ok (.iload_n 2, 1) := by decide +kernel
theorem dX3_cleanFirst_60 : decode cX3_cleanFirst 60 = .ok (.isub, 1) := by decide +kernel
theorem dX3_cleanFirst_61 : decode cX3_cleanFirst 61 = .ok (.aload_n 0, 1) := by decide +kernel
theorem dX3_cleanFirst_62 : decode cX3_cleanFirst 62 = .ok (.getfield 17, 3) := by decide +kernel
theorem dX3_cleanFirst_65 : decode cX3_cleanFirst 65 = .ok (.iload_n 3, 1) := by decide +kernel
theorem dX3_cleanFirst_66 : decode cX3_cleanFirst 66 = .ok (.iaload, 1) := by decide +kernel
theorem dX3_cleanFirst_67 : decode cX3_cleanFirst 67 = .ok (.iastore, 1) := by decide +kernel
theorem dX3_cleanFirst_68 : decode cX3_cleanFirst 68 = .ok (.iinc 3 1, 3) := by decide +kernel
theorem dX3_cleanFirst_71 : decode cX3_cleanFirst 71 = .ok (.goto (-25), 3) := by decide +kernel
theorem dX3_cleanFirst_74 : decode cX3_cleanFirst 74 = .ok (.aload_n 0, 1) := by decide +kernel
theorem dX3_cleanFirst_75 : decode cX3_cleanFirst 75 = .ok (.dup, 1) := by decide +kernel
theorem dX3_cleanFirst_76 : decode cX3_cleanFirst 76 = .ok (.getfield 57, 3) := by decide +kernel
theorem dX3_cleanFirst_79 : decode cX3_cleanFirst 79 = .ok (.iload_n 2, 1) := by decide +kernel
theorem dX3_cleanFirst_80 : decode cX3_cleanFirst 80 = .ok (.isub, 1) := by decide +kernel
theorem dX3_cleanFirst_81 : decode cX3_cleanFirst 81 = .ok (.putfield 57, 3) := by decide +kernel
theorem dX3_cleanFirst_84 : decode cX3_cleanFirst 84 = .ok (.iload_n 2, 1) := by decide +kernel
theorem dX3_cleanFirst_85 : decode cX3_cleanFirst 85 = .ok (.ireturn, 1) := by decide +kernel
theorem dX3_giveOut_0 : decode cX3_giveOut 0 = .ok (.aload_n 1, 1) := by decide +kernel
theorem dX3_giveOut_1 : decode cX3_giveOut 1 = .ok (.iconst 1, 1) := by decide +kernel
theorem dX3_giveOut_2 : decode cX3_giveOut 2 = .ok (.putfield 66, 3) := by decide +kernel
theorem dX3_giveOut_5 : decode cX3_giveOut 5 = .ok (.aload_n 1, 1) := by decide +kernel
theorem dX3_giveOut_6 : decode cX3_giveOut 6 = .ok (.iload_n 2, 1) := by decide +kernel
theorem dX3_giveOut_7 : decode cX3_giveOut 7 = .ok (.putfield 79, 3) := by decide +kernel
theorem dX3_giveOut_10 : decode cX3_giveOut 10 = .ok (.aload_n 1, 1) := by decide +kernel
theorem dX3_giveOut_11 : decode cX3_giveOut 11 = .ok (.iconst 0, 1) := by decide +kernel
theorem dX3_giveOut_12 : decode cX3_giveOut 12 = .ok (.putfield 82, 3) := by decide +kernel
theorem dX3_giveOut_15 : decode cX3_giveOut 15 = .ok (.iload_n 3, 1) := by decide +kernel
theorem dX3_giveOut_16 : decode cX3_giveOut 16 = .ok (.ifCond .eq 38, 3) := by decide +kernel
theorem dX3_giveOut_19 : decode cX3_giveOut 19 = .ok (.aload_n 0, 1) := by decide +kernel
theorem dX3_giveOut_20 : decode cX3_giveOut 20 = .ok (.getfield 50, 3) := by decide +kernel
theorem dX3_giveOut_23 : decode cX3_giveOut 23 = .ok (.bipush 60, 2) := by decide +kernel
theorem dX3_giveOut_25 : decode cX3_giveOut 25 = .ok (.invokestatic 46, 3) := by decide +kernel
theorem dX3_giveOut_28 : decode cX3_giveOut 28 = .ok (.ifCond .eq 26, 3) := by decide +kernel
theorem dX3_giveOut_31 : decode cX3_giveOut 31 = .ok (.aload_n 0, 1) := by decide +kernel
theorem dX3_giveOut_32 : decode cX3_giveOut 32 = .ok (.getfield 21, 3) := by decide +kernel
theorem dX3_giveOut_35 : decode cX3_giveOut 35 = .ok (.aload_n 0, 1) := by decide +kernel
theorem dX3_giveOut_36 : decode cX3_giveOut 36 = .ok (.getfield 50, 3) := by decide +kernel
theorem dX3_giveOut_39 : decode cX3_giveOut 39 = .ok (.aload_n 1, 1) := by decide +kernel
theorem dX3_giveOut_40 : decode cX3_giveOut 40 = .ok (.getfield 85, 3) := by decide +kernel
theorem dX3_giveOut_43 : decode cX3_giveOut 43 = .ok (.iastore, 1) := by decide +kernel
theorem dX3_giveOut_44 : decode cX3_giveOut 44 = .ok (.aload_n 0, 1) := by decide +kernel
theorem dX3_giveOut_45 : decode cX3_giveOut 45 = .ok (.dup, 1) := by decide +kernel
theorem dX3_giveOut_46 : decode cX3_giveOut 46 = .ok (.getfield 50, 3) := by decide +kernel
theorem dX3_giveOut_49 : decode cX3_giveOut 49 = .ok (.iconst 1, 1) := by decide +kernel
theorem dX3_giveOut_50 : decode cX3_giveOut 50 = .ok (.iadd, 1) := by decide +kernel
theorem dX3_giveOut_51 : decode cX3_giveOut 51 = .ok (.putfield 50, 3) := by decide +kernel
theorem dX3_giveOut_54 : decode cX3_giveOut 54 = .ok (.return_, 1) := by decide +kernel
theorem dX3_takeBack_0 : decode cX3_takeBack 0 = .ok (.aload_n 0, 1) := by decide +kernel
theorem dX3_takeBack_1 : decode cX3_takeBack 1 = .ok (.getfield 31, 3) := by decide +kernel
theorem dX3_takeBack_4 : decode cX3_takeBack 4 = .ok (.aload_n 1, 1) := by decide +kernel
theorem dX3_takeBack_5 : decode cX3_takeBack 5 = .ok (.getfield 85, 3) := by decide +kernel
theorem dX3_takeBack_8 : decode cX3_takeBack 8 = .ok (.iconst 1, 1) := by decide +kernel
theorem dX3_takeBack_9 : decode cX3_takeBack 9 = .ok (.invokevirtual 88, 3) := by decide +kernel
theorem dX3_takeBack_12 : decode cX3_takeBack 12 = .ok (.istore_n 3, 1) := by decide +kernel
theorem dX3_takeBack_13 : decode cX3_takeBack 13 = .ok (.aload_n 0, 1) := by decide +kernel
theorem dX3_takeBack_14 : decode cX3_takeBack 14 = .ok (.aload_n 1, 1) := by decide +kernel
theorem dX3_takeBack_15 : decode cX3_takeBack 15 = .ok (.invokevirtual 91, 3) := by decide +kernel
theorem dX3_takeBack_18 : decode cX3_takeBack 18 = .ok (.iload_n 3, 1) := by decide +kernel
theorem dX3_takeBack_19 : decode cX3_takeBack 19 = .ok (.ifCond .eq 16, 3) := by decide +kernel
theorem dX3_takeBack_22 : decode cX3_takeBack 22 = .ok (.aload_n 1, 1) := by decide +kernel
theorem dX3_takeBack_23 : decode cX3_takeBack 23 = .ok (.iconst 3, 1) := by decide +kernel
theorem dX3_takeBack_24 : decode cX3_takeBack 24 = .ok (.putfield 66, 3) := by decide +kernel
theorem dX3_takeBack_27 : decode cX3_takeBack 27 = .ok (.aload_n 0, 1) := by decide +kernel
theorem dX3_takeBack_28 : decode cX3_takeBack 28 = .ok (.aload_n 1, 1) := by decide +kernel
theorem dX3_takeBack_29 : decode cX3_takeBack 29 = .ok (.invokevirtual 95, 3) := by decide +kernel
theorem dX3_takeBack_32 : decode cX3_takeBack 32 = .ok (.goto 13, 3) := by decide +kernel
theorem dX3_takeBack_35 : decode cX3_takeBack 35 = .ok (.aload_n 1, 1) := by decide +kernel
theorem dX3_takeBack_36 : decode cX3_takeBack 36 = .ok (.iconst 2, 1) := by decide +kernel
theorem dX3_takeBack_37 : decode cX3_takeBack 37 = .ok (.putfield 66, 3) := by decide +kernel
theorem dX3_takeBack_40 : decode cX3_takeBack 40 = .ok (.aload_n 0, 1) := by decide +kernel
theorem dX3_takeBack_41 : decode cX3_takeBack 41 = .ok (.aload_n 1, 1) := by decide +kernel
theorem dX3_takeBack_42 : decode cX3_takeBack 42 = .ok (.invokevirtual 98, 3) := by decide +kernel
theorem dX3_takeBack_45 : decode cX3_takeBack 45 = .ok (.aload_n 0, 1) := by decide +kernel
theorem dX3_takeBack_46 : decode cX3_takeBack 46 = .ok (.getfield 38, 3) := by decide +kernel
theorem dX3_takeBack_49 : decode cX3_takeBack 49 = .ok (.aload_n 1, 1) := by decide +kernel
theorem dX3_takeBack_50 : decode cX3_takeBack 50 = .ok (.getfield 85, 3) := by decide +kernel
theorem dX3_takeBack_53 : decode cX3_takeBack 53 = .ok (.iload_n 2, 1) := by decide +kernel
theorem dX3_takeBack_54 : decode cX3_takeBack 54 = .ok (.iload_n 3, 1) := by decide +kernel
theorem dX3_takeBack_55 : decode cX3_takeBack 55 = .ok (.invokevirtual 101, 3) := by decide +kernel
theorem dX3_takeBack_58 : decode cX3_takeBack 58 = .ok (.iload_n 3, 1) := by decide +kernel
theorem dX3_takeBack_59 : decode cX3_takeBack 59 = .ok (.ireturn, 1) := by decide +kernel
theorem dX3_charge_0 : decode cX3_charge 0 = .ok (.aload_n 1, 1) := by decide +kernel
theorem dX3_charge_1 : decode cX3_charge 1 = .ok (.getfield 79, 3) := by decide +kernel
theorem dX3_charge_4 : decode cX3_charge 4 = .ok (.ifCond .lt 29, 3) := by decide +kernel
theorem dX3_charge_7 : decode cX3_charge 7 = .ok (.aload_n 1, 1) := by decide +kernel
theorem dX3_charge_8 : decode cX3_charge 8 = .ok (.getfield 79, 3) := by decide +kernel
theorem dX3_charge_11 : decode cX3_charge 11 = .ok (.bipush 8, 2) := by decide +kernel
theorem dX3_charge_13 : decode cX3_charge 13 = .ok (.if_icmp .ge 20, 3) := by decide +kernel
theorem dX3_charge_16 : decode cX3_charge 16 = .ok (.aload_n 0, 1) := by decide +kernel
theorem dX3_charge_17 : decode cX3_charge 17 = .ok (.getfield 24, 3) := by decide +kernel
theorem dX3_charge_20 : decode cX3_charge 20 = .ok (.aload_n 1, 1) := by decide +kernel
theorem dX3_charge_21 : decode cX3_charge 21 = .ok (.getfield 79, 3) := by decide +kernel
theorem dX3_charge_24 : decode cX3_charge 24 = .ok (.dup2, 1) := by decide +kernel
theorem dX3_charge_25 : decode cX3_charge 25 = .ok (.laload, 1) := by decide +kernel
theorem dX3_charge_26 : decode cX3_charge 26 = .ok (.aload_n 1, 1) := by decide +kernel
theorem dX3_charge_27 : decode cX3_charge 27 = .ok (.getfield 105, 3) := by decide +kernel
theorem dX3_charge_30 : decode cX3_charge 30 = .ok (.i2l, 1) := by decide +kernel
theorem dX3_charge_31 : decode cX3_charge 31 = .ok (.ladd, 1) := by decide +kernel
theorem dX3_charge_32 : decode cX3_charge 32 = .ok (.lastore, 1) := by decide +kernel
theorem dX3_charge_33 : decode cX3_charge 33 = .ok (.return_, 1) := by decide +kernel
theorem dX3_toCleaning_0 : decode cX3_toCleaning 0 = .ok (.aload_n 0, 1) := by decide +kernel
theorem dX3_toCleaning_1 : decode cX3_toCleaning 1 = .ok (.getfield 57, 3) := by decide +kernel
theorem dX3_toCleaning_4 : decode cX3_toCleaning 4 = .ok (.bipush 60, 2) := by decide +kernel
theorem dX3_toCleaning_6 : decode cX3_toCleaning 6 = .ok (.if_icmp .ge 26, 3) := by decide +kernel
theorem dX3_toCleaning_9 : decode cX3_toCleaning 9 = .ok (.aload_n 0, 1) := by decide +kernel
theorem dX3_toCleaning_10 : decode cX3_toCleaning 10 = .ok (.getfield 17, 3) := by decide +kernel
theorem dX3_toCleaning_13 : decode cX3_toCleaning 13 = .ok (.aload_n 0, 1) := by decide +kernel
theorem dX3_toCleaning_14 : decode cX3_toCleaning 14 = .ok (.getfield 57, 3) := by decide +kernel
theorem dX3_toCleaning_17 : decode cX3_toCleaning 17 = .ok (.aload_n 1, 1) := by decide +kernel
theorem dX3_toCleaning_18 : decode cX3_toCleaning 18 = .ok (.getfield 85, 3) := by decide +kernel
theorem dX3_toCleaning_21 : decode cX3_toCleaning 21 = .ok (.iastore, 1) := by decide +kernel
theorem dX3_toCleaning_22 : decode cX3_toCleaning 22 = .ok (.aload_n 0, 1) := by decide +kernel
theorem dX3_toCleaning_23 : decode cX3_toCleaning 23 = .ok (.dup, 1) := by decide +kernel
theorem dX3_toCleaning_24 : decode cX3_toCleaning 24 = .ok (.getfield 57, 3) := by decide +kernel
theorem dX3_toCleaning_27 : decode cX3_toCleaning 27 = .ok (.iconst 1, 1) := by decide +kernel
theorem dX3_toCleaning_28 : decode cX3_toCleaning 28 = .ok (.iadd, 1) := by decide +kernel
theorem dX3_toCleaning_29 : decode cX3_toCleaning 29 = .ok (.putfield 57, 3) := by decide +kernel
theorem dX3_toCleaning_32 : decode cX3_toCleaning 32 = .ok (.return_, 1) := by decide +kernel
theorem dX3_holdNoMore_0 : decode cX3_holdNoMore 0 = .ok (.iconst 0, 1) := by decide +kernel
theorem dX3_holdNoMore_1 : decode cX3_holdNoMore 1 = .ok (.istore_n 2, 1) := by decide +kernel
theorem dX3_holdNoMore_2 : decode cX3_holdNoMore 2 = .ok (.iconst 0, 1) := by decide +kernel
theorem dX3_holdNoMore_3 : decode cX3_holdNoMore 3 = .ok (.istore_n 3, 1) := by decide +kernel
theorem dX3_holdNoMore_4 : decode cX3_holdNoMore 4 = .ok (.iload_n 3, 1) := by decide +kernel
theorem dX3_holdNoMore_5 : decode cX3_holdNoMore 5 = .ok (.aload_n 0, 1) := by decide +kernel
theorem dX3_holdNoMore_6 : decode cX3_holdNoMore 6 = .ok (.getfield 50, 3) := by decide +kernel
theorem dX3_holdNoMore_9 : decode cX3_holdNoMore 9 = .ok (.if_icmp .ge 37, 3) := by decide +kernel
theorem dX3_holdNoMore_12 : decode cX3_holdNoMore 12 = .ok (.aload_n 0, 1) := by decide +kernel
theorem dX3_holdNoMore_13 : decode cX3_holdNoMore 13 = .ok (.getfield 21, 3) := by decide +kernel
theorem dX3_holdNoMore_16 : decode cX3_holdNoMore 16 = .ok (.iload_n 3, 1) := by decide +kernel
theorem dX3_holdNoMore_17 : decode cX3_holdNoMore 17 = .ok (.iaload, 1) := by decide +kernel
theorem dX3_holdNoMore_18 : decode cX3_holdNoMore 18 = .ok (.aload_n 1, 1) := by decide +kernel
theorem dX3_holdNoMore_19 : decode cX3_holdNoMore 19 = .ok (.getfield 85, 3) := by decide +kernel
theorem dX3_holdNoMore_22 : decode cX3_holdNoMore 22 = .ok (.if_icmp .eq 18, 3) := by decide +kernel
theorem dX3_holdNoMore_25 : decode cX3_holdNoMore 25 = .ok (.aload_n 0, 1) := by decide +kernel
theorem dX3_holdNoMore_26 : decode cX3_holdNoMore 26 = .ok (.getfield 21, 3) := by decide +kernel
theorem dX3_holdNoMore_29 : decode cX3_holdNoMore 29 = .ok (.iload_n 2, 1) := by decide +kernel
theorem dX3_holdNoMore_30 : decode cX3_holdNoMore 30 = .ok (.aload_n 0, 1) := by decide +kernel
theorem dX3_holdNoMore_31 : decode cX3_holdNoMore 31 = .ok (.getfield 21, 3) := by decide +kernel
theorem dX3_holdNoMore_34 : decode cX3_holdNoMore 34 = .ok (.iload_n 3, 1) := by decide +kernel
theorem dX3_holdNoMore_35 : decode cX3_holdNoMore 35 = .ok (.iaload, 1) := by decide +kernel
theorem dX3_holdNoMore_36 : decode cX3_holdNoMore 36 = .ok (.iastore, 1) := by decide +kernel
theorem dX3_holdNoMore_37 : decode cX3_holdNoMore 37 = .ok (.iinc 2 1, 3) := by decide +kernel
theorem dX3_holdNoMore_40 : decode cX3_holdNoMore 40 = .ok (.iinc 3 1, 3) := by decide +kernel
theorem dX3_holdNoMore_43 : decode cX3_holdNoMore 43 = .ok (.goto (-39), 3) := by decide +kernel
theorem dX3_holdNoMore_46 : decode cX3_holdNoMore 46 = .ok (.aload_n 0, 1) := by decide +kernel
theorem dX3_holdNoMore_47 : decode cX3_holdNoMore 47 = .ok (.iload_n 2, 1) := by decide +kernel
theorem dX3_holdNoMore_48 : decode cX3_holdNoMore 48 = .ok (.putfield 50, 3) := by decide +kernel
theorem dX3_holdNoMore_51 : decode cX3_holdNoMore 51 = .ok (.return_, 1) := by decide +kernel
theorem dX3_deposit_0 : decode cX3_deposit 0 = .ok (.lconst 0, 1) := by decide +kernel
theorem dX3_deposit_1 : decode cX3_deposit 1 = .ok (.lstore_n 2, 1) := by decide +kernel
theorem dX3_deposit_2 : decode cX3_deposit 2 = .ok (.iconst 0, 1) := by decide +kernel
theorem dX3_deposit_3 : decode cX3_deposit 3 = .ok (.istore 4, 2) := by decide +kernel
theorem dX3_deposit_5 : decode cX3_deposit 5 = .ok (.iload 4, 2) := by decide +kernel
theorem dX3_deposit_7 : decode cX3_deposit 7 = .ok (.aload_n 0, 1) := by decide +kernel
theorem dX3_deposit_8 : decode cX3_deposit 8 = .ok (.getfield 42, 3) := by decide +kernel
theorem dX3_deposit_11 : decode cX3_deposit 11 = .ok (.if_icmp .ge 50, 3) := by decide +kernel
theorem dX3_deposit_14 : decode cX3_deposit 14 = .ok (.aload_n 0, 1) := by decide +kernel
theorem dX3_deposit_15 : decode cX3_deposit 15 = .ok (.getfield 11, 3) := by decide +kernel
theorem dX3_deposit_18 : decode cX3_deposit 18 = .ok (.iload 4, 2) := by decide +kernel
theorem dX3_deposit_20 : decode cX3_deposit 20 = .ok (.aaload, 1) := by decide +kernel
theorem dX3_deposit_21 : decode cX3_deposit 21 = .ok (.astore 5, 2) := by decide +kernel
theorem dX3_deposit_23 : decode cX3_deposit 23 = .ok (.aload 5, 2) := by decide +kernel
theorem dX3_deposit_25 : decode cX3_deposit 25 = .ok (.ifnull 30, 3) := by decide +kernel
theorem dX3_deposit_28 : decode cX3_deposit 28 = .ok (.aload 5, 2) := by decide +kernel
theorem dX3_deposit_30 : decode cX3_deposit 30 = .ok (.getfield 66, 3) := by decide +kernel
theorem dX3_deposit_33 : decode cX3_deposit 33 = .ok (.iconst 1, 1) := by decide +kernel
theorem dX3_deposit_34 : decode cX3_deposit 34 = .ok (.if_icmp .ne 21, 3) := by decide +kernel
theorem dX3_deposit_37 : decode cX3_deposit 37 = .ok (.aload 5, 2) := by decide +kernel
theorem dX3_deposit_39 : decode cX3_deposit 39 = .ok (.getfield 79, 3) := by decide +kernel
theorem dX3_deposit_42 : decode cX3_deposit 42 = .ok (.iload_n 1, 1) := by decide +kernel
theorem dX3_deposit_43 : decode cX3_deposit 43 = .ok (.if_icmp .ne 12, 3) := by decide +kernel
theorem dX3_deposit_46 : decode cX3_deposit 46 = .ok (.lload_n 2, 1) := by decide +kernel
theorem dX3_deposit_47 : decode cX3_deposit 47 = .ok (.aload 5, 2) := by decide +kernel
theorem dX3_deposit_49 : decode cX3_deposit 49 = .ok (.getfield 105, 3) := by decide +kernel
theorem dX3_deposit_52 : decode cX3_deposit 52 = .ok (.i2l, 1) := by decide +kernel
theorem dX3_deposit_53 : decode cX3_deposit 53 = .ok (.ladd, 1) := by decide +kernel
theorem dX3_deposit_54 : decode cX3_deposit 54 = .ok (.lstore_n 2, 1) := by decide +kernel
theorem dX3_deposit_55 : decode cX3_deposit 55 = .ok (.iinc 4 1, 3) := by decide +kernel
theorem dX3_deposit_58 : decode cX3_deposit 58 = .ok (.goto (-53), 3) := by decide +kernel
theorem dX3_deposit_61 : decode cX3_deposit 61 = .ok (.lload_n 2, 1) := by decide +kernel
theorem dX3_deposit_62 : decode cX3_deposit 62 = .ok (.lreturn, 1) := by decide +kernel
theorem dX4_init_0 : decode cX4_init 0 = .ok (.aload_n 0, 1) := by decide +kernel
theorem dX4_init_1 : decode cX4_init 1 = .ok (.invokespecial 1, 3) := by decide +kernel
theorem dX4_init_4 : decode cX4_init 4 = .ok (.return_, 1) := by decide +kernel
theorem dX4_begin_0 : decode cX4_begin 0 = .ok (.aload_n 0, 1) := by decide +kernel
theorem dX4_begin_1 : decode cX4_begin 1 = .ok (.aload_n 1, 1) := by decide +kernel
theorem dX4_begin_2 : decode cX4_begin 2 = .ok (.putfield 7, 3) := by decide +kernel
theorem dX4_begin_5 : decode cX4_begin 5 = .ok (.aload_n 0, 1) := by decide +kernel
theorem dX4_begin_6 : decode cX4_begin 6 = .ok (.iload_n 2, 1) := by decide +kernel
theorem dX4_begin_7 : decode cX4_begin 7 = .ok (.putfield 13, 3) := by decide +kernel
theorem dX4_begin_10 : decode cX4_begin 10 = .ok (.aload_n 0, 1) := by decide +kernel
theorem dX4_begin_11 : decode cX4_begin 11 = .ok (.iconst 1, 1) := by decide +kernel
theorem dX4_begin_12 : decode cX4_begin 12 = .ok (.putfield 17, 3) := by decide +kernel
theorem dX4_begin_15 : decode cX4_begin 15 = .ok (.aload_n 0, 1) := by decide +kernel
theorem dX4_begin_16 : decode cX4_begin 16 = .ok (.aload_n 3, 1) := by decide +kernel
theorem dX4_begin_17 : decode cX4_begin 17 = .ok (.putfield 21, 3) := by decide +kernel
theorem dX4_begin_20 : decode cX4_begin 20 = .ok (.aload_n 0, 1) := by decide +kernel
theorem dX4_begin_21 : decode cX4_begin 21 = .ok (.aconst_null, 1) := by decide +kernel
theorem dX4_begin_22 : decode cX4_begin 22 = .ok (.putfield 25, 3) := by decide +kernel
theorem dX4_begin_25 : decode cX4_begin 25 = .ok (.aload_n 0, 1) := by decide +kernel
theorem dX4_begin_26 : decode cX4_begin 26 = .ok (.aconst_null, 1) := by decide +kernel
theorem dX4_begin_27 : decode cX4_begin 27 = .ok (.putfield 28, 3) := by decide +kernel
theorem dX4_begin_30 : decode cX4_begin 30 = .ok (.aload_n 0, 1) := by decide +kernel
theorem dX4_begin_31 : decode cX4_begin 31 = .ok (.aconst_null, 1) := by decide +kernel
theorem dX4_begin_32 : decode cX4_begin 32 = .ok (.putfield 32, 3) := by decide +kernel
theorem dX4_begin_35 : decode cX4_begin 35 = .ok (.aload_n 0, 1) := by decide +kernel
theorem dX4_begin_36 : decode cX4_begin 36 = .ok (.aconst_null, 1) := by decide +kernel
theorem dX4_begin_37 : decode cX4_begin 37 = .ok (.putfield 35, 3) := by decide +kernel
theorem dX4_begin_40 : decode cX4_begin 40 = .ok (.aload_n 3, 1) := by decide +kernel
theorem dX4_begin_41 : decode cX4_begin 41 = .ok (.ifnull 8, 3) := by decide +kernel
theorem dX4_begin_44 : decode cX4_begin 44 = .ok (.aload_n 3, 1) := by decide +kernel
theorem dX4_begin_45 : decode cX4_begin 45 = .ok (.aload_n 0, 1) := by decide +kernel
theorem dX4_begin_46 : decode cX4_begin 46 = .ok (.putfield 25, 3) := by decide +kernel
theorem dX4_begin_49 : decode cX4_begin 49 = .ok (.return_, 1) := by decide +kernel
theorem dX4_moveTo_0 : decode cX4_moveTo 0 = .ok (.aload_n 0, 1) := by decide +kernel
theorem dX4_moveTo_1 : decode cX4_moveTo 1 = .ok (.invokevirtual 38, 3) := by decide +kernel
theorem dX4_moveTo_4 : decode cX4_moveTo 4 = .ok (.aload_n 0, 1) := by decide +kernel
theorem dX4_moveTo_5 : decode cX4_moveTo 5 = .ok (.aload_n 1, 1) := by decide +kernel
theorem dX4_moveTo_6 : decode cX4_moveTo 6 = .ok (.putfield 28, 3) := by decide +kernel
theorem dX4_moveTo_9 : decode cX4_moveTo 9 = .ok (.aload_n 0, 1) := by decide +kernel
theorem dX4_moveTo_10 : decode cX4_moveTo 10 = .ok (.aload_n 1, 1) := by decide +kernel
theorem dX4_moveTo_11 : decode cX4_moveTo 11 = .ok (.getfield 41, 3) := by decide +kernel
theorem dX4_moveTo_14 : decode cX4_moveTo 14 = .ok (.putfield 32, 3) := by decide +kernel
theorem dX4_moveTo_17 : decode cX4_moveTo 17 = .ok (.aload_n 1, 1) := by decide +kernel
theorem dX4_moveTo_18 : decode cX4_moveTo 18 = .ok (.getfield 41, 3) := by decide +kernel
theorem dX4_moveTo_21 : decode cX4_moveTo 21 = .ok (.ifnull 11, 3) := by decide +kernel
theorem dX4_moveTo_24 : decode cX4_moveTo 24 = .ok (.aload_n 1, 1) := by decide +kernel
theorem dX4_moveTo_25 : decode cX4_moveTo 25 = .ok (.getfield 41, 3) := by decide +kernel
theorem dX4_moveTo_28 : decode cX4_moveTo 28 = .ok (.aload_n 0, 1) := by decide +kernel
theorem dX4_moveTo_29 : decode cX4_moveTo 29 = .ok (.putfield 35, 3) := by decide +kernel
theorem dX4_moveTo_32 : decode cX4_moveTo 32 = .ok (.aload_n 1, 1) := by decide +kernel
theorem dX4_moveTo_33 : decode cX4_moveTo 33 = .ok (.aload_n 0, 1) := by decide +kernel
theorem dX4_moveTo_34 : decode cX4_moveTo 34 = .ok (.putfield 41, 3) := by decide +kernel
theorem dX4_moveTo_37 : decode cX4_moveTo 37 = .ok (.return_, 1) := by decide +kernel
theorem dX4_close_0 : decode cX4_close 0 = .ok (.aload_n 0, 1) := by decide +kernel
theorem dX4_close_1 : decode cX4_close 1 = .ok (.iconst 0, 1) := by decide +kernel
theorem dX4_close_2 : decode cX4_close 2 = .ok (.putfield 17, 3) := by decide +kernel
theorem dX4_close_5 : decode cX4_close 5 = .ok (.aload_n 0, 1) := by decide +kernel
theorem dX4_close_6 : decode cX4_close 6 = .ok (.invokevirtual 38, 3) := by decide +kernel
theorem dX4_close_9 : decode cX4_close 9 = .ok (.aload_n 0, 1) := by decide +kernel
theorem dX4_close_10 : decode cX4_close 10 = .ok (.getfield 21, 3) := by decide +kernel
theorem dX4_close_13 : decode cX4_close 13 = .ok (.ifnull 11, 3) := by decide +kernel
theorem dX4_close_16 : decode cX4_close 16 = .ok (.aload_n 0, 1) := by decide +kernel
theorem dX4_close_17 : decode cX4_close 17 = .ok (.getfield 21, 3) := by decide +kernel
theorem dX4_close_20 : decode cX4_close 20 = .ok (.aconst_null, 1) := by decide +kernel
theorem dX4_close_21 : decode cX4_close 21 = .ok (.putfield 25, 3) := by decide +kernel
theorem dX4_close_24 : decode cX4_close 24 = .ok (.return_, 1) := by decide +kernel
theorem dX4_leaveScope_0 : decode cX4_leaveScope 0 = .ok (.aload_n 0, 1) := by decide +kernel
theorem dX4_leaveScope_1 : decode cX4_leaveScope 1 = .ok (.getfield 32, 3) := by decide +kernel
theorem dX4_leaveScope_4 : decode cX4_leaveScope 4 = .ok (.ifnull 14, 3) := by decide +kernel
theorem dX4_leaveScope_7 : decode cX4_leaveScope 7 = .ok (.aload_n 0, 1) := by decide +kernel
theorem dX4_leaveScope_8 : decode cX4_leaveScope 8 = .ok (.getfield 32, 3) := by decide +kernel
theorem dX4_leaveScope_11 : decode cX4_leaveScope 11 = .ok (.aload_n 0, 1) := by decide +kernel
theorem dX4_leaveScope_12 : decode cX4_leaveScope 12 = .ok (.getfield 35, 3) := by decide +kernel
theorem dX4_leaveScope_15 : decode cX4_leaveScope 15 = .ok (.putfield 35, 3) := by decide +kernel
theorem dX4_leaveScope_18 : decode cX4_leaveScope 18 = .ok (.aload_n 0, 1) := by decide +kernel
theorem dX4_leaveScope_19 : decode cX4_leaveScope 19 = .ok (.getfield 35, 3) := by decide +kernel
theorem dX4_leaveScope_22 : decode cX4_leaveScope 22 = .ok (.ifnull 17, 3) := by decide +kernel
theorem dX4_leaveScope_25 : decode cX4_leaveScope 25 = .ok (.aload_n 0, 1) := by decide +kernel
theorem dX4_leaveScope_26 : decode cX4_leaveScope 26 = .ok (.getfield 35, 3) := by decide +kernel
theorem dX4_leaveScope_29 : decode cX4_leaveScope 29 = .ok (.aload_n 0, 1) := by decide +kernel
theorem dX4_leaveScope_30 : decode cX4_leaveScope 30 = .ok (.getfield 32, 3) := by decide +kernel
theorem dX4_leaveScope_33 : decode cX4_leaveScope 33 = .ok (.putfield 32, 3) := by decide +kernel
theorem dX4_leaveScope_36 : decode cX4_leaveScope 36 = .ok (.goto 21, 3) := by decide +kernel
theorem dX4_leaveScope_39 : decode cX4_leaveScope 39 = .ok (.aload_n 0, 1) := by decide +kernel
theorem dX4_leaveScope_40 : decode cX4_leaveScope 40 = .ok (.getfield 28, 3) := by decide +kernel
theorem dX4_leaveScope_43 : decode cX4_leaveScope 43 = .ok (.ifnull 14, 3) := by decide +kernel
theorem dX4_leaveScope_46 : decode cX4_leaveScope 46 = .ok (.aload_n 0, 1) := by decide +kernel
theorem dX4_leaveScope_47 : decode cX4_leaveScope 47 = .ok (.getfield 28, 3) := by decide +kernel
theorem dX4_leaveScope_50 : decode cX4_leaveScope 50 = .ok (.aload_n 0, 1) := by decide +kernel
theorem dX4_leaveScope_51 : decode cX4_leaveScope 51 = .ok (.getfield 32, 3) := by decide +kernel
theorem dX4_leaveScope_54 : decode cX4_leaveScope 54 = .ok (.putfield 41, 3) := by decide +kernel
theorem dX4_leaveScope_57 : decode cX4_leaveScope 57 = .ok (.aload_n 0, 1) := by decide +kernel
theorem dX4_leaveScope_58 : decode cX4_leaveScope 58 = .ok (.aconst_null, 1) := by decide +kernel
theorem dX4_leaveScope_59 : decode cX4_leaveScope 59 = .ok (.putfield 28, 3) := by decide +kernel
theorem dX4_leaveScope_62 : decode cX4_leaveScope 62 = .ok (.aload_n 0, 1) := by decide +kernel
theorem dX4_leaveScope_63 : decode cX4_leaveScope 63 = .ok (.aconst_null, 1) := by decide +kernel
theorem dX4_leaveScope_64 : decode cX4_leaveScope 64 = .ok (.putfield 32, 3) := by decide +kernel
theorem dX4_leaveScope_67 : decode cX4_leaveScope 67 = .ok (.aload_n 0, 1) := by decide +kernel
theorem dX4_leaveScope_68 : decode cX4_leaveScope 68 = .ok (.aconst_null, 1) := by decide +kernel
theorem dX4_leaveScope_69 : decode cX4_leaveScope 69 = .ok (.putfield 35, 3) := by decide +kernel
theorem dX4_leaveScope_72 : decode cX4_leaveScope 72 = .ok (.return_, 1) := by decide +kernel
theorem dX5_init_0 : decode cX5_init 0 = .ok (.aload_n 0, 1) := by decide +kernel
theorem dX5_init_1 : decode cX5_init 1 = .ok (.invokespecial 3, 3) := by decide +kernel
theorem dX5_init_4 : decode cX5_init 4 = .ok (.aload_n 0, 1) := by decide +kernel
theorem dX5_init_5 : decode cX5_init 5 = .ok (.bipush 60, 2) := by decide +kernel
theorem dX5_init_7 : decode cX5_init 7 = .ok (.newarray .int, 2) := by decide +kernel
theorem dX5_init_9 : decode cX5_init 9 = .ok (.putfield 9, 3) := by decide +kernel
theorem dX5_init_12 : decode cX5_init 12 = .ok (.aload_n 0, 1) := by decide +kernel
theorem dX5_init_13 : decode cX5_init 13 = .ok (.bipush 60, 2) := by decide +kernel
theorem dX5_init_15 : decode cX5_init 15 = .ok (.newarray .int, 2) := by decide +kernel
theorem dX5_init_17 : decode cX5_init 17 = .ok (.putfield 15, 3) := by decide +kernel
theorem dX5_init_20 : decode cX5_init 20 = .ok (.aload_n 0, 1) := by decide +kernel
theorem dX5_init_21 : decode cX5_init 21 = .ok (.bipush 60, 2) := by decide +kernel
theorem dX5_init_23 : decode cX5_init 23 = .ok (.newarray .int, 2) := by decide +kernel
theorem dX5_init_25 : decode cX5_init 25 = .ok (.putfield 18, 3) := by decide +kernel
theorem dX5_init_28 : decode cX5_init 28 = .ok (.aload_n 0, 1) := by decide +kernel
theorem dX5_init_29 : decode cX5_init 29 = .ok (.bipush 59, 2) := by decide +kernel
theorem dX5_init_31 : decode cX5_init 31 = .ok (.putfield 21, 3) := by decide +kernel
theorem dX5_init_34 : decode cX5_init 34 = .ok (.return_, 1) := by decide +kernel
theorem dX5_add_0 : decode cX5_add 0 = .ok (.aload_n 0, 1) := by decide +kernel
theorem dX5_add_1 : decode cX5_add 1 = .ok (.aload_n 0, 1) := by decide +kernel
theorem dX5_add_2 : decode cX5_add 2 = .ok (.getfield 21, 3) := by decide +kernel
theorem dX5_add_5 : decode cX5_add 5 = .ok (.bipush 59, 2) := by decide +kernel
theorem dX5_add_7 : decode cX5_add 7 = .ok (.if_icmp .ge 12, 3) := by decide +kernel
theorem dX5_add_10 : decode cX5_add 10 = .ok (.aload_n 0, 1) := by decide +kernel
theorem dX5_add_11 : decode cX5_add 11 = .ok (.getfield 21, 3) := by decide +kernel
theorem dX5_add_14 : decode cX5_add 14 = .ok (.iconst 1, 1) := by decide +kernel
theorem dX5_add_15 : decode cX5_add 15 = .ok (.iadd, 1) := by decide +kernel
theorem dX5_add_16 : decode cX5_add 16 = .ok (.goto 4, 3) := by decide +kernel
theorem dX5_add_19 : decode cX5_add 19 = .ok (.iconst 0, 1) := by decide +kernel
theorem dX5_add_20 : decode cX5_add 20 = .ok (.putfield 21, 3) := by decide +kernel
theorem dX5_add_23 : decode cX5_add 23 = .ok (.aload_n 0, 1) := by decide +kernel
theorem dX5_add_24 : decode cX5_add 24 = .ok (.getfield 9, 3) := by decide +kernel
theorem dX5_add_27 : decode cX5_add 27 = .ok (.aload_n 0, 1) := by decide +kernel
theorem dX5_add_28 : decode cX5_add 28 = .ok (.getfield 21, 3) := by decide +kernel
theorem dX5_add_31 : decode cX5_add 31 = .ok (.iload_n 1, 1) := by decide +kernel
theorem dX5_add_32 : decode cX5_add 32 = .ok (.iastore, 1) := by decide +kernel
theorem dX5_add_33 : decode cX5_add 33 = .ok (.aload_n 0, 1) := by decide +kernel
theorem dX5_add_34 : decode cX5_add 34 = .ok (.getfield 15, 3) := by decide +kernel
theorem dX5_add_37 : decode cX5_add 37 = .ok (.aload_n 0, 1) := by decide +kernel
theorem dX5_add_38 : decode cX5_add 38 = .ok (.getfield 21, 3) := by decide +kernel
theorem dX5_add_41 : decode cX5_add 41 = .ok (.iload_n 2, 1) := by decide +kernel
theorem dX5_add_42 : decode cX5_add 42 = .ok (.iastore, 1) := by decide +kernel
theorem dX5_add_43 : decode cX5_add 43 = .ok (.aload_n 0, 1) := by decide +kernel
theorem dX5_add_44 : decode cX5_add 44 = .ok (.getfield 18, 3) := by decide +kernel
theorem dX5_add_47 : decode cX5_add 47 = .ok (.aload_n 0, 1) := by decide +kernel
theorem dX5_add_48 : decode cX5_add 48 = .ok (.getfield 21, 3) := by decide +kernel
theorem dX5_add_51 : decode cX5_add 51 = .ok (.iload_n 3, 1) := by decide +kernel
theorem dX5_add_52 : decode cX5_add 52 = .ok (.ifCond .eq 7, 3) := by decide +kernel
theorem dX5_add_55 : decode cX5_add 55 = .ok (.iconst 1, 1) := by decide +kernel
theorem dX5_add_56 : decode cX5_add 56 = .ok (.goto 4, 3) := by decide +kernel
theorem dX5_add_59 : decode cX5_add 59 = .ok (.iconst 0, 1) := by decide +kernel
theorem dX5_add_60 : decode cX5_add 60 = .ok (.iastore, 1) := by decide +kernel
theorem dX5_add_61 : decode cX5_add 61 = .ok (.aload_n 0, 1) := by decide +kernel
theorem dX5_add_62 : decode cX5_add 62 = .ok (.getfield 25, 3) := by decide +kernel
theorem dX5_add_65 : decode cX5_add 65 = .ok (.bipush 60, 2) := by decide +kernel
theorem dX5_add_67 : decode cX5_add 67 = .ok (.if_icmp .ge 13, 3) := by decide +kernel
theorem dX5_add_70 : decode cX5_add 70 = .ok (.aload_n 0, 1) := by decide +kernel
theorem dX5_add_71 : decode cX5_add 71 = .ok (.dup, 1) := by decide +kernel
theorem dX5_add_72 : decode cX5_add 72 = .ok (.getfield 25, 3) := by decide +kernel
theorem dX5_add_75 : decode cX5_add 75 = .ok (.iconst 1, 1) := by decide +kernel
theorem dX5_add_76 : decode cX5_add 76 = .ok (.iadd, 1) := by decide +kernel
theorem dX5_add_77 : decode cX5_add 77 = .ok (.putfield 25, 3) := by decide +kernel
theorem dX5_add_80 : decode cX5_add 80 = .ok (.return_, 1) := by decide +kernel
theorem dX5_told_0 : decode cX5_told 0 = .ok (.iload_n 1, 1) := by decide +kernel
theorem dX5_told_1 : decode cX5_told 1 = .ok (.aload_n 0, 1) := by decide +kernel
theorem dX5_told_2 : decode cX5_told 2 = .ok (.getfield 25, 3) := by decide +kernel
theorem dX5_told_5 : decode cX5_told 5 = .ok (.invokestatic 28, 3) := by decide +kernel
theorem dX5_told_8 : decode cX5_told 8 = .ok (.ifCond .ne 5, 3) := by decide +kernel
theorem dX5_told_11 : decode cX5_told 11 = .ok (.iconst (-1), 1) := by decide +kernel
theorem dX5_told_12 : decode cX5_told 12 = .ok (.ireturn, 1) := by decide +kernel
theorem dX5_told_13 : decode cX5_told 13 = .ok (.aload_n 0, 1) := by decide +kernel
theorem dX5_told_14 : decode cX5_told 14 = .ok (.getfield 21, 3) := by decide +kernel
theorem dX5_told_17 : decode cX5_told 17 = .ok (.iload_n 1, 1) := by decide +kernel
theorem dX5_told_18 : decode cX5_told 18 = .ok (.if_icmp .lt 12, 3) := by decide +kernel
theorem dX5_told_21 : decode cX5_told 21 = .ok (.aload_n 0, 1) := by decide +kernel
theorem dX5_told_22 : decode cX5_told 22 = .ok (.getfield 21, 3) := by decide +kernel
theorem dX5_told_25 : decode cX5_told 25 = .ok (.iload_n 1, 1) := by decide +kernel
theorem dX5_told_26 : decode cX5_told 26 = .ok (.isub, 1) := by decide +kernel
theorem dX5_told_27 : decode cX5_told 27 = .ok (.goto 12, 3) := by decide +kernel
theorem dX5_told_30 : decode cX5_told 30 = .ok (.aload_n 0, 1) := by decide +kernel
theorem dX5_told_31 : decode cX5_told 31 = .ok (.getfield 21, 3) := by decide +kernel
theorem dX5_told_34 : decode cX5_told 34 = .ok (.iload_n 1, 1) := by decide +kernel
theorem dX5_told_35 : decode cX5_told 35 = .ok (.isub, 1) := by decide +kernel
theorem dX5_told_36 : decode cX5_told 36 = .ok (.bipush 60, 2) := by decide +kernel
theorem dX5_told_38 : decode cX5_told 38 = .ok (.iadd, 1) := by decide +kernel
theorem dX5_told_39 : decode cX5_told 39 = .ok (.istore_n 3, 1) := by decide +kernel
theorem dX5_told_40 : decode cX5_told 40 = .ok (.iload_n 2, 1) := by decide +kernel
theorem dX5_told_41 : decode cX5_told 41 = .ok (.lookupswitch 41 #[(0, 27), (1, 34)], 27) := by decide +kernel
theorem dX5_told_68 : decode cX5_told 68 = .ok (.aload_n 0, 1) := by decide +kernel
theorem dX5_told_69 : decode cX5_told 69 = .ok (.getfield 9, 3) := by decide +kernel
theorem dX5_told_72 : decode cX5_told 72 = .ok (.iload_n 3, 1) := by decide +kernel
theorem dX5_told_73 : decode cX5_told 73 = .ok (.iaload, 1) := by decide +kernel
theorem dX5_told_74 : decode cX5_told 74 = .ok (.ireturn, 1) := by decide +kernel
theorem dX5_told_75 : decode cX5_told 75 = .ok (.aload_n 0, 1) := by decide +kernel
theorem dX5_told_76 : decode cX5_told 76 = .ok (.getfield 15, 3) := by decide +kernel
theorem dX5_told_79 : decode cX5_told 79 = .ok (.iload_n 3, 1) := by decide +kernel
theorem dX5_told_80 : decode cX5_told 80 = .ok (.iaload, 1) := by decide +kernel
theorem dX5_told_81 : decode cX5_told 81 = .ok (.ireturn, 1) := by decide +kernel
theorem dX5_told_82 : decode cX5_told 82 = .ok (.aload_n 0, 1) := by decide +kernel
theorem dX5_told_83 : decode cX5_told 83 = .ok (.getfield 18, 3) := by decide +kernel
theorem dX5_told_86 : decode cX5_told 86 = .ok (.iload_n 3, 1) := by decide +kernel
theorem dX5_told_87 : decode cX5_told 87 = .ok (.iaload, 1) := by decide +kernel
theorem dX5_told_88 : decode cX5_told 88 = .ok (.ireturn, 1) := by decide +kernel
theorem dX6_init_0 : decode cX6_init 0 = .ok (.aload_n 0, 1) := by decide +kernel
theorem dX6_init_1 : decode cX6_init 1 = .ok (.invokespecial 3, 3) := by decide +kernel
theorem dX6_init_4 : decode cX6_init 4 = .ok (.aload_n 0, 1) := by decide +kernel
theorem dX6_init_5 : decode cX6_init 5 = .ok (.iload_n 1, 1) := by decide +kernel
theorem dX6_init_6 : decode cX6_init 6 = .ok (.putfield 9, 3) := by decide +kernel
theorem dX6_init_9 : decode cX6_init 9 = .ok (.aload_n 0, 1) := by decide +kernel
theorem dX6_init_10 : decode cX6_init 10 = .ok (.iload_n 2, 1) := by decide +kernel
theorem dX6_init_11 : decode cX6_init 11 = .ok (.putfield 15, 3) := by decide +kernel
theorem dX6_init_14 : decode cX6_init 14 = .ok (.aload_n 0, 1) := by decide +kernel
theorem dX6_init_15 : decode cX6_init 15 = .ok (.iload_n 3, 1) := by decide +kernel
theorem dX6_init_16 : decode cX6_init 16 = .ok (.putfield 18, 3) := by decide +kernel
theorem dX6_init_19 : decode cX6_init 19 = .ok (.aload_n 0, 1) := by decide +kernel
theorem dX6_init_20 : decode cX6_init 20 = .ok (.bipush 10, 2) := by decide +kernel
theorem dX6_init_22 : decode cX6_init 22 = .ok (.newarray .int, 2) := by decide +kernel
theorem dX6_init_24 : decode cX6_init 24 = .ok (.putfield 21, 3) := by decide +kernel
theorem dX6_init_27 : decode cX6_init 27 = .ok (.aload_n 0, 1) := by decide +kernel
theorem dX6_init_28 : decode cX6_init 28 = .ok (.bipush 10, 2) := by decide +kernel
theorem dX6_init_30 : decode cX6_init 30 = .ok (.newarray .int, 2) := by decide +kernel
theorem dX6_init_32 : decode cX6_init 32 = .ok (.putfield 25, 3) := by decide +kernel
theorem dX6_init_35 : decode cX6_init 35 = .ok (.return_, 1) := by decide +kernel
theorem dX6_addToTrace_0 : decode cX6_addToTrace 0 = .ok (.aload_n 0, 1) := by decide +kernel
theorem dX6_addToTrace_1 : decode cX6_addToTrace 1 = .ok (.getfield 28, 3) := by decide +kernel
theorem dX6_addToTrace_4 : decode cX6_addToTrace 4 = .ok (.bipush 10, 2) := by decide +kernel
theorem dX6_addToTrace_6 : decode cX6_addToTrace 6 = .ok (.invokestatic 31, 3) := by decide +kernel
theorem dX6_addToTrace_9 : decode cX6_addToTrace 9 = .ok (.ifCond .eq 33, 3) := by decide +kernel
theorem dX6_addToTrace_12 : decode cX6_addToTrace 12 = .ok (.aload_n 0, 1) := by decide +kernel
theorem dX6_addToTrace_13 : decode cX6_addToTrace 13 = .ok (.getfield 21, 3) := by decide +kernel
theorem dX6_addToTrace_16 : decode cX6_addToTrace 16 = .ok (.aload_n 0, 1) := by decide +kernel
theorem dX6_addToTrace_17 : decode cX6_addToTrace 17 = .ok (.getfield 28, 3) := by decide +kernel
theorem dX6_addToTrace_20 : decode cX6_addToTrace 20 = .ok (.iload_n 1, 1) := by decide +kernel
theorem dX6_addToTrace_21 : decode cX6_addToTrace 21 = .ok (.iastore, 1) := by decide +kernel
theorem dX6_addToTrace_22 : decode cX6_addToTrace 22 = .ok (.aload_n 0, 1) := by decide +kernel
theorem dX6_addToTrace_23 : decode cX6_addToTrace 23 = .ok (.getfield 25, 3) := by decide +kernel
theorem dX6_addToTrace_26 : decode cX6_addToTrace 26 = .ok (.aload_n 0, 1) := by decide +kernel
theorem dX6_addToTrace_27 : decode cX6_addToTrace 27 = .ok (.getfield 28, 3) := by decide +kernel
theorem dX6_addToTrace_30 : decode cX6_addToTrace 30 = .ok (.iload_n 2, 1) := by decide +kernel
theorem dX6_addToTrace_31 : decode cX6_addToTrace 31 = .ok (.iastore, 1) := by decide +kernel
theorem dX6_addToTrace_32 : decode cX6_addToTrace 32 = .ok (.aload_n 0, 1) := by decide +kernel
theorem dX6_addToTrace_33 : decode cX6_addToTrace 33 = .ok (.dup, 1) := by decide +kernel
theorem dX6_addToTrace_34 : decode cX6_addToTrace 34 = .ok (.getfield 28, 3) := by decide +kernel
theorem dX6_addToTrace_37 : decode cX6_addToTrace 37 = .ok (.iconst 1, 1) := by decide +kernel
theorem dX6_addToTrace_38 : decode cX6_addToTrace 38 = .ok (.iadd, 1) := by decide +kernel
theorem dX6_addToTrace_39 : decode cX6_addToTrace 39 = .ok (.putfield 28, 3) := by decide +kernel
theorem dX6_addToTrace_42 : decode cX6_addToTrace 42 = .ok (.return_, 1) := by decide +kernel
theorem dX7_init_0 : decode cX7_init 0 = .ok (.aload_n 0, 1) := by decide +kernel
theorem dX7_init_1 : decode cX7_init 1 = .ok (.invokespecial 3, 3) := by decide +kernel
theorem dX7_init_4 : decode cX7_init 4 = .ok (.aload_n 0, 1) := by decide +kernel
theorem dX7_init_5 : decode cX7_init 5 = .ok (.bipush 30, 2) := by decide +kernel
theorem dX7_init_7 : decode cX7_init 7 = .ok (.newarray .int, 2) := by decide +kernel
theorem dX7_init_9 : decode cX7_init 9 = .ok (.putfield 9, 3) := by decide +kernel
theorem dX7_init_12 : decode cX7_init 12 = .ok (.aload_n 0, 1) := by decide +kernel
theorem dX7_init_13 : decode cX7_init 13 = .ok (.bipush 30, 2) := by decide +kernel
theorem dX7_init_15 : decode cX7_init 15 = .ok (.newarray .int, 2) := by decide +kernel
theorem dX7_init_17 : decode cX7_init 17 = .ok (.putfield 15, 3) := by decide +kernel
theorem dX7_init_20 : decode cX7_init 20 = .ok (.aload_n 0, 1) := by decide +kernel
theorem dX7_init_21 : decode cX7_init 21 = .ok (.bipush 30, 2) := by decide +kernel
theorem dX7_init_23 : decode cX7_init 23 = .ok (.newarray .int, 2) := by decide +kernel
theorem dX7_init_25 : decode cX7_init 25 = .ok (.putfield 18, 3) := by decide +kernel
theorem dX7_init_28 : decode cX7_init 28 = .ok (.return_, 1) := by decide +kernel
theorem dX7_add_0 : decode cX7_add 0 = .ok (.aload_n 0, 1) := by decide +kernel
theorem dX7_add_1 : decode cX7_add 1 = .ok (.getfield 21, 3) := by decide +kernel
theorem dX7_add_4 : decode cX7_add 4 = .ok (.bipush 30, 2) := by decide +kernel
theorem dX7_add_6 : decode cX7_add 6 = .ok (.invokestatic 25, 3) := by decide +kernel
theorem dX7_add_9 : decode cX7_add 9 = .ok (.ifCond .ne 6, 3) := by decide +kernel
theorem dX7_add_12 : decode cX7_add 12 = .ok (.bipush (-104), 2) := by decide +kernel
theorem dX7_add_14 : decode cX7_add 14 = .ok (.ireturn, 1) := by decide +kernel
theorem dX7_add_15 : decode cX7_add 15 = .ok (.aload_n 0, 1) := by decide +kernel
theorem dX7_add_16 : decode cX7_add 16 = .ok (.getfield 9, 3) := by decide +kernel
theorem dX7_add_19 : decode cX7_add 19 = .ok (.aload_n 0, 1) := by decide +kernel
theorem dX7_add_20 : decode cX7_add 20 = .ok (.getfield 21, 3) := by decide +kernel
theorem dX7_add_23 : decode cX7_add 23 = .ok (.iload_n 1, 1) := by decide +kernel
theorem dX7_add_24 : decode cX7_add 24 = .ok (.iastore, 1) := by decide +kernel
theorem dX7_add_25 : decode cX7_add 25 = .ok (.aload_n 0, 1) := by decide +kernel
theorem dX7_add_26 : decode cX7_add 26 = .ok (.getfield 15, 3) := by decide +kernel
theorem dX7_add_29 : decode cX7_add 29 = .ok (.aload_n 0, 1) := by decide +kernel
theorem dX7_add_30 : decode cX7_add 30 = .ok (.getfield 21, 3) := by decide +kernel
theorem dX7_add_33 : decode cX7_add 33 = .ok (.iload_n 2, 1) := by decide +kernel
theorem dX7_add_34 : decode cX7_add 34 = .ok (.iastore, 1) := by decide +kernel
theorem dX7_add_35 : decode cX7_add 35 = .ok (.aload_n 0, 1) := by decide +kernel
theorem dX7_add_36 : decode cX7_add 36 = .ok (.getfield 18, 3) := by decide +kernel
theorem dX7_add_39 : decode cX7_add 39 = .ok (.aload_n 0, 1) := by decide +kernel
theorem dX7_add_40 : decode cX7_add 40 = .ok (.getfield 21, 3) := by decide +kernel
theorem dX7_add_43 : decode cX7_add 43 = .ok (.iload_n 3, 1) := by decide +kernel
theorem dX7_add_44 : decode cX7_add 44 = .ok (.iastore, 1) := by decide +kernel
theorem dX7_add_45 : decode cX7_add 45 = .ok (.aload_n 0, 1) := by decide +kernel
theorem dX7_add_46 : decode cX7_add 46 = .ok (.dup, 1) := by decide +kernel
theorem dX7_add_47 : decode cX7_add 47 = .ok (.getfield 21, 3) := by decide +kernel
theorem dX7_add_50 : decode cX7_add 50 = .ok (.iconst 1, 1) := by decide +kernel
theorem dX7_add_51 : decode cX7_add 51 = .ok (.iadd, 1) := by decide +kernel
theorem dX7_add_52 : decode cX7_add 52 = .ok (.putfield 21, 3) := by decide +kernel
theorem dX7_add_55 : decode cX7_add 55 = .ok (.aload_n 0, 1) := by decide +kernel
theorem dX7_add_56 : decode cX7_add 56 = .ok (.getfield 21, 3) := by decide +kernel
theorem dX7_add_59 : decode cX7_add 59 = .ok (.ireturn, 1) := by decide +kernel
theorem dX7_meets_0 : decode cX7_meets 0 = .ok (.iconst 0, 1) := by decide +kernel
theorem dX7_meets_1 : decode cX7_meets 1 = .ok (.istore_n 3, 1) := by decide +kernel
theorem dX7_meets_2 : decode cX7_meets 2 = .ok (.aload_n 0, 1) := by decide +kernel
theorem dX7_meets_3 : decode cX7_meets 3 = .ok (.getfield 21, 3) := by decide +kernel
theorem dX7_meets_6 : decode cX7_meets 6 = .ok (.istore 4, 2) := by decide +kernel
theorem dX7_meets_8 : decode cX7_meets 8 = .ok (.iconst 0, 1) := by decide +kernel
theorem dX7_meets_9 : decode cX7_meets 9 = .ok (.istore 5, 2) := by decide +kernel
theorem dX7_meets_11 : decode cX7_meets 11 = .ok (.iload 5, 2) := by decide +kernel
theorem dX7_meets_13 : decode cX7_meets 13 = .ok (.iload 4, 2) := by decide +kernel
theorem dX7_meets_15 : decode cX7_meets 15 = .ok (.if_icmp .ge 94, 3) := by decide +kernel
theorem dX7_meets_18 : decode cX7_meets 18 = .ok (.aload_n 0, 1) := by decide +kernel
theorem dX7_meets_19 : decode cX7_meets 19 = .ok (.getfield 9, 3) := by decide +kernel
theorem dX7_meets_22 : decode cX7_meets 22 = .ok (.iload 5, 2) := by decide +kernel
theorem dX7_meets_24 : decode cX7_meets 24 = .ok (.iaload, 1) := by decide +kernel
theorem dX7_meets_25 : decode cX7_meets 25 = .ok (.iload_n 1, 1) := by decide +kernel
theorem dX7_meets_26 : decode cX7_meets 26 = .ok (.if_icmp .ne 25, 3) := by decide +kernel
theorem dX7_meets_29 : decode cX7_meets 29 = .ok (.aload_n 0, 1) := by decide +kernel
theorem dX7_meets_30 : decode cX7_meets 30 = .ok (.getfield 18, 3) := by decide +kernel
theorem dX7_meets_33 : decode cX7_meets 33 = .ok (.iload 5, 2) := by decide +kernel
theorem dX7_meets_35 : decode cX7_meets 35 = .ok (.iaload, 1) := by decide +kernel
theorem dX7_meets_36 : decode cX7_meets 36 = .ok (.iload_n 2, 1) := by decide +kernel
theorem dX7_meets_37 : decode cX7_meets 37 = .ok (.if_icmp .ne 14, 3) := by decide +kernel
theorem dX7_meets_40 : decode cX7_meets 40 = .ok (.aload_n 0, 1) := by decide +kernel
theorem dX7_meets_41 : decode cX7_meets 41 = .ok (.getfield 15, 3) := by decide +kernel
theorem dX7_meets_44 : decode cX7_meets 44 = .ok (.iload 5, 2) := by decide +kernel
theorem dX7_meets_46 : decode cX7_meets 46 = .ok (.dup2, 1) := by decide +kernel
theorem dX7_meets_47 : decode cX7_meets 47 = .ok (.iaload, 1) := by decide +kernel
theorem dX7_meets_48 : decode cX7_meets 48 = .ok (.iconst 1, 1) := by decide +kernel
theorem dX7_meets_49 : decode cX7_meets 49 = .ok (.isub, 1) := by decide +kernel
theorem dX7_meets_50 : decode cX7_meets 50 = .ok (.iastore, 1) := by decide +kernel
theorem dX7_meets_51 : decode cX7_meets 51 = .ok (.aload_n 0, 1) := by decide +kernel
theorem dX7_meets_52 : decode cX7_meets 52 = .ok (.getfield 15, 3) := by decide +kernel
theorem dX7_meets_55 : decode cX7_meets 55 = .ok (.iload 5, 2) := by decide +kernel
theorem dX7_meets_57 : decode cX7_meets 57 = .ok (.iaload, 1) := by decide +kernel
theorem dX7_meets_58 : decode cX7_meets 58 = .ok (.ifCond .le 45, 3) := by decide +kernel
theorem dX7_meets_61 : decode cX7_meets 61 = .ok (.aload_n 0, 1) := by decide +kernel
theorem dX7_meets_62 : decode cX7_meets 62 = .ok (.getfield 9, 3) := by decide +kernel
theorem dX7_meets_65 : decode cX7_meets 65 = .ok (.iload_n 3, 1) := by decide +kernel
theorem dX7_meets_66 : decode cX7_meets 66 = .ok (.aload_n 0, 1) := by decide +kernel
theorem dX7_meets_67 : decode cX7_meets 67 = .ok (.getfield 9, 3) := by decide +kernel
theorem dX7_meets_70 : decode cX7_meets 70 = .ok (.iload 5, 2) := by decide +kernel
theorem dX7_meets_72 : decode cX7_meets 72 = .ok (.iaload, 1) := by decide +kernel
theorem dX7_meets_73 : decode cX7_meets 73 = .ok (.iastore, 1) := by decide +kernel
theorem dX7_meets_74 : decode cX7_meets 74 = .ok (.aload_n 0, 1) := by decide +kernel
theorem dX7_meets_75 : decode cX7_meets 75 = .ok (.getfield 15, 3) := by decide +kernel
theorem dX7_meets_78 : decode cX7_meets 78 = .ok (.iload_n 3, 1) := by decide +kernel
theorem dX7_meets_79 : decode cX7_meets 79 = .ok (.aload_n 0, 1) := by decide +kernel
theorem dX7_meets_80 : decode cX7_meets 80 = .ok (.getfield 15, 3) := by decide +kernel
theorem dX7_meets_83 : decode cX7_meets 83 = .ok (.iload 5, 2) := by decide +kernel
theorem dX7_meets_85 : decode cX7_meets 85 = .ok (.iaload, 1) := by decide +kernel
theorem dX7_meets_86 : decode cX7_meets 86 = .ok (.iastore, 1) := by decide +kernel
theorem dX7_meets_87 : decode cX7_meets 87 = .ok (.aload_n 0, 1) := by decide +kernel
theorem dX7_meets_88 : decode cX7_meets 88 = .ok (.getfield 18, 3) := by decide +kernel
theorem dX7_meets_91 : decode cX7_meets 91 = .ok (.iload_n 3, 1) := by decide +kernel
theorem dX7_meets_92 : decode cX7_meets 92 = .ok (.aload_n 0, 1) := by decide +kernel
theorem dX7_meets_93 : decode cX7_meets 93 = .ok (.getfield 18, 3) := by decide +kernel
theorem dX7_meets_96 : decode cX7_meets 96 = .ok (.iload 5, 2) := by decide +kernel
theorem dX7_meets_98 : decode cX7_meets 98 = .ok (.iaload, 1) := by decide +kernel
theorem dX7_meets_99 : decode cX7_meets 99 = .ok (.iastore, 1) := by decide +kernel
theorem dX7_meets_100 : decode cX7_meets 100 = .ok (.iinc 3 1, 3) := by decide +kernel
theorem dX7_meets_103 : decode cX7_meets 103 = .ok (.iinc 5 1, 3) := by decide +kernel
theorem dX7_meets_106 : decode cX7_meets 106 = .ok (.goto (-95), 3) := by decide +kernel
theorem dX7_meets_109 : decode cX7_meets 109 = .ok (.aload_n 0, 1) := by decide +kernel
theorem dX7_meets_110 : decode cX7_meets 110 = .ok (.iload_n 3, 1) := by decide +kernel
theorem dX7_meets_111 : decode cX7_meets 111 = .ok (.putfield 21, 3) := by decide +kernel
theorem dX7_meets_114 : decode cX7_meets 114 = .ok (.iload_n 3, 1) := by decide +kernel
theorem dX7_meets_115 : decode cX7_meets 115 = .ok (.iload 4, 2) := by decide +kernel
theorem dX7_meets_117 : decode cX7_meets 117 = .ok (.if_icmp .ge 7, 3) := by decide +kernel
theorem dX7_meets_120 : decode cX7_meets 120 = .ok (.iconst 1, 1) := by decide +kernel
theorem dX7_meets_121 : decode cX7_meets 121 = .ok (.goto 4, 3) := by decide +kernel
theorem dX7_meets_124 : decode cX7_meets 124 = .ok (.iconst 0, 1) := by decide +kernel
theorem dX7_meets_125 : decode cX7_meets 125 = .ok (.ireturn, 1) := by decide +kernel
theorem dX8_init_0 : decode cX8_init 0 = .ok (.aload_n 0, 1) := by decide +kernel
theorem dX8_init_1 : decode cX8_init 1 = .ok (.invokespecial 3, 3) := by decide +kernel
theorem dX8_init_4 : decode cX8_init 4 = .ok (.aload_n 0, 1) := by decide +kernel
theorem dX8_init_5 : decode cX8_init 5 = .ok (.bipush 11, 2) := by decide +kernel
theorem dX8_init_7 : decode cX8_init 7 = .ok (.anewarray 9, 3) := by decide +kernel
theorem dX8_init_10 : decode cX8_init 10 = .ok (.putfield 11, 3) := by decide +kernel
theorem dX8_init_13 : decode cX8_init 13 = .ok (.aload_n 0, 1) := by decide +kernel
theorem dX8_init_14 : decode cX8_init 14 = .ok (.bipush 91, 2) := by decide +kernel
theorem dX8_init_16 : decode cX8_init 16 = .ok (.anewarray 17, 3) := by decide +kernel
theorem dX8_init_19 : decode cX8_init 19 = .ok (.putfield 19, 3) := by decide +kernel
theorem dX8_init_22 : decode cX8_init 22 = .ok (.aload_n 0, 1) := by decide +kernel
theorem dX8_init_23 : decode cX8_init 23 = .ok (.bipush 91, 2) := by decide +kernel
theorem dX8_init_25 : decode cX8_init 25 = .ok (.anewarray 23, 3) := by decide +kernel
theorem dX8_init_28 : decode cX8_init 28 = .ok (.putfield 25, 3) := by decide +kernel
theorem dX8_init_31 : decode cX8_init 31 = .ok (.aload_n 0, 1) := by decide +kernel
theorem dX8_init_32 : decode cX8_init 32 = .ok (.sipush 160, 3) := by decide +kernel
theorem dX8_init_35 : decode cX8_init 35 = .ok (.anewarray 29, 3) := by decide +kernel
theorem dX8_init_38 : decode cX8_init 38 = .ok (.putfield 31, 3) := by decide +kernel
theorem dX8_init_41 : decode cX8_init 41 = .ok (.aload_n 0, 1) := by decide +kernel
theorem dX8_init_42 : decode cX8_init 42 = .ok (.new 35, 3) := by decide +kernel
theorem dX8_init_45 : decode cX8_init 45 = .ok (.dup, 1) := by decide +kernel
theorem dX8_init_46 : decode cX8_init 46 = .ok (.invokespecial 37, 3) := by decide +kernel
theorem dX8_init_49 : decode cX8_init 49 = .ok (.putfield 38, 3) := by decide +kernel
theorem dX8_init_52 : decode cX8_init 52 = .ok (.aload_n 0, 1) := by decide +kernel
theorem dX8_init_53 : decode cX8_init 53 = .ok (.iconst (-1), 1) := by decide +kernel
theorem dX8_init_54 : decode cX8_init 54 = .ok (.putfield 42, 3) := by decide +kernel
theorem dX8_init_57 : decode cX8_init 57 = .ok (.aload_n 0, 1) := by decide +kernel
theorem dX8_init_58 : decode cX8_init 58 = .ok (.aload_n 1, 1) := by decide +kernel
theorem dX8_init_59 : decode cX8_init 59 = .ok (.putfield 46, 3) := by decide +kernel
theorem dX8_init_62 : decode cX8_init 62 = .ok (.aload_n 0, 1) := by decide +kernel
theorem dX8_init_63 : decode cX8_init 63 = .ok (.aload_n 2, 1) := by decide +kernel
theorem dX8_init_64 : decode cX8_init 64 = .ok (.putfield 50, 3) := by decide +kernel
theorem dX8_init_67 : decode cX8_init 67 = .ok (.new 54, 3) := by decide +kernel
theorem dX8_init_70 : decode cX8_init 70 = .ok (.dup, 1) := by decide +kernel
theorem dX8_init_71 : decode cX8_init 71 = .ok (.invokespecial 56, 3) := by decide +kernel
theorem dX8_init_74 : decode cX8_init 74 = .ok (.astore_n 3, 1) := by decide +kernel
theorem dX8_init_75 : decode cX8_init 75 = .ok (.iconst 0, 1) := by decide +kernel
theorem dX8_init_76 : decode cX8_init 76 = .ok (.istore 4, 2) := by decide +kernel
theorem dX8_init_78 : decode cX8_init 78 = .ok (.iload 4, 2) := by decide +kernel
theorem dX8_init_80 : decode cX8_init 80 = .ok (.aload_n 0, 1) := by decide +kernel
theorem dX8_init_81 : decode cX8_init 81 = .ok (.getfield 11, 3) := by decide +kernel
theorem dX8_init_84 : decode cX8_init 84 = .ok (.arraylength, 1) := by decide +kernel
theorem dX8_init_85 : decode cX8_init 85 = .ok (.if_icmp .ge 24, 3) := by decide +kernel
theorem dX8_init_88 : decode cX8_init 88 = .ok (.aload_n 0, 1) := by decide +kernel
theorem dX8_init_89 : decode cX8_init 89 = .ok (.getfield 11, 3) := by decide +kernel
theorem dX8_init_92 : decode cX8_init 92 = .ok (.iload 4, 2) := by decide +kernel
theorem dX8_init_94 : decode cX8_init 94 = .ok (.new 9, 3) := by decide +kernel
theorem dX8_init_97 : decode cX8_init 97 = .ok (.dup, 1) := by decide +kernel
theorem dX8_init_98 : decode cX8_init 98 = .ok (.aload_n 3, 1) := by decide +kernel
theorem dX8_init_99 : decode cX8_init 99 = .ok (.invokespecial 57, 3) := by decide +kernel
theorem dX8_init_102 : decode cX8_init 102 = .ok (.aastore, 1) := by decide +kernel
theorem dX8_init_103 : decode cX8_init 103 = .ok (.iinc 4 1, 3) := by decide +kernel
theorem dX8_init_106 : decode cX8_init 106 = .ok (.goto (-28), 3) := by decide +kernel
theorem dX8_init_109 : decode cX8_init 109 = .ok (.iconst 0, 1) := by decide +kernel
theorem dX8_init_110 : decode cX8_init 110 = .ok (.istore 4, 2) := by decide +kernel
theorem dX8_init_112 : decode cX8_init 112 = .ok (.iload 4, 2) := by decide +kernel
theorem dX8_init_114 : decode cX8_init 114 = .ok (.aload_n 0, 1) := by decide +kernel
theorem dX8_init_115 : decode cX8_init 115 = .ok (.getfield 19, 3) := by decide +kernel
theorem dX8_init_118 : decode cX8_init 118 = .ok (.arraylength, 1) := by decide +kernel
theorem dX8_init_119 : decode cX8_init 119 = .ok (.if_icmp .ge 37, 3) := by decide +kernel
theorem dX8_init_122 : decode cX8_init 122 = .ok (.aload_n 0, 1) := by decide +kernel
theorem dX8_init_123 : decode cX8_init 123 = .ok (.getfield 19, 3) := by decide +kernel
theorem dX8_init_126 : decode cX8_init 126 = .ok (.iload 4, 2) := by decide +kernel
theorem dX8_init_128 : decode cX8_init 128 = .ok (.new 17, 3) := by decide +kernel
theorem dX8_init_131 : decode cX8_init 131 = .ok (.dup, 1) := by decide +kernel
theorem dX8_init_132 : decode cX8_init 132 = .ok (.invokespecial 60, 3) := by decide +kernel
theorem dX8_init_135 : decode cX8_init 135 = .ok (.aastore, 1) := by decide +kernel
theorem dX8_init_136 : decode cX8_init 136 = .ok (.aload_n 0, 1) := by decide +kernel
theorem dX8_init_137 : decode cX8_init 137 = .ok (.getfield 25, 3) := by decide +kernel
theorem dX8_init_140 : decode cX8_init 140 = .ok (.iload 4, 2) := by decide +kernel
theorem dX8_init_142 : decode cX8_init 142 = .ok (.new 23, 3) := by decide +kernel
theorem dX8_init_145 : decode cX8_init 145 = .ok (.dup, 1) := by decide +kernel
theorem dX8_init_146 : decode cX8_init 146 = .ok (.invokespecial 61, 3) := by decide +kernel
theorem dX8_init_149 : decode cX8_init 149 = .ok (.aastore, 1) := by decide +kernel
theorem dX8_init_150 : decode cX8_init 150 = .ok (.iinc 4 1, 3) := by decide +kernel
theorem dX8_init_153 : decode cX8_init 153 = .ok (.goto (-41), 3) := by decide +kernel
theorem dX8_init_156 : decode cX8_init 156 = .ok (.iconst 0, 1) := by decide +kernel
theorem dX8_init_157 : decode cX8_init 157 = .ok (.istore 4, 2) := by decide +kernel
theorem dX8_init_159 : decode cX8_init 159 = .ok (.iload 4, 2) := by decide +kernel
theorem dX8_init_161 : decode cX8_init 161 = .ok (.aload_n 0, 1) := by decide +kernel
theorem dX8_init_162 : decode cX8_init 162 = .ok (.getfield 31, 3) := by decide +kernel
theorem dX8_init_165 : decode cX8_init 165 = .ok (.arraylength, 1) := by decide +kernel
theorem dX8_init_166 : decode cX8_init 166 = .ok (.if_icmp .ge 23, 3) := by decide +kernel
theorem dX8_init_169 : decode cX8_init 169 = .ok (.aload_n 0, 1) := by decide +kernel
theorem dX8_init_170 : decode cX8_init 170 = .ok (.getfield 31, 3) := by decide +kernel
theorem dX8_init_173 : decode cX8_init 173 = .ok (.iload 4, 2) := by decide +kernel
theorem dX8_init_175 : decode cX8_init 175 = .ok (.new 29, 3) := by decide +kernel
theorem dX8_init_178 : decode cX8_init 178 = .ok (.dup, 1) := by decide +kernel
theorem dX8_init_179 : decode cX8_init 179 = .ok (.invokespecial 62, 3) := by decide +kernel
theorem dX8_init_182 : decode cX8_init 182 = .ok (.aastore, 1) := by decide +kernel
theorem dX8_init_183 : decode cX8_init 183 = .ok (.iinc 4 1, 3) := by decide +kernel
theorem dX8_init_186 : decode cX8_init 186 = .ok (.goto (-27), 3) := by decide +kernel
theorem dX8_init_189 : decode cX8_init 189 = .ok (.return_, 1) := by decide +kernel
theorem dX8_told_0 : decode cX8_told 0 = .ok (.iload_n 1, 1) := by decide +kernel
theorem dX8_told_1 : decode cX8_told 1 = .ok (.tableswitch 72 0 5 #[39, 44, 49, 57, 62, 67], 39) := by decide +kernel
theorem dX8_told_40 : decode cX8_told 40 = .ok (.aload_n 0, 1) := by decide +kernel
theorem dX8_told_41 : decode cX8_told 41 = .ok (.getfield 63, 3) := by decide +kernel
theorem dX8_told_44 : decode cX8_told 44 = .ok (.ireturn, 1) := by decide +kernel
theorem dX8_told_45 : decode cX8_told 45 = .ok (.aload_n 0, 1) := by decide +kernel
theorem dX8_told_46 : decode cX8_told 46 = .ok (.getfield 66, 3) := by decide +kernel
theorem dX8_told_49 : decode cX8_told 49 = .ok (.ireturn, 1) := by decide +kernel
theorem dX8_told_50 : decode cX8_told 50 = .ok (.aload_n 0, 1) := by decide +kernel
theorem dX8_told_51 : decode cX8_told 51 = .ok (.getfield 38, 3) := by decide +kernel
theorem dX8_told_54 : decode cX8_told 54 = .ok (.getfield 69, 3) := by decide +kernel
theorem dX8_told_57 : decode cX8_told 57 = .ok (.ireturn, 1) := by decide +kernel
theorem dX8_told_58 : decode cX8_told 58 = .ok (.aload_n 0, 1) := by decide +kernel
theorem dX8_told_59 : decode cX8_told 59 = .ok (.getfield 72, 3) := by decide +kernel
theorem dX8_told_62 : decode cX8_told 62 = .ok (.ireturn, 1) := by decide +kernel
theorem dX8_told_63 : decode cX8_told 63 = .ok (.aload_n 0, 1) := by decide +kernel
theorem dX8_told_64 : decode cX8_told 64 = .ok (.getfield 75, 3) := by decide +kernel
theorem dX8_told_67 : decode cX8_told 67 = .ok (.ireturn, 1) := by decide +kernel
theorem dX8_told_68 : decode cX8_told 68 = .ok (.aload_n 0, 1) := by decide +kernel
theorem dX8_told_69 : decode cX8_told 69 = .ok (.getfield 78, 3) := by decide +kernel
theorem dX8_told_72 : decode cX8_told 72 = .ok (.ireturn, 1) := by decide +kernel
theorem dX8_told_73 : decode cX8_told 73 = .ok (.aload_n 0, 1) := by decide +kernel
theorem dX8_told_74 : decode cX8_told 74 = .ok (.getfield 63, 3) := by decide +kernel
theorem dX8_told_77 : decode cX8_told 77 = .ok (.iconst 1, 1) := by decide +kernel
theorem dX8_told_78 : decode cX8_told 78 = .ok (.if_icmp .ne 10, 3) := by decide +kernel
theorem dX8_told_81 : decode cX8_told 81 = .ok (.aload_n 0, 1) := by decide +kernel
theorem dX8_told_82 : decode cX8_told 82 = .ok (.getfield 42, 3) := by decide +kernel
theorem dX8_told_85 : decode cX8_told 85 = .ok (.goto 4, 3) := by decide +kernel
theorem dX8_told_88 : decode cX8_told 88 = .ok (.iconst (-1), 1) := by decide +kernel
theorem dX8_told_89 : decode cX8_told 89 = .ok (.ireturn, 1) := by decide +kernel
theorem dX8_perform_0 : decode cX8_perform 0 = .ok (.aload_n 0, 1) := by decide +kernel
theorem dX8_perform_1 : decode cX8_perform 1 = .ok (.iload_n 2, 1) := by decide +kernel
theorem dX8_perform_2 : decode cX8_perform 2 = .ok (.invokevirtual 81, 3) := by decide +kernel
theorem dX8_perform_5 : decode cX8_perform 5 = .ok (.aload_n 0, 1) := by decide +kernel
theorem dX8_perform_6 : decode cX8_perform 6 = .ok (.aload_n 0, 1) := by decide +kernel
theorem dX8_perform_7 : decode cX8_perform 7 = .ok (.getfield 50, 3) := by decide +kernel
theorem dX8_perform_10 : decode cX8_perform 10 = .ok (.iload_n 1, 1) := by decide +kernel
theorem dX8_perform_11 : decode cX8_perform 11 = .ok (.invokestatic 85, 3) := by decide +kernel
theorem dX8_perform_14 : decode cX8_perform 14 = .ok (.iload_n 1, 1) := by decide +kernel
theorem dX8_perform_15 : decode cX8_perform 15 = .ok (.aconst_null, 1) := by decide +kernel
theorem dX8_perform_16 : decode cX8_perform 16 = .ok (.invokevirtual 89, 3) := by decide +kernel
theorem dX8_perform_19 : decode cX8_perform 19 = .ok (.iconst 0, 1) := by decide +kernel
theorem dX8_perform_20 : decode cX8_perform 20 = .ok (.istore_n 3, 1) := by decide +kernel
theorem dX8_perform_21 : decode cX8_perform 21 = .ok (.iload_n 3, 1) := by decide +kernel
theorem dX8_perform_22 : decode cX8_perform 22 = .ok (.ldc 93, 2) := by decide +kernel
theorem dX8_perform_24 : decode cX8_perform 24 = .ok (.if_icmp .ge 117, 3) := by decide +kernel
theorem dX8_perform_27 : decode cX8_perform 27 = .ok (.aload_n 0, 1) := by decide +kernel
theorem dX8_perform_28 : decode cX8_perform 28 = .ok (.getfield 94, 3) := by decide +kernel
theorem dX8_perform_31 : decode cX8_perform 31 = .ok (.ifCond .le 110, 3) := by decide +kernel
theorem dX8_perform_34 : decode cX8_perform 34 = .ok (.aload_n 0, 1) := by decide +kernel
theorem dX8_perform_35 : decode cX8_perform 35 = .ok (.getfield 97, 3) := by decide +kernel
theorem dX8_perform_38 : decode cX8_perform 38 = .ok (.iconst 4, 1) := by decide +kernel
theorem dX8_perform_39 : decode cX8_perform 39 = .ok (.if_icmp .eq 102, 3) := by decide +kernel
theorem dX8_perform_42 : decode cX8_perform 42 = .ok (.aload_n 0, 1) := by decide +kernel
theorem dX8_perform_43 : decode cX8_perform 43 = .ok (.getfield 11, 3) := by decide +kernel
theorem dX8_perform_46 : decode cX8_perform 46 = .ok (.aload_n 0, 1) := by decide +kernel
theorem dX8_perform_47 : decode cX8_perform 47 = .ok (.getfield 94, 3) := by decide +kernel
theorem dX8_perform_50 : decode cX8_perform 50 = .ok (.aaload, 1) := by decide +kernel
theorem dX8_perform_51 : decode cX8_perform 51 = .ok (.astore 4, 2) := by decide +kernel
theorem dX8_perform_53 : decode cX8_perform 53 = .ok (.aload 4, 2) := by decide +kernel
theorem dX8_perform_55 : decode cX8_perform 55 = .ok (.getfield 100, 3) := by decide +kernel
theorem dX8_perform_58 : decode cX8_perform 58 = .ok (.aload 4, 2) := by decide +kernel
theorem dX8_perform_60 : decode cX8_perform 60 = .ok (.getfield 104, 3) := by decide +kernel
theorem dX8_perform_63 : decode cX8_perform 63 = .ok (.invokevirtual 107, 3) := by decide +kernel
theorem dX8_perform_66 : decode cX8_perform 66 = .ok (.istore 5, 2) := by decide +kernel
theorem dX8_perform_68 : decode cX8_perform 68 = .ok (.aload_n 0, 1) := by decide +kernel
theorem dX8_perform_69 : decode cX8_perform 69 = .ok (.getfield 97, 3) := by decide +kernel
theorem dX8_perform_72 : decode cX8_perform 72 = .ok (.ifCond .eq 12, 3) := by decide +kernel
theorem dX8_perform_75 : decode cX8_perform 75 = .ok (.aload_n 0, 1) := by decide +kernel
theorem dX8_perform_76 : decode cX8_perform 76 = .ok (.aload 4, 2) := by decide +kernel
theorem dX8_perform_78 : decode cX8_perform 78 = .ok (.invokevirtual 111, 3) := by decide +kernel
theorem dX8_perform_81 : decode cX8_perform 81 = .ok (.goto 54, 3) := by decide +kernel
theorem dX8_perform_84 : decode cX8_perform 84 = .ok (.iload 5, 2) := by decide +kernel
theorem dX8_perform_86 : decode cX8_perform 86 = .ok (.iconst (-1), 1) := by decide +kernel
theorem dX8_perform_87 : decode cX8_perform 87 = .ok (.if_icmp .eq 24, 3) := by decide +kernel
theorem dX8_perform_90 : decode cX8_perform 90 = .ok (.iload 5, 2) := by decide +kernel
theorem dX8_perform_92 : decode cX8_perform 92 = .ok (.bipush 14, 2) := by decide +kernel
theorem dX8_perform_94 : decode cX8_perform 94 = .ok (.if_icmp .eq 17, 3) := by decide +kernel
theorem dX8_perform_97 : decode cX8_perform 97 = .ok (.iload 5, 2) := by decide +kernel
theorem dX8_perform_99 : decode cX8_perform 99 = .ok (.bipush 15, 2) := by decide +kernel
theorem dX8_perform_101 : decode cX8_perform 101 = .ok (.if_icmp .eq 10, 3) := by decide +kernel
theorem dX8_perform_104 : decode cX8_perform 104 = .ok (.iload 5, 2) := by decide +kernel
theorem dX8_perform_106 : decode cX8_perform 106 = .ok (.bipush 16, 2) := by decide +kernel
theorem dX8_perform_108 : decode cX8_perform 108 = .ok (.if_icmp .ne 12, 3) := by decide +kernel
theorem dX8_perform_111 : decode cX8_perform 111 = .ok (.aload_n 0, 1) := by decide +kernel
theorem dX8_perform_112 : decode cX8_perform 112 = .ok (.aload 4, 2) := by decide +kernel
theorem dX8_perform_114 : decode cX8_perform 114 = .ok (.invokevirtual 115, 3) := by decide +kernel
theorem dX8_perform_117 : decode cX8_perform 117 = .ok (.goto 18, 3) := by decide +kernel
theorem dX8_perform_120 : decode cX8_perform 120 = .ok (.aload_n 0, 1) := by decide +kernel
theorem dX8_perform_121 : decode cX8_perform 121 = .ok (.invokevirtual 118, 3) := by decide +kernel
theorem dX8_perform_124 : decode cX8_perform 124 = .ok (.ifCond .eq 11, 3) := by decide +kernel
theorem dX8_perform_127 : decode cX8_perform 127 = .ok (.aload_n 0, 1) := by decide +kernel
theorem dX8_perform_128 : decode cX8_perform 128 = .ok (.aload 4, 2) := by decide +kernel
theorem dX8_perform_130 : decode cX8_perform 130 = .ok (.iload 5, 2) := by decide +kernel
theorem dX8_perform_132 : decode cX8_perform 132 = .ok (.invokevirtual 122, 3) := by decide +kernel
theorem dX8_perform_135 : decode cX8_perform 135 = .ok (.iinc 3 1, 3) := by decide +kernel
theorem dX8_perform_138 : decode cX8_perform 138 = .ok (.goto (-117), 3) := by decide +kernel
theorem dX8_perform_141 : decode cX8_perform 141 = .ok (.aload_n 0, 1) := by decide +kernel
theorem dX8_perform_142 : decode cX8_perform 142 = .ok (.getfield 94, 3) := by decide +kernel
theorem dX8_perform_145 : decode cX8_perform 145 = .ok (.ifCond .le 15, 3) := by decide +kernel
theorem dX8_perform_148 : decode cX8_perform 148 = .ok (.aload_n 0, 1) := by decide +kernel
theorem dX8_perform_149 : decode cX8_perform 149 = .ok (.invokevirtual 126, 3) := by decide +kernel
theorem dX8_perform_152 : decode cX8_perform 152 = .ok (.aload_n 0, 1) := by decide +kernel
theorem dX8_perform_153 : decode cX8_perform 153 = .ok (.iconst 2, 1) := by decide +kernel
theorem dX8_perform_154 : decode cX8_perform 154 = .ok (.putfield 63, 3) := by decide +kernel
theorem dX8_perform_157 : decode cX8_perform 157 = .ok (.goto 20, 3) := by decide +kernel
theorem dX8_perform_160 : decode cX8_perform 160 = .ok (.aload_n 0, 1) := by decide +kernel
theorem dX8_perform_161 : decode cX8_perform 161 = .ok (.aload_n 0, 1) := by decide +kernel
theorem dX8_perform_162 : decode cX8_perform 162 = .ok (.getfield 97, 3) := by decide +kernel
theorem dX8_perform_165 : decode cX8_perform 165 = .ok (.iconst 3, 1) := by decide +kernel
theorem dX8_perform_166 : decode cX8_perform 166 = .ok (.if_icmp .ne 7, 3) := by decide +kernel
theorem dX8_perform_169 : decode cX8_perform 169 = .ok (.iconst 1, 1) := by decide +kernel
theorem dX8_perform_170 : decode cX8_perform 170 = .ok (.goto 4, 3) := by decide +kernel
theorem dX8_perform_173 : decode cX8_perform 173 = .ok (.iconst 0, 1) := by decide +kernel
theorem dX8_perform_174 : decode cX8_perform 174 = .ok (.putfield 63, 3) := by decide +kernel
theorem dX8_perform_177 : decode cX8_perform 177 = .ok (.aload_n 0, 1) := by decide +kernel
theorem dX8_perform_178 : decode cX8_perform 178 = .ok (.getfield 63, 3) := by decide +kernel
theorem dX8_perform_181 : decode cX8_perform 181 = .ok (.ireturn, 1) := by decide +kernel
theorem dX8_reset_0 : decode cX8_reset 0 = .ok (.aload_n 0, 1) := by decide +kernel
theorem dX8_reset_1 : decode cX8_reset 1 = .ok (.iload_n 1, 1) := by decide +kernel
theorem dX8_reset_2 : decode cX8_reset 2 = .ok (.putfield 129, 3) := by decide +kernel
theorem dX8_reset_5 : decode cX8_reset 5 = .ok (.aload_n 0, 1) := by decide +kernel
theorem dX8_reset_6 : decode cX8_reset 6 = .ok (.iconst 0, 1) := by decide +kernel
theorem dX8_reset_7 : decode cX8_reset 7 = .ok (.putfield 94, 3) := by decide +kernel
theorem dX8_reset_10 : decode cX8_reset 10 = .ok (.aload_n 0, 1) := by decide +kernel
theorem dX8_reset_11 : decode cX8_reset 11 = .ok (.iconst 0, 1) := by decide +kernel
theorem dX8_reset_12 : decode cX8_reset 12 = .ok (.putfield 132, 3) := by decide +kernel
theorem dX8_reset_15 : decode cX8_reset 15 = .ok (.aload_n 0, 1) := by decide +kernel
theorem dX8_reset_16 : decode cX8_reset 16 = .ok (.iconst 0, 1) := by decide +kernel
theorem dX8_reset_17 : decode cX8_reset 17 = .ok (.putfield 135, 3) := by decide +kernel
theorem dX8_reset_20 : decode cX8_reset 20 = .ok (.aload_n 0, 1) := by decide +kernel
theorem dX8_reset_21 : decode cX8_reset 21 = .ok (.iconst 0, 1) := by decide +kernel
theorem dX8_reset_22 : decode cX8_reset 22 = .ok (.putfield 72, 3) := by decide +kernel
theorem dX8_reset_25 : decode cX8_reset 25 = .ok (.aload_n 0, 1) := by decide +kernel
theorem dX8_reset_26 : decode cX8_reset 26 = .ok (.getfield 38, 3) := by decide +kernel
theorem dX8_reset_29 : decode cX8_reset 29 = .ok (.iconst 0, 1) := by decide +kernel
theorem dX8_reset_30 : decode cX8_reset 30 = .ok (.putfield 69, 3) := by decide +kernel
theorem dX8_reset_33 : decode cX8_reset 33 = .ok (.aload_n 0, 1) := by decide +kernel
theorem dX8_reset_34 : decode cX8_reset 34 = .ok (.iconst 0, 1) := by decide +kernel
theorem dX8_reset_35 : decode cX8_reset 35 = .ok (.putfield 97, 3) := by decide +kernel
theorem dX8_reset_38 : decode cX8_reset 38 = .ok (.aload_n 0, 1) := by decide +kernel
theorem dX8_reset_39 : decode cX8_reset 39 = .ok (.iconst (-1), 1) := by decide +kernel
theorem dX8_reset_40 : decode cX8_reset 40 = .ok (.putfield 42, 3) := by decide +kernel
theorem dX8_reset_43 : decode cX8_reset 43 = .ok (.aload_n 0, 1) := by decide +kernel
theorem dX8_reset_44 : decode cX8_reset 44 = .ok (.iconst 0, 1) := by decide +kernel
theorem dX8_reset_45 : decode cX8_reset 45 = .ok (.putfield 66, 3) := by decide +kernel
theorem dX8_reset_48 : decode cX8_reset 48 = .ok (.aload_n 0, 1) := by decide +kernel
theorem dX8_reset_49 : decode cX8_reset 49 = .ok (.iconst 0, 1) := by decide +kernel
theorem dX8_reset_50 : decode cX8_reset 50 = .ok (.putfield 75, 3) := by decide +kernel
theorem dX8_reset_53 : decode cX8_reset 53 = .ok (.aload_n 0, 1) := by decide +kernel
theorem dX8_reset_54 : decode cX8_reset 54 = .ok (.iconst 0, 1) := by decide +kernel
theorem dX8_reset_55 : decode cX8_reset 55 = .ok (.putfield 78, 3) := by decide +kernel
theorem dX8_reset_58 : decode cX8_reset 58 = .ok (.return_, 1) := by decide +kernel
theorem dX8_step_0 : decode cX8_step 0 = .ok (.aload_n 0, 1) := by decide +kernel
theorem dX8_step_1 : decode cX8_step 1 = .ok (.getfield 66, 3) := by decide +kernel
theorem dX8_step_4 : decode cX8_step 4 = .ok (.sipush 160, 3) := by decide +kernel
theorem dX8_step_7 : decode cX8_step 7 = .ok (.if_icmp .lt 10, 3) := by decide +kernel
theorem dX8_step_10 : decode cX8_step 10 = .ok (.aload_n 0, 1) := by decide +kernel
theorem dX8_step_11 : decode cX8_step 11 = .ok (.iconst 4, 1) := by decide +kernel
theorem dX8_step_12 : decode cX8_step 12 = .ok (.putfield 97, 3) := by decide +kernel
theorem dX8_step_15 : decode cX8_step 15 = .ok (.iconst 0, 1) := by decide +kernel
theorem dX8_step_16 : decode cX8_step 16 = .ok (.ireturn, 1) := by decide +kernel
theorem dX8_step_17 : decode cX8_step 17 = .ok (.aload_n 0, 1) := by decide +kernel
theorem dX8_step_18 : decode cX8_step 18 = .ok (.dup, 1) := by decide +kernel
theorem dX8_step_19 : decode cX8_step 19 = .ok (.getfield 66, 3) := by decide +kernel
theorem dX8_step_22 : decode cX8_step 22 = .ok (.iconst 1, 1) := by decide +kernel
theorem dX8_step_23 : decode cX8_step 23 = .ok (.iadd, 1) := by decide +kernel
theorem dX8_step_24 : decode cX8_step 24 = .ok (.putfield 66, 3) := by decide +kernel
theorem dX8_step_27 : decode cX8_step 27 = .ok (.iconst 1, 1) := by decide +kernel
theorem dX8_step_28 : decode cX8_step 28 = .ok (.ireturn, 1) := by decide +kernel
theorem dX8_enter_0 : decode cX8_enter 0 = .ok (.aload_n 1, 1) := by decide +kernel
theorem dX8_enter_1 : decode cX8_enter 1 = .ok (.ifnull 51, 3) := by decide +kernel
theorem dX8_enter_4 : decode cX8_enter 4 = .ok (.aload_n 0, 1) := by decide +kernel
theorem dX8_enter_5 : decode cX8_enter 5 = .ok (.getfield 94, 3) := by decide +kernel
theorem dX8_enter_8 : decode cX8_enter 8 = .ok (.bipush 10, 2) := by decide +kernel
theorem dX8_enter_10 : decode cX8_enter 10 = .ok (.if_icmp .ge 42, 3) := by decide +kernel
theorem dX8_enter_13 : decode cX8_enter 13 = .ok (.aload_n 0, 1) := by decide +kernel
theorem dX8_enter_14 : decode cX8_enter 14 = .ok (.dup, 1) := by decide +kernel
theorem dX8_enter_15 : decode cX8_enter 15 = .ok (.getfield 94, 3) := by decide +kernel
theorem dX8_enter_18 : decode cX8_enter 18 = .ok (.iconst 1, 1) := by decide +kernel
theorem dX8_enter_19 : decode cX8_enter 19 = .ok (.iadd, 1) := by decide +kernel
theorem dX8_enter_20 : decode cX8_enter 20 = .ok (.putfield 94, 3) := by decide +kernel
theorem dX8_enter_23 : decode cX8_enter 23 = .ok (.aload_n 0, 1) := by decide +kernel
theorem dX8_enter_24 : decode cX8_enter 24 = .ok (.getfield 11, 3) := by decide +kernel
theorem dX8_enter_27 : decode cX8_enter 27 = .ok (.aload_n 0, 1) := by decide +kernel
theorem dX8_enter_28 : decode cX8_enter 28 = .ok (.getfield 94, 3) := by decide +kernel
theorem dX8_enter_31 : decode cX8_enter 31 = .ok (.aaload, 1) := by decide +kernel
theorem dX8_enter_32 : decode cX8_enter 32 = .ok (.aload_n 1, 1) := by decide +kernel
theorem dX8_enter_33 : decode cX8_enter 33 = .ok (.iload_n 2, 1) := by decide +kernel
theorem dX8_enter_34 : decode cX8_enter 34 = .ok (.aload_n 3, 1) := by decide +kernel
theorem dX8_enter_35 : decode cX8_enter 35 = .ok (.invokevirtual 138, 3) := by decide +kernel
theorem dX8_enter_38 : decode cX8_enter 38 = .ok (.aload_n 0, 1) := by decide +kernel
theorem dX8_enter_39 : decode cX8_enter 39 = .ok (.bipush 17, 2) := by decide +kernel
theorem dX8_enter_41 : decode cX8_enter 41 = .ok (.iconst (-1), 1) := by decide +kernel
theorem dX8_enter_42 : decode cX8_enter 42 = .ok (.iconst 0, 1) := by decide +kernel
theorem dX8_enter_43 : decode cX8_enter 43 = .ok (.invokevirtual 141, 3) := by decide +kernel
theorem dX8_enter_46 : decode cX8_enter 46 = .ok (.aload_n 0, 1) := by decide +kernel
theorem dX8_enter_47 : decode cX8_enter 47 = .ok (.iload_n 2, 1) := by decide +kernel
theorem dX8_enter_48 : decode cX8_enter 48 = .ok (.iconst (-1), 1) := by decide +kernel
theorem dX8_enter_49 : decode cX8_enter 49 = .ok (.invokevirtual 145, 3) := by decide +kernel
theorem dX8_enter_52 : decode cX8_enter 52 = .ok (.return_, 1) := by decide +kernel
theorem dX8_push_0 : decode cX8_push 0 = .ok (.aload_n 0, 1) := by decide +kernel
theorem dX8_push_1 : decode cX8_push 1 = .ok (.getfield 132, 3) := by decide +kernel
theorem dX8_push_4 : decode cX8_push 4 = .ok (.bipush 90, 2) := by decide +kernel
theorem dX8_push_6 : decode cX8_push 6 = .ok (.if_icmp .ge 28, 3) := by decide +kernel
theorem dX8_push_9 : decode cX8_push 9 = .ok (.aload_n 0, 1) := by decide +kernel
theorem dX8_push_10 : decode cX8_push 10 = .ok (.dup, 1) := by decide +kernel
theorem dX8_push_11 : decode cX8_push 11 = .ok (.getfield 132, 3) := by decide +kernel
theorem dX8_push_14 : decode cX8_push 14 = .ok (.iconst 1, 1) := by decide +kernel
theorem dX8_push_15 : decode cX8_push 15 = .ok (.iadd, 1) := by decide +kernel
theorem dX8_push_16 : decode cX8_push 16 = .ok (.putfield 132, 3) := by decide +kernel
theorem dX8_push_19 : decode cX8_push 19 = .ok (.aload_n 0, 1) := by decide +kernel
theorem dX8_push_20 : decode cX8_push 20 = .ok (.getfield 19, 3) := by decide +kernel
theorem dX8_push_23 : decode cX8_push 23 = .ok (.aload_n 0, 1) := by decide +kernel
theorem dX8_push_24 : decode cX8_push 24 = .ok (.getfield 132, 3) := by decide +kernel
theorem dX8_push_27 : decode cX8_push 27 = .ok (.aaload, 1) := by decide +kernel
theorem dX8_push_28 : decode cX8_push 28 = .ok (.iload_n 1, 1) := by decide +kernel
theorem dX8_push_29 : decode cX8_push 29 = .ok (.iload_n 2, 1) := by decide +kernel
theorem dX8_push_30 : decode cX8_push 30 = .ok (.iload_n 3, 1) := by decide +kernel
theorem dX8_push_31 : decode cX8_push 31 = .ok (.invokevirtual 149, 3) := by decide +kernel
theorem dX8_push_34 : decode cX8_push 34 = .ok (.return_, 1) := by decide +kernel
theorem dX8_pop_0 : decode cX8_pop 0 = .ok (.aload_n 0, 1) := by decide +kernel
theorem dX8_pop_1 : decode cX8_pop 1 = .ok (.getfield 132, 3) := by decide +kernel
theorem dX8_pop_4 : decode cX8_pop 4 = .ok (.ifCond .le 13, 3) := by decide +kernel
theorem dX8_pop_7 : decode cX8_pop 7 = .ok (.aload_n 0, 1) := by decide +kernel
theorem dX8_pop_8 : decode cX8_pop 8 = .ok (.dup, 1) := by decide +kernel
theorem dX8_pop_9 : decode cX8_pop 9 = .ok (.getfield 132, 3) := by decide +kernel
theorem dX8_pop_12 : decode cX8_pop 12 = .ok (.iconst 1, 1) := by decide +kernel
theorem dX8_pop_13 : decode cX8_pop 13 = .ok (.isub, 1) := by decide +kernel
theorem dX8_pop_14 : decode cX8_pop 14 = .ok (.putfield 132, 3) := by decide +kernel
theorem dX8_pop_17 : decode cX8_pop 17 = .ok (.return_, 1) := by decide +kernel
theorem dX8_openScope_0 : decode cX8_openScope 0 = .ok (.aload_n 0, 1) := by decide +kernel
theorem dX8_openScope_1 : decode cX8_openScope 1 = .ok (.getfield 135, 3) := by decide +kernel
theorem dX8_openScope_4 : decode cX8_openScope 4 = .ok (.bipush 90, 2) := by decide +kernel
theorem dX8_openScope_6 : decode cX8_openScope 6 = .ok (.if_icmp .ge 27, 3) := by decide +kernel
theorem dX8_openScope_9 : decode cX8_openScope 9 = .ok (.aload_n 0, 1) := by decide +kernel
theorem dX8_openScope_10 : decode cX8_openScope 10 = .ok (.dup, 1) := by decide +kernel
theorem dX8_openScope_11 : decode cX8_openScope 11 = .ok (.getfield 135, 3) := by decide +kernel
theorem dX8_openScope_14 : decode cX8_openScope 14 = .ok (.iconst 1, 1) := by decide +kernel
theorem dX8_openScope_15 : decode cX8_openScope 15 = .ok (.iadd, 1) := by decide +kernel
theorem dX8_openScope_16 : decode cX8_openScope 16 = .ok (.putfield 135, 3) := by decide +kernel
theorem dX8_openScope_19 : decode cX8_openScope 19 = .ok (.aload_n 0, 1) := by decide +kernel
theorem dX8_openScope_20 : decode cX8_openScope 20 = .ok (.getfield 25, 3) := by decide +kernel
theorem dX8_openScope_23 : decode cX8_openScope 23 = .ok (.aload_n 0, 1) := by decide +kernel
theorem dX8_openScope_24 : decode cX8_openScope 24 = .ok (.getfield 135, 3) := by decide +kernel
theorem dX8_openScope_27 : decode cX8_openScope 27 = .ok (.aaload, 1) := by decide +kernel
theorem dX8_openScope_28 : decode cX8_openScope 28 = .ok (.iload_n 1, 1) := by decide +kernel
theorem dX8_openScope_29 : decode cX8_openScope 29 = .ok (.iload_n 2, 1) := by decide +kernel
theorem dX8_openScope_30 : decode cX8_openScope 30 = .ok (.invokevirtual 151, 3) := by decide +kernel
theorem dX8_openScope_33 : decode cX8_openScope 33 = .ok (.return_, 1) := by decide +kernel
theorem dX8_doLine_0 : decode cX8_doLine 0 = .ok (.aload_n 1, 1) := by decide +kernel
theorem dX8_doLine_1 : decode cX8_doLine 1 = .ok (.getfield 100, 3) := by decide +kernel
theorem dX8_doLine_4 : decode cX8_doLine 4 = .ok (.aload_n 1, 1) := by decide +kernel
theorem dX8_doLine_5 : decode cX8_doLine 5 = .ok (.getfield 104, 3) := by decide +kernel
theorem dX8_doLine_8 : decode cX8_doLine 8 = .ok (.invokevirtual 153, 3) := by decide +kernel
theorem dX8_doLine_11 : decode cX8_doLine 11 = .ok (.istore_n 3, 1) := by decide +kernel
theorem dX8_doLine_12 : decode cX8_doLine 12 = .ok (.aload_n 1, 1) := by decide +kernel
theorem dX8_doLine_13 : decode cX8_doLine 13 = .ok (.getfield 100, 3) := by decide +kernel
theorem dX8_doLine_16 : decode cX8_doLine 16 = .ok (.aload_n 1, 1) := by decide +kernel
theorem dX8_doLine_17 : decode cX8_doLine 17 = .ok (.getfield 104, 3) := by decide +kernel
theorem dX8_doLine_20 : decode cX8_doLine 20 = .ok (.invokevirtual 156, 3) := by decide +kernel
theorem dX8_doLine_23 : decode cX8_doLine 23 = .ok (.istore 4, 2) := by decide +kernel
theorem dX8_doLine_25 : decode cX8_doLine 25 = .ok (.iload_n 2, 1) := by decide +kernel
theorem dX8_doLine_26 : decode cX8_doLine 26 = .ok (.tableswitch 190 0 10 #[58, 70, 81, 93, 106, 119, 134, 149, 164, 174, 182], 58) := by decide +kernel
theorem dX8_doLine_84 : decode cX8_doLine 84 = .ok (.aload_n 0, 1) := by decide +kernel
theorem dX8_doLine_85 : decode cX8_doLine 85 = .ok (.aload_n 1, 1) := by decide +kernel
theorem dX8_doLine_86 : decode cX8_doLine 86 = .ok (.iload_n 3, 1) := by decide +kernel
theorem dX8_doLine_87 : decode cX8_doLine 87 = .ok (.iload 4, 2) := by decide +kernel
theorem dX8_doLine_89 : decode cX8_doLine 89 = .ok (.iconst 0, 1) := by decide +kernel
theorem dX8_doLine_90 : decode cX8_doLine 90 = .ok (.invokevirtual 159, 3) := by decide +kernel
theorem dX8_doLine_93 : decode cX8_doLine 93 = .ok (.goto 130, 3) := by decide +kernel
theorem dX8_doLine_96 : decode cX8_doLine 96 = .ok (.aload_n 0, 1) := by decide +kernel
theorem dX8_doLine_97 : decode cX8_doLine 97 = .ok (.aload_n 1, 1) := by decide +kernel
theorem dX8_doLine_98 : decode cX8_doLine 98 = .ok (.iload_n 3, 1) := by decide +kernel
theorem dX8_doLine_99 : decode cX8_doLine 99 = .ok (.iload 4, 2) := by decide +kernel
theorem dX8_doLine_101 : decode cX8_doLine 101 = .ok (.invokevirtual 163, 3) := by decide +kernel
theorem dX8_doLine_104 : decode cX8_doLine 104 = .ok (.goto 119, 3) := by decide +kernel
theorem dX8_doLine_107 : decode cX8_doLine 107 = .ok (.aload_n 0, 1) := by decide +kernel
theorem dX8_doLine_108 : decode cX8_doLine 108 = .ok (.aload_n 1, 1) := by decide +kernel
theorem dX8_doLine_109 : decode cX8_doLine 109 = .ok (.iload_n 3, 1) := by decide +kernel
theorem dX8_doLine_110 : decode cX8_doLine 110 = .ok (.iload 4, 2) := by decide +kernel
theorem dX8_doLine_112 : decode cX8_doLine 112 = .ok (.iconst 1, 1) := by decide +kernel
theorem dX8_doLine_113 : decode cX8_doLine 113 = .ok (.invokevirtual 159, 3) := by decide +kernel
theorem dX8_doLine_116 : decode cX8_doLine 116 = .ok (.goto 107, 3) := by decide +kernel
theorem dX8_doLine_119 : decode cX8_doLine 119 = .ok (.aload_n 0, 1) := by decide +kernel
theorem dX8_doLine_120 : decode cX8_doLine 120 = .ok (.aload_n 1, 1) := by decide +kernel
theorem dX8_doLine_121 : decode cX8_doLine 121 = .ok (.aload_n 1, 1) := by decide +kernel
theorem dX8_doLine_122 : decode cX8_doLine 122 = .ok (.iload_n 3, 1) := by decide +kernel
theorem dX8_doLine_123 : decode cX8_doLine 123 = .ok (.invokevirtual 167, 3) := by decide +kernel
theorem dX8_doLine_126 : decode cX8_doLine 126 = .ok (.invokevirtual 171, 3) := by decide +kernel
theorem dX8_doLine_129 : decode cX8_doLine 129 = .ok (.goto 94, 3) := by decide +kernel
theorem dX8_doLine_132 : decode cX8_doLine 132 = .ok (.aload_n 0, 1) := by decide +kernel
theorem dX8_doLine_133 : decode cX8_doLine 133 = .ok (.aload_n 1, 1) := by decide +kernel
theorem dX8_doLine_134 : decode cX8_doLine 134 = .ok (.aload_n 1, 1) := by decide +kernel
theorem dX8_doLine_135 : decode cX8_doLine 135 = .ok (.iload_n 3, 1) := by decide +kernel
theorem dX8_doLine_136 : decode cX8_doLine 136 = .ok (.invokevirtual 167, 3) := by decide +kernel
theorem dX8_doLine_139 : decode cX8_doLine 139 = .ok (.invokevirtual 175, 3) := by decide +kernel
theorem dX8_doLine_142 : decode cX8_doLine 142 = .ok (.goto 81, 3) := by decide +kernel
theorem dX8_doLine_145 : decode cX8_doLine 145 = .ok (.aload_n 0, 1) := by decide +kernel
theorem dX8_doLine_146 : decode cX8_doLine 146 = .ok (.aload_n 1, 1) := by decide +kernel
theorem dX8_doLine_147 : decode cX8_doLine 147 = .ok (.aload_n 1, 1) := by decide +kernel
theorem dX8_doLine_148 : decode cX8_doLine 148 = .ok (.iload_n 3, 1) := by decide +kernel
theorem dX8_doLine_149 : decode cX8_doLine 149 = .ok (.invokevirtual 167, 3) := by decide +kernel
theorem dX8_doLine_152 : decode cX8_doLine 152 = .ok (.iload 4, 2) := by decide +kernel
theorem dX8_doLine_154 : decode cX8_doLine 154 = .ok (.invokevirtual 178, 3) := by decide +kernel
theorem dX8_doLine_157 : decode cX8_doLine 157 = .ok (.goto 66, 3) := by decide +kernel
theorem dX8_doLine_160 : decode cX8_doLine 160 = .ok (.aload_n 0, 1) := by decide +kernel
theorem dX8_doLine_161 : decode cX8_doLine 161 = .ok (.aload_n 1, 1) := by decide +kernel
theorem dX8_doLine_162 : decode cX8_doLine 162 = .ok (.aload_n 1, 1) := by decide +kernel
theorem dX8_doLine_163 : decode cX8_doLine 163 = .ok (.iload_n 3, 1) := by decide +kernel
theorem dX8_doLine_164 : decode cX8_doLine 164 = .ok (.invokevirtual 167, 3) := by decide +kernel
theorem dX8_doLine_167 : decode cX8_doLine 167 = .ok (.iload 4, 2) := by decide +kernel
theorem dX8_doLine_169 : decode cX8_doLine 169 = .ok (.invokevirtual 182, 3) := by decide +kernel
theorem dX8_doLine_172 : decode cX8_doLine 172 = .ok (.goto 51, 3) := by decide +kernel
theorem dX8_doLine_175 : decode cX8_doLine 175 = .ok (.aload_n 0, 1) := by decide +kernel
theorem dX8_doLine_176 : decode cX8_doLine 176 = .ok (.aload_n 1, 1) := by decide +kernel
theorem dX8_doLine_177 : decode cX8_doLine 177 = .ok (.iload_n 3, 1) := by decide +kernel
theorem dX8_doLine_178 : decode cX8_doLine 178 = .ok (.aload_n 1, 1) := by decide +kernel
theorem dX8_doLine_179 : decode cX8_doLine 179 = .ok (.iload 4, 2) := by decide +kernel
theorem dX8_doLine_181 : decode cX8_doLine 181 = .ok (.invokevirtual 167, 3) := by decide +kernel
theorem dX8_doLine_184 : decode cX8_doLine 184 = .ok (.invokevirtual 185, 3) := by decide +kernel
theorem dX8_doLine_187 : decode cX8_doLine 187 = .ok (.goto 36, 3) := by decide +kernel
theorem dX8_doLine_190 : decode cX8_doLine 190 = .ok (.aload_n 0, 1) := by decide +kernel
theorem dX8_doLine_191 : decode cX8_doLine 191 = .ok (.aload_n 1, 1) := by decide +kernel
theorem dX8_doLine_192 : decode cX8_doLine 192 = .ok (.iload_n 3, 1) := by decide +kernel
theorem dX8_doLine_193 : decode cX8_doLine 193 = .ok (.iconst (-1), 1) := by decide +kernel
theorem dX8_doLine_194 : decode cX8_doLine 194 = .ok (.invokevirtual 189, 3) := by decide +kernel
theorem dX8_doLine_197 : decode cX8_doLine 197 = .ok (.goto 26, 3) := by decide +kernel
theorem dX8_doLine_200 : decode cX8_doLine 200 = .ok (.aload_n 0, 1) := by decide +kernel
theorem dX8_doLine_201 : decode cX8_doLine 201 = .ok (.iconst 1, 1) := by decide +kernel
theorem dX8_doLine_202 : decode cX8_doLine 202 = .ok (.putfield 97, 3) := by decide +kernel
theorem dX8_doLine_205 : decode cX8_doLine 205 = .ok (.goto 18, 3) := by decide +kernel
theorem dX8_doLine_208 : decode cX8_doLine 208 = .ok (.aload_n 0, 1) := by decide +kernel
theorem dX8_doLine_209 : decode cX8_doLine 209 = .ok (.iconst 2, 1) := by decide +kernel
theorem dX8_doLine_210 : decode cX8_doLine 210 = .ok (.putfield 97, 3) := by decide +kernel
theorem dX8_doLine_213 : decode cX8_doLine 213 = .ok (.goto 10, 3) := by decide +kernel
theorem dX8_doLine_216 : decode cX8_doLine 216 = .ok (.aload_n 0, 1) := by decide +kernel
theorem dX8_doLine_217 : decode cX8_doLine 217 = .ok (.aload_n 1, 1) := by decide +kernel
theorem dX8_doLine_218 : decode cX8_doLine 218 = .ok (.iload_n 2, 1) := by decide +kernel
theorem dX8_doLine_219 : decode cX8_doLine 219 = .ok (.iload_n 3, 1) := by decide +kernel
theorem dX8_doLine_220 : decode cX8_doLine 220 = .ok (.invokevirtual 192, 3) := by decide +kernel
theorem dX8_doLine_223 : decode cX8_doLine 223 = .ok (.aload_n 0, 1) := by decide +kernel
theorem dX8_doLine_224 : decode cX8_doLine 224 = .ok (.getfield 97, 3) := by decide +kernel
theorem dX8_doLine_227 : decode cX8_doLine 227 = .ok (.ifCond .ne 19, 3) := by decide +kernel
theorem dX8_doLine_230 : decode cX8_doLine 230 = .ok (.iload_n 2, 1) := by decide +kernel
theorem dX8_doLine_231 : decode cX8_doLine 231 = .ok (.bipush 6, 2) := by decide +kernel
theorem dX8_doLine_233 : decode cX8_doLine 233 = .ok (.if_icmp .gt 13, 3) := by decide +kernel
theorem dX8_doLine_236 : decode cX8_doLine 236 = .ok (.aload_n 1, 1) := by decide +kernel
theorem dX8_doLine_237 : decode cX8_doLine 237 = .ok (.dup, 1) := by decide +kernel
theorem dX8_doLine_238 : decode cX8_doLine 238 = .ok (.getfield 104, 3) := by decide +kernel
theorem dX8_doLine_241 : decode cX8_doLine 241 = .ok (.iconst 1, 1) := by decide +kernel
theorem dX8_doLine_242 : decode cX8_doLine 242 = .ok (.iadd, 1) := by decide +kernel
theorem dX8_doLine_243 : decode cX8_doLine 243 = .ok (.putfield 104, 3) := by decide +kernel
theorem dX8_doLine_246 : decode cX8_doLine 246 = .ok (.return_, 1) := by decide +kernel
theorem dX8_borrow_0 : decode cX8_borrow 0 = .ok (.aload_n 0, 1) := by decide +kernel
theorem dX8_borrow_1 : decode cX8_borrow 1 = .ok (.getfield 46, 3) := by decide +kernel
theorem dX8_borrow_4 : decode cX8_borrow 4 = .ok (.iload_n 3, 1) := by decide +kernel
theorem dX8_borrow_5 : decode cX8_borrow 5 = .ok (.invokevirtual 195, 3) := by decide +kernel
theorem dX8_borrow_8 : decode cX8_borrow 8 = .ok (.astore 5, 2) := by decide +kernel
theorem dX8_borrow_10 : decode cX8_borrow 10 = .ok (.aload 5, 2) := by decide +kernel
theorem dX8_borrow_12 : decode cX8_borrow 12 = .ok (.ifnull 11, 3) := by decide +kernel
theorem dX8_borrow_15 : decode cX8_borrow 15 = .ok (.aload 5, 2) := by decide +kernel
theorem dX8_borrow_17 : decode cX8_borrow 17 = .ok (.getfield 201, 3) := by decide +kernel
theorem dX8_borrow_20 : decode cX8_borrow 20 = .ok (.ifCond .eq 13, 3) := by decide +kernel
theorem dX8_borrow_23 : decode cX8_borrow 23 = .ok (.aload_n 0, 1) := by decide +kernel
theorem dX8_borrow_24 : decode cX8_borrow 24 = .ok (.aload_n 1, 1) := by decide +kernel
theorem dX8_borrow_25 : decode cX8_borrow 25 = .ok (.iconst 2, 1) := by decide +kernel
theorem dX8_borrow_26 : decode cX8_borrow 26 = .ok (.iload_n 3, 1) := by decide +kernel
theorem dX8_borrow_27 : decode cX8_borrow 27 = .ok (.invokevirtual 189, 3) := by decide +kernel
theorem dX8_borrow_30 : decode cX8_borrow 30 = .ok (.goto 13, 3) := by decide +kernel
theorem dX8_borrow_33 : decode cX8_borrow 33 = .ok (.aload_n 0, 1) := by decide +kernel
theorem dX8_borrow_34 : decode cX8_borrow 34 = .ok (.aload_n 1, 1) := by decide +kernel
theorem dX8_borrow_35 : decode cX8_borrow 35 = .ok (.iload_n 2, 1) := by decide +kernel
theorem dX8_borrow_36 : decode cX8_borrow 36 = .ok (.aload 5, 2) := by decide +kernel
theorem dX8_borrow_38 : decode cX8_borrow 38 = .ok (.iload 4, 2) := by decide +kernel
theorem dX8_borrow_40 : decode cX8_borrow 40 = .ok (.invokevirtual 206, 3) := by decide +kernel
theorem dX8_borrow_43 : decode cX8_borrow 43 = .ok (.return_, 1) := by decide +kernel
theorem dX8_take_0 : decode cX8_take 0 = .ok (.aload_n 0, 1) := by decide +kernel
theorem dX8_take_1 : decode cX8_take 1 = .ok (.getfield 46, 3) := by decide +kernel
theorem dX8_take_4 : decode cX8_take 4 = .ok (.iload_n 3, 1) := by decide +kernel
theorem dX8_take_5 : decode cX8_take 5 = .ok (.invokevirtual 210, 3) := by decide +kernel
theorem dX8_take_8 : decode cX8_take 8 = .ok (.astore 4, 2) := by decide +kernel
theorem dX8_take_10 : decode cX8_take 10 = .ok (.aload 4, 2) := by decide +kernel
theorem dX8_take_12 : decode cX8_take 12 = .ok (.ifnonnull 14, 3) := by decide +kernel
theorem dX8_take_15 : decode cX8_take 15 = .ok (.aload_n 0, 1) := by decide +kernel
theorem dX8_take_16 : decode cX8_take 16 = .ok (.aload_n 1, 1) := by decide +kernel
theorem dX8_take_17 : decode cX8_take 17 = .ok (.bipush 7, 2) := by decide +kernel
theorem dX8_take_19 : decode cX8_take 19 = .ok (.iconst (-1), 1) := by decide +kernel
theorem dX8_take_20 : decode cX8_take 20 = .ok (.invokevirtual 189, 3) := by decide +kernel
theorem dX8_take_23 : decode cX8_take 23 = .ok (.goto 12, 3) := by decide +kernel
theorem dX8_take_26 : decode cX8_take 26 = .ok (.aload_n 0, 1) := by decide +kernel
theorem dX8_take_27 : decode cX8_take 27 = .ok (.aload_n 1, 1) := by decide +kernel
theorem dX8_take_28 : decode cX8_take 28 = .ok (.iload_n 2, 1) := by decide +kernel
theorem dX8_take_29 : decode cX8_take 29 = .ok (.aload 4, 2) := by decide +kernel
theorem dX8_take_31 : decode cX8_take 31 = .ok (.iconst 0, 1) := by decide +kernel
theorem dX8_take_32 : decode cX8_take 32 = .ok (.invokevirtual 206, 3) := by decide +kernel
theorem dX8_take_35 : decode cX8_take 35 = .ok (.return_, 1) := by decide +kernel
theorem dX8_hire_0 : decode cX8_hire 0 = .ok (.aload_n 0, 1) := by decide +kernel
theorem dX8_hire_1 : decode cX8_hire 1 = .ok (.getfield 46, 3) := by decide +kernel
theorem dX8_hire_4 : decode cX8_hire 4 = .ok (.aload_n 3, 1) := by decide +kernel
theorem dX8_hire_5 : decode cX8_hire 5 = .ok (.aload_n 0, 1) := by decide +kernel
theorem dX8_hire_6 : decode cX8_hire 6 = .ok (.getfield 129, 3) := by decide +kernel
theorem dX8_hire_9 : decode cX8_hire 9 = .ok (.iload 4, 2) := by decide +kernel
theorem dX8_hire_11 : decode cX8_hire 11 = .ok (.iconst 1, 1) := by decide +kernel
theorem dX8_hire_12 : decode cX8_hire 12 = .ok (.if_icmp .ne 7, 3) := by decide +kernel
theorem dX8_hire_15 : decode cX8_hire 15 = .ok (.iconst 1, 1) := by decide +kernel
theorem dX8_hire_16 : decode cX8_hire 16 = .ok (.goto 4, 3) := by decide +kernel
theorem dX8_hire_19 : decode cX8_hire 19 = .ok (.iconst 0, 1) := by decide +kernel
theorem dX8_hire_20 : decode cX8_hire 20 = .ok (.invokevirtual 213, 3) := by decide +kernel
theorem dX8_hire_23 : decode cX8_hire 23 = .ok (.aload_n 0, 1) := by decide +kernel
theorem dX8_hire_24 : decode cX8_hire 24 = .ok (.aload_n 1, 1) := by decide +kernel
theorem dX8_hire_25 : decode cX8_hire 25 = .ok (.iload_n 2, 1) := by decide +kernel
theorem dX8_hire_26 : decode cX8_hire 26 = .ok (.aload_n 3, 1) := by decide +kernel
theorem dX8_hire_27 : decode cX8_hire 27 = .ok (.iload 4, 2) := by decide +kernel
theorem dX8_hire_29 : decode cX8_hire 29 = .ok (.aconst_null, 1) := by decide +kernel
theorem dX8_hire_30 : decode cX8_hire 30 = .ok (.invokevirtual 217, 3) := by decide +kernel
theorem dX8_hire_33 : decode cX8_hire 33 = .ok (.iload 4, 2) := by decide +kernel
theorem dX8_hire_35 : decode cX8_hire 35 = .ok (.iconst 1, 1) := by decide +kernel
theorem dX8_hire_36 : decode cX8_hire 36 = .ok (.if_icmp .ne 52, 3) := by decide +kernel
theorem dX8_hire_39 : decode cX8_hire 39 = .ok (.iconst 1, 1) := by decide +kernel
theorem dX8_hire_40 : decode cX8_hire 40 = .ok (.istore 5, 2) := by decide +kernel
theorem dX8_hire_42 : decode cX8_hire 42 = .ok (.iload 5, 2) := by decide +kernel
theorem dX8_hire_44 : decode cX8_hire 44 = .ok (.aload_n 0, 1) := by decide +kernel
theorem dX8_hire_45 : decode cX8_hire 45 = .ok (.getfield 94, 3) := by decide +kernel
theorem dX8_hire_48 : decode cX8_hire 48 = .ok (.if_icmp .gt 40, 3) := by decide +kernel
theorem dX8_hire_51 : decode cX8_hire 51 = .ok (.iload 5, 2) := by decide +kernel
theorem dX8_hire_53 : decode cX8_hire 53 = .ok (.bipush 10, 2) := by decide +kernel
theorem dX8_hire_55 : decode cX8_hire 55 = .ok (.if_icmp .gt 33, 3) := by decide +kernel
theorem dX8_hire_58 : decode cX8_hire 58 = .ok (.aload_n 3, 1) := by decide +kernel
theorem dX8_hire_59 : decode cX8_hire 59 = .ok (.aload_n 0, 1) := by decide +kernel
theorem dX8_hire_60 : decode cX8_hire 60 = .ok (.getfield 11, 3) := by decide +kernel
theorem dX8_hire_63 : decode cX8_hire 63 = .ok (.iload 5, 2) := by decide +kernel
theorem dX8_hire_65 : decode cX8_hire 65 = .ok (.aaload, 1) := by decide +kernel
theorem dX8_hire_66 : decode cX8_hire 66 = .ok (.getfield 221, 3) := by decide +kernel
theorem dX8_hire_69 : decode cX8_hire 69 = .ok (.aload_n 0, 1) := by decide +kernel
theorem dX8_hire_70 : decode cX8_hire 70 = .ok (.getfield 11, 3) := by decide +kernel
theorem dX8_hire_73 : decode cX8_hire 73 = .ok (.iload 5, 2) := by decide +kernel
theorem dX8_hire_75 : decode cX8_hire 75 = .ok (.aaload, 1) := by decide +kernel
theorem dX8_hire_76 : decode cX8_hire 76 = .ok (.getfield 104, 3) := by decide +kernel
theorem dX8_hire_79 : decode cX8_hire 79 = .ok (.invokevirtual 224, 3) := by decide +kernel
theorem dX8_hire_82 : decode cX8_hire 82 = .ok (.iinc 5 1, 3) := by decide +kernel
theorem dX8_hire_85 : decode cX8_hire 85 = .ok (.goto (-43), 3) := by decide +kernel
theorem dX8_hire_88 : decode cX8_hire 88 = .ok (.return_, 1) := by decide +kernel
theorem dX8_makeLoan_0 : decode cX8_makeLoan 0 = .ok (.aload_n 0, 1) := by decide +kernel
theorem dX8_makeLoan_1 : decode cX8_makeLoan 1 = .ok (.getfield 72, 3) := by decide +kernel
theorem dX8_makeLoan_4 : decode cX8_makeLoan 4 = .ok (.sipush 160, 3) := by decide +kernel
theorem dX8_makeLoan_7 : decode cX8_makeLoan 7 = .ok (.invokestatic 227, 3) := by decide +kernel
theorem dX8_makeLoan_10 : decode cX8_makeLoan 10 = .ok (.ifCond .ne 4, 3) := by decide +kernel
theorem dX8_makeLoan_13 : decode cX8_makeLoan 13 = .ok (.return_, 1) := by decide +kernel
theorem dX8_makeLoan_14 : decode cX8_makeLoan 14 = .ok (.aload_n 0, 1) := by decide +kernel
theorem dX8_makeLoan_15 : decode cX8_makeLoan 15 = .ok (.getfield 31, 3) := by decide +kernel
theorem dX8_makeLoan_18 : decode cX8_makeLoan 18 = .ok (.aload_n 0, 1) := by decide +kernel
theorem dX8_makeLoan_19 : decode cX8_makeLoan 19 = .ok (.getfield 72, 3) := by decide +kernel
theorem dX8_makeLoan_22 : decode cX8_makeLoan 22 = .ok (.aaload, 1) := by decide +kernel
theorem dX8_makeLoan_23 : decode cX8_makeLoan 23 = .ok (.astore 6, 2) := by decide +kernel
theorem dX8_makeLoan_25 : decode cX8_makeLoan 25 = .ok (.aload_n 0, 1) := by decide +kernel
theorem dX8_makeLoan_26 : decode cX8_makeLoan 26 = .ok (.dup, 1) := by decide +kernel
theorem dX8_makeLoan_27 : decode cX8_makeLoan 27 = .ok (.getfield 72, 3) := by decide +kernel
theorem dX8_makeLoan_30 : decode cX8_makeLoan 30 = .ok (.iconst 1, 1) := by decide +kernel
theorem dX8_makeLoan_31 : decode cX8_makeLoan 31 = .ok (.iadd, 1) := by decide +kernel
theorem dX8_makeLoan_32 : decode cX8_makeLoan 32 = .ok (.putfield 72, 3) := by decide +kernel
theorem dX8_makeLoan_35 : decode cX8_makeLoan 35 = .ok (.aload 6, 2) := by decide +kernel
theorem dX8_makeLoan_37 : decode cX8_makeLoan 37 = .ok (.aload_n 3, 1) := by decide +kernel
theorem dX8_makeLoan_38 : decode cX8_makeLoan 38 = .ok (.iload 4, 2) := by decide +kernel
theorem dX8_makeLoan_40 : decode cX8_makeLoan 40 = .ok (.aload 5, 2) := by decide +kernel
theorem dX8_makeLoan_42 : decode cX8_makeLoan 42 = .ok (.invokevirtual 231, 3) := by decide +kernel
theorem dX8_makeLoan_45 : decode cX8_makeLoan 45 = .ok (.iload 4, 2) := by decide +kernel
theorem dX8_makeLoan_47 : decode cX8_makeLoan 47 = .ok (.iconst 1, 1) := by decide +kernel
theorem dX8_makeLoan_48 : decode cX8_makeLoan 48 = .ok (.if_icmp .eq 17, 3) := by decide +kernel
theorem dX8_makeLoan_51 : decode cX8_makeLoan 51 = .ok (.aload 6, 2) := by decide +kernel
theorem dX8_makeLoan_53 : decode cX8_makeLoan 53 = .ok (.aload_n 0, 1) := by decide +kernel
theorem dX8_makeLoan_54 : decode cX8_makeLoan 54 = .ok (.getfield 25, 3) := by decide +kernel
theorem dX8_makeLoan_57 : decode cX8_makeLoan 57 = .ok (.aload_n 0, 1) := by decide +kernel
theorem dX8_makeLoan_58 : decode cX8_makeLoan 58 = .ok (.getfield 135, 3) := by decide +kernel
theorem dX8_makeLoan_61 : decode cX8_makeLoan 61 = .ok (.aaload, 1) := by decide +kernel
theorem dX8_makeLoan_62 : decode cX8_makeLoan 62 = .ok (.invokevirtual 234, 3) := by decide +kernel
theorem dX8_makeLoan_65 : decode cX8_makeLoan 65 = .ok (.aload_n 1, 1) := by decide +kernel
theorem dX8_makeLoan_66 : decode cX8_makeLoan 66 = .ok (.iload_n 2, 1) := by decide +kernel
theorem dX8_makeLoan_67 : decode cX8_makeLoan 67 = .ok (.aload 6, 2) := by decide +kernel
theorem dX8_makeLoan_69 : decode cX8_makeLoan 69 = .ok (.invokevirtual 238, 3) := by decide +kernel
theorem dX8_makeLoan_72 : decode cX8_makeLoan 72 = .ok (.return_, 1) := by decide +kernel
theorem dX8_use_0 : decode cX8_use 0 = .ok (.aload_n 2, 1) := by decide +kernel
theorem dX8_use_1 : decode cX8_use 1 = .ok (.iconst 1, 1) := by decide +kernel
theorem dX8_use_2 : decode cX8_use 2 = .ok (.invokestatic 242, 3) := by decide +kernel
theorem dX8_use_5 : decode cX8_use 5 = .ok (.istore_n 3, 1) := by decide +kernel
theorem dX8_use_6 : decode cX8_use 6 = .ok (.iload_n 3, 1) := by decide +kernel
theorem dX8_use_7 : decode cX8_use 7 = .ok (.iconst (-1), 1) := by decide +kernel
theorem dX8_use_8 : decode cX8_use 8 = .ok (.if_icmp .eq 16, 3) := by decide +kernel
theorem dX8_use_11 : decode cX8_use 11 = .ok (.aload_n 0, 1) := by decide +kernel
theorem dX8_use_12 : decode cX8_use 12 = .ok (.aload_n 1, 1) := by decide +kernel
theorem dX8_use_13 : decode cX8_use 13 = .ok (.iload_n 3, 1) := by decide +kernel
theorem dX8_use_14 : decode cX8_use 14 = .ok (.aload_n 2, 1) := by decide +kernel
theorem dX8_use_15 : decode cX8_use 15 = .ok (.invokestatic 246, 3) := by decide +kernel
theorem dX8_use_18 : decode cX8_use 18 = .ok (.invokevirtual 189, 3) := by decide +kernel
theorem dX8_use_21 : decode cX8_use 21 = .ok (.goto 31, 3) := by decide +kernel
theorem dX8_use_24 : decode cX8_use 24 = .ok (.aload_n 0, 1) := by decide +kernel
theorem dX8_use_25 : decode cX8_use 25 = .ok (.getfield 46, 3) := by decide +kernel
theorem dX8_use_28 : decode cX8_use 28 = .ok (.getfield 250, 3) := by decide +kernel
theorem dX8_use_31 : decode cX8_use 31 = .ok (.aload_n 2, 1) := by decide +kernel
theorem dX8_use_32 : decode cX8_use 32 = .ok (.invokestatic 246, 3) := by decide +kernel
theorem dX8_use_35 : decode cX8_use 35 = .ok (.iconst 0, 1) := by decide +kernel
theorem dX8_use_36 : decode cX8_use 36 = .ok (.invokevirtual 254, 3) := by decide +kernel
theorem dX8_use_39 : decode cX8_use 39 = .ok (.ifCond .eq 13, 3) := by decide +kernel
theorem dX8_use_42 : decode cX8_use 42 = .ok (.aload_n 0, 1) := by decide +kernel
theorem dX8_use_43 : decode cX8_use 43 = .ok (.aload_n 1, 1) := by decide +kernel
theorem dX8_use_44 : decode cX8_use 44 = .ok (.iconst 5, 1) := by decide +kernel
theorem dX8_use_45 : decode cX8_use 45 = .ok (.aload_n 2, 1) := by decide +kernel
theorem dX8_use_46 : decode cX8_use 46 = .ok (.invokestatic 246, 3) := by decide +kernel
theorem dX8_use_49 : decode cX8_use 49 = .ok (.invokevirtual 189, 3) := by decide +kernel
theorem dX8_use_52 : decode cX8_use 52 = .ok (.return_, 1) := by decide +kernel
theorem dX8_bringBack_0 : decode cX8_bringBack 0 = .ok (.aload_n 2, 1) := by decide +kernel
theorem dX8_bringBack_1 : decode cX8_bringBack 1 = .ok (.iconst 0, 1) := by decide +kernel
theorem dX8_bringBack_2 : decode cX8_bringBack 2 = .ok (.invokestatic 242, 3) := by decide +kernel
theorem dX8_bringBack_5 : decode cX8_bringBack 5 = .ok (.istore_n 3, 1) := by decide +kernel
theorem dX8_bringBack_6 : decode cX8_bringBack 6 = .ok (.iload_n 3, 1) := by decide +kernel
theorem dX8_bringBack_7 : decode cX8_bringBack 7 = .ok (.iconst (-1), 1) := by decide +kernel
theorem dX8_bringBack_8 : decode cX8_bringBack 8 = .ok (.if_icmp .eq 16, 3) := by decide +kernel
theorem dX8_bringBack_11 : decode cX8_bringBack 11 = .ok (.aload_n 0, 1) := by decide +kernel
theorem dX8_bringBack_12 : decode cX8_bringBack 12 = .ok (.aload_n 1, 1) := by decide +kernel
theorem dX8_bringBack_13 : decode cX8_bringBack 13 = .ok (.iload_n 3, 1) := by decide +kernel
theorem dX8_bringBack_14 : decode cX8_bringBack 14 = .ok (.aload_n 2, 1) := by decide +kernel
theorem dX8_bringBack_15 : decode cX8_bringBack 15 = .ok (.invokestatic 246, 3) := by decide +kernel
theorem dX8_bringBack_18 : decode cX8_bringBack 18 = .ok (.invokevirtual 189, 3) := by decide +kernel
theorem dX8_bringBack_21 : decode cX8_bringBack 21 = .ok (.goto 23, 3) := by decide +kernel
theorem dX8_bringBack_24 : decode cX8_bringBack 24 = .ok (.aload_n 0, 1) := by decide +kernel
theorem dX8_bringBack_25 : decode cX8_bringBack 25 = .ok (.aload_n 2, 1) := by decide +kernel
theorem dX8_bringBack_26 : decode cX8_bringBack 26 = .ok (.iconst 0, 1) := by decide +kernel
theorem dX8_bringBack_27 : decode cX8_bringBack 27 = .ok (.invokevirtual 259, 3) := by decide +kernel
theorem dX8_bringBack_30 : decode cX8_bringBack 30 = .ok (.ifCond .eq 14, 3) := by decide +kernel
theorem dX8_bringBack_33 : decode cX8_bringBack 33 = .ok (.aload_n 0, 1) := by decide +kernel
theorem dX8_bringBack_34 : decode cX8_bringBack 34 = .ok (.aload_n 1, 1) := by decide +kernel
theorem dX8_bringBack_35 : decode cX8_bringBack 35 = .ok (.bipush 6, 2) := by decide +kernel
theorem dX8_bringBack_37 : decode cX8_bringBack 37 = .ok (.aload_n 2, 1) := by decide +kernel
theorem dX8_bringBack_38 : decode cX8_bringBack 38 = .ok (.invokestatic 246, 3) := by decide +kernel
theorem dX8_bringBack_41 : decode cX8_bringBack 41 = .ok (.invokevirtual 189, 3) := by decide +kernel
theorem dX8_bringBack_44 : decode cX8_bringBack 44 = .ok (.return_, 1) := by decide +kernel
theorem dX8_lendOn_0 : decode cX8_lendOn 0 = .ok (.aload_n 2, 1) := by decide +kernel
theorem dX8_lendOn_1 : decode cX8_lendOn 1 = .ok (.iconst 1, 1) := by decide +kernel
theorem dX8_lendOn_2 : decode cX8_lendOn 2 = .ok (.invokestatic 242, 3) := by decide +kernel
theorem dX8_lendOn_5 : decode cX8_lendOn 5 = .ok (.istore 4, 2) := by decide +kernel
theorem dX8_lendOn_7 : decode cX8_lendOn 7 = .ok (.iload 4, 2) := by decide +kernel
theorem dX8_lendOn_9 : decode cX8_lendOn 9 = .ok (.iconst (-1), 1) := by decide +kernel
theorem dX8_lendOn_10 : decode cX8_lendOn 10 = .ok (.if_icmp .eq 17, 3) := by decide +kernel
theorem dX8_lendOn_13 : decode cX8_lendOn 13 = .ok (.aload_n 0, 1) := by decide +kernel
theorem dX8_lendOn_14 : decode cX8_lendOn 14 = .ok (.aload_n 1, 1) := by decide +kernel
theorem dX8_lendOn_15 : decode cX8_lendOn 15 = .ok (.iload 4, 2) := by decide +kernel
theorem dX8_lendOn_17 : decode cX8_lendOn 17 = .ok (.aload_n 2, 1) := by decide +kernel
theorem dX8_lendOn_18 : decode cX8_lendOn 18 = .ok (.invokestatic 246, 3) := by decide +kernel
theorem dX8_lendOn_21 : decode cX8_lendOn 21 = .ok (.invokevirtual 189, 3) := by decide +kernel
theorem dX8_lendOn_24 : decode cX8_lendOn 24 = .ok (.goto 15, 3) := by decide +kernel
theorem dX8_lendOn_27 : decode cX8_lendOn 27 = .ok (.aload_n 0, 1) := by decide +kernel
theorem dX8_lendOn_28 : decode cX8_lendOn 28 = .ok (.aload_n 1, 1) := by decide +kernel
theorem dX8_lendOn_29 : decode cX8_lendOn 29 = .ok (.iload_n 3, 1) := by decide +kernel
theorem dX8_lendOn_30 : decode cX8_lendOn 30 = .ok (.aload_n 2, 1) := by decide +kernel
theorem dX8_lendOn_31 : decode cX8_lendOn 31 = .ok (.getfield 263, 3) := by decide +kernel
theorem dX8_lendOn_34 : decode cX8_lendOn 34 = .ok (.iconst 2, 1) := by decide +kernel
theorem dX8_lendOn_35 : decode cX8_lendOn 35 = .ok (.aload_n 2, 1) := by decide +kernel
theorem dX8_lendOn_36 : decode cX8_lendOn 36 = .ok (.invokevirtual 217, 3) := by decide +kernel
theorem dX8_lendOn_39 : decode cX8_lendOn 39 = .ok (.return_, 1) := by decide +kernel
theorem dX8_passOn_0 : decode cX8_passOn 0 = .ok (.aload_n 2, 1) := by decide +kernel
theorem dX8_passOn_1 : decode cX8_passOn 1 = .ok (.iconst 0, 1) := by decide +kernel
theorem dX8_passOn_2 : decode cX8_passOn 2 = .ok (.invokestatic 242, 3) := by decide +kernel
theorem dX8_passOn_5 : decode cX8_passOn 5 = .ok (.istore 4, 2) := by decide +kernel
theorem dX8_passOn_7 : decode cX8_passOn 7 = .ok (.iload 4, 2) := by decide +kernel
theorem dX8_passOn_9 : decode cX8_passOn 9 = .ok (.iconst (-1), 1) := by decide +kernel
theorem dX8_passOn_10 : decode cX8_passOn 10 = .ok (.if_icmp .eq 17, 3) := by decide +kernel
theorem dX8_passOn_13 : decode cX8_passOn 13 = .ok (.aload_n 0, 1) := by decide +kernel
theorem dX8_passOn_14 : decode cX8_passOn 14 = .ok (.aload_n 1, 1) := by decide +kernel
theorem dX8_passOn_15 : decode cX8_passOn 15 = .ok (.iload 4, 2) := by decide +kernel
theorem dX8_passOn_17 : decode cX8_passOn 17 = .ok (.aload_n 2, 1) := by decide +kernel
theorem dX8_passOn_18 : decode cX8_passOn 18 = .ok (.invokestatic 246, 3) := by decide +kernel
theorem dX8_passOn_21 : decode cX8_passOn 21 = .ok (.invokevirtual 189, 3) := by decide +kernel
theorem dX8_passOn_24 : decode cX8_passOn 24 = .ok (.goto 50, 3) := by decide +kernel
theorem dX8_passOn_27 : decode cX8_passOn 27 = .ok (.aload_n 2, 1) := by decide +kernel
theorem dX8_passOn_28 : decode cX8_passOn 28 = .ok (.getfield 267, 3) := by decide +kernel
theorem dX8_passOn_31 : decode cX8_passOn 31 = .ok (.iconst 1, 1) := by decide +kernel
theorem dX8_passOn_32 : decode cX8_passOn 32 = .ok (.if_icmp .eq 14, 3) := by decide +kernel
theorem dX8_passOn_35 : decode cX8_passOn 35 = .ok (.iload_n 3, 1) := by decide +kernel
theorem dX8_passOn_36 : decode cX8_passOn 36 = .ok (.aload_n 0, 1) := by decide +kernel
theorem dX8_passOn_37 : decode cX8_passOn 37 = .ok (.getfield 135, 3) := by decide +kernel
theorem dX8_passOn_40 : decode cX8_passOn 40 = .ok (.invokestatic 227, 3) := by decide +kernel
theorem dX8_passOn_43 : decode cX8_passOn 43 = .ok (.ifCond .ne 16, 3) := by decide +kernel
theorem dX8_passOn_46 : decode cX8_passOn 46 = .ok (.aload_n 0, 1) := by decide +kernel
theorem dX8_passOn_47 : decode cX8_passOn 47 = .ok (.aload_n 1, 1) := by decide +kernel
theorem dX8_passOn_48 : decode cX8_passOn 48 = .ok (.iconst 4, 1) := by decide +kernel
theorem dX8_passOn_49 : decode cX8_passOn 49 = .ok (.aload_n 2, 1) := by decide +kernel
theorem dX8_passOn_50 : decode cX8_passOn 50 = .ok (.invokestatic 246, 3) := by decide +kernel
theorem dX8_passOn_53 : decode cX8_passOn 53 = .ok (.invokevirtual 189, 3) := by decide +kernel
theorem dX8_passOn_56 : decode cX8_passOn 56 = .ok (.goto 18, 3) := by decide +kernel
theorem dX8_passOn_59 : decode cX8_passOn 59 = .ok (.aload_n 2, 1) := by decide +kernel
theorem dX8_passOn_60 : decode cX8_passOn 60 = .ok (.aload_n 0, 1) := by decide +kernel
theorem dX8_passOn_61 : decode cX8_passOn 61 = .ok (.getfield 25, 3) := by decide +kernel
theorem dX8_passOn_64 : decode cX8_passOn 64 = .ok (.aload_n 0, 1) := by decide +kernel
theorem dX8_passOn_65 : decode cX8_passOn 65 = .ok (.getfield 135, 3) := by decide +kernel
theorem dX8_passOn_68 : decode cX8_passOn 68 = .ok (.iload_n 3, 1) := by decide +kernel
theorem dX8_passOn_69 : decode cX8_passOn 69 = .ok (.isub, 1) := by decide +kernel
theorem dX8_passOn_70 : decode cX8_passOn 70 = .ok (.aaload, 1) := by decide +kernel
theorem dX8_passOn_71 : decode cX8_passOn 71 = .ok (.invokevirtual 234, 3) := by decide +kernel
theorem dX8_passOn_74 : decode cX8_passOn 74 = .ok (.return_, 1) := by decide +kernel
theorem dX8_callAct_0 : decode cX8_callAct 0 = .ok (.aload_n 0, 1) := by decide +kernel
theorem dX8_callAct_1 : decode cX8_callAct 1 = .ok (.getfield 50, 3) := by decide +kernel
theorem dX8_callAct_4 : decode cX8_callAct 4 = .ok (.iload_n 2, 1) := by decide +kernel
theorem dX8_callAct_5 : decode cX8_callAct 5 = .ok (.invokestatic 85, 3) := by decide +kernel
theorem dX8_callAct_8 : decode cX8_callAct 8 = .ok (.astore 4, 2) := by decide +kernel
theorem dX8_callAct_10 : decode cX8_callAct 10 = .ok (.aload_n 0, 1) := by decide +kernel
theorem dX8_callAct_11 : decode cX8_callAct 11 = .ok (.getfield 94, 3) := by decide +kernel
theorem dX8_callAct_14 : decode cX8_callAct 14 = .ok (.bipush 10, 2) := by decide +kernel
theorem dX8_callAct_16 : decode cX8_callAct 16 = .ok (.if_icmp .lt 14, 3) := by decide +kernel
theorem dX8_callAct_19 : decode cX8_callAct 19 = .ok (.aload_n 0, 1) := by decide +kernel
theorem dX8_callAct_20 : decode cX8_callAct 20 = .ok (.aload_n 1, 1) := by decide +kernel
theorem dX8_callAct_21 : decode cX8_callAct 21 = .ok (.bipush 8, 2) := by decide +kernel
theorem dX8_callAct_23 : decode cX8_callAct 23 = .ok (.iconst (-1), 1) := by decide +kernel
theorem dX8_callAct_24 : decode cX8_callAct 24 = .ok (.invokevirtual 189, 3) := by decide +kernel
theorem dX8_callAct_27 : decode cX8_callAct 27 = .ok (.goto 34, 3) := by decide +kernel
theorem dX8_callAct_30 : decode cX8_callAct 30 = .ok (.aload 4, 2) := by decide +kernel
theorem dX8_callAct_32 : decode cX8_callAct 32 = .ok (.ifnull 11, 3) := by decide +kernel
theorem dX8_callAct_35 : decode cX8_callAct 35 = .ok (.aload 4, 2) := by decide +kernel
theorem dX8_callAct_37 : decode cX8_callAct 37 = .ok (.invokevirtual 270, 3) := by decide +kernel
theorem dX8_callAct_40 : decode cX8_callAct 40 = .ok (.ifCond .eq 13, 3) := by decide +kernel
theorem dX8_callAct_43 : decode cX8_callAct 43 = .ok (.aload_n 0, 1) := by decide +kernel
theorem dX8_callAct_44 : decode cX8_callAct 44 = .ok (.aload_n 1, 1) := by decide +kernel
theorem dX8_callAct_45 : decode cX8_callAct 45 = .ok (.iconst 4, 1) := by decide +kernel
theorem dX8_callAct_46 : decode cX8_callAct 46 = .ok (.iconst (-1), 1) := by decide +kernel
theorem dX8_callAct_47 : decode cX8_callAct 47 = .ok (.invokevirtual 189, 3) := by decide +kernel
theorem dX8_callAct_50 : decode cX8_callAct 50 = .ok (.goto 11, 3) := by decide +kernel
theorem dX8_callAct_53 : decode cX8_callAct 53 = .ok (.aload_n 0, 1) := by decide +kernel
theorem dX8_callAct_54 : decode cX8_callAct 54 = .ok (.aload 4, 2) := by decide +kernel
theorem dX8_callAct_56 : decode cX8_callAct 56 = .ok (.iload_n 2, 1) := by decide +kernel
theorem dX8_callAct_57 : decode cX8_callAct 57 = .ok (.aload_n 3, 1) := by decide +kernel
theorem dX8_callAct_58 : decode cX8_callAct 58 = .ok (.invokevirtual 89, 3) := by decide +kernel
theorem dX8_callAct_61 : decode cX8_callAct 61 = .ok (.return_, 1) := by decide +kernel
theorem dX8_misuseOf_0 : decode cX8_misuseOf 0 = .ok (.aload_n 0, 1) := by decide +kernel
theorem dX8_misuseOf_1 : decode cX8_misuseOf 1 = .ok (.ifnull 10, 3) := by decide +kernel
theorem dX8_misuseOf_4 : decode cX8_misuseOf 4 = .ok (.aload_n 0, 1) := by decide +kernel
theorem dX8_misuseOf_5 : decode cX8_misuseOf 5 = .ok (.getfield 274, 3) := by decide +kernel
theorem dX8_misuseOf_8 : decode cX8_misuseOf 8 = .ok (.ifCond .ne 5, 3) := by decide +kernel
theorem dX8_misuseOf_11 : decode cX8_misuseOf 11 = .ok (.iconst 3, 1) := by decide +kernel
theorem dX8_misuseOf_12 : decode cX8_misuseOf 12 = .ok (.ireturn, 1) := by decide +kernel
theorem dX8_misuseOf_13 : decode cX8_misuseOf 13 = .ok (.iload_n 1, 1) := by decide +kernel
theorem dX8_misuseOf_14 : decode cX8_misuseOf 14 = .ok (.ifCond .eq 14, 3) := by decide +kernel
theorem dX8_misuseOf_17 : decode cX8_misuseOf 17 = .ok (.aload_n 0, 1) := by decide +kernel
theorem dX8_misuseOf_18 : decode cX8_misuseOf 18 = .ok (.getfield 278, 3) := by decide +kernel
theorem dX8_misuseOf_21 : decode cX8_misuseOf 21 = .ok (.ifnull 7, 3) := by decide +kernel
theorem dX8_misuseOf_24 : decode cX8_misuseOf 24 = .ok (.iconst 2, 1) := by decide +kernel
theorem dX8_misuseOf_25 : decode cX8_misuseOf 25 = .ok (.goto 4, 3) := by decide +kernel
theorem dX8_misuseOf_28 : decode cX8_misuseOf 28 = .ok (.iconst (-1), 1) := by decide +kernel
theorem dX8_misuseOf_29 : decode cX8_misuseOf 29 = .ok (.ireturn, 1) := by decide +kernel
theorem dX8_partOf_0 : decode cX8_partOf 0 = .ok (.aload_n 0, 1) := by decide +kernel
theorem dX8_partOf_1 : decode cX8_partOf 1 = .ok (.ifnull 10, 3) := by decide +kernel
theorem dX8_partOf_4 : decode cX8_partOf 4 = .ok (.aload_n 0, 1) := by decide +kernel
