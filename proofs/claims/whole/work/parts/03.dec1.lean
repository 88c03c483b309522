theorem dX8_partOf_5 : decode cX8_partOf 5 = .ok (.getfield 263, 3) := by decide +kernel
theorem dX8_partOf_8 : decode cX8_partOf 8 = .ok (.ifnonnull 7, 3) := by decide +kernel
theorem dX8_partOf_11 : decode cX8_partOf 11 = .ok (.iconst (-1), 1) := by decide +kernel
theorem dX8_partOf_12 : decode cX8_partOf 12 = .ok (.goto 10, 3) := by decide +kernel
theorem dX8_partOf_15 : decode cX8_partOf 15 = .ok (.aload_n 0, 1) := by decide +kernel
theorem dX8_partOf_16 : decode cX8_partOf 16 = .ok (.getfield 263, 3) := by decide +kernel
theorem dX8_partOf_19 : decode cX8_partOf 19 = .ok (.getfield 282, 3) := by decide +kernel
theorem dX8_partOf_22 : decode cX8_partOf 22 = .ok (.ireturn, 1) := by decide +kernel
theorem dX8_fail_0 : decode cX8_fail 0 = .ok (.aload_n 0, 1) := by decide +kernel
theorem dX8_fail_1 : decode cX8_fail 1 = .ok (.getfield 38, 3) := by decide +kernel
theorem dX8_fail_4 : decode cX8_fail 4 = .ok (.iload_n 2, 1) := by decide +kernel
theorem dX8_fail_5 : decode cX8_fail 5 = .ok (.aload_n 1, 1) := by decide +kernel
theorem dX8_fail_6 : decode cX8_fail 6 = .ok (.getfield 221, 3) := by decide +kernel
theorem dX8_fail_9 : decode cX8_fail 9 = .ok (.aload_n 1, 1) := by decide +kernel
theorem dX8_fail_10 : decode cX8_fail 10 = .ok (.getfield 104, 3) := by decide +kernel
theorem dX8_fail_13 : decode cX8_fail 13 = .ok (.iload_n 3, 1) := by decide +kernel
theorem dX8_fail_14 : decode cX8_fail 14 = .ok (.invokevirtual 283, 3) := by decide +kernel
theorem dX8_fail_17 : decode cX8_fail 17 = .ok (.istore 4, 2) := by decide +kernel
theorem dX8_fail_19 : decode cX8_fail 19 = .ok (.aload_n 0, 1) := by decide +kernel
theorem dX8_fail_20 : decode cX8_fail 20 = .ok (.iload 4, 2) := by decide +kernel
theorem dX8_fail_22 : decode cX8_fail 22 = .ok (.putfield 42, 3) := by decide +kernel
theorem dX8_fail_25 : decode cX8_fail 25 = .ok (.aload_n 0, 1) := by decide +kernel
theorem dX8_fail_26 : decode cX8_fail 26 = .ok (.iload 4, 2) := by decide +kernel
theorem dX8_fail_28 : decode cX8_fail 28 = .ok (.iconst (-1), 1) := by decide +kernel
theorem dX8_fail_29 : decode cX8_fail 29 = .ok (.if_icmp .ne 7, 3) := by decide +kernel
theorem dX8_fail_32 : decode cX8_fail 32 = .ok (.iconst 4, 1) := by decide +kernel
theorem dX8_fail_33 : decode cX8_fail 33 = .ok (.goto 4, 3) := by decide +kernel
theorem dX8_fail_36 : decode cX8_fail 36 = .ok (.iconst 3, 1) := by decide +kernel
theorem dX8_fail_37 : decode cX8_fail 37 = .ok (.putfield 97, 3) := by decide +kernel
theorem dX8_fail_40 : decode cX8_fail 40 = .ok (.return_, 1) := by decide +kernel
theorem dX8_giveUp_0 : decode cX8_giveUp 0 = .ok (.aload_n 1, 1) := by decide +kernel
theorem dX8_giveUp_1 : decode cX8_giveUp 1 = .ok (.astore_n 3, 1) := by decide +kernel
theorem dX8_giveUp_2 : decode cX8_giveUp 2 = .ok (.iconst 0, 1) := by decide +kernel
theorem dX8_giveUp_3 : decode cX8_giveUp 3 = .ok (.istore 4, 2) := by decide +kernel
theorem dX8_giveUp_5 : decode cX8_giveUp 5 = .ok (.iload 4, 2) := by decide +kernel
theorem dX8_giveUp_7 : decode cX8_giveUp 7 = .ok (.sipush 160, 3) := by decide +kernel
theorem dX8_giveUp_10 : decode cX8_giveUp 10 = .ok (.if_icmp .ge 26, 3) := by decide +kernel
theorem dX8_giveUp_13 : decode cX8_giveUp 13 = .ok (.aload_n 3, 1) := by decide +kernel
theorem dX8_giveUp_14 : decode cX8_giveUp 14 = .ok (.ifnull 22, 3) := by decide +kernel
theorem dX8_giveUp_17 : decode cX8_giveUp 17 = .ok (.aload_n 3, 1) := by decide +kernel
theorem dX8_giveUp_18 : decode cX8_giveUp 18 = .ok (.getfield 278, 3) := by decide +kernel
theorem dX8_giveUp_21 : decode cX8_giveUp 21 = .ok (.astore 5, 2) := by decide +kernel
theorem dX8_giveUp_23 : decode cX8_giveUp 23 = .ok (.aload_n 3, 1) := by decide +kernel
theorem dX8_giveUp_24 : decode cX8_giveUp 24 = .ok (.invokevirtual 287, 3) := by decide +kernel
theorem dX8_giveUp_27 : decode cX8_giveUp 27 = .ok (.aload 5, 2) := by decide +kernel
theorem dX8_giveUp_29 : decode cX8_giveUp 29 = .ok (.astore_n 3, 1) := by decide +kernel
theorem dX8_giveUp_30 : decode cX8_giveUp 30 = .ok (.iinc 4 1, 3) := by decide +kernel
theorem dX8_giveUp_33 : decode cX8_giveUp 33 = .ok (.goto (-28), 3) := by decide +kernel
theorem dX8_giveUp_36 : decode cX8_giveUp 36 = .ok (.aload_n 1, 1) := by decide +kernel
theorem dX8_giveUp_37 : decode cX8_giveUp 37 = .ok (.getfield 267, 3) := by decide +kernel
theorem dX8_giveUp_40 : decode cX8_giveUp 40 = .ok (.iconst 2, 1) := by decide +kernel
theorem dX8_giveUp_41 : decode cX8_giveUp 41 = .ok (.if_icmp .eq 29, 3) := by decide +kernel
theorem dX8_giveUp_44 : decode cX8_giveUp 44 = .ok (.aload_n 1, 1) := by decide +kernel
theorem dX8_giveUp_45 : decode cX8_giveUp 45 = .ok (.getfield 263, 3) := by decide +kernel
theorem dX8_giveUp_48 : decode cX8_giveUp 48 = .ok (.ifnull 22, 3) := by decide +kernel
theorem dX8_giveUp_51 : decode cX8_giveUp 51 = .ok (.aload_n 0, 1) := by decide +kernel
theorem dX8_giveUp_52 : decode cX8_giveUp 52 = .ok (.getfield 46, 3) := by decide +kernel
theorem dX8_giveUp_55 : decode cX8_giveUp 55 = .ok (.aload_n 1, 1) := by decide +kernel
theorem dX8_giveUp_56 : decode cX8_giveUp 56 = .ok (.getfield 263, 3) := by decide +kernel
theorem dX8_giveUp_59 : decode cX8_giveUp 59 = .ok (.iload_n 2, 1) := by decide +kernel
theorem dX8_giveUp_60 : decode cX8_giveUp 60 = .ok (.invokevirtual 290, 3) := by decide +kernel
theorem dX8_giveUp_63 : decode cX8_giveUp 63 = .ok (.ifCond .eq 7, 3) := by decide +kernel
theorem dX8_giveUp_66 : decode cX8_giveUp 66 = .ok (.iconst 1, 1) := by decide +kernel
theorem dX8_giveUp_67 : decode cX8_giveUp 67 = .ok (.goto 4, 3) := by decide +kernel
theorem dX8_giveUp_70 : decode cX8_giveUp 70 = .ok (.iconst 0, 1) := by decide +kernel
theorem dX8_giveUp_71 : decode cX8_giveUp 71 = .ok (.ireturn, 1) := by decide +kernel
theorem dX8_beginBlock_0 : decode cX8_beginBlock 0 = .ok (.iload_n 2, 1) := by decide +kernel
theorem dX8_beginBlock_1 : decode cX8_beginBlock 1 = .ok (.bipush 11, 2) := by decide +kernel
theorem dX8_beginBlock_3 : decode cX8_beginBlock 3 = .ok (.if_icmp .ne 25, 3) := by decide +kernel
theorem dX8_beginBlock_6 : decode cX8_beginBlock 6 = .ok (.iload_n 3, 1) := by decide +kernel
theorem dX8_beginBlock_7 : decode cX8_beginBlock 7 = .ok (.ifCond .ne 21, 3) := by decide +kernel
theorem dX8_beginBlock_10 : decode cX8_beginBlock 10 = .ok (.aload_n 1, 1) := by decide +kernel
theorem dX8_beginBlock_11 : decode cX8_beginBlock 11 = .ok (.aload_n 1, 1) := by decide +kernel
theorem dX8_beginBlock_12 : decode cX8_beginBlock 12 = .ok (.getfield 100, 3) := by decide +kernel
theorem dX8_beginBlock_15 : decode cX8_beginBlock 15 = .ok (.aload_n 1, 1) := by decide +kernel
theorem dX8_beginBlock_16 : decode cX8_beginBlock 16 = .ok (.getfield 104, 3) := by decide +kernel
theorem dX8_beginBlock_19 : decode cX8_beginBlock 19 = .ok (.invokevirtual 294, 3) := by decide +kernel
theorem dX8_beginBlock_22 : decode cX8_beginBlock 22 = .ok (.iconst 1, 1) := by decide +kernel
theorem dX8_beginBlock_23 : decode cX8_beginBlock 23 = .ok (.iadd, 1) := by decide +kernel
theorem dX8_beginBlock_24 : decode cX8_beginBlock 24 = .ok (.putfield 104, 3) := by decide +kernel
theorem dX8_beginBlock_27 : decode cX8_beginBlock 27 = .ok (.return_, 1) := by decide +kernel
theorem dX8_beginBlock_28 : decode cX8_beginBlock 28 = .ok (.aload_n 0, 1) := by decide +kernel
theorem dX8_beginBlock_29 : decode cX8_beginBlock 29 = .ok (.iload_n 2, 1) := by decide +kernel
theorem dX8_beginBlock_30 : decode cX8_beginBlock 30 = .ok (.aload_n 1, 1) := by decide +kernel
theorem dX8_beginBlock_31 : decode cX8_beginBlock 31 = .ok (.getfield 104, 3) := by decide +kernel
theorem dX8_beginBlock_34 : decode cX8_beginBlock 34 = .ok (.iload_n 2, 1) := by decide +kernel
theorem dX8_beginBlock_35 : decode cX8_beginBlock 35 = .ok (.bipush 11, 2) := by decide +kernel
theorem dX8_beginBlock_37 : decode cX8_beginBlock 37 = .ok (.if_icmp .ne 9, 3) := by decide +kernel
theorem dX8_beginBlock_40 : decode cX8_beginBlock 40 = .ok (.iload_n 3, 1) := by decide +kernel
theorem dX8_beginBlock_41 : decode cX8_beginBlock 41 = .ok (.iconst 1, 1) := by decide +kernel
theorem dX8_beginBlock_42 : decode cX8_beginBlock 42 = .ok (.isub, 1) := by decide +kernel
theorem dX8_beginBlock_43 : decode cX8_beginBlock 43 = .ok (.goto 4, 3) := by decide +kernel
theorem dX8_beginBlock_46 : decode cX8_beginBlock 46 = .ok (.iconst 0, 1) := by decide +kernel
theorem dX8_beginBlock_47 : decode cX8_beginBlock 47 = .ok (.invokevirtual 141, 3) := by decide +kernel
theorem dX8_beginBlock_50 : decode cX8_beginBlock 50 = .ok (.iload_n 2, 1) := by decide +kernel
theorem dX8_beginBlock_51 : decode cX8_beginBlock 51 = .ok (.bipush 12, 2) := by decide +kernel
theorem dX8_beginBlock_53 : decode cX8_beginBlock 53 = .ok (.if_icmp .ne 15, 3) := by decide +kernel
theorem dX8_beginBlock_56 : decode cX8_beginBlock 56 = .ok (.aload_n 0, 1) := by decide +kernel
theorem dX8_beginBlock_57 : decode cX8_beginBlock 57 = .ok (.aload_n 1, 1) := by decide +kernel
theorem dX8_beginBlock_58 : decode cX8_beginBlock 58 = .ok (.getfield 221, 3) := by decide +kernel
theorem dX8_beginBlock_61 : decode cX8_beginBlock 61 = .ok (.aload_n 1, 1) := by decide +kernel
theorem dX8_beginBlock_62 : decode cX8_beginBlock 62 = .ok (.getfield 104, 3) := by decide +kernel
theorem dX8_beginBlock_65 : decode cX8_beginBlock 65 = .ok (.invokevirtual 145, 3) := by decide +kernel
theorem dX8_beginBlock_68 : decode cX8_beginBlock 68 = .ok (.aload_n 1, 1) := by decide +kernel
theorem dX8_beginBlock_69 : decode cX8_beginBlock 69 = .ok (.dup, 1) := by decide +kernel
theorem dX8_beginBlock_70 : decode cX8_beginBlock 70 = .ok (.getfield 104, 3) := by decide +kernel
theorem dX8_beginBlock_73 : decode cX8_beginBlock 73 = .ok (.iconst 1, 1) := by decide +kernel
theorem dX8_beginBlock_74 : decode cX8_beginBlock 74 = .ok (.iadd, 1) := by decide +kernel
theorem dX8_beginBlock_75 : decode cX8_beginBlock 75 = .ok (.putfield 104, 3) := by decide +kernel
theorem dX8_beginBlock_78 : decode cX8_beginBlock 78 = .ok (.return_, 1) := by decide +kernel
theorem dX8_reachMark_0 : decode cX8_reachMark 0 = .ok (.aload_n 0, 1) := by decide +kernel
theorem dX8_reachMark_1 : decode cX8_reachMark 1 = .ok (.getfield 19, 3) := by decide +kernel
theorem dX8_reachMark_4 : decode cX8_reachMark 4 = .ok (.aload_n 0, 1) := by decide +kernel
theorem dX8_reachMark_5 : decode cX8_reachMark 5 = .ok (.getfield 132, 3) := by decide +kernel
theorem dX8_reachMark_8 : decode cX8_reachMark 8 = .ok (.aaload, 1) := by decide +kernel
theorem dX8_reachMark_9 : decode cX8_reachMark 9 = .ok (.astore_n 2, 1) := by decide +kernel
theorem dX8_reachMark_10 : decode cX8_reachMark 10 = .ok (.aload_n 2, 1) := by decide +kernel
theorem dX8_reachMark_11 : decode cX8_reachMark 11 = .ok (.getfield 297, 3) := by decide +kernel
theorem dX8_reachMark_14 : decode cX8_reachMark 14 = .ok (.tableswitch 69 11 13 #[34, 26, 43], 26) := by decide +kernel
theorem dX8_reachMark_40 : decode cX8_reachMark 40 = .ok (.aload_n 0, 1) := by decide +kernel
theorem dX8_reachMark_41 : decode cX8_reachMark 41 = .ok (.aload_n 1, 1) := by decide +kernel
theorem dX8_reachMark_42 : decode cX8_reachMark 42 = .ok (.invokevirtual 300, 3) := by decide +kernel
theorem dX8_reachMark_45 : decode cX8_reachMark 45 = .ok (.goto 43, 3) := by decide +kernel
theorem dX8_reachMark_48 : decode cX8_reachMark 48 = .ok (.aload_n 0, 1) := by decide +kernel
theorem dX8_reachMark_49 : decode cX8_reachMark 49 = .ok (.aload_n 1, 1) := by decide +kernel
theorem dX8_reachMark_50 : decode cX8_reachMark 50 = .ok (.aload_n 2, 1) := by decide +kernel
theorem dX8_reachMark_51 : decode cX8_reachMark 51 = .ok (.invokevirtual 303, 3) := by decide +kernel
theorem dX8_reachMark_54 : decode cX8_reachMark 54 = .ok (.goto 34, 3) := by decide +kernel
theorem dX8_reachMark_57 : decode cX8_reachMark 57 = .ok (.aload_n 2, 1) := by decide +kernel
theorem dX8_reachMark_58 : decode cX8_reachMark 58 = .ok (.getfield 307, 3) := by decide +kernel
theorem dX8_reachMark_61 : decode cX8_reachMark 61 = .ok (.iconst 2, 1) := by decide +kernel
theorem dX8_reachMark_62 : decode cX8_reachMark 62 = .ok (.if_icmp .ne 12, 3) := by decide +kernel
theorem dX8_reachMark_65 : decode cX8_reachMark 65 = .ok (.aload_n 0, 1) := by decide +kernel
theorem dX8_reachMark_66 : decode cX8_reachMark 66 = .ok (.aload_n 1, 1) := by decide +kernel
theorem dX8_reachMark_67 : decode cX8_reachMark 67 = .ok (.aload_n 2, 1) := by decide +kernel
theorem dX8_reachMark_68 : decode cX8_reachMark 68 = .ok (.invokevirtual 310, 3) := by decide +kernel
theorem dX8_reachMark_71 : decode cX8_reachMark 71 = .ok (.goto 17, 3) := by decide +kernel
theorem dX8_reachMark_74 : decode cX8_reachMark 74 = .ok (.aload_n 0, 1) := by decide +kernel
theorem dX8_reachMark_75 : decode cX8_reachMark 75 = .ok (.aload_n 1, 1) := by decide +kernel
theorem dX8_reachMark_76 : decode cX8_reachMark 76 = .ok (.aload_n 2, 1) := by decide +kernel
theorem dX8_reachMark_77 : decode cX8_reachMark 77 = .ok (.invokevirtual 313, 3) := by decide +kernel
theorem dX8_reachMark_80 : decode cX8_reachMark 80 = .ok (.goto 8, 3) := by decide +kernel
theorem dX8_reachMark_83 : decode cX8_reachMark 83 = .ok (.aload_n 0, 1) := by decide +kernel
theorem dX8_reachMark_84 : decode cX8_reachMark 84 = .ok (.iconst 1, 1) := by decide +kernel
theorem dX8_reachMark_85 : decode cX8_reachMark 85 = .ok (.putfield 97, 3) := by decide +kernel
theorem dX8_reachMark_88 : decode cX8_reachMark 88 = .ok (.return_, 1) := by decide +kernel
theorem dX8_endScopeBlock_0 : decode cX8_endScopeBlock 0 = .ok (.aload_n 0, 1) := by decide +kernel
theorem dX8_endScopeBlock_1 : decode cX8_endScopeBlock 1 = .ok (.invokevirtual 316, 3) := by decide +kernel
theorem dX8_endScopeBlock_4 : decode cX8_endScopeBlock 4 = .ok (.aload_n 0, 1) := by decide +kernel
theorem dX8_endScopeBlock_5 : decode cX8_endScopeBlock 5 = .ok (.invokevirtual 319, 3) := by decide +kernel
theorem dX8_endScopeBlock_8 : decode cX8_endScopeBlock 8 = .ok (.aload_n 0, 1) := by decide +kernel
theorem dX8_endScopeBlock_9 : decode cX8_endScopeBlock 9 = .ok (.getfield 97, 3) := by decide +kernel
theorem dX8_endScopeBlock_12 : decode cX8_endScopeBlock 12 = .ok (.ifCond .ne 13, 3) := by decide +kernel
theorem dX8_endScopeBlock_15 : decode cX8_endScopeBlock 15 = .ok (.aload_n 1, 1) := by decide +kernel
theorem dX8_endScopeBlock_16 : decode cX8_endScopeBlock 16 = .ok (.dup, 1) := by decide +kernel
theorem dX8_endScopeBlock_17 : decode cX8_endScopeBlock 17 = .ok (.getfield 104, 3) := by decide +kernel
theorem dX8_endScopeBlock_20 : decode cX8_endScopeBlock 20 = .ok (.iconst 1, 1) := by decide +kernel
theorem dX8_endScopeBlock_21 : decode cX8_endScopeBlock 21 = .ok (.iadd, 1) := by decide +kernel
theorem dX8_endScopeBlock_22 : decode cX8_endScopeBlock 22 = .ok (.putfield 104, 3) := by decide +kernel
theorem dX8_endScopeBlock_25 : decode cX8_endScopeBlock 25 = .ok (.return_, 1) := by decide +kernel
theorem dX8_endTurn_0 : decode cX8_endTurn 0 = .ok (.aload_n 2, 1) := by decide +kernel
theorem dX8_endTurn_1 : decode cX8_endTurn 1 = .ok (.getfield 322, 3) := by decide +kernel
theorem dX8_endTurn_4 : decode cX8_endTurn 4 = .ok (.ifCond .gt 20, 3) := by decide +kernel
theorem dX8_endTurn_7 : decode cX8_endTurn 7 = .ok (.aload_n 0, 1) := by decide +kernel
theorem dX8_endTurn_8 : decode cX8_endTurn 8 = .ok (.invokevirtual 319, 3) := by decide +kernel
theorem dX8_endTurn_11 : decode cX8_endTurn 11 = .ok (.aload_n 1, 1) := by decide +kernel
theorem dX8_endTurn_12 : decode cX8_endTurn 12 = .ok (.dup, 1) := by decide +kernel
theorem dX8_endTurn_13 : decode cX8_endTurn 13 = .ok (.getfield 104, 3) := by decide +kernel
theorem dX8_endTurn_16 : decode cX8_endTurn 16 = .ok (.iconst 1, 1) := by decide +kernel
theorem dX8_endTurn_17 : decode cX8_endTurn 17 = .ok (.iadd, 1) := by decide +kernel
theorem dX8_endTurn_18 : decode cX8_endTurn 18 = .ok (.putfield 104, 3) := by decide +kernel
theorem dX8_endTurn_21 : decode cX8_endTurn 21 = .ok (.goto 30, 3) := by decide +kernel
theorem dX8_endTurn_24 : decode cX8_endTurn 24 = .ok (.aload_n 0, 1) := by decide +kernel
theorem dX8_endTurn_25 : decode cX8_endTurn 25 = .ok (.invokevirtual 118, 3) := by decide +kernel
theorem dX8_endTurn_28 : decode cX8_endTurn 28 = .ok (.ifCond .eq 23, 3) := by decide +kernel
theorem dX8_endTurn_31 : decode cX8_endTurn 31 = .ok (.aload_n 2, 1) := by decide +kernel
theorem dX8_endTurn_32 : decode cX8_endTurn 32 = .ok (.dup, 1) := by decide +kernel
theorem dX8_endTurn_33 : decode cX8_endTurn 33 = .ok (.getfield 322, 3) := by decide +kernel
theorem dX8_endTurn_36 : decode cX8_endTurn 36 = .ok (.iconst 1, 1) := by decide +kernel
theorem dX8_endTurn_37 : decode cX8_endTurn 37 = .ok (.isub, 1) := by decide +kernel
theorem dX8_endTurn_38 : decode cX8_endTurn 38 = .ok (.putfield 322, 3) := by decide +kernel
theorem dX8_endTurn_41 : decode cX8_endTurn 41 = .ok (.aload_n 1, 1) := by decide +kernel
theorem dX8_endTurn_42 : decode cX8_endTurn 42 = .ok (.aload_n 2, 1) := by decide +kernel
theorem dX8_endTurn_43 : decode cX8_endTurn 43 = .ok (.getfield 325, 3) := by decide +kernel
theorem dX8_endTurn_46 : decode cX8_endTurn 46 = .ok (.iconst 1, 1) := by decide +kernel
theorem dX8_endTurn_47 : decode cX8_endTurn 47 = .ok (.iadd, 1) := by decide +kernel
theorem dX8_endTurn_48 : decode cX8_endTurn 48 = .ok (.putfield 104, 3) := by decide +kernel
theorem dX8_endTurn_51 : decode cX8_endTurn 51 = .ok (.return_, 1) := by decide +kernel
theorem dX8_endLastWay_0 : decode cX8_endLastWay 0 = .ok (.aload_n 0, 1) := by decide +kernel
theorem dX8_endLastWay_1 : decode cX8_endLastWay 1 = .ok (.aload_n 2, 1) := by decide +kernel
theorem dX8_endLastWay_2 : decode cX8_endLastWay 2 = .ok (.getfield 328, 3) := by decide +kernel
theorem dX8_endLastWay_5 : decode cX8_endLastWay 5 = .ok (.putfield 97, 3) := by decide +kernel
theorem dX8_endLastWay_8 : decode cX8_endLastWay 8 = .ok (.aload_n 0, 1) := by decide +kernel
theorem dX8_endLastWay_9 : decode cX8_endLastWay 9 = .ok (.aload_n 2, 1) := by decide +kernel
theorem dX8_endLastWay_10 : decode cX8_endLastWay 10 = .ok (.getfield 331, 3) := by decide +kernel
theorem dX8_endLastWay_13 : decode cX8_endLastWay 13 = .ok (.putfield 42, 3) := by decide +kernel
theorem dX8_endLastWay_16 : decode cX8_endLastWay 16 = .ok (.aload_n 0, 1) := by decide +kernel
theorem dX8_endLastWay_17 : decode cX8_endLastWay 17 = .ok (.invokevirtual 319, 3) := by decide +kernel
theorem dX8_endLastWay_20 : decode cX8_endLastWay 20 = .ok (.aload_n 1, 1) := by decide +kernel
theorem dX8_endLastWay_21 : decode cX8_endLastWay 21 = .ok (.dup, 1) := by decide +kernel
theorem dX8_endLastWay_22 : decode cX8_endLastWay 22 = .ok (.getfield 104, 3) := by decide +kernel
theorem dX8_endLastWay_25 : decode cX8_endLastWay 25 = .ok (.iconst 1, 1) := by decide +kernel
theorem dX8_endLastWay_26 : decode cX8_endLastWay 26 = .ok (.iadd, 1) := by decide +kernel
theorem dX8_endLastWay_27 : decode cX8_endLastWay 27 = .ok (.putfield 104, 3) := by decide +kernel
theorem dX8_endLastWay_30 : decode cX8_endLastWay 30 = .ok (.return_, 1) := by decide +kernel
theorem dX8_leaveWay_0 : decode cX8_leaveWay 0 = .ok (.aload_n 1, 1) := by decide +kernel
theorem dX8_leaveWay_1 : decode cX8_leaveWay 1 = .ok (.getfield 100, 3) := by decide +kernel
theorem dX8_leaveWay_4 : decode cX8_leaveWay 4 = .ok (.aload_n 2, 1) := by decide +kernel
theorem dX8_leaveWay_5 : decode cX8_leaveWay 5 = .ok (.getfield 325, 3) := by decide +kernel
theorem dX8_leaveWay_8 : decode cX8_leaveWay 8 = .ok (.invokevirtual 334, 3) := by decide +kernel
theorem dX8_leaveWay_11 : decode cX8_leaveWay 11 = .ok (.istore_n 3, 1) := by decide +kernel
theorem dX8_leaveWay_12 : decode cX8_leaveWay 12 = .ok (.aload_n 1, 1) := by decide +kernel
theorem dX8_leaveWay_13 : decode cX8_leaveWay 13 = .ok (.getfield 100, 3) := by decide +kernel
theorem dX8_leaveWay_16 : decode cX8_leaveWay 16 = .ok (.iload_n 3, 1) := by decide +kernel
theorem dX8_leaveWay_17 : decode cX8_leaveWay 17 = .ok (.invokevirtual 107, 3) := by decide +kernel
theorem dX8_leaveWay_20 : decode cX8_leaveWay 20 = .ok (.bipush 15, 2) := by decide +kernel
theorem dX8_leaveWay_22 : decode cX8_leaveWay 22 = .ok (.if_icmp .eq 24, 3) := by decide +kernel
theorem dX8_leaveWay_25 : decode cX8_leaveWay 25 = .ok (.aload_n 0, 1) := by decide +kernel
theorem dX8_leaveWay_26 : decode cX8_leaveWay 26 = .ok (.invokevirtual 319, 3) := by decide +kernel
theorem dX8_leaveWay_29 : decode cX8_leaveWay 29 = .ok (.aload_n 0, 1) := by decide +kernel
theorem dX8_leaveWay_30 : decode cX8_leaveWay 30 = .ok (.getfield 97, 3) := by decide +kernel
theorem dX8_leaveWay_33 : decode cX8_leaveWay 33 = .ok (.ifCond .ne 58, 3) := by decide +kernel
theorem dX8_leaveWay_36 : decode cX8_leaveWay 36 = .ok (.aload_n 1, 1) := by decide +kernel
theorem dX8_leaveWay_37 : decode cX8_leaveWay 37 = .ok (.iload_n 3, 1) := by decide +kernel
theorem dX8_leaveWay_38 : decode cX8_leaveWay 38 = .ok (.iconst 1, 1) := by decide +kernel
theorem dX8_leaveWay_39 : decode cX8_leaveWay 39 = .ok (.iadd, 1) := by decide +kernel
theorem dX8_leaveWay_40 : decode cX8_leaveWay 40 = .ok (.putfield 104, 3) := by decide +kernel
theorem dX8_leaveWay_43 : decode cX8_leaveWay 43 = .ok (.goto 48, 3) := by decide +kernel
theorem dX8_leaveWay_46 : decode cX8_leaveWay 46 = .ok (.aload_n 0, 1) := by decide +kernel
theorem dX8_leaveWay_47 : decode cX8_leaveWay 47 = .ok (.invokevirtual 118, 3) := by decide +kernel
theorem dX8_leaveWay_50 : decode cX8_leaveWay 50 = .ok (.ifCond .eq 41, 3) := by decide +kernel
theorem dX8_leaveWay_53 : decode cX8_leaveWay 53 = .ok (.aload_n 2, 1) := by decide +kernel
theorem dX8_leaveWay_54 : decode cX8_leaveWay 54 = .ok (.iconst 2, 1) := by decide +kernel
theorem dX8_leaveWay_55 : decode cX8_leaveWay 55 = .ok (.putfield 307, 3) := by decide +kernel
theorem dX8_leaveWay_58 : decode cX8_leaveWay 58 = .ok (.aload_n 2, 1) := by decide +kernel
theorem dX8_leaveWay_59 : decode cX8_leaveWay 59 = .ok (.aload_n 0, 1) := by decide +kernel
theorem dX8_leaveWay_60 : decode cX8_leaveWay 60 = .ok (.getfield 97, 3) := by decide +kernel
theorem dX8_leaveWay_63 : decode cX8_leaveWay 63 = .ok (.putfield 328, 3) := by decide +kernel
theorem dX8_leaveWay_66 : decode cX8_leaveWay 66 = .ok (.aload_n 2, 1) := by decide +kernel
theorem dX8_leaveWay_67 : decode cX8_leaveWay 67 = .ok (.aload_n 0, 1) := by decide +kernel
theorem dX8_leaveWay_68 : decode cX8_leaveWay 68 = .ok (.getfield 42, 3) := by decide +kernel
theorem dX8_leaveWay_71 : decode cX8_leaveWay 71 = .ok (.putfield 331, 3) := by decide +kernel
theorem dX8_leaveWay_74 : decode cX8_leaveWay 74 = .ok (.aload_n 0, 1) := by decide +kernel
theorem dX8_leaveWay_75 : decode cX8_leaveWay 75 = .ok (.iconst 0, 1) := by decide +kernel
theorem dX8_leaveWay_76 : decode cX8_leaveWay 76 = .ok (.putfield 97, 3) := by decide +kernel
theorem dX8_leaveWay_79 : decode cX8_leaveWay 79 = .ok (.aload_n 0, 1) := by decide +kernel
theorem dX8_leaveWay_80 : decode cX8_leaveWay 80 = .ok (.iconst (-1), 1) := by decide +kernel
theorem dX8_leaveWay_81 : decode cX8_leaveWay 81 = .ok (.putfield 42, 3) := by decide +kernel
theorem dX8_leaveWay_84 : decode cX8_leaveWay 84 = .ok (.aload_n 1, 1) := by decide +kernel
theorem dX8_leaveWay_85 : decode cX8_leaveWay 85 = .ok (.iload_n 3, 1) := by decide +kernel
theorem dX8_leaveWay_86 : decode cX8_leaveWay 86 = .ok (.iconst 1, 1) := by decide +kernel
theorem dX8_leaveWay_87 : decode cX8_leaveWay 87 = .ok (.iadd, 1) := by decide +kernel
theorem dX8_leaveWay_88 : decode cX8_leaveWay 88 = .ok (.putfield 104, 3) := by decide +kernel
theorem dX8_leaveWay_91 : decode cX8_leaveWay 91 = .ok (.return_, 1) := by decide +kernel
theorem dX8_leave_0 : decode cX8_leave 0 = .ok (.aload_n 0, 1) := by decide +kernel
theorem dX8_leave_1 : decode cX8_leave 1 = .ok (.getfield 19, 3) := by decide +kernel
theorem dX8_leave_4 : decode cX8_leave 4 = .ok (.aload_n 0, 1) := by decide +kernel
theorem dX8_leave_5 : decode cX8_leave 5 = .ok (.getfield 132, 3) := by decide +kernel
theorem dX8_leave_8 : decode cX8_leave 8 = .ok (.aaload, 1) := by decide +kernel
theorem dX8_leave_9 : decode cX8_leave 9 = .ok (.astore_n 2, 1) := by decide +kernel
theorem dX8_leave_10 : decode cX8_leave 10 = .ok (.aload_n 2, 1) := by decide +kernel
theorem dX8_leave_11 : decode cX8_leave 11 = .ok (.getfield 297, 3) := by decide +kernel
theorem dX8_leave_14 : decode cX8_leave 14 = .ok (.tableswitch 52 11 13 #[34, 26, 43], 26) := by decide +kernel
theorem dX8_leave_40 : decode cX8_leave 40 = .ok (.aload_n 0, 1) := by decide +kernel
theorem dX8_leave_41 : decode cX8_leave 41 = .ok (.aload_n 1, 1) := by decide +kernel
theorem dX8_leave_42 : decode cX8_leave 42 = .ok (.invokevirtual 300, 3) := by decide +kernel
theorem dX8_leave_45 : decode cX8_leave 45 = .ok (.goto 25, 3) := by decide +kernel
theorem dX8_leave_48 : decode cX8_leave 48 = .ok (.aload_n 0, 1) := by decide +kernel
theorem dX8_leave_49 : decode cX8_leave 49 = .ok (.aload_n 1, 1) := by decide +kernel
theorem dX8_leave_50 : decode cX8_leave 50 = .ok (.aload_n 2, 1) := by decide +kernel
theorem dX8_leave_51 : decode cX8_leave 51 = .ok (.invokevirtual 337, 3) := by decide +kernel
theorem dX8_leave_54 : decode cX8_leave 54 = .ok (.goto 16, 3) := by decide +kernel
theorem dX8_leave_57 : decode cX8_leave 57 = .ok (.aload_n 0, 1) := by decide +kernel
theorem dX8_leave_58 : decode cX8_leave 58 = .ok (.aload_n 1, 1) := by decide +kernel
theorem dX8_leave_59 : decode cX8_leave 59 = .ok (.aload_n 2, 1) := by decide +kernel
theorem dX8_leave_60 : decode cX8_leave 60 = .ok (.invokevirtual 340, 3) := by decide +kernel
theorem dX8_leave_63 : decode cX8_leave 63 = .ok (.goto 7, 3) := by decide +kernel
theorem dX8_leave_66 : decode cX8_leave 66 = .ok (.aload_n 0, 1) := by decide +kernel
theorem dX8_leave_67 : decode cX8_leave 67 = .ok (.invokevirtual 343, 3) := by decide +kernel
theorem dX8_leave_70 : decode cX8_leave 70 = .ok (.return_, 1) := by decide +kernel
theorem dX8_leaveLoop_0 : decode cX8_leaveLoop 0 = .ok (.aload_n 0, 1) := by decide +kernel
theorem dX8_leaveLoop_1 : decode cX8_leaveLoop 1 = .ok (.invokevirtual 319, 3) := by decide +kernel
theorem dX8_leaveLoop_4 : decode cX8_leaveLoop 4 = .ok (.aload_n 0, 1) := by decide +kernel
theorem dX8_leaveLoop_5 : decode cX8_leaveLoop 5 = .ok (.getfield 97, 3) := by decide +kernel
theorem dX8_leaveLoop_8 : decode cX8_leaveLoop 8 = .ok (.iconst 2, 1) := by decide +kernel
theorem dX8_leaveLoop_9 : decode cX8_leaveLoop 9 = .ok (.if_icmp .ne 25, 3) := by decide +kernel
theorem dX8_leaveLoop_12 : decode cX8_leaveLoop 12 = .ok (.aload_n 0, 1) := by decide +kernel
theorem dX8_leaveLoop_13 : decode cX8_leaveLoop 13 = .ok (.iconst 0, 1) := by decide +kernel
theorem dX8_leaveLoop_14 : decode cX8_leaveLoop 14 = .ok (.putfield 97, 3) := by decide +kernel
theorem dX8_leaveLoop_17 : decode cX8_leaveLoop 17 = .ok (.aload_n 1, 1) := by decide +kernel
theorem dX8_leaveLoop_18 : decode cX8_leaveLoop 18 = .ok (.aload_n 1, 1) := by decide +kernel
theorem dX8_leaveLoop_19 : decode cX8_leaveLoop 19 = .ok (.getfield 100, 3) := by decide +kernel
theorem dX8_leaveLoop_22 : decode cX8_leaveLoop 22 = .ok (.aload_n 2, 1) := by decide +kernel
theorem dX8_leaveLoop_23 : decode cX8_leaveLoop 23 = .ok (.getfield 325, 3) := by decide +kernel
theorem dX8_leaveLoop_26 : decode cX8_leaveLoop 26 = .ok (.invokevirtual 294, 3) := by decide +kernel
theorem dX8_leaveLoop_29 : decode cX8_leaveLoop 29 = .ok (.iconst 1, 1) := by decide +kernel
theorem dX8_leaveLoop_30 : decode cX8_leaveLoop 30 = .ok (.iadd, 1) := by decide +kernel
theorem dX8_leaveLoop_31 : decode cX8_leaveLoop 31 = .ok (.putfield 104, 3) := by decide +kernel
theorem dX8_leaveLoop_34 : decode cX8_leaveLoop 34 = .ok (.return_, 1) := by decide +kernel
theorem dX8_leaveTry_0 : decode cX8_leaveTry 0 = .ok (.aload_n 2, 1) := by decide +kernel
theorem dX8_leaveTry_1 : decode cX8_leaveTry 1 = .ok (.getfield 307, 3) := by decide +kernel
theorem dX8_leaveTry_4 : decode cX8_leaveTry 4 = .ok (.iconst 2, 1) := by decide +kernel
theorem dX8_leaveTry_5 : decode cX8_leaveTry 5 = .ok (.if_icmp .ne 9, 3) := by decide +kernel
theorem dX8_leaveTry_8 : decode cX8_leaveTry 8 = .ok (.aload_n 0, 1) := by decide +kernel
theorem dX8_leaveTry_9 : decode cX8_leaveTry 9 = .ok (.aload_n 2, 1) := by decide +kernel
theorem dX8_leaveTry_10 : decode cX8_leaveTry 10 = .ok (.invokevirtual 346, 3) := by decide +kernel
theorem dX8_leaveTry_13 : decode cX8_leaveTry 13 = .ok (.return_, 1) := by decide +kernel
theorem dX8_leaveTry_14 : decode cX8_leaveTry 14 = .ok (.aload_n 0, 1) := by decide +kernel
theorem dX8_leaveTry_15 : decode cX8_leaveTry 15 = .ok (.getfield 97, 3) := by decide +kernel
theorem dX8_leaveTry_18 : decode cX8_leaveTry 18 = .ok (.iconst 3, 1) := by decide +kernel
theorem dX8_leaveTry_19 : decode cX8_leaveTry 19 = .ok (.if_icmp .ne 46, 3) := by decide +kernel
theorem dX8_leaveTry_22 : decode cX8_leaveTry 22 = .ok (.aload_n 2, 1) := by decide +kernel
theorem dX8_leaveTry_23 : decode cX8_leaveTry 23 = .ok (.getfield 307, 3) := by decide +kernel
theorem dX8_leaveTry_26 : decode cX8_leaveTry 26 = .ok (.ifCond .ne 39, 3) := by decide +kernel
theorem dX8_leaveTry_29 : decode cX8_leaveTry 29 = .ok (.aload_n 1, 1) := by decide +kernel
theorem dX8_leaveTry_30 : decode cX8_leaveTry 30 = .ok (.getfield 100, 3) := by decide +kernel
theorem dX8_leaveTry_33 : decode cX8_leaveTry 33 = .ok (.aload_n 2, 1) := by decide +kernel
theorem dX8_leaveTry_34 : decode cX8_leaveTry 34 = .ok (.getfield 325, 3) := by decide +kernel
theorem dX8_leaveTry_37 : decode cX8_leaveTry 37 = .ok (.aload_n 0, 1) := by decide +kernel
theorem dX8_leaveTry_38 : decode cX8_leaveTry 38 = .ok (.getfield 38, 3) := by decide +kernel
theorem dX8_leaveTry_41 : decode cX8_leaveTry 41 = .ok (.aload_n 0, 1) := by decide +kernel
theorem dX8_leaveTry_42 : decode cX8_leaveTry 42 = .ok (.getfield 42, 3) := by decide +kernel
theorem dX8_leaveTry_45 : decode cX8_leaveTry 45 = .ok (.invokevirtual 350, 3) := by decide +kernel
theorem dX8_leaveTry_48 : decode cX8_leaveTry 48 = .ok (.invokevirtual 353, 3) := by decide +kernel
theorem dX8_leaveTry_51 : decode cX8_leaveTry 51 = .ok (.istore_n 3, 1) := by decide +kernel
theorem dX8_leaveTry_52 : decode cX8_leaveTry 52 = .ok (.iload_n 3, 1) := by decide +kernel
theorem dX8_leaveTry_53 : decode cX8_leaveTry 53 = .ok (.iconst (-1), 1) := by decide +kernel
theorem dX8_leaveTry_54 : decode cX8_leaveTry 54 = .ok (.if_icmp .eq 11, 3) := by decide +kernel
theorem dX8_leaveTry_57 : decode cX8_leaveTry 57 = .ok (.aload_n 0, 1) := by decide +kernel
theorem dX8_leaveTry_58 : decode cX8_leaveTry 58 = .ok (.aload_n 1, 1) := by decide +kernel
theorem dX8_leaveTry_59 : decode cX8_leaveTry 59 = .ok (.aload_n 2, 1) := by decide +kernel
theorem dX8_leaveTry_60 : decode cX8_leaveTry 60 = .ok (.iload_n 3, 1) := by decide +kernel
theorem dX8_leaveTry_61 : decode cX8_leaveTry 61 = .ok (.invokevirtual 357, 3) := by decide +kernel
theorem dX8_leaveTry_64 : decode cX8_leaveTry 64 = .ok (.return_, 1) := by decide +kernel
theorem dX8_leaveTry_65 : decode cX8_leaveTry 65 = .ok (.aload_n 0, 1) := by decide +kernel
theorem dX8_leaveTry_66 : decode cX8_leaveTry 66 = .ok (.getfield 97, 3) := by decide +kernel
theorem dX8_leaveTry_69 : decode cX8_leaveTry 69 = .ok (.iconst 3, 1) := by decide +kernel
theorem dX8_leaveTry_70 : decode cX8_leaveTry 70 = .ok (.if_icmp .ne 26, 3) := by decide +kernel
theorem dX8_leaveTry_73 : decode cX8_leaveTry 73 = .ok (.aload_n 2, 1) := by decide +kernel
theorem dX8_leaveTry_74 : decode cX8_leaveTry 74 = .ok (.getfield 307, 3) := by decide +kernel
theorem dX8_leaveTry_77 : decode cX8_leaveTry 77 = .ok (.iconst 1, 1) := by decide +kernel
theorem dX8_leaveTry_78 : decode cX8_leaveTry 78 = .ok (.if_icmp .ne 18, 3) := by decide +kernel
theorem dX8_leaveTry_81 : decode cX8_leaveTry 81 = .ok (.aload_n 0, 1) := by decide +kernel
theorem dX8_leaveTry_82 : decode cX8_leaveTry 82 = .ok (.getfield 38, 3) := by decide +kernel
theorem dX8_leaveTry_85 : decode cX8_leaveTry 85 = .ok (.aload_n 0, 1) := by decide +kernel
theorem dX8_leaveTry_86 : decode cX8_leaveTry 86 = .ok (.getfield 42, 3) := by decide +kernel
theorem dX8_leaveTry_89 : decode cX8_leaveTry 89 = .ok (.aload_n 2, 1) := by decide +kernel
theorem dX8_leaveTry_90 : decode cX8_leaveTry 90 = .ok (.getfield 361, 3) := by decide +kernel
theorem dX8_leaveTry_93 : decode cX8_leaveTry 93 = .ok (.invokevirtual 364, 3) := by decide +kernel
theorem dX8_leaveTry_96 : decode cX8_leaveTry 96 = .ok (.aload_n 0, 1) := by decide +kernel
theorem dX8_leaveTry_97 : decode cX8_leaveTry 97 = .ok (.aload_n 1, 1) := by decide +kernel
theorem dX8_leaveTry_98 : decode cX8_leaveTry 98 = .ok (.aload_n 2, 1) := by decide +kernel
theorem dX8_leaveTry_99 : decode cX8_leaveTry 99 = .ok (.invokevirtual 313, 3) := by decide +kernel
theorem dX8_leaveTry_102 : decode cX8_leaveTry 102 = .ok (.return_, 1) := by decide +kernel
theorem dX8_beginWay_0 : decode cX8_beginWay 0 = .ok (.aload_n 0, 1) := by decide +kernel
theorem dX8_beginWay_1 : decode cX8_beginWay 1 = .ok (.invokevirtual 118, 3) := by decide +kernel
theorem dX8_beginWay_4 : decode cX8_beginWay 4 = .ok (.ifCond .eq 33, 3) := by decide +kernel
theorem dX8_beginWay_7 : decode cX8_beginWay 7 = .ok (.aload_n 2, 1) := by decide +kernel
theorem dX8_beginWay_8 : decode cX8_beginWay 8 = .ok (.iconst 1, 1) := by decide +kernel
theorem dX8_beginWay_9 : decode cX8_beginWay 9 = .ok (.putfield 307, 3) := by decide +kernel
theorem dX8_beginWay_12 : decode cX8_beginWay 12 = .ok (.aload_n 2, 1) := by decide +kernel
theorem dX8_beginWay_13 : decode cX8_beginWay 13 = .ok (.aload_n 0, 1) := by decide +kernel
theorem dX8_beginWay_14 : decode cX8_beginWay 14 = .ok (.getfield 42, 3) := by decide +kernel
theorem dX8_beginWay_17 : decode cX8_beginWay 17 = .ok (.putfield 361, 3) := by decide +kernel
theorem dX8_beginWay_20 : decode cX8_beginWay 20 = .ok (.aload_n 0, 1) := by decide +kernel
theorem dX8_beginWay_21 : decode cX8_beginWay 21 = .ok (.iconst 0, 1) := by decide +kernel
theorem dX8_beginWay_22 : decode cX8_beginWay 22 = .ok (.putfield 97, 3) := by decide +kernel
theorem dX8_beginWay_25 : decode cX8_beginWay 25 = .ok (.aload_n 0, 1) := by decide +kernel
theorem dX8_beginWay_26 : decode cX8_beginWay 26 = .ok (.iconst (-1), 1) := by decide +kernel
theorem dX8_beginWay_27 : decode cX8_beginWay 27 = .ok (.putfield 42, 3) := by decide +kernel
theorem dX8_beginWay_30 : decode cX8_beginWay 30 = .ok (.aload_n 1, 1) := by decide +kernel
theorem dX8_beginWay_31 : decode cX8_beginWay 31 = .ok (.iload_n 3, 1) := by decide +kernel
theorem dX8_beginWay_32 : decode cX8_beginWay 32 = .ok (.iconst 1, 1) := by decide +kernel
theorem dX8_beginWay_33 : decode cX8_beginWay 33 = .ok (.iadd, 1) := by decide +kernel
theorem dX8_beginWay_34 : decode cX8_beginWay 34 = .ok (.putfield 104, 3) := by decide +kernel
theorem dX8_beginWay_37 : decode cX8_beginWay 37 = .ok (.return_, 1) := by decide +kernel
theorem dX8_leaveLastWay_0 : decode cX8_leaveLastWay 0 = .ok (.aload_n 1, 1) := by decide +kernel
theorem dX8_leaveLastWay_1 : decode cX8_leaveLastWay 1 = .ok (.getfield 328, 3) := by decide +kernel
theorem dX8_leaveLastWay_4 : decode cX8_leaveLastWay 4 = .ok (.iconst 3, 1) := by decide +kernel
theorem dX8_leaveLastWay_5 : decode cX8_leaveLastWay 5 = .ok (.if_icmp .ne 39, 3) := by decide +kernel
theorem dX8_leaveLastWay_8 : decode cX8_leaveLastWay 8 = .ok (.aload_n 0, 1) := by decide +kernel
theorem dX8_leaveLastWay_9 : decode cX8_leaveLastWay 9 = .ok (.getfield 97, 3) := by decide +kernel
theorem dX8_leaveLastWay_12 : decode cX8_leaveLastWay 12 = .ok (.iconst 3, 1) := by decide +kernel
theorem dX8_leaveLastWay_13 : decode cX8_leaveLastWay 13 = .ok (.if_icmp .ne 21, 3) := by decide +kernel
theorem dX8_leaveLastWay_16 : decode cX8_leaveLastWay 16 = .ok (.aload_n 0, 1) := by decide +kernel
theorem dX8_leaveLastWay_17 : decode cX8_leaveLastWay 17 = .ok (.getfield 38, 3) := by decide +kernel
theorem dX8_leaveLastWay_20 : decode cX8_leaveLastWay 20 = .ok (.aload_n 1, 1) := by decide +kernel
theorem dX8_leaveLastWay_21 : decode cX8_leaveLastWay 21 = .ok (.getfield 331, 3) := by decide +kernel
theorem dX8_leaveLastWay_24 : decode cX8_leaveLastWay 24 = .ok (.aload_n 0, 1) := by decide +kernel
theorem dX8_leaveLastWay_25 : decode cX8_leaveLastWay 25 = .ok (.getfield 42, 3) := by decide +kernel
theorem dX8_leaveLastWay_28 : decode cX8_leaveLastWay 28 = .ok (.invokevirtual 367, 3) := by decide +kernel
theorem dX8_leaveLastWay_31 : decode cX8_leaveLastWay 31 = .ok (.goto 13, 3) := by decide +kernel
theorem dX8_leaveLastWay_34 : decode cX8_leaveLastWay 34 = .ok (.aload_n 0, 1) := by decide +kernel
theorem dX8_leaveLastWay_35 : decode cX8_leaveLastWay 35 = .ok (.dup, 1) := by decide +kernel
theorem dX8_leaveLastWay_36 : decode cX8_leaveLastWay 36 = .ok (.getfield 78, 3) := by decide +kernel
theorem dX8_leaveLastWay_39 : decode cX8_leaveLastWay 39 = .ok (.iconst 1, 1) := by decide +kernel
theorem dX8_leaveLastWay_40 : decode cX8_leaveLastWay 40 = .ok (.iadd, 1) := by decide +kernel
theorem dX8_leaveLastWay_41 : decode cX8_leaveLastWay 41 = .ok (.putfield 78, 3) := by decide +kernel
theorem dX8_leaveLastWay_44 : decode cX8_leaveLastWay 44 = .ok (.aload_n 0, 1) := by decide +kernel
theorem dX8_leaveLastWay_45 : decode cX8_leaveLastWay 45 = .ok (.invokevirtual 319, 3) := by decide +kernel
theorem dX8_leaveLastWay_48 : decode cX8_leaveLastWay 48 = .ok (.return_, 1) := by decide +kernel
theorem dX8_leaveAct_0 : decode cX8_leaveAct 0 = .ok (.aload_n 0, 1) := by decide +kernel
theorem dX8_leaveAct_1 : decode cX8_leaveAct 1 = .ok (.invokevirtual 316, 3) := by decide +kernel
theorem dX8_leaveAct_4 : decode cX8_leaveAct 4 = .ok (.aload_n 0, 1) := by decide +kernel
theorem dX8_leaveAct_5 : decode cX8_leaveAct 5 = .ok (.getfield 97, 3) := by decide +kernel
theorem dX8_leaveAct_8 : decode cX8_leaveAct 8 = .ok (.iconst 4, 1) := by decide +kernel
theorem dX8_leaveAct_9 : decode cX8_leaveAct 9 = .ok (.if_icmp .ne 4, 3) := by decide +kernel
theorem dX8_leaveAct_12 : decode cX8_leaveAct 12 = .ok (.return_, 1) := by decide +kernel
theorem dX8_leaveAct_13 : decode cX8_leaveAct 13 = .ok (.aload_n 0, 1) := by decide +kernel
theorem dX8_leaveAct_14 : decode cX8_leaveAct 14 = .ok (.invokevirtual 319, 3) := by decide +kernel
theorem dX8_leaveAct_17 : decode cX8_leaveAct 17 = .ok (.aload_n 0, 1) := by decide +kernel
theorem dX8_leaveAct_18 : decode cX8_leaveAct 18 = .ok (.dup, 1) := by decide +kernel
theorem dX8_leaveAct_19 : decode cX8_leaveAct 19 = .ok (.getfield 94, 3) := by decide +kernel
theorem dX8_leaveAct_22 : decode cX8_leaveAct 22 = .ok (.iconst 1, 1) := by decide +kernel
theorem dX8_leaveAct_23 : decode cX8_leaveAct 23 = .ok (.isub, 1) := by decide +kernel
theorem dX8_leaveAct_24 : decode cX8_leaveAct 24 = .ok (.putfield 94, 3) := by decide +kernel
theorem dX8_leaveAct_27 : decode cX8_leaveAct 27 = .ok (.aload_n 0, 1) := by decide +kernel
theorem dX8_leaveAct_28 : decode cX8_leaveAct 28 = .ok (.getfield 97, 3) := by decide +kernel
theorem dX8_leaveAct_31 : decode cX8_leaveAct 31 = .ok (.iconst 1, 1) := by decide +kernel
theorem dX8_leaveAct_32 : decode cX8_leaveAct 32 = .ok (.if_icmp .ne 26, 3) := by decide +kernel
theorem dX8_leaveAct_35 : decode cX8_leaveAct 35 = .ok (.aload_n 0, 1) := by decide +kernel
theorem dX8_leaveAct_36 : decode cX8_leaveAct 36 = .ok (.iconst 0, 1) := by decide +kernel
theorem dX8_leaveAct_37 : decode cX8_leaveAct 37 = .ok (.putfield 97, 3) := by decide +kernel
theorem dX8_leaveAct_40 : decode cX8_leaveAct 40 = .ok (.aload_n 0, 1) := by decide +kernel
theorem dX8_leaveAct_41 : decode cX8_leaveAct 41 = .ok (.getfield 11, 3) := by decide +kernel
theorem dX8_leaveAct_44 : decode cX8_leaveAct 44 = .ok (.aload_n 0, 1) := by decide +kernel
theorem dX8_leaveAct_45 : decode cX8_leaveAct 45 = .ok (.getfield 94, 3) := by decide +kernel
theorem dX8_leaveAct_48 : decode cX8_leaveAct 48 = .ok (.aaload, 1) := by decide +kernel
theorem dX8_leaveAct_49 : decode cX8_leaveAct 49 = .ok (.dup, 1) := by decide +kernel
theorem dX8_leaveAct_50 : decode cX8_leaveAct 50 = .ok (.getfield 104, 3) := by decide +kernel
theorem dX8_leaveAct_53 : decode cX8_leaveAct 53 = .ok (.iconst 1, 1) := by decide +kernel
theorem dX8_leaveAct_54 : decode cX8_leaveAct 54 = .ok (.iadd, 1) := by decide +kernel
theorem dX8_leaveAct_55 : decode cX8_leaveAct 55 = .ok (.putfield 104, 3) := by decide +kernel
theorem dX8_leaveAct_58 : decode cX8_leaveAct 58 = .ok (.return_, 1) := by decide +kernel
theorem dX8_endInnermost_0 : decode cX8_endInnermost 0 = .ok (.aload_n 0, 1) := by decide +kernel
theorem dX8_endInnermost_1 : decode cX8_endInnermost 1 = .ok (.getfield 25, 3) := by decide +kernel
theorem dX8_endInnermost_4 : decode cX8_endInnermost 4 = .ok (.aload_n 0, 1) := by decide +kernel
theorem dX8_endInnermost_5 : decode cX8_endInnermost 5 = .ok (.getfield 135, 3) := by decide +kernel
theorem dX8_endInnermost_8 : decode cX8_endInnermost 8 = .ok (.aaload, 1) := by decide +kernel
theorem dX8_endInnermost_9 : decode cX8_endInnermost 9 = .ok (.astore_n 1, 1) := by decide +kernel
theorem dX8_endInnermost_10 : decode cX8_endInnermost 10 = .ok (.iconst 0, 1) := by decide +kernel
theorem dX8_endInnermost_11 : decode cX8_endInnermost 11 = .ok (.istore_n 2, 1) := by decide +kernel
theorem dX8_endInnermost_12 : decode cX8_endInnermost 12 = .ok (.iload_n 2, 1) := by decide +kernel
theorem dX8_endInnermost_13 : decode cX8_endInnermost 13 = .ok (.sipush 160, 3) := by decide +kernel
theorem dX8_endInnermost_16 : decode cX8_endInnermost 16 = .ok (.if_icmp .ge 47, 3) := by decide +kernel
theorem dX8_endInnermost_19 : decode cX8_endInnermost 19 = .ok (.aload_n 1, 1) := by decide +kernel
theorem dX8_endInnermost_20 : decode cX8_endInnermost 20 = .ok (.getfield 370, 3) := by decide +kernel
theorem dX8_endInnermost_23 : decode cX8_endInnermost 23 = .ok (.ifnull 40, 3) := by decide +kernel
theorem dX8_endInnermost_26 : decode cX8_endInnermost 26 = .ok (.aload_n 0, 1) := by decide +kernel
theorem dX8_endInnermost_27 : decode cX8_endInnermost 27 = .ok (.getfield 97, 3) := by decide +kernel
theorem dX8_endInnermost_30 : decode cX8_endInnermost 30 = .ok (.iconst 4, 1) := by decide +kernel
theorem dX8_endInnermost_31 : decode cX8_endInnermost 31 = .ok (.if_icmp .eq 32, 3) := by decide +kernel
theorem dX8_endInnermost_34 : decode cX8_endInnermost 34 = .ok (.aload_n 1, 1) := by decide +kernel
theorem dX8_endInnermost_35 : decode cX8_endInnermost 35 = .ok (.getfield 370, 3) := by decide +kernel
theorem dX8_endInnermost_38 : decode cX8_endInnermost 38 = .ok (.astore_n 3, 1) := by decide +kernel
theorem dX8_endInnermost_39 : decode cX8_endInnermost 39 = .ok (.aload_n 0, 1) := by decide +kernel
theorem dX8_endInnermost_40 : decode cX8_endInnermost 40 = .ok (.aload_n 3, 1) := by decide +kernel
theorem dX8_endInnermost_41 : decode cX8_endInnermost 41 = .ok (.iconst 1, 1) := by decide +kernel
theorem dX8_endInnermost_42 : decode cX8_endInnermost 42 = .ok (.invokevirtual 259, 3) := by decide +kernel
theorem dX8_endInnermost_45 : decode cX8_endInnermost 45 = .ok (.ifCond .eq 12, 3) := by decide +kernel
theorem dX8_endInnermost_48 : decode cX8_endInnermost 48 = .ok (.aload_n 0, 1) := by decide +kernel
theorem dX8_endInnermost_49 : decode cX8_endInnermost 49 = .ok (.aload_n 1, 1) := by decide +kernel
theorem dX8_endInnermost_50 : decode cX8_endInnermost 50 = .ok (.aload_n 3, 1) := by decide +kernel
theorem dX8_endInnermost_51 : decode cX8_endInnermost 51 = .ok (.invokestatic 246, 3) := by decide +kernel
theorem dX8_endInnermost_54 : decode cX8_endInnermost 54 = .ok (.invokevirtual 373, 3) := by decide +kernel
theorem dX8_endInnermost_57 : decode cX8_endInnermost 57 = .ok (.iinc 2 1, 3) := by decide +kernel
theorem dX8_endInnermost_60 : decode cX8_endInnermost 60 = .ok (.goto (-48), 3) := by decide +kernel
theorem dX8_endInnermost_63 : decode cX8_endInnermost 63 = .ok (.aload_n 0, 1) := by decide +kernel
theorem dX8_endInnermost_64 : decode cX8_endInnermost 64 = .ok (.getfield 97, 3) := by decide +kernel
theorem dX8_endInnermost_67 : decode cX8_endInnermost 67 = .ok (.iconst 4, 1) := by decide +kernel
theorem dX8_endInnermost_68 : decode cX8_endInnermost 68 = .ok (.if_icmp .eq 30, 3) := by decide +kernel
theorem dX8_endInnermost_71 : decode cX8_endInnermost 71 = .ok (.aload_n 0, 1) := by decide +kernel
theorem dX8_endInnermost_72 : decode cX8_endInnermost 72 = .ok (.getfield 135, 3) := by decide +kernel
theorem dX8_endInnermost_75 : decode cX8_endInnermost 75 = .ok (.ifCond .le 23, 3) := by decide +kernel
theorem dX8_endInnermost_78 : decode cX8_endInnermost 78 = .ok (.aload_n 0, 1) := by decide +kernel
theorem dX8_endInnermost_79 : decode cX8_endInnermost 79 = .ok (.dup, 1) := by decide +kernel
theorem dX8_endInnermost_80 : decode cX8_endInnermost 80 = .ok (.getfield 135, 3) := by decide +kernel
theorem dX8_endInnermost_83 : decode cX8_endInnermost 83 = .ok (.iconst 1, 1) := by decide +kernel
theorem dX8_endInnermost_84 : decode cX8_endInnermost 84 = .ok (.isub, 1) := by decide +kernel
theorem dX8_endInnermost_85 : decode cX8_endInnermost 85 = .ok (.putfield 135, 3) := by decide +kernel
theorem dX8_endInnermost_88 : decode cX8_endInnermost 88 = .ok (.aload_n 0, 1) := by decide +kernel
theorem dX8_endInnermost_89 : decode cX8_endInnermost 89 = .ok (.dup, 1) := by decide +kernel
theorem dX8_endInnermost_90 : decode cX8_endInnermost 90 = .ok (.getfield 75, 3) := by decide +kernel
theorem dX8_endInnermost_93 : decode cX8_endInnermost 93 = .ok (.iconst 1, 1) := by decide +kernel
theorem dX8_endInnermost_94 : decode cX8_endInnermost 94 = .ok (.iadd, 1) := by decide +kernel
theorem dX8_endInnermost_95 : decode cX8_endInnermost 95 = .ok (.putfield 75, 3) := by decide +kernel
theorem dX8_endInnermost_98 : decode cX8_endInnermost 98 = .ok (.return_, 1) := by decide +kernel
theorem dX8_failAtEnd_0 : decode cX8_failAtEnd 0 = .ok (.aload_n 0, 1) := by decide +kernel
theorem dX8_failAtEnd_1 : decode cX8_failAtEnd 1 = .ok (.getfield 38, 3) := by decide +kernel
theorem dX8_failAtEnd_4 : decode cX8_failAtEnd 4 = .ok (.bipush 6, 2) := by decide +kernel
theorem dX8_failAtEnd_6 : decode cX8_failAtEnd 6 = .ok (.aload_n 1, 1) := by decide +kernel
theorem dX8_failAtEnd_7 : decode cX8_failAtEnd 7 = .ok (.getfield 377, 3) := by decide +kernel
theorem dX8_failAtEnd_10 : decode cX8_failAtEnd 10 = .ok (.aload_n 1, 1) := by decide +kernel
theorem dX8_failAtEnd_11 : decode cX8_failAtEnd 11 = .ok (.getfield 380, 3) := by decide +kernel
theorem dX8_failAtEnd_14 : decode cX8_failAtEnd 14 = .ok (.iload_n 2, 1) := by decide +kernel
theorem dX8_failAtEnd_15 : decode cX8_failAtEnd 15 = .ok (.invokevirtual 283, 3) := by decide +kernel
theorem dX8_failAtEnd_18 : decode cX8_failAtEnd 18 = .ok (.istore_n 3, 1) := by decide +kernel
theorem dX8_failAtEnd_19 : decode cX8_failAtEnd 19 = .ok (.iload_n 3, 1) := by decide +kernel
theorem dX8_failAtEnd_20 : decode cX8_failAtEnd 20 = .ok (.iconst (-1), 1) := by decide +kernel
theorem dX8_failAtEnd_21 : decode cX8_failAtEnd 21 = .ok (.if_icmp .ne 11, 3) := by decide +kernel
theorem dX8_failAtEnd_24 : decode cX8_failAtEnd 24 = .ok (.aload_n 0, 1) := by decide +kernel
theorem dX8_failAtEnd_25 : decode cX8_failAtEnd 25 = .ok (.iconst 4, 1) := by decide +kernel
theorem dX8_failAtEnd_26 : decode cX8_failAtEnd 26 = .ok (.putfield 97, 3) := by decide +kernel
theorem dX8_failAtEnd_29 : decode cX8_failAtEnd 29 = .ok (.goto 36, 3) := by decide +kernel
theorem dX8_failAtEnd_32 : decode cX8_failAtEnd 32 = .ok (.aload_n 0, 1) := by decide +kernel
theorem dX8_failAtEnd_33 : decode cX8_failAtEnd 33 = .ok (.getfield 97, 3) := by decide +kernel
theorem dX8_failAtEnd_36 : decode cX8_failAtEnd 36 = .ok (.iconst 3, 1) := by decide +kernel
theorem dX8_failAtEnd_37 : decode cX8_failAtEnd 37 = .ok (.if_icmp .ne 18, 3) := by decide +kernel
theorem dX8_failAtEnd_40 : decode cX8_failAtEnd 40 = .ok (.aload_n 0, 1) := by decide +kernel
theorem dX8_failAtEnd_41 : decode cX8_failAtEnd 41 = .ok (.getfield 38, 3) := by decide +kernel
theorem dX8_failAtEnd_44 : decode cX8_failAtEnd 44 = .ok (.iload_n 3, 1) := by decide +kernel
theorem dX8_failAtEnd_45 : decode cX8_failAtEnd 45 = .ok (.aload_n 0, 1) := by decide +kernel
theorem dX8_failAtEnd_46 : decode cX8_failAtEnd 46 = .ok (.getfield 42, 3) := by decide +kernel
theorem dX8_failAtEnd_49 : decode cX8_failAtEnd 49 = .ok (.invokevirtual 367, 3) := by decide +kernel
theorem dX8_failAtEnd_52 : decode cX8_failAtEnd 52 = .ok (.goto 13, 3) := by decide +kernel
theorem dX8_failAtEnd_55 : decode cX8_failAtEnd 55 = .ok (.aload_n 0, 1) := by decide +kernel
theorem dX8_failAtEnd_56 : decode cX8_failAtEnd 56 = .ok (.iconst 3, 1) := by decide +kernel
theorem dX8_failAtEnd_57 : decode cX8_failAtEnd 57 = .ok (.putfield 97, 3) := by decide +kernel
theorem dX8_failAtEnd_60 : decode cX8_failAtEnd 60 = .ok (.aload_n 0, 1) := by decide +kernel
theorem dX8_failAtEnd_61 : decode cX8_failAtEnd 61 = .ok (.iload_n 3, 1) := by decide +kernel
theorem dX8_failAtEnd_62 : decode cX8_failAtEnd 62 = .ok (.putfield 42, 3) := by decide +kernel
theorem dX8_failAtEnd_65 : decode cX8_failAtEnd 65 = .ok (.return_, 1) := by decide +kernel
theorem dX8_spend_0 : decode cX8_spend 0 = .ok (.aload_n 0, 1) := by decide +kernel
theorem dX8_spend_1 : decode cX8_spend 1 = .ok (.getfield 135, 3) := by decide +kernel
theorem dX8_spend_4 : decode cX8_spend 4 = .ok (.ifCond .le 68, 3) := by decide +kernel
theorem dX8_spend_7 : decode cX8_spend 7 = .ok (.aload_n 0, 1) := by decide +kernel
theorem dX8_spend_8 : decode cX8_spend 8 = .ok (.getfield 25, 3) := by decide +kernel
theorem dX8_spend_11 : decode cX8_spend 11 = .ok (.aload_n 0, 1) := by decide +kernel
theorem dX8_spend_12 : decode cX8_spend 12 = .ok (.getfield 135, 3) := by decide +kernel
theorem dX8_spend_15 : decode cX8_spend 15 = .ok (.aaload, 1) := by decide +kernel
theorem dX8_spend_16 : decode cX8_spend 16 = .ok (.astore_n 1, 1) := by decide +kernel
theorem dX8_spend_17 : decode cX8_spend 17 = .ok (.iconst 0, 1) := by decide +kernel
theorem dX8_spend_18 : decode cX8_spend 18 = .ok (.istore_n 2, 1) := by decide +kernel
theorem dX8_spend_19 : decode cX8_spend 19 = .ok (.iload_n 2, 1) := by decide +kernel
theorem dX8_spend_20 : decode cX8_spend 20 = .ok (.sipush 160, 3) := by decide +kernel
theorem dX8_spend_23 : decode cX8_spend 23 = .ok (.if_icmp .ge 26, 3) := by decide +kernel
theorem dX8_spend_26 : decode cX8_spend 26 = .ok (.aload_n 1, 1) := by decide +kernel
theorem dX8_spend_27 : decode cX8_spend 27 = .ok (.getfield 370, 3) := by decide +kernel
theorem dX8_spend_30 : decode cX8_spend 30 = .ok (.ifnull 19, 3) := by decide +kernel
theorem dX8_spend_33 : decode cX8_spend 33 = .ok (.aload_n 0, 1) := by decide +kernel
theorem dX8_spend_34 : decode cX8_spend 34 = .ok (.aload_n 1, 1) := by decide +kernel
theorem dX8_spend_35 : decode cX8_spend 35 = .ok (.getfield 370, 3) := by decide +kernel
theorem dX8_spend_38 : decode cX8_spend 38 = .ok (.iconst 2, 1) := by decide +kernel
theorem dX8_spend_39 : decode cX8_spend 39 = .ok (.invokevirtual 259, 3) := by decide +kernel
theorem dX8_spend_42 : decode cX8_spend 42 = .ok (.pop, 1) := by decide +kernel
theorem dX8_spend_43 : decode cX8_spend 43 = .ok (.iinc 2 1, 3) := by decide +kernel
theorem dX8_spend_46 : decode cX8_spend 46 = .ok (.goto (-27), 3) := by decide +kernel
theorem dX8_spend_49 : decode cX8_spend 49 = .ok (.aload_n 0, 1) := by decide +kernel
theorem dX8_spend_50 : decode cX8_spend 50 = .ok (.dup, 1) := by decide +kernel
theorem dX8_spend_51 : decode cX8_spend 51 = .ok (.getfield 75, 3) := by decide +kernel
theorem dX8_spend_54 : decode cX8_spend 54 = .ok (.iconst 1, 1) := by decide +kernel
theorem dX8_spend_55 : decode cX8_spend 55 = .ok (.iadd, 1) := by decide +kernel
theorem dX8_spend_56 : decode cX8_spend 56 = .ok (.putfield 75, 3) := by decide +kernel
theorem dX8_spend_59 : decode cX8_spend 59 = .ok (.aload_n 0, 1) := by decide +kernel
theorem dX8_spend_60 : decode cX8_spend 60 = .ok (.dup, 1) := by decide +kernel
theorem dX8_spend_61 : decode cX8_spend 61 = .ok (.getfield 135, 3) := by decide +kernel
theorem dX8_spend_64 : decode cX8_spend 64 = .ok (.iconst 1, 1) := by decide +kernel
theorem dX8_spend_65 : decode cX8_spend 65 = .ok (.isub, 1) := by decide +kernel
theorem dX8_spend_66 : decode cX8_spend 66 = .ok (.putfield 135, 3) := by decide +kernel
theorem dX8_spend_69 : decode cX8_spend 69 = .ok (.goto (-69), 3) := by decide +kernel
theorem dX8_spend_72 : decode cX8_spend 72 = .ok (.return_, 1) := by decide +kernel
theorem dX9_init_0 : decode cX9_init 0 = .ok (.aload_n 0, 1) := by decide +kernel
theorem dX9_init_1 : decode cX9_init 1 = .ok (.invokespecial 1, 3) := by decide +kernel
theorem dX9_init_4 : decode cX9_init 4 = .ok (.return_, 1) := by decide +kernel
theorem dX9_begin_0 : decode cX9_begin 0 = .ok (.aload_n 0, 1) := by decide +kernel
theorem dX9_begin_1 : decode cX9_begin 1 = .ok (.iload_n 1, 1) := by decide +kernel
theorem dX9_begin_2 : decode cX9_begin 2 = .ok (.putfield 7, 3) := by decide +kernel
theorem dX9_begin_5 : decode cX9_begin 5 = .ok (.aload_n 0, 1) := by decide +kernel
theorem dX9_begin_6 : decode cX9_begin 6 = .ok (.iload_n 2, 1) := by decide +kernel
theorem dX9_begin_7 : decode cX9_begin 7 = .ok (.putfield 13, 3) := by decide +kernel
theorem dX9_begin_10 : decode cX9_begin 10 = .ok (.aload_n 0, 1) := by decide +kernel
theorem dX9_begin_11 : decode cX9_begin 11 = .ok (.aconst_null, 1) := by decide +kernel
theorem dX9_begin_12 : decode cX9_begin 12 = .ok (.putfield 16, 3) := by decide +kernel
theorem dX9_begin_15 : decode cX9_begin 15 = .ok (.return_, 1) := by decide +kernel
theorem dX10_init_0 : decode cX10_init 0 = .ok (.aload_n 0, 1) := by decide +kernel
theorem dX10_init_1 : decode cX10_init 1 = .ok (.invokespecial 3, 3) := by decide +kernel
theorem dX10_init_4 : decode cX10_init 4 = .ok (.aload_n 0, 1) := by decide +kernel
theorem dX10_init_5 : decode cX10_init 5 = .ok (.bipush 40, 2) := by decide +kernel
theorem dX10_init_7 : decode cX10_init 7 = .ok (.newarray .int, 2) := by decide +kernel
theorem dX10_init_9 : decode cX10_init 9 = .ok (.putfield 9, 3) := by decide +kernel
theorem dX10_init_12 : decode cX10_init 12 = .ok (.aload_n 0, 1) := by decide +kernel
theorem dX10_init_13 : decode cX10_init 13 = .ok (.bipush 40, 2) := by decide +kernel
theorem dX10_init_15 : decode cX10_init 15 = .ok (.newarray .int, 2) := by decide +kernel
theorem dX10_init_17 : decode cX10_init 17 = .ok (.putfield 15, 3) := by decide +kernel
theorem dX10_init_20 : decode cX10_init 20 = .ok (.aload_n 0, 1) := by decide +kernel
theorem dX10_init_21 : decode cX10_init 21 = .ok (.bipush 40, 2) := by decide +kernel
theorem dX10_init_23 : decode cX10_init 23 = .ok (.newarray .int, 2) := by decide +kernel
theorem dX10_init_25 : decode cX10_init 25 = .ok (.putfield 18, 3) := by decide +kernel
theorem dX10_init_28 : decode cX10_init 28 = .ok (.aload_n 0, 1) := by decide +kernel
theorem dX10_init_29 : decode cX10_init 29 = .ok (.bipush 40, 2) := by decide +kernel
theorem dX10_init_31 : decode cX10_init 31 = .ok (.newarray .int, 2) := by decide +kernel
theorem dX10_init_33 : decode cX10_init 33 = .ok (.putfield 21, 3) := by decide +kernel
theorem dX10_init_36 : decode cX10_init 36 = .ok (.aload_n 0, 1) := by decide +kernel
theorem dX10_init_37 : decode cX10_init 37 = .ok (.bipush 8, 2) := by decide +kernel
theorem dX10_init_39 : decode cX10_init 39 = .ok (.newarray .int, 2) := by decide +kernel
theorem dX10_init_41 : decode cX10_init 41 = .ok (.putfield 24, 3) := by decide +kernel
theorem dX10_init_44 : decode cX10_init 44 = .ok (.aload_n 0, 1) := by decide +kernel
theorem dX10_init_45 : decode cX10_init 45 = .ok (.bipush 8, 2) := by decide +kernel
theorem dX10_init_47 : decode cX10_init 47 = .ok (.newarray .int, 2) := by decide +kernel
theorem dX10_init_49 : decode cX10_init 49 = .ok (.putfield 27, 3) := by decide +kernel
theorem dX10_init_52 : decode cX10_init 52 = .ok (.return_, 1) := by decide +kernel
theorem dX10_add_0 : decode cX10_add 0 = .ok (.aload_n 0, 1) := by decide +kernel
theorem dX10_add_1 : decode cX10_add 1 = .ok (.getfield 30, 3) := by decide +kernel
theorem dX10_add_4 : decode cX10_add 4 = .ok (.bipush 40, 2) := by decide +kernel
theorem dX10_add_6 : decode cX10_add 6 = .ok (.invokestatic 34, 3) := by decide +kernel
theorem dX10_add_9 : decode cX10_add 9 = .ok (.ifCond .ne 6, 3) := by decide +kernel
theorem dX10_add_12 : decode cX10_add 12 = .ok (.bipush (-104), 2) := by decide +kernel
theorem dX10_add_14 : decode cX10_add 14 = .ok (.ireturn, 1) := by decide +kernel
theorem dX10_add_15 : decode cX10_add 15 = .ok (.aload_n 0, 1) := by decide +kernel
theorem dX10_add_16 : decode cX10_add 16 = .ok (.getfield 9, 3) := by decide +kernel
theorem dX10_add_19 : decode cX10_add 19 = .ok (.aload_n 0, 1) := by decide +kernel
theorem dX10_add_20 : decode cX10_add 20 = .ok (.getfield 30, 3) := by decide +kernel
theorem dX10_add_23 : decode cX10_add 23 = .ok (.iload_n 1, 1) := by decide +kernel
theorem dX10_add_24 : decode cX10_add 24 = .ok (.iastore, 1) := by decide +kernel
theorem dX10_add_25 : decode cX10_add 25 = .ok (.aload_n 0, 1) := by decide +kernel
theorem dX10_add_26 : decode cX10_add 26 = .ok (.getfield 15, 3) := by decide +kernel
theorem dX10_add_29 : decode cX10_add 29 = .ok (.aload_n 0, 1) := by decide +kernel
theorem dX10_add_30 : decode cX10_add 30 = .ok (.getfield 30, 3) := by decide +kernel
theorem dX10_add_33 : decode cX10_add 33 = .ok (.iload_n 2, 1) := by decide +kernel
theorem dX10_add_34 : decode cX10_add 34 = .ok (.iastore, 1) := by decide +kernel
theorem dX10_add_35 : decode cX10_add 35 = .ok (.aload_n 0, 1) := by decide +kernel
theorem dX10_add_36 : decode cX10_add 36 = .ok (.getfield 18, 3) := by decide +kernel
theorem dX10_add_39 : decode cX10_add 39 = .ok (.aload_n 0, 1) := by decide +kernel
theorem dX10_add_40 : decode cX10_add 40 = .ok (.getfield 30, 3) := by decide +kernel
theorem dX10_add_43 : decode cX10_add 43 = .ok (.iload_n 3, 1) := by decide +kernel
theorem dX10_add_44 : decode cX10_add 44 = .ok (.iastore, 1) := by decide +kernel
theorem dX10_add_45 : decode cX10_add 45 = .ok (.aload_n 0, 1) := by decide +kernel
theorem dX10_add_46 : decode cX10_add 46 = .ok (.getfield 21, 3) := by decide +kernel
theorem dX10_add_49 : decode cX10_add 49 = .ok (.aload_n 0, 1) := by decide +kernel
theorem dX10_add_50 : decode cX10_add 50 = .ok (.getfield 30, 3) := by decide +kernel
theorem dX10_add_53 : decode cX10_add 53 = .ok (.iconst (-1), 1) := by decide +kernel
theorem dX10_add_54 : decode cX10_add 54 = .ok (.iastore, 1) := by decide +kernel
theorem dX10_add_55 : decode cX10_add 55 = .ok (.aload_n 0, 1) := by decide +kernel
theorem dX10_add_56 : decode cX10_add 56 = .ok (.dup, 1) := by decide +kernel
theorem dX10_add_57 : decode cX10_add 57 = .ok (.getfield 30, 3) := by decide +kernel
theorem dX10_add_60 : decode cX10_add 60 = .ok (.iconst 1, 1) := by decide +kernel
theorem dX10_add_61 : decode cX10_add 61 = .ok (.iadd, 1) := by decide +kernel
theorem dX10_add_62 : decode cX10_add 62 = .ok (.putfield 30, 3) := by decide +kernel
theorem dX10_add_65 : decode cX10_add 65 = .ok (.aload_n 0, 1) := by decide +kernel
theorem dX10_add_66 : decode cX10_add 66 = .ok (.getfield 38, 3) := by decide +kernel
theorem dX10_add_69 : decode cX10_add 69 = .ok (.ifCond .ne 42, 3) := by decide +kernel
theorem dX10_add_72 : decode cX10_add 72 = .ok (.aload_n 0, 1) := by decide +kernel
theorem dX10_add_73 : decode cX10_add 73 = .ok (.aload_n 0, 1) := by decide +kernel
theorem dX10_add_74 : decode cX10_add 74 = .ok (.iload_n 1, 1) := by decide +kernel
theorem dX10_add_75 : decode cX10_add 75 = .ok (.iload_n 2, 1) := by decide +kernel
theorem dX10_add_76 : decode cX10_add 76 = .ok (.iload_n 3, 1) := by decide +kernel
theorem dX10_add_77 : decode cX10_add 77 = .ok (.invokevirtual 41, 3) := by decide +kernel
theorem dX10_add_80 : decode cX10_add 80 = .ok (.putfield 38, 3) := by decide +kernel
theorem dX10_add_83 : decode cX10_add 83 = .ok (.aload_n 0, 1) := by decide +kernel
theorem dX10_add_84 : decode cX10_add 84 = .ok (.aload_n 0, 1) := by decide +kernel
theorem dX10_add_85 : decode cX10_add 85 = .ok (.getfield 30, 3) := by decide +kernel
theorem dX10_add_88 : decode cX10_add 88 = .ok (.iconst 1, 1) := by decide +kernel
theorem dX10_add_89 : decode cX10_add 89 = .ok (.isub, 1) := by decide +kernel
theorem dX10_add_90 : decode cX10_add 90 = .ok (.putfield 45, 3) := by decide +kernel
theorem dX10_add_93 : decode cX10_add 93 = .ok (.aload_n 0, 1) := by decide +kernel
theorem dX10_add_94 : decode cX10_add 94 = .ok (.getfield 38, 3) := by decide +kernel
theorem dX10_add_97 : decode cX10_add 97 = .ok (.ifCond .ne 14, 3) := by decide +kernel
theorem dX10_add_100 : decode cX10_add 100 = .ok (.aload_n 0, 1) := by decide +kernel
theorem dX10_add_101 : decode cX10_add 101 = .ok (.iload_n 1, 1) := by decide +kernel
theorem dX10_add_102 : decode cX10_add 102 = .ok (.aload_n 0, 1) := by decide +kernel
theorem dX10_add_103 : decode cX10_add 103 = .ok (.getfield 30, 3) := by decide +kernel
theorem dX10_add_106 : decode cX10_add 106 = .ok (.iconst 1, 1) := by decide +kernel
theorem dX10_add_107 : decode cX10_add 107 = .ok (.isub, 1) := by decide +kernel
theorem dX10_add_108 : decode cX10_add 108 = .ok (.invokevirtual 48, 3) := by decide +kernel
theorem dX10_add_111 : decode cX10_add 111 = .ok (.aload_n 0, 1) := by decide +kernel
theorem dX10_add_112 : decode cX10_add 112 = .ok (.getfield 30, 3) := by decide +kernel
theorem dX10_add_115 : decode cX10_add 115 = .ok (.ireturn, 1) := by decide +kernel
theorem dX10_clear_0 : decode cX10_clear 0 = .ok (.aload_n 0, 1) := by decide +kernel
theorem dX10_clear_1 : decode cX10_clear 1 = .ok (.getfield 30, 3) := by decide +kernel
theorem dX10_clear_4 : decode cX10_clear 4 = .ok (.istore_n 1, 1) := by decide +kernel
theorem dX10_clear_5 : decode cX10_clear 5 = .ok (.aload_n 0, 1) := by decide +kernel
theorem dX10_clear_6 : decode cX10_clear 6 = .ok (.iconst 0, 1) := by decide +kernel
theorem dX10_clear_7 : decode cX10_clear 7 = .ok (.putfield 30, 3) := by decide +kernel
theorem dX10_clear_10 : decode cX10_clear 10 = .ok (.aload_n 0, 1) := by decide +kernel
theorem dX10_clear_11 : decode cX10_clear 11 = .ok (.iconst 0, 1) := by decide +kernel
theorem dX10_clear_12 : decode cX10_clear 12 = .ok (.putfield 38, 3) := by decide +kernel
theorem dX10_clear_15 : decode cX10_clear 15 = .ok (.aload_n 0, 1) := by decide +kernel
theorem dX10_clear_16 : decode cX10_clear 16 = .ok (.iconst 0, 1) := by decide +kernel
theorem dX10_clear_17 : decode cX10_clear 17 = .ok (.putfield 52, 3) := by decide +kernel
theorem dX10_clear_20 : decode cX10_clear 20 = .ok (.iload_n 1, 1) := by decide +kernel
theorem dX10_clear_21 : decode cX10_clear 21 = .ok (.ireturn, 1) := by decide +kernel
theorem dX10_faultNumber_0 : decode cX10_faultNumber 0 = .ok (.aload_n 0, 1) := by decide +kernel
theorem dX10_faultNumber_1 : decode cX10_faultNumber 1 = .ok (.getfield 38, 3) := by decide +kernel
theorem dX10_faultNumber_4 : decode cX10_faultNumber 4 = .ok (.ifCond .ne 14, 3) := by decide +kernel
theorem dX10_faultNumber_7 : decode cX10_faultNumber 7 = .ok (.aload_n 0, 1) := by decide +kernel
theorem dX10_faultNumber_8 : decode cX10_faultNumber 8 = .ok (.getfield 52, 3) := by decide +kernel
theorem dX10_faultNumber_11 : decode cX10_faultNumber 11 = .ok (.ifCond .le 7, 3) := by decide +kernel
theorem dX10_faultNumber_14 : decode cX10_faultNumber 14 = .ok (.iconst 5, 1) := by decide +kernel
theorem dX10_faultNumber_15 : decode cX10_faultNumber 15 = .ok (.goto 7, 3) := by decide +kernel
theorem dX10_faultNumber_18 : decode cX10_faultNumber 18 = .ok (.aload_n 0, 1) := by decide +kernel
theorem dX10_faultNumber_19 : decode cX10_faultNumber 19 = .ok (.getfield 38, 3) := by decide +kernel
theorem dX10_faultNumber_22 : decode cX10_faultNumber 22 = .ok (.ireturn, 1) := by decide +kernel
theorem dX10_faultLine_0 : decode cX10_faultLine 0 = .ok (.aload_n 0, 1) := by decide +kernel
theorem dX10_faultLine_1 : decode cX10_faultLine 1 = .ok (.getfield 38, 3) := by decide +kernel
theorem dX10_faultLine_4 : decode cX10_faultLine 4 = .ok (.ifCond .eq 8, 3) := by decide +kernel
theorem dX10_faultLine_7 : decode cX10_faultLine 7 = .ok (.aload_n 0, 1) := by decide +kernel
theorem dX10_faultLine_8 : decode cX10_faultLine 8 = .ok (.getfield 45, 3) := by decide +kernel
theorem dX10_faultLine_11 : decode cX10_faultLine 11 = .ok (.ireturn, 1) := by decide +kernel
theorem dX10_faultLine_12 : decode cX10_faultLine 12 = .ok (.aload_n 0, 1) := by decide +kernel
theorem dX10_faultLine_13 : decode cX10_faultLine 13 = .ok (.getfield 52, 3) := by decide +kernel
theorem dX10_faultLine_16 : decode cX10_faultLine 16 = .ok (.ifCond .le 10, 3) := by decide +kernel
theorem dX10_faultLine_19 : decode cX10_faultLine 19 = .ok (.aload_n 0, 1) := by decide +kernel
theorem dX10_faultLine_20 : decode cX10_faultLine 20 = .ok (.getfield 30, 3) := by decide +kernel
theorem dX10_faultLine_23 : decode cX10_faultLine 23 = .ok (.goto 4, 3) := by decide +kernel
theorem dX10_faultLine_26 : decode cX10_faultLine 26 = .ok (.iconst (-1), 1) := by decide +kernel
theorem dX10_faultLine_27 : decode cX10_faultLine 27 = .ok (.ireturn, 1) := by decide +kernel
theorem dX10_faultOf_0 : decode cX10_faultOf 0 = .ok (.iload_n 1, 1) := by decide +kernel
theorem dX10_faultOf_1 : decode cX10_faultOf 1 = .ok (.bipush 17, 2) := by decide +kernel
theorem dX10_faultOf_3 : decode cX10_faultOf 3 = .ok (.invokestatic 34, 3) := by decide +kernel
theorem dX10_faultOf_6 : decode cX10_faultOf 6 = .ok (.ifCond .eq 27, 3) := by decide +kernel
theorem dX10_faultOf_9 : decode cX10_faultOf 9 = .ok (.iload_n 2, 1) := by decide +kernel
theorem dX10_faultOf_10 : decode cX10_faultOf 10 = .ok (.getstatic 55, 3) := by decide +kernel
theorem dX10_faultOf_13 : decode cX10_faultOf 13 = .ok (.iload_n 1, 1) := by decide +kernel
theorem dX10_faultOf_14 : decode cX10_faultOf 14 = .ok (.iaload, 1) := by decide +kernel
theorem dX10_faultOf_15 : decode cX10_faultOf 15 = .ok (.invokestatic 58, 3) := by decide +kernel
theorem dX10_faultOf_18 : decode cX10_faultOf 18 = .ok (.ifCond .eq 15, 3) := by decide +kernel
theorem dX10_faultOf_21 : decode cX10_faultOf 21 = .ok (.iload_n 3, 1) := by decide +kernel
theorem dX10_faultOf_22 : decode cX10_faultOf 22 = .ok (.getstatic 61, 3) := by decide +kernel
theorem dX10_faultOf_25 : decode cX10_faultOf 25 = .ok (.iload_n 1, 1) := by decide +kernel
theorem dX10_faultOf_26 : decode cX10_faultOf 26 = .ok (.iaload, 1) := by decide +kernel
theorem dX10_faultOf_27 : decode cX10_faultOf 27 = .ok (.invokestatic 58, 3) := by decide +kernel
theorem dX10_faultOf_30 : decode cX10_faultOf 30 = .ok (.ifCond .ne 5, 3) := by decide +kernel
theorem dX10_faultOf_33 : decode cX10_faultOf 33 = .ok (.iconst 1, 1) := by decide +kernel
theorem dX10_faultOf_34 : decode cX10_faultOf 34 = .ok (.ireturn, 1) := by decide +kernel
theorem dX10_faultOf_35 : decode cX10_faultOf 35 = .ok (.iload_n 1, 1) := by decide +kernel
theorem dX10_faultOf_36 : decode cX10_faultOf 36 = .ok (.tableswitch 98 10 16 #[85, 70, 70, 70, 57, 57, 44], 44) := by decide +kernel
theorem dX10_faultOf_80 : decode cX10_faultOf 80 = .ok (.aload_n 0, 1) := by decide +kernel
theorem dX10_faultOf_81 : decode cX10_faultOf 81 = .ok (.getfield 52, 3) := by decide +kernel
theorem dX10_faultOf_84 : decode cX10_faultOf 84 = .ok (.ifCond .le 7, 3) := by decide +kernel
theorem dX10_faultOf_87 : decode cX10_faultOf 87 = .ok (.iconst 0, 1) := by decide +kernel
theorem dX10_faultOf_88 : decode cX10_faultOf 88 = .ok (.goto 4, 3) := by decide +kernel
theorem dX10_faultOf_91 : decode cX10_faultOf 91 = .ok (.iconst 2, 1) := by decide +kernel
theorem dX10_faultOf_92 : decode cX10_faultOf 92 = .ok (.ireturn, 1) := by decide +kernel
theorem dX10_faultOf_93 : decode cX10_faultOf 93 = .ok (.aload_n 0, 1) := by decide +kernel
theorem dX10_faultOf_94 : decode cX10_faultOf 94 = .ok (.invokevirtual 64, 3) := by decide +kernel
theorem dX10_faultOf_97 : decode cX10_faultOf 97 = .ok (.ifCond .eq 7, 3) := by decide +kernel
theorem dX10_faultOf_100 : decode cX10_faultOf 100 = .ok (.iconst 0, 1) := by decide +kernel
theorem dX10_faultOf_101 : decode cX10_faultOf 101 = .ok (.goto 4, 3) := by decide +kernel
theorem dX10_faultOf_104 : decode cX10_faultOf 104 = .ok (.iconst 2, 1) := by decide +kernel
theorem dX10_faultOf_105 : decode cX10_faultOf 105 = .ok (.ireturn, 1) := by decide +kernel
theorem dX10_faultOf_106 : decode cX10_faultOf 106 = .ok (.aload_n 0, 1) := by decide +kernel
theorem dX10_faultOf_107 : decode cX10_faultOf 107 = .ok (.getfield 52, 3) := by decide +kernel
theorem dX10_faultOf_110 : decode cX10_faultOf 110 = .ok (.bipush 8, 2) := by decide +kernel
theorem dX10_faultOf_112 : decode cX10_faultOf 112 = .ok (.if_icmp .ge 7, 3) := by decide +kernel
theorem dX10_faultOf_115 : decode cX10_faultOf 115 = .ok (.iconst 0, 1) := by decide +kernel
theorem dX10_faultOf_116 : decode cX10_faultOf 116 = .ok (.goto 4, 3) := by decide +kernel
theorem dX10_faultOf_119 : decode cX10_faultOf 119 = .ok (.iconst 3, 1) := by decide +kernel
theorem dX10_faultOf_120 : decode cX10_faultOf 120 = .ok (.ireturn, 1) := by decide +kernel
theorem dX10_faultOf_121 : decode cX10_faultOf 121 = .ok (.aload_n 0, 1) := by decide +kernel
theorem dX10_faultOf_122 : decode cX10_faultOf 122 = .ok (.invokevirtual 68, 3) := by decide +kernel
theorem dX10_faultOf_125 : decode cX10_faultOf 125 = .ok (.ifCond .eq 7, 3) := by decide +kernel
theorem dX10_faultOf_128 : decode cX10_faultOf 128 = .ok (.iconst 0, 1) := by decide +kernel
theorem dX10_faultOf_129 : decode cX10_faultOf 129 = .ok (.goto 4, 3) := by decide +kernel
theorem dX10_faultOf_132 : decode cX10_faultOf 132 = .ok (.iconst 4, 1) := by decide +kernel
theorem dX10_faultOf_133 : decode cX10_faultOf 133 = .ok (.ireturn, 1) := by decide +kernel
theorem dX10_faultOf_134 : decode cX10_faultOf 134 = .ok (.iconst 0, 1) := by decide +kernel
theorem dX10_faultOf_135 : decode cX10_faultOf 135 = .ok (.ireturn, 1) := by decide +kernel
theorem dX10_fits_0 : decode cX10_fits 0 = .ok (.iload_n 1, 1) := by decide +kernel
theorem dX10_fits_1 : decode cX10_fits 1 = .ok (.iconst (-1), 1) := by decide +kernel
theorem dX10_fits_2 : decode cX10_fits 2 = .ok (.if_icmp .eq 12, 3) := by decide +kernel
theorem dX10_fits_5 : decode cX10_fits 5 = .ok (.iload_n 0, 1) := by decide +kernel
theorem dX10_fits_6 : decode cX10_fits 6 = .ok (.ifCond .lt 12, 3) := by decide +kernel
theorem dX10_fits_9 : decode cX10_fits 9 = .ok (.iload_n 0, 1) := by decide +kernel
theorem dX10_fits_10 : decode cX10_fits 10 = .ok (.iload_n 1, 1) := by decide +kernel
theorem dX10_fits_11 : decode cX10_fits 11 = .ok (.if_icmp .gt 7, 3) := by decide +kernel
theorem dX10_fits_14 : decode cX10_fits 14 = .ok (.iconst 1, 1) := by decide +kernel
theorem dX10_fits_15 : decode cX10_fits 15 = .ok (.goto 4, 3) := by decide +kernel
theorem dX10_fits_18 : decode cX10_fits 18 = .ok (.iconst 0, 1) := by decide +kernel
theorem dX10_fits_19 : decode cX10_fits 19 = .ok (.ireturn, 1) := by decide +kernel
theorem dX10_takesWays_0 : decode cX10_takesWays 0 = .ok (.aload_n 0, 1) := by decide +kernel
theorem dX10_takesWays_1 : decode cX10_takesWays 1 = .ok (.getfield 52, 3) := by decide +kernel
theorem dX10_takesWays_4 : decode cX10_takesWays 4 = .ok (.iconst 1, 1) := by decide +kernel
theorem dX10_takesWays_5 : decode cX10_takesWays 5 = .ok (.isub, 1) := by decide +kernel
theorem dX10_takesWays_6 : decode cX10_takesWays 6 = .ok (.istore_n 1, 1) := by decide +kernel
theorem dX10_takesWays_7 : decode cX10_takesWays 7 = .ok (.iload_n 1, 1) := by decide +kernel
theorem dX10_takesWays_8 : decode cX10_takesWays 8 = .ok (.bipush 8, 2) := by decide +kernel
theorem dX10_takesWays_10 : decode cX10_takesWays 10 = .ok (.invokestatic 34, 3) := by decide +kernel
theorem dX10_takesWays_13 : decode cX10_takesWays 13 = .ok (.ifCond .eq 37, 3) := by decide +kernel
theorem dX10_takesWays_16 : decode cX10_takesWays 16 = .ok (.aload_n 0, 1) := by decide +kernel
theorem dX10_takesWays_17 : decode cX10_takesWays 17 = .ok (.aload_n 0, 1) := by decide +kernel
theorem dX10_takesWays_18 : decode cX10_takesWays 18 = .ok (.getfield 24, 3) := by decide +kernel
theorem dX10_takesWays_21 : decode cX10_takesWays 21 = .ok (.iload_n 1, 1) := by decide +kernel
theorem dX10_takesWays_22 : decode cX10_takesWays 22 = .ok (.iaload, 1) := by decide +kernel
theorem dX10_takesWays_23 : decode cX10_takesWays 23 = .ok (.invokevirtual 71, 3) := by decide +kernel
theorem dX10_takesWays_26 : decode cX10_takesWays 26 = .ok (.bipush 13, 2) := by decide +kernel
theorem dX10_takesWays_28 : decode cX10_takesWays 28 = .ok (.if_icmp .ne 22, 3) := by decide +kernel
theorem dX10_takesWays_31 : decode cX10_takesWays 31 = .ok (.aload_n 0, 1) := by decide +kernel
theorem dX10_takesWays_32 : decode cX10_takesWays 32 = .ok (.aload_n 0, 1) := by decide +kernel
theorem dX10_takesWays_33 : decode cX10_takesWays 33 = .ok (.getfield 27, 3) := by decide +kernel
theorem dX10_takesWays_36 : decode cX10_takesWays 36 = .ok (.iload_n 1, 1) := by decide +kernel
theorem dX10_takesWays_37 : decode cX10_takesWays 37 = .ok (.iaload, 1) := by decide +kernel
theorem dX10_takesWays_38 : decode cX10_takesWays 38 = .ok (.invokevirtual 71, 3) := by decide +kernel
theorem dX10_takesWays_41 : decode cX10_takesWays 41 = .ok (.bipush 15, 2) := by decide +kernel
theorem dX10_takesWays_43 : decode cX10_takesWays 43 = .ok (.if_icmp .eq 7, 3) := by decide +kernel
theorem dX10_takesWays_46 : decode cX10_takesWays 46 = .ok (.iconst 1, 1) := by decide +kernel
theorem dX10_takesWays_47 : decode cX10_takesWays 47 = .ok (.goto 4, 3) := by decide +kernel
theorem dX10_takesWays_50 : decode cX10_takesWays 50 = .ok (.iconst 0, 1) := by decide +kernel
theorem dX10_takesWays_51 : decode cX10_takesWays 51 = .ok (.ireturn, 1) := by decide +kernel
theorem dX10_isInLoop_0 : decode cX10_isInLoop 0 = .ok (.iconst 0, 1) := by decide +kernel
theorem dX10_isInLoop_1 : decode cX10_isInLoop 1 = .ok (.istore_n 1, 1) := by decide +kernel
theorem dX10_isInLoop_2 : decode cX10_isInLoop 2 = .ok (.iload_n 1, 1) := by decide +kernel
theorem dX10_isInLoop_3 : decode cX10_isInLoop 3 = .ok (.aload_n 0, 1) := by decide +kernel
theorem dX10_isInLoop_4 : decode cX10_isInLoop 4 = .ok (.getfield 52, 3) := by decide +kernel
theorem dX10_isInLoop_7 : decode cX10_isInLoop 7 = .ok (.if_icmp .ge 26, 3) := by decide +kernel
theorem dX10_isInLoop_10 : decode cX10_isInLoop 10 = .ok (.aload_n 0, 1) := by decide +kernel
theorem dX10_isInLoop_11 : decode cX10_isInLoop 11 = .ok (.aload_n 0, 1) := by decide +kernel
theorem dX10_isInLoop_12 : decode cX10_isInLoop 12 = .ok (.getfield 24, 3) := by decide +kernel
theorem dX10_isInLoop_15 : decode cX10_isInLoop 15 = .ok (.iload_n 1, 1) := by decide +kernel
theorem dX10_isInLoop_16 : decode cX10_isInLoop 16 = .ok (.iaload, 1) := by decide +kernel
theorem dX10_isInLoop_17 : decode cX10_isInLoop 17 = .ok (.invokevirtual 71, 3) := by decide +kernel
theorem dX10_isInLoop_20 : decode cX10_isInLoop 20 = .ok (.bipush 11, 2) := by decide +kernel
theorem dX10_isInLoop_22 : decode cX10_isInLoop 22 = .ok (.if_icmp .ne 5, 3) := by decide +kernel
theorem dX10_isInLoop_25 : decode cX10_isInLoop 25 = .ok (.iconst 1, 1) := by decide +kernel
theorem dX10_isInLoop_26 : decode cX10_isInLoop 26 = .ok (.ireturn, 1) := by decide +kernel
theorem dX10_isInLoop_27 : decode cX10_isInLoop 27 = .ok (.iinc 1 1, 3) := by decide +kernel
theorem dX10_isInLoop_30 : decode cX10_isInLoop 30 = .ok (.goto (-28), 3) := by decide +kernel
theorem dX10_isInLoop_33 : decode cX10_isInLoop 33 = .ok (.iconst 0, 1) := by decide +kernel
theorem dX10_isInLoop_34 : decode cX10_isInLoop 34 = .ok (.ireturn, 1) := by decide +kernel
theorem dX10_place_0 : decode cX10_place 0 = .ok (.iload_n 1, 1) := by decide +kernel
theorem dX10_place_1 : decode cX10_place 1 = .ok (.bipush 11, 2) := by decide +kernel
theorem dX10_place_3 : decode cX10_place 3 = .ok (.if_icmp .eq 15, 3) := by decide +kernel
theorem dX10_place_6 : decode cX10_place 6 = .ok (.iload_n 1, 1) := by decide +kernel
theorem dX10_place_7 : decode cX10_place 7 = .ok (.bipush 12, 2) := by decide +kernel
theorem dX10_place_9 : decode cX10_place 9 = .ok (.if_icmp .eq 9, 3) := by decide +kernel
theorem dX10_place_12 : decode cX10_place 12 = .ok (.iload_n 1, 1) := by decide +kernel
theorem dX10_place_13 : decode cX10_place 13 = .ok (.bipush 13, 2) := by decide +kernel
theorem dX10_place_15 : decode cX10_place 15 = .ok (.if_icmp .ne 48, 3) := by decide +kernel
theorem dX10_place_18 : decode cX10_place 18 = .ok (.aload_n 0, 1) := by decide +kernel
theorem dX10_place_19 : decode cX10_place 19 = .ok (.getfield 52, 3) := by decide +kernel
theorem dX10_place_22 : decode cX10_place 22 = .ok (.bipush 8, 2) := by decide +kernel
theorem dX10_place_24 : decode cX10_place 24 = .ok (.invokestatic 34, 3) := by decide +kernel
theorem dX10_place_27 : decode cX10_place 27 = .ok (.ifCond .eq 60, 3) := by decide +kernel
theorem dX10_place_30 : decode cX10_place 30 = .ok (.aload_n 0, 1) := by decide +kernel
theorem dX10_place_31 : decode cX10_place 31 = .ok (.getfield 24, 3) := by decide +kernel
theorem dX10_place_34 : decode cX10_place 34 = .ok (.aload_n 0, 1) := by decide +kernel
theorem dX10_place_35 : decode cX10_place 35 = .ok (.getfield 52, 3) := by decide +kernel
theorem dX10_place_38 : decode cX10_place 38 = .ok (.iload_n 2, 1) := by decide +kernel
theorem dX10_place_39 : decode cX10_place 39 = .ok (.iastore, 1) := by decide +kernel
theorem dX10_place_40 : decode cX10_place 40 = .ok (.aload_n 0, 1) := by decide +kernel
theorem dX10_place_41 : decode cX10_place 41 = .ok (.getfield 27, 3) := by decide +kernel
theorem dX10_place_44 : decode cX10_place 44 = .ok (.aload_n 0, 1) := by decide +kernel
theorem dX10_place_45 : decode cX10_place 45 = .ok (.getfield 52, 3) := by decide +kernel
theorem dX10_place_48 : decode cX10_place 48 = .ok (.iload_n 2, 1) := by decide +kernel
theorem dX10_place_49 : decode cX10_place 49 = .ok (.iastore, 1) := by decide +kernel
theorem dX10_place_50 : decode cX10_place 50 = .ok (.aload_n 0, 1) := by decide +kernel
theorem dX10_place_51 : decode cX10_place 51 = .ok (.dup, 1) := by decide +kernel
theorem dX10_place_52 : decode cX10_place 52 = .ok (.getfield 52, 3) := by decide +kernel
theorem dX10_place_55 : decode cX10_place 55 = .ok (.iconst 1, 1) := by decide +kernel
theorem dX10_place_56 : decode cX10_place 56 = .ok (.iadd, 1) := by decide +kernel
theorem dX10_place_57 : decode cX10_place 57 = .ok (.putfield 52, 3) := by decide +kernel
theorem dX10_place_60 : decode cX10_place 60 = .ok (.goto 27, 3) := by decide +kernel
theorem dX10_place_63 : decode cX10_place 63 = .ok (.iload_n 1, 1) := by decide +kernel
theorem dX10_place_64 : decode cX10_place 64 = .ok (.bipush 14, 2) := by decide +kernel
theorem dX10_place_66 : decode cX10_place 66 = .ok (.if_icmp .eq 15, 3) := by decide +kernel
theorem dX10_place_69 : decode cX10_place 69 = .ok (.iload_n 1, 1) := by decide +kernel
theorem dX10_place_70 : decode cX10_place 70 = .ok (.bipush 15, 2) := by decide +kernel
theorem dX10_place_72 : decode cX10_place 72 = .ok (.if_icmp .eq 9, 3) := by decide +kernel
theorem dX10_place_75 : decode cX10_place 75 = .ok (.iload_n 1, 1) := by decide +kernel
theorem dX10_place_76 : decode cX10_place 76 = .ok (.bipush 16, 2) := by decide +kernel
theorem dX10_place_78 : decode cX10_place 78 = .ok (.if_icmp .ne 9, 3) := by decide +kernel
theorem dX10_place_81 : decode cX10_place 81 = .ok (.aload_n 0, 1) := by decide +kernel
theorem dX10_place_82 : decode cX10_place 82 = .ok (.iload_n 1, 1) := by decide +kernel
theorem dX10_place_83 : decode cX10_place 83 = .ok (.iload_n 2, 1) := by decide +kernel
theorem dX10_place_84 : decode cX10_place 84 = .ok (.invokevirtual 75, 3) := by decide +kernel
theorem dX10_place_87 : decode cX10_place 87 = .ok (.return_, 1) := by decide +kernel
theorem dX10_linkMark_0 : decode cX10_linkMark 0 = .ok (.aload_n 0, 1) := by decide +kernel
theorem dX10_linkMark_1 : decode cX10_linkMark 1 = .ok (.getfield 52, 3) := by decide +kernel
theorem dX10_linkMark_4 : decode cX10_linkMark 4 = .ok (.iconst 1, 1) := by decide +kernel
theorem dX10_linkMark_5 : decode cX10_linkMark 5 = .ok (.isub, 1) := by decide +kernel
theorem dX10_linkMark_6 : decode cX10_linkMark 6 = .ok (.istore_n 3, 1) := by decide +kernel
theorem dX10_linkMark_7 : decode cX10_linkMark 7 = .ok (.iload_n 3, 1) := by decide +kernel
theorem dX10_linkMark_8 : decode cX10_linkMark 8 = .ok (.bipush 8, 2) := by decide +kernel
theorem dX10_linkMark_10 : decode cX10_linkMark 10 = .ok (.invokestatic 34, 3) := by decide +kernel
theorem dX10_linkMark_13 : decode cX10_linkMark 13 = .ok (.ifCond .ne 4, 3) := by decide +kernel
theorem dX10_linkMark_16 : decode cX10_linkMark 16 = .ok (.return_, 1) := by decide +kernel
theorem dX10_linkMark_17 : decode cX10_linkMark 17 = .ok (.aload_n 0, 1) := by decide +kernel
theorem dX10_linkMark_18 : decode cX10_linkMark 18 = .ok (.getfield 27, 3) := by decide +kernel
theorem dX10_linkMark_21 : decode cX10_linkMark 21 = .ok (.iload_n 3, 1) := by decide +kernel
theorem dX10_linkMark_22 : decode cX10_linkMark 22 = .ok (.iaload, 1) := by decide +kernel
theorem dX10_linkMark_23 : decode cX10_linkMark 23 = .ok (.bipush 40, 2) := by decide +kernel
theorem dX10_linkMark_25 : decode cX10_linkMark 25 = .ok (.invokestatic 34, 3) := by decide +kernel
theorem dX10_linkMark_28 : decode cX10_linkMark 28 = .ok (.ifCond .eq 15, 3) := by decide +kernel
theorem dX10_linkMark_31 : decode cX10_linkMark 31 = .ok (.aload_n 0, 1) := by decide +kernel
theorem dX10_linkMark_32 : decode cX10_linkMark 32 = .ok (.getfield 21, 3) := by decide +kernel
theorem dX10_linkMark_35 : decode cX10_linkMark 35 = .ok (.aload_n 0, 1) := by decide +kernel
theorem dX10_linkMark_36 : decode cX10_linkMark 36 = .ok (.getfield 27, 3) := by decide +kernel
theorem dX10_linkMark_39 : decode cX10_linkMark 39 = .ok (.iload_n 3, 1) := by decide +kernel
theorem dX10_linkMark_40 : decode cX10_linkMark 40 = .ok (.iaload, 1) := by decide +kernel
theorem dX10_linkMark_41 : decode cX10_linkMark 41 = .ok (.iload_n 2, 1) := by decide +kernel
theorem dX10_linkMark_42 : decode cX10_linkMark 42 = .ok (.iastore, 1) := by decide +kernel
theorem dX10_linkMark_43 : decode cX10_linkMark 43 = .ok (.aload_n 0, 1) := by decide +kernel
theorem dX10_linkMark_44 : decode cX10_linkMark 44 = .ok (.getfield 27, 3) := by decide +kernel
theorem dX10_linkMark_47 : decode cX10_linkMark 47 = .ok (.iload_n 3, 1) := by decide +kernel
theorem dX10_linkMark_48 : decode cX10_linkMark 48 = .ok (.iload_n 2, 1) := by decide +kernel
theorem dX10_linkMark_49 : decode cX10_linkMark 49 = .ok (.iastore, 1) := by decide +kernel
theorem dX10_linkMark_50 : decode cX10_linkMark 50 = .ok (.iload_n 1, 1) := by decide +kernel
theorem dX10_linkMark_51 : decode cX10_linkMark 51 = .ok (.bipush 16, 2) := by decide +kernel
theorem dX10_linkMark_53 : decode cX10_linkMark 53 = .ok (.if_icmp .ne 13, 3) := by decide +kernel
theorem dX10_linkMark_56 : decode cX10_linkMark 56 = .ok (.aload_n 0, 1) := by decide +kernel
theorem dX10_linkMark_57 : decode cX10_linkMark 57 = .ok (.dup, 1) := by decide +kernel
theorem dX10_linkMark_58 : decode cX10_linkMark 58 = .ok (.getfield 52, 3) := by decide +kernel
theorem dX10_linkMark_61 : decode cX10_linkMark 61 = .ok (.iconst 1, 1) := by decide +kernel
theorem dX10_linkMark_62 : decode cX10_linkMark 62 = .ok (.isub, 1) := by decide +kernel
theorem dX10_linkMark_63 : decode cX10_linkMark 63 = .ok (.putfield 52, 3) := by decide +kernel
theorem dX10_linkMark_66 : decode cX10_linkMark 66 = .ok (.return_, 1) := by decide +kernel
theorem dX10_opAt_0 : decode cX10_opAt 0 = .ok (.iload_n 1, 1) := by decide +kernel
theorem dX10_opAt_1 : decode cX10_opAt 1 = .ok (.aload_n 0, 1) := by decide +kernel
theorem dX10_opAt_2 : decode cX10_opAt 2 = .ok (.getfield 30, 3) := by decide +kernel
theorem dX10_opAt_5 : decode cX10_opAt 5 = .ok (.invokestatic 34, 3) := by decide +kernel
theorem dX10_opAt_8 : decode cX10_opAt 8 = .ok (.ifCond .eq 12, 3) := by decide +kernel
theorem dX10_opAt_11 : decode cX10_opAt 11 = .ok (.aload_n 0, 1) := by decide +kernel
theorem dX10_opAt_12 : decode cX10_opAt 12 = .ok (.getfield 9, 3) := by decide +kernel
theorem dX10_opAt_15 : decode cX10_opAt 15 = .ok (.iload_n 1, 1) := by decide +kernel
theorem dX10_opAt_16 : decode cX10_opAt 16 = .ok (.iaload, 1) := by decide +kernel
theorem dX10_opAt_17 : decode cX10_opAt 17 = .ok (.goto 4, 3) := by decide +kernel
theorem dX10_opAt_20 : decode cX10_opAt 20 = .ok (.iconst (-1), 1) := by decide +kernel
theorem dX10_opAt_21 : decode cX10_opAt 21 = .ok (.ireturn, 1) := by decide +kernel
theorem dX10_aAt_0 : decode cX10_aAt 0 = .ok (.iload_n 1, 1) := by decide +kernel
theorem dX10_aAt_1 : decode cX10_aAt 1 = .ok (.aload_n 0, 1) := by decide +kernel
theorem dX10_aAt_2 : decode cX10_aAt 2 = .ok (.getfield 30, 3) := by decide +kernel
theorem dX10_aAt_5 : decode cX10_aAt 5 = .ok (.invokestatic 34, 3) := by decide +kernel
theorem dX10_aAt_8 : decode cX10_aAt 8 = .ok (.ifCond .eq 12, 3) := by decide +kernel
theorem dX10_aAt_11 : decode cX10_aAt 11 = .ok (.aload_n 0, 1) := by decide +kernel
theorem dX10_aAt_12 : decode cX10_aAt 12 = .ok (.getfield 15, 3) := by decide +kernel
theorem dX10_aAt_15 : decode cX10_aAt 15 = .ok (.iload_n 1, 1) := by decide +kernel
theorem dX10_aAt_16 : decode cX10_aAt 16 = .ok (.iaload, 1) := by decide +kernel
theorem dX10_aAt_17 : decode cX10_aAt 17 = .ok (.goto 4, 3) := by decide +kernel
theorem dX10_aAt_20 : decode cX10_aAt 20 = .ok (.iconst (-1), 1) := by decide +kernel
theorem dX10_aAt_21 : decode cX10_aAt 21 = .ok (.ireturn, 1) := by decide +kernel
theorem dX10_bAt_0 : decode cX10_bAt 0 = .ok (.iload_n 1, 1) := by decide +kernel
theorem dX10_bAt_1 : decode cX10_bAt 1 = .ok (.aload_n 0, 1) := by decide +kernel
theorem dX10_bAt_2 : decode cX10_bAt 2 = .ok (.getfield 30, 3) := by decide +kernel
theorem dX10_bAt_5 : decode cX10_bAt 5 = .ok (.invokestatic 34, 3) := by decide +kernel
theorem dX10_bAt_8 : decode cX10_bAt 8 = .ok (.ifCond .eq 12, 3) := by decide +kernel
theorem dX10_bAt_11 : decode cX10_bAt 11 = .ok (.aload_n 0, 1) := by decide +kernel
theorem dX10_bAt_12 : decode cX10_bAt 12 = .ok (.getfield 18, 3) := by decide +kernel
theorem dX10_bAt_15 : decode cX10_bAt 15 = .ok (.iload_n 1, 1) := by decide +kernel
theorem dX10_bAt_16 : decode cX10_bAt 16 = .ok (.iaload, 1) := by decide +kernel
theorem dX10_bAt_17 : decode cX10_bAt 17 = .ok (.goto 4, 3) := by decide +kernel
theorem dX10_bAt_20 : decode cX10_bAt 20 = .ok (.iconst (-1), 1) := by decide +kernel
theorem dX10_bAt_21 : decode cX10_bAt 21 = .ok (.ireturn, 1) := by decide +kernel
theorem dX10_nextOf_0 : decode cX10_nextOf 0 = .ok (.iload_n 1, 1) := by decide +kernel
theorem dX10_nextOf_1 : decode cX10_nextOf 1 = .ok (.aload_n 0, 1) := by decide +kernel
theorem dX10_nextOf_2 : decode cX10_nextOf 2 = .ok (.getfield 30, 3) := by decide +kernel
theorem dX10_nextOf_5 : decode cX10_nextOf 5 = .ok (.invokestatic 34, 3) := by decide +kernel
theorem dX10_nextOf_8 : decode cX10_nextOf 8 = .ok (.ifCond .eq 12, 3) := by decide +kernel
theorem dX10_nextOf_11 : decode cX10_nextOf 11 = .ok (.aload_n 0, 1) := by decide +kernel
theorem dX10_nextOf_12 : decode cX10_nextOf 12 = .ok (.getfield 21, 3) := by decide +kernel
theorem dX10_nextOf_15 : decode cX10_nextOf 15 = .ok (.iload_n 1, 1) := by decide +kernel
theorem dX10_nextOf_16 : decode cX10_nextOf 16 = .ok (.iaload, 1) := by decide +kernel
theorem dX10_nextOf_17 : decode cX10_nextOf 17 = .ok (.goto 4, 3) := by decide +kernel
theorem dX10_nextOf_20 : decode cX10_nextOf 20 = .ok (.iconst (-1), 1) := by decide +kernel
theorem dX10_nextOf_21 : decode cX10_nextOf 21 = .ok (.ireturn, 1) := by decide +kernel
theorem dX10_guardFor_0 : decode cX10_guardFor 0 = .ok (.aload_n 0, 1) := by decide +kernel
theorem dX10_guardFor_1 : decode cX10_guardFor 1 = .ok (.iload_n 1, 1) := by decide +kernel
theorem dX10_guardFor_2 : decode cX10_guardFor 2 = .ok (.invokevirtual 78, 3) := by decide +kernel
theorem dX10_guardFor_5 : decode cX10_guardFor 5 = .ok (.istore_n 3, 1) := by decide +kernel
theorem dX10_guardFor_6 : decode cX10_guardFor 6 = .ok (.iconst 0, 1) := by decide +kernel
theorem dX10_guardFor_7 : decode cX10_guardFor 7 = .ok (.istore 4, 2) := by decide +kernel
theorem dX10_guardFor_9 : decode cX10_guardFor 9 = .ok (.iload 4, 2) := by decide +kernel
theorem dX10_guardFor_11 : decode cX10_guardFor 11 = .ok (.bipush 40, 2) := by decide +kernel
theorem dX10_guardFor_13 : decode cX10_guardFor 13 = .ok (.if_icmp .ge 39, 3) := by decide +kernel
theorem dX10_guardFor_16 : decode cX10_guardFor 16 = .ok (.aload_n 0, 1) := by decide +kernel
theorem dX10_guardFor_17 : decode cX10_guardFor 17 = .ok (.iload_n 3, 1) := by decide +kernel
theorem dX10_guardFor_18 : decode cX10_guardFor 18 = .ok (.invokevirtual 71, 3) := by decide +kernel
theorem dX10_guardFor_21 : decode cX10_guardFor 21 = .ok (.bipush 14, 2) := by decide +kernel
theorem dX10_guardFor_23 : decode cX10_guardFor 23 = .ok (.if_icmp .ne 29, 3) := by decide +kernel
theorem dX10_guardFor_26 : decode cX10_guardFor 26 = .ok (.iload_n 2, 1) := by decide +kernel
theorem dX10_guardFor_27 : decode cX10_guardFor 27 = .ok (.aload_n 0, 1) := by decide +kernel
theorem dX10_guardFor_28 : decode cX10_guardFor 28 = .ok (.iload_n 3, 1) := by decide +kernel
theorem dX10_guardFor_29 : decode cX10_guardFor 29 = .ok (.invokevirtual 81, 3) := by decide +kernel
theorem dX10_guardFor_32 : decode cX10_guardFor 32 = .ok (.invokestatic 84, 3) := by decide +kernel
theorem dX10_guardFor_35 : decode cX10_guardFor 35 = .ok (.ifCond .eq 5, 3) := by decide +kernel
theorem dX10_guardFor_38 : decode cX10_guardFor 38 = .ok (.iload_n 3, 1) := by decide +kernel
theorem dX10_guardFor_39 : decode cX10_guardFor 39 = .ok (.ireturn, 1) := by decide +kernel
theorem dX10_guardFor_40 : decode cX10_guardFor 40 = .ok (.aload_n 0, 1) := by decide +kernel
theorem dX10_guardFor_41 : decode cX10_guardFor 41 = .ok (.iload_n 3, 1) := by decide +kernel
theorem dX10_guardFor_42 : decode cX10_guardFor 42 = .ok (.invokevirtual 78, 3) := by decide +kernel
theorem dX10_guardFor_45 : decode cX10_guardFor 45 = .ok (.istore_n 3, 1) := by decide +kernel
theorem dX10_guardFor_46 : decode cX10_guardFor 46 = .ok (.iinc 4 1, 3) := by decide +kernel
theorem dX10_guardFor_49 : decode cX10_guardFor 49 = .ok (.goto (-40), 3) := by decide +kernel
theorem dX10_guardFor_52 : decode cX10_guardFor 52 = .ok (.iconst (-1), 1) := by decide +kernel
theorem dX10_guardFor_53 : decode cX10_guardFor 53 = .ok (.ireturn, 1) := by decide +kernel
theorem dX10_wayOut_0 : decode cX10_wayOut 0 = .ok (.aload_n 0, 1) := by decide +kernel
theorem dX10_wayOut_1 : decode cX10_wayOut 1 = .ok (.iload_n 1, 1) := by decide +kernel
theorem dX10_wayOut_2 : decode cX10_wayOut 2 = .ok (.invokevirtual 78, 3) := by decide +kernel
theorem dX10_wayOut_5 : decode cX10_wayOut 5 = .ok (.istore_n 2, 1) := by decide +kernel
theorem dX10_wayOut_6 : decode cX10_wayOut 6 = .ok (.iconst 0, 1) := by decide +kernel
theorem dX10_wayOut_7 : decode cX10_wayOut 7 = .ok (.istore_n 3, 1) := by decide +kernel
theorem dX10_wayOut_8 : decode cX10_wayOut 8 = .ok (.iload_n 3, 1) := by decide +kernel
theorem dX10_wayOut_9 : decode cX10_wayOut 9 = .ok (.bipush 40, 2) := by decide +kernel
theorem dX10_wayOut_11 : decode cX10_wayOut 11 = .ok (.if_icmp .ge 25, 3) := by decide +kernel
theorem dX10_wayOut_14 : decode cX10_wayOut 14 = .ok (.aload_n 0, 1) := by decide +kernel
theorem dX10_wayOut_15 : decode cX10_wayOut 15 = .ok (.iload_n 2, 1) := by decide +kernel
theorem dX10_wayOut_16 : decode cX10_wayOut 16 = .ok (.invokevirtual 71, 3) := by decide +kernel
theorem dX10_wayOut_19 : decode cX10_wayOut 19 = .ok (.bipush 14, 2) := by decide +kernel
theorem dX10_wayOut_21 : decode cX10_wayOut 21 = .ok (.if_icmp .ne 15, 3) := by decide +kernel
theorem dX10_wayOut_24 : decode cX10_wayOut 24 = .ok (.aload_n 0, 1) := by decide +kernel
theorem dX10_wayOut_25 : decode cX10_wayOut 25 = .ok (.iload_n 2, 1) := by decide +kernel
theorem dX10_wayOut_26 : decode cX10_wayOut 26 = .ok (.invokevirtual 78, 3) := by decide +kernel
theorem dX10_wayOut_29 : decode cX10_wayOut 29 = .ok (.istore_n 2, 1) := by decide +kernel
theorem dX10_wayOut_30 : decode cX10_wayOut 30 = .ok (.iinc 3 1, 3) := by decide +kernel
theorem dX10_wayOut_33 : decode cX10_wayOut 33 = .ok (.goto (-25), 3) := by decide +kernel
theorem dX10_wayOut_36 : decode cX10_wayOut 36 = .ok (.iload_n 2, 1) := by decide +kernel
theorem dX10_wayOut_37 : decode cX10_wayOut 37 = .ok (.ireturn, 1) := by decide +kernel
theorem dX11_init_0 : decode cX11_init 0 = .ok (.aload_n 0, 1) := by decide +kernel
theorem dX11_init_1 : decode cX11_init 1 = .ok (.invokespecial 3, 3) := by decide +kernel
theorem dX11_init_4 : decode cX11_init 4 = .ok (.new 9, 3) := by decide +kernel
theorem dX11_init_7 : decode cX11_init 7 = .ok (.dup, 1) := by decide +kernel
theorem dX11_init_8 : decode cX11_init 8 = .ok (.invokespecial 11, 3) := by decide +kernel
theorem dX11_init_11 : decode cX11_init 11 = .ok (.astore_n 1, 1) := by decide +kernel
theorem dX11_init_12 : decode cX11_init 12 = .ok (.bipush 12, 2) := by decide +kernel
theorem dX11_init_14 : decode cX11_init 14 = .ok (.anewarray 12, 3) := by decide +kernel
theorem dX11_init_17 : decode cX11_init 17 = .ok (.astore_n 2, 1) := by decide +kernel
theorem dX11_init_18 : decode cX11_init 18 = .ok (.aload_n 0, 1) := by decide +kernel
theorem dX11_init_19 : decode cX11_init 19 = .ok (.aload_n 1, 1) := by decide +kernel
theorem dX11_init_20 : decode cX11_init 20 = .ok (.putfield 14, 3) := by decide +kernel
theorem dX11_init_23 : decode cX11_init 23 = .ok (.aload_n 0, 1) := by decide +kernel
theorem dX11_init_24 : decode cX11_init 24 = .ok (.aload_n 2, 1) := by decide +kernel
theorem dX11_init_25 : decode cX11_init 25 = .ok (.putfield 18, 3) := by decide +kernel
theorem dX11_init_28 : decode cX11_init 28 = .ok (.aload_n 0, 1) := by decide +kernel
theorem dX11_init_29 : decode cX11_init 29 = .ok (.new 22, 3) := by decide +kernel
theorem dX11_init_32 : decode cX11_init 32 = .ok (.dup, 1) := by decide +kernel
theorem dX11_init_33 : decode cX11_init 33 = .ok (.aload_n 1, 1) := by decide +kernel
theorem dX11_init_34 : decode cX11_init 34 = .ok (.aload_n 2, 1) := by decide +kernel
theorem dX11_init_35 : decode cX11_init 35 = .ok (.invokespecial 24, 3) := by decide +kernel
theorem dX11_init_38 : decode cX11_init 38 = .ok (.putfield 27, 3) := by decide +kernel
theorem dX11_init_41 : decode cX11_init 41 = .ok (.return_, 1) := by decide +kernel
theorem dX11_part_0 : decode cX11_part 0 = .ok (.iload_n 1, 1) := by decide +kernel
theorem dX11_part_1 : decode cX11_part 1 = .ok (.bipush 40, 2) := by decide +kernel
theorem dX11_part_3 : decode cX11_part 3 = .ok (.invokestatic 31, 3) := by decide +kernel
theorem dX11_part_6 : decode cX11_part 6 = .ok (.ifCond .eq 13, 3) := by decide +kernel
theorem dX11_part_9 : decode cX11_part 9 = .ok (.iload_n 2, 1) := by decide +kernel
theorem dX11_part_10 : decode cX11_part 10 = .ok (.ifCond .lt 9, 3) := by decide +kernel
theorem dX11_part_13 : decode cX11_part 13 = .ok (.iload_n 2, 1) := by decide +kernel
theorem dX11_part_14 : decode cX11_part 14 = .ok (.ldc 35, 2) := by decide +kernel
theorem dX11_part_16 : decode cX11_part 16 = .ok (.if_icmp .le 6, 3) := by decide +kernel
theorem dX11_part_19 : decode cX11_part 19 = .ok (.bipush (-102), 2) := by decide +kernel
theorem dX11_part_21 : decode cX11_part 21 = .ok (.ireturn, 1) := by decide +kernel
theorem dX11_part_22 : decode cX11_part 22 = .ok (.aload_n 0, 1) := by decide +kernel
theorem dX11_part_23 : decode cX11_part 23 = .ok (.getfield 14, 3) := by decide +kernel
theorem dX11_part_26 : decode cX11_part 26 = .ok (.iload_n 1, 1) := by decide +kernel
theorem dX11_part_27 : decode cX11_part 27 = .ok (.iload_n 2, 1) := by decide +kernel
theorem dX11_part_28 : decode cX11_part 28 = .ok (.invokevirtual 36, 3) := by decide +kernel
theorem dX11_part_31 : decode cX11_part 31 = .ok (.ireturn, 1) := by decide +kernel
theorem dX11_state_0 : decode cX11_state 0 = .ok (.aload_n 0, 1) := by decide +kernel
theorem dX11_state_1 : decode cX11_state 1 = .ok (.getfield 14, 3) := by decide +kernel
theorem dX11_state_4 : decode cX11_state 4 = .ok (.iload_n 1, 1) := by decide +kernel
theorem dX11_state_5 : decode cX11_state 5 = .ok (.invokevirtual 40, 3) := by decide +kernel
theorem dX11_state_8 : decode cX11_state 8 = .ok (.astore_n 2, 1) := by decide +kernel
theorem dX11_state_9 : decode cX11_state 9 = .ok (.aload_n 2, 1) := by decide +kernel
theorem dX11_state_10 : decode cX11_state 10 = .ok (.ifnonnull 8, 3) := by decide +kernel
theorem dX11_state_13 : decode cX11_state 13 = .ok (.bipush (-101), 2) := by decide +kernel
theorem dX11_state_15 : decode cX11_state 15 = .ok (.goto 7, 3) := by decide +kernel
theorem dX11_state_18 : decode cX11_state 18 = .ok (.aload_n 2, 1) := by decide +kernel
theorem dX11_state_19 : decode cX11_state 19 = .ok (.getfield 44, 3) := by decide +kernel
theorem dX11_state_22 : decode cX11_state 22 = .ok (.ireturn, 1) := by decide +kernel
theorem dX11_clean_0 : decode cX11_clean 0 = .ok (.iload_n 1, 1) := by decide +kernel
theorem dX11_clean_1 : decode cX11_clean 1 = .ok (.ifCond .lt 9, 3) := by decide +kernel
theorem dX11_clean_4 : decode cX11_clean 4 = .ok (.iload_n 1, 1) := by decide +kernel
theorem dX11_clean_5 : decode cX11_clean 5 = .ok (.bipush 60, 2) := by decide +kernel
theorem dX11_clean_7 : decode cX11_clean 7 = .ok (.if_icmp .le 8, 3) := by decide +kernel
theorem dX11_clean_10 : decode cX11_clean 10 = .ok (.bipush (-102), 2) := by decide +kernel
theorem dX11_clean_12 : decode cX11_clean 12 = .ok (.goto 11, 3) := by decide +kernel
theorem dX11_clean_15 : decode cX11_clean 15 = .ok (.aload_n 0, 1) := by decide +kernel
theorem dX11_clean_16 : decode cX11_clean 16 = .ok (.getfield 14, 3) := by decide +kernel
theorem dX11_clean_19 : decode cX11_clean 19 = .ok (.iload_n 1, 1) := by decide +kernel
theorem dX11_clean_20 : decode cX11_clean 20 = .ok (.invokevirtual 50, 3) := by decide +kernel
theorem dX11_clean_23 : decode cX11_clean 23 = .ok (.ireturn, 1) := by decide +kernel
theorem dX11_cleaning_0 : decode cX11_cleaning 0 = .ok (.aload_n 0, 1) := by decide +kernel
theorem dX11_cleaning_1 : decode cX11_cleaning 1 = .ok (.getfield 14, 3) := by decide +kernel
theorem dX11_cleaning_4 : decode cX11_cleaning 4 = .ok (.iload_n 1, 1) := by decide +kernel
theorem dX11_cleaning_5 : decode cX11_cleaning 5 = .ok (.invokevirtual 54, 3) := by decide +kernel
theorem dX11_cleaning_8 : decode cX11_cleaning 8 = .ok (.ireturn, 1) := by decide +kernel
theorem dX11_plan_0 : decode cX11_plan 0 = .ok (.aload_n 0, 1) := by decide +kernel
theorem dX11_plan_1 : decode cX11_plan 1 = .ok (.getfield 14, 3) := by decide +kernel
theorem dX11_plan_4 : decode cX11_plan 4 = .ok (.iload_n 1, 1) := by decide +kernel
theorem dX11_plan_5 : decode cX11_plan 5 = .ok (.invokevirtual 40, 3) := by decide +kernel
theorem dX11_plan_8 : decode cX11_plan 8 = .ok (.ifnonnull 6, 3) := by decide +kernel
theorem dX11_plan_11 : decode cX11_plan 11 = .ok (.bipush (-101), 2) := by decide +kernel
theorem dX11_plan_13 : decode cX11_plan 13 = .ok (.ireturn, 1) := by decide +kernel
theorem dX11_plan_14 : decode cX11_plan 14 = .ok (.iload_n 2, 1) := by decide +kernel
theorem dX11_plan_15 : decode cX11_plan 15 = .ok (.iconst 1, 1) := by decide +kernel
theorem dX11_plan_16 : decode cX11_plan 16 = .ok (.if_icmp .lt 17, 3) := by decide +kernel
theorem dX11_plan_19 : decode cX11_plan 19 = .ok (.iload_n 2, 1) := by decide +kernel
theorem dX11_plan_20 : decode cX11_plan 20 = .ok (.bipush 20, 2) := by decide +kernel
theorem dX11_plan_22 : decode cX11_plan 22 = .ok (.if_icmp .gt 11, 3) := by decide +kernel
theorem dX11_plan_25 : decode cX11_plan 25 = .ok (.iload_n 3, 1) := by decide +kernel
theorem dX11_plan_26 : decode cX11_plan 26 = .ok (.iconst 2, 1) := by decide +kernel
theorem dX11_plan_27 : decode cX11_plan 27 = .ok (.invokestatic 31, 3) := by decide +kernel
theorem dX11_plan_30 : decode cX11_plan 30 = .ok (.ifCond .ne 6, 3) := by decide +kernel
theorem dX11_plan_33 : decode cX11_plan 33 = .ok (.bipush (-102), 2) := by decide +kernel
theorem dX11_plan_35 : decode cX11_plan 35 = .ok (.ireturn, 1) := by decide +kernel
theorem dX11_plan_36 : decode cX11_plan 36 = .ok (.aload_n 0, 1) := by decide +kernel
theorem dX11_plan_37 : decode cX11_plan 37 = .ok (.getfield 14, 3) := by decide +kernel
theorem dX11_plan_40 : decode cX11_plan 40 = .ok (.getfield 57, 3) := by decide +kernel
theorem dX11_plan_43 : decode cX11_plan 43 = .ok (.iload_n 1, 1) := by decide +kernel
theorem dX11_plan_44 : decode cX11_plan 44 = .ok (.iload_n 2, 1) := by decide +kernel
theorem dX11_plan_45 : decode cX11_plan 45 = .ok (.iload_n 3, 1) := by decide +kernel
theorem dX11_plan_46 : decode cX11_plan 46 = .ok (.invokevirtual 61, 3) := by decide +kernel
theorem dX11_plan_49 : decode cX11_plan 49 = .ok (.ireturn, 1) := by decide +kernel
theorem dX11_plans_0 : decode cX11_plans 0 = .ok (.aload_n 0, 1) := by decide +kernel
theorem dX11_plans_1 : decode cX11_plans 1 = .ok (.getfield 14, 3) := by decide +kernel
theorem dX11_plans_4 : decode cX11_plans 4 = .ok (.getfield 57, 3) := by decide +kernel
theorem dX11_plans_7 : decode cX11_plans 7 = .ok (.getfield 67, 3) := by decide +kernel
theorem dX11_plans_10 : decode cX11_plans 10 = .ok (.istore_n 2, 1) := by decide +kernel
theorem dX11_plans_11 : decode cX11_plans 11 = .ok (.iload_n 1, 1) := by decide +kernel
theorem dX11_plans_12 : decode cX11_plans 12 = .ok (.ifCond .eq 14, 3) := by decide +kernel
theorem dX11_plans_15 : decode cX11_plans 15 = .ok (.aload_n 0, 1) := by decide +kernel
theorem dX11_plans_16 : decode cX11_plans 16 = .ok (.getfield 14, 3) := by decide +kernel
theorem dX11_plans_19 : decode cX11_plans 19 = .ok (.getfield 57, 3) := by decide +kernel
theorem dX11_plans_22 : decode cX11_plans 22 = .ok (.iconst 0, 1) := by decide +kernel
theorem dX11_plans_23 : decode cX11_plans 23 = .ok (.putfield 67, 3) := by decide +kernel
theorem dX11_plans_26 : decode cX11_plans 26 = .ok (.iload_n 2, 1) := by decide +kernel
theorem dX11_plans_27 : decode cX11_plans 27 = .ok (.ireturn, 1) := by decide +kernel
theorem dX11_act_0 : decode cX11_act 0 = .ok (.aload_n 0, 1) := by decide +kernel
theorem dX11_act_1 : decode cX11_act 1 = .ok (.getfield 70, 3) := by decide +kernel
theorem dX11_act_4 : decode cX11_act 4 = .ok (.bipush 12, 2) := by decide +kernel
theorem dX11_act_6 : decode cX11_act 6 = .ok (.invokestatic 31, 3) := by decide +kernel
theorem dX11_act_9 : decode cX11_act 9 = .ok (.ifCond .ne 6, 3) := by decide +kernel
theorem dX11_act_12 : decode cX11_act 12 = .ok (.bipush (-104), 2) := by decide +kernel
theorem dX11_act_14 : decode cX11_act 14 = .ok (.ireturn, 1) := by decide +kernel
theorem dX11_act_15 : decode cX11_act 15 = .ok (.aload_n 0, 1) := by decide +kernel
theorem dX11_act_16 : decode cX11_act 16 = .ok (.getfield 18, 3) := by decide +kernel
theorem dX11_act_19 : decode cX11_act 19 = .ok (.aload_n 0, 1) := by decide +kernel
theorem dX11_act_20 : decode cX11_act 20 = .ok (.getfield 70, 3) := by decide +kernel
theorem dX11_act_23 : decode cX11_act 23 = .ok (.new 12, 3) := by decide +kernel
theorem dX11_act_26 : decode cX11_act 26 = .ok (.dup, 1) := by decide +kernel
theorem dX11_act_27 : decode cX11_act 27 = .ok (.invokespecial 73, 3) := by decide +kernel
theorem dX11_act_30 : decode cX11_act 30 = .ok (.aastore, 1) := by decide +kernel
theorem dX11_act_31 : decode cX11_act 31 = .ok (.aload_n 0, 1) := by decide +kernel
theorem dX11_act_32 : decode cX11_act 32 = .ok (.dup, 1) := by decide +kernel
theorem dX11_act_33 : decode cX11_act 33 = .ok (.getfield 70, 3) := by decide +kernel
theorem dX11_act_36 : decode cX11_act 36 = .ok (.iconst 1, 1) := by decide +kernel
theorem dX11_act_37 : decode cX11_act 37 = .ok (.iadd, 1) := by decide +kernel
theorem dX11_act_38 : decode cX11_act 38 = .ok (.putfield 70, 3) := by decide +kernel
theorem dX11_act_41 : decode cX11_act 41 = .ok (.aload_n 0, 1) := by decide +kernel
theorem dX11_act_42 : decode cX11_act 42 = .ok (.getfield 70, 3) := by decide +kernel
theorem dX11_act_45 : decode cX11_act 45 = .ok (.iconst 1, 1) := by decide +kernel
theorem dX11_act_46 : decode cX11_act 46 = .ok (.isub, 1) := by decide +kernel
theorem dX11_act_47 : decode cX11_act 47 = .ok (.ireturn, 1) := by decide +kernel
theorem dX11_line_0 : decode cX11_line 0 = .ok (.aload_n 0, 1) := by decide +kernel
theorem dX11_line_1 : decode cX11_line 1 = .ok (.getfield 18, 3) := by decide +kernel
theorem dX11_line_4 : decode cX11_line 4 = .ok (.iload_n 1, 1) := by decide +kernel
theorem dX11_line_5 : decode cX11_line 5 = .ok (.invokestatic 74, 3) := by decide +kernel
theorem dX11_line_8 : decode cX11_line 8 = .ok (.astore 5, 2) := by decide +kernel
theorem dX11_line_10 : decode cX11_line 10 = .ok (.aload 5, 2) := by decide +kernel
theorem dX11_line_12 : decode cX11_line 12 = .ok (.ifnonnull 8, 3) := by decide +kernel
theorem dX11_line_15 : decode cX11_line 15 = .ok (.bipush (-101), 2) := by decide +kernel
theorem dX11_line_17 : decode cX11_line 17 = .ok (.goto 12, 3) := by decide +kernel
theorem dX11_line_20 : decode cX11_line 20 = .ok (.aload 5, 2) := by decide +kernel
theorem dX11_line_22 : decode cX11_line 22 = .ok (.iload_n 2, 1) := by decide +kernel
theorem dX11_line_23 : decode cX11_line 23 = .ok (.iload_n 3, 1) := by decide +kernel
theorem dX11_line_24 : decode cX11_line 24 = .ok (.iload 4, 2) := by decide +kernel
theorem dX11_line_26 : decode cX11_line 26 = .ok (.invokevirtual 78, 3) := by decide +kernel
theorem dX11_line_29 : decode cX11_line 29 = .ok (.ireturn, 1) := by decide +kernel
theorem dX11_wipe_0 : decode cX11_wipe 0 = .ok (.aload_n 0, 1) := by decide +kernel
theorem dX11_wipe_1 : decode cX11_wipe 1 = .ok (.getfield 18, 3) := by decide +kernel
theorem dX11_wipe_4 : decode cX11_wipe 4 = .ok (.iload_n 1, 1) := by decide +kernel
theorem dX11_wipe_5 : decode cX11_wipe 5 = .ok (.invokestatic 74, 3) := by decide +kernel
theorem dX11_wipe_8 : decode cX11_wipe 8 = .ok (.astore_n 2, 1) := by decide +kernel
theorem dX11_wipe_9 : decode cX11_wipe 9 = .ok (.aload_n 2, 1) := by decide +kernel
theorem dX11_wipe_10 : decode cX11_wipe 10 = .ok (.ifnonnull 8, 3) := by decide +kernel
theorem dX11_wipe_13 : decode cX11_wipe 13 = .ok (.bipush (-101), 2) := by decide +kernel
theorem dX11_wipe_15 : decode cX11_wipe 15 = .ok (.goto 7, 3) := by decide +kernel
theorem dX11_wipe_18 : decode cX11_wipe 18 = .ok (.aload_n 2, 1) := by decide +kernel
theorem dX11_wipe_19 : decode cX11_wipe 19 = .ok (.invokevirtual 79, 3) := by decide +kernel
theorem dX11_wipe_22 : decode cX11_wipe 22 = .ok (.ireturn, 1) := by decide +kernel
theorem dX11_fault_0 : decode cX11_fault 0 = .ok (.aload_n 0, 1) := by decide +kernel
theorem dX11_fault_1 : decode cX11_fault 1 = .ok (.getfield 18, 3) := by decide +kernel
theorem dX11_fault_4 : decode cX11_fault 4 = .ok (.iload_n 1, 1) := by decide +kernel
theorem dX11_fault_5 : decode cX11_fault 5 = .ok (.invokestatic 74, 3) := by decide +kernel
theorem dX11_fault_8 : decode cX11_fault 8 = .ok (.astore_n 3, 1) := by decide +kernel
theorem dX11_fault_9 : decode cX11_fault 9 = .ok (.aload_n 3, 1) := by decide +kernel
theorem dX11_fault_10 : decode cX11_fault 10 = .ok (.ifnonnull 6, 3) := by decide +kernel
theorem dX11_fault_13 : decode cX11_fault 13 = .ok (.bipush (-101), 2) := by decide +kernel
theorem dX11_fault_15 : decode cX11_fault 15 = .ok (.ireturn, 1) := by decide +kernel
theorem dX11_fault_16 : decode cX11_fault 16 = .ok (.iload_n 2, 1) := by decide +kernel
theorem dX11_fault_17 : decode cX11_fault 17 = .ok (.iconst 2, 1) := by decide +kernel
theorem dX11_fault_18 : decode cX11_fault 18 = .ok (.invokestatic 31, 3) := by decide +kernel
theorem dX11_fault_21 : decode cX11_fault 21 = .ok (.ifCond .ne 6, 3) := by decide +kernel
theorem dX11_fault_24 : decode cX11_fault 24 = .ok (.bipush (-102), 2) := by decide +kernel
theorem dX11_fault_26 : decode cX11_fault 26 = .ok (.ireturn, 1) := by decide +kernel
theorem dX11_fault_27 : decode cX11_fault 27 = .ok (.iload_n 2, 1) := by decide +kernel
theorem dX11_fault_28 : decode cX11_fault 28 = .ok (.ifCond .ne 10, 3) := by decide +kernel
theorem dX11_fault_31 : decode cX11_fault 31 = .ok (.aload_n 3, 1) := by decide +kernel
theorem dX11_fault_32 : decode cX11_fault 32 = .ok (.invokevirtual 83, 3) := by decide +kernel
theorem dX11_fault_35 : decode cX11_fault 35 = .ok (.goto 7, 3) := by decide +kernel
theorem dX11_fault_38 : decode cX11_fault 38 = .ok (.aload_n 3, 1) := by decide +kernel
theorem dX11_fault_39 : decode cX11_fault 39 = .ok (.invokevirtual 86, 3) := by decide +kernel
theorem dX11_fault_42 : decode cX11_fault 42 = .ok (.ireturn, 1) := by decide +kernel
theorem dX11_run_0 : decode cX11_run 0 = .ok (.aload_n 0, 1) := by decide +kernel
theorem dX11_run_1 : decode cX11_run 1 = .ok (.getfield 18, 3) := by decide +kernel
theorem dX11_run_4 : decode cX11_run 4 = .ok (.iload_n 1, 1) := by decide +kernel
theorem dX11_run_5 : decode cX11_run 5 = .ok (.invokestatic 74, 3) := by decide +kernel
theorem dX11_run_8 : decode cX11_run 8 = .ok (.astore_n 3, 1) := by decide +kernel
theorem dX11_run_9 : decode cX11_run 9 = .ok (.aload_n 3, 1) := by decide +kernel
theorem dX11_run_10 : decode cX11_run 10 = .ok (.ifnull 12, 3) := by decide +kernel
theorem dX11_run_13 : decode cX11_run 13 = .ok (.iload_n 2, 1) := by decide +kernel
theorem dX11_run_14 : decode cX11_run 14 = .ok (.bipush 8, 2) := by decide +kernel
theorem dX11_run_16 : decode cX11_run 16 = .ok (.invokestatic 31, 3) := by decide +kernel
theorem dX11_run_19 : decode cX11_run 19 = .ok (.ifCond .ne 6, 3) := by decide +kernel
theorem dX11_run_22 : decode cX11_run 22 = .ok (.bipush (-101), 2) := by decide +kernel
theorem dX11_run_24 : decode cX11_run 24 = .ok (.ireturn, 1) := by decide +kernel
theorem dX11_run_25 : decode cX11_run 25 = .ok (.aload_n 3, 1) := by decide +kernel
theorem dX11_run_26 : decode cX11_run 26 = .ok (.invokevirtual 83, 3) := by decide +kernel
theorem dX11_run_29 : decode cX11_run 29 = .ok (.ifCond .ne 15, 3) := by decide +kernel
theorem dX11_run_32 : decode cX11_run 32 = .ok (.aload_n 0, 1) := by decide +kernel
theorem dX11_run_33 : decode cX11_run 33 = .ok (.getfield 27, 3) := by decide +kernel
theorem dX11_run_36 : decode cX11_run 36 = .ok (.iload_n 1, 1) := by decide +kernel
theorem dX11_run_37 : decode cX11_run 37 = .ok (.iload_n 2, 1) := by decide +kernel
theorem dX11_run_38 : decode cX11_run 38 = .ok (.invokevirtual 89, 3) := by decide +kernel
theorem dX11_run_41 : decode cX11_run 41 = .ok (.goto 5, 3) := by decide +kernel
theorem dX11_run_44 : decode cX11_run 44 = .ok (.bipush (-103), 2) := by decide +kernel
theorem dX11_run_46 : decode cX11_run 46 = .ok (.ireturn, 1) := by decide +kernel
theorem dX11_ran_0 : decode cX11_ran 0 = .ok (.iload_n 1, 1) := by decide +kernel
theorem dX11_ran_1 : decode cX11_ran 1 = .ok (.bipush 7, 2) := by decide +kernel
theorem dX11_ran_3 : decode cX11_ran 3 = .ok (.invokestatic 31, 3) := by decide +kernel
theorem dX11_ran_6 : decode cX11_ran 6 = .ok (.ifCond .eq 14, 3) := by decide +kernel
theorem dX11_ran_9 : decode cX11_ran 9 = .ok (.aload_n 0, 1) := by decide +kernel
theorem dX11_ran_10 : decode cX11_ran 10 = .ok (.getfield 27, 3) := by decide +kernel
theorem dX11_ran_13 : decode cX11_ran 13 = .ok (.iload_n 1, 1) := by decide +kernel
theorem dX11_ran_14 : decode cX11_ran 14 = .ok (.invokevirtual 92, 3) := by decide +kernel
theorem dX11_ran_17 : decode cX11_ran 17 = .ok (.goto 5, 3) := by decide +kernel
theorem dX11_ran_20 : decode cX11_ran 20 = .ok (.bipush (-102), 2) := by decide +kernel
theorem dX11_ran_22 : decode cX11_ran 22 = .ok (.ireturn, 1) := by decide +kernel
theorem dX11_failure_0 : decode cX11_failure 0 = .ok (.iload_n 1, 1) := by decide +kernel
theorem dX11_failure_1 : decode cX11_failure 1 = .ok (.aload_n 0, 1) := by decide +kernel
theorem dX11_failure_2 : decode cX11_failure 2 = .ok (.getfield 27, 3) := by decide +kernel
theorem dX11_failure_5 : decode cX11_failure 5 = .ok (.getfield 95, 3) := by decide +kernel
theorem dX11_failure_8 : decode cX11_failure 8 = .ok (.getfield 99, 3) := by decide +kernel
theorem dX11_failure_11 : decode cX11_failure 11 = .ok (.invokestatic 31, 3) := by decide +kernel
theorem dX11_failure_14 : decode cX11_failure 14 = .ok (.ifCond .ne 6, 3) := by decide +kernel
theorem dX11_failure_17 : decode cX11_failure 17 = .ok (.bipush (-101), 2) := by decide +kernel
theorem dX11_failure_19 : decode cX11_failure 19 = .ok (.ireturn, 1) := by decide +kernel
theorem dX11_failure_20 : decode cX11_failure 20 = .ok (.iload_n 2, 1) := by decide +kernel
theorem dX11_failure_21 : decode cX11_failure 21 = .ok (.bipush 6, 2) := by decide +kernel
theorem dX11_failure_23 : decode cX11_failure 23 = .ok (.invokestatic 31, 3) := by decide +kernel
theorem dX11_failure_26 : decode cX11_failure 26 = .ok (.ifCond .eq 18, 3) := by decide +kernel
theorem dX11_failure_29 : decode cX11_failure 29 = .ok (.aload_n 0, 1) := by decide +kernel
theorem dX11_failure_30 : decode cX11_failure 30 = .ok (.getfield 27, 3) := by decide +kernel
theorem dX11_failure_33 : decode cX11_failure 33 = .ok (.getfield 95, 3) := by decide +kernel
theorem dX11_failure_36 : decode cX11_failure 36 = .ok (.iload_n 1, 1) := by decide +kernel
theorem dX11_failure_37 : decode cX11_failure 37 = .ok (.iload_n 2, 1) := by decide +kernel
theorem dX11_failure_38 : decode cX11_failure 38 = .ok (.invokevirtual 102, 3) := by decide +kernel
theorem dX11_failure_41 : decode cX11_failure 41 = .ok (.goto 5, 3) := by decide +kernel
theorem dX11_failure_44 : decode cX11_failure 44 = .ok (.bipush (-102), 2) := by decide +kernel
theorem dX11_failure_46 : decode cX11_failure 46 = .ok (.ireturn, 1) := by decide +kernel
theorem dX11_leaks_0 : decode cX11_leaks 0 = .ok (.aload_n 0, 1) := by decide +kernel
theorem dX11_leaks_1 : decode cX11_leaks 1 = .ok (.getfield 14, 3) := by decide +kernel
theorem dX11_leaks_4 : decode cX11_leaks 4 = .ok (.getfield 104, 3) := by decide +kernel
theorem dX11_leaks_7 : decode cX11_leaks 7 = .ok (.ireturn, 1) := by decide +kernel
theorem dX11_leak_0 : decode cX11_leak 0 = .ok (.aload_n 0, 1) := by decide +kernel
theorem dX11_leak_1 : decode cX11_leak 1 = .ok (.getfield 14, 3) := by decide +kernel
theorem dX11_leak_4 : decode cX11_leak 4 = .ok (.iload_n 1, 1) := by decide +kernel
theorem dX11_leak_5 : decode cX11_leak 5 = .ok (.invokevirtual 107, 3) := by decide +kernel
theorem dX11_leak_8 : decode cX11_leak 8 = .ok (.astore_n 3, 1) := by decide +kernel
theorem dX11_leak_9 : decode cX11_leak 9 = .ok (.aload_n 3, 1) := by decide +kernel
theorem dX11_leak_10 : decode cX11_leak 10 = .ok (.ifnonnull 6, 3) := by decide +kernel
theorem dX11_leak_13 : decode cX11_leak 13 = .ok (.bipush (-101), 2) := by decide +kernel
theorem dX11_leak_15 : decode cX11_leak 15 = .ok (.ireturn, 1) := by decide +kernel
theorem dX11_leak_16 : decode cX11_leak 16 = .ok (.iload_n 2, 1) := by decide +kernel
theorem dX11_leak_17 : decode cX11_leak 17 = .ok (.tableswitch 42 0 2 #[27, 32, 37], 27) := by decide +kernel
theorem dX11_leak_44 : decode cX11_leak 44 = .ok (.aload_n 3, 1) := by decide +kernel
theorem dX11_leak_45 : decode cX11_leak 45 = .ok (.getfield 110, 3) := by decide +kernel
theorem dX11_leak_48 : decode cX11_leak 48 = .ok (.ireturn, 1) := by decide +kernel
theorem dX11_leak_49 : decode cX11_leak 49 = .ok (.aload_n 3, 1) := by decide +kernel
theorem dX11_leak_50 : decode cX11_leak 50 = .ok (.getfield 113, 3) := by decide +kernel
theorem dX11_leak_53 : decode cX11_leak 53 = .ok (.ireturn, 1) := by decide +kernel
theorem dX11_leak_54 : decode cX11_leak 54 = .ok (.aload_n 3, 1) := by decide +kernel
theorem dX11_leak_55 : decode cX11_leak 55 = .ok (.getfield 116, 3) := by decide +kernel
theorem dX11_leak_58 : decode cX11_leak 58 = .ok (.ireturn, 1) := by decide +kernel
theorem dX11_leak_59 : decode cX11_leak 59 = .ok (.bipush (-102), 2) := by decide +kernel
theorem dX11_leak_61 : decode cX11_leak 61 = .ok (.ireturn, 1) := by decide +kernel
theorem dX11_trace_0 : decode cX11_trace 0 = .ok (.aload_n 0, 1) := by decide +kernel
theorem dX11_trace_1 : decode cX11_trace 1 = .ok (.getfield 14, 3) := by decide +kernel
theorem dX11_trace_4 : decode cX11_trace 4 = .ok (.iload_n 1, 1) := by decide +kernel
theorem dX11_trace_5 : decode cX11_trace 5 = .ok (.invokevirtual 107, 3) := by decide +kernel
theorem dX11_trace_8 : decode cX11_trace 8 = .ok (.astore 4, 2) := by decide +kernel
theorem dX11_trace_10 : decode cX11_trace 10 = .ok (.aload 4, 2) := by decide +kernel
theorem dX11_trace_12 : decode cX11_trace 12 = .ok (.ifnull 15, 3) := by decide +kernel
theorem dX11_trace_15 : decode cX11_trace 15 = .ok (.iload_n 2, 1) := by decide +kernel
theorem dX11_trace_16 : decode cX11_trace 16 = .ok (.aload 4, 2) := by decide +kernel
theorem dX11_trace_18 : decode cX11_trace 18 = .ok (.getfield 116, 3) := by decide +kernel
theorem dX11_trace_21 : decode cX11_trace 21 = .ok (.invokestatic 31, 3) := by decide +kernel
theorem dX11_trace_24 : decode cX11_trace 24 = .ok (.ifCond .ne 6, 3) := by decide +kernel
theorem dX11_trace_27 : decode cX11_trace 27 = .ok (.bipush (-101), 2) := by decide +kernel
theorem dX11_trace_29 : decode cX11_trace 29 = .ok (.ireturn, 1) := by decide +kernel
theorem dX11_trace_30 : decode cX11_trace 30 = .ok (.iload_n 3, 1) := by decide +kernel
theorem dX11_trace_31 : decode cX11_trace 31 = .ok (.iconst 2, 1) := by decide +kernel
theorem dX11_trace_32 : decode cX11_trace 32 = .ok (.invokestatic 31, 3) := by decide +kernel
theorem dX11_trace_35 : decode cX11_trace 35 = .ok (.ifCond .ne 6, 3) := by decide +kernel
theorem dX11_trace_38 : decode cX11_trace 38 = .ok (.bipush (-102), 2) := by decide +kernel
theorem dX11_trace_40 : decode cX11_trace 40 = .ok (.ireturn, 1) := by decide +kernel
theorem dX11_trace_41 : decode cX11_trace 41 = .ok (.iload_n 3, 1) := by decide +kernel
theorem dX11_trace_42 : decode cX11_trace 42 = .ok (.ifCond .ne 13, 3) := by decide +kernel
theorem dX11_trace_45 : decode cX11_trace 45 = .ok (.aload 4, 2) := by decide +kernel
theorem dX11_trace_47 : decode cX11_trace 47 = .ok (.getfield 119, 3) := by decide +kernel
theorem dX11_trace_50 : decode cX11_trace 50 = .ok (.iload_n 2, 1) := by decide +kernel
theorem dX11_trace_51 : decode cX11_trace 51 = .ok (.iaload, 1) := by decide +kernel
theorem dX11_trace_52 : decode cX11_trace 52 = .ok (.goto 10, 3) := by decide +kernel
theorem dX11_trace_55 : decode cX11_trace 55 = .ok (.aload 4, 2) := by decide +kernel
theorem dX11_trace_57 : decode cX11_trace 57 = .ok (.getfield 123, 3) := by decide +kernel
theorem dX11_trace_60 : decode cX11_trace 60 = .ok (.iload_n 2, 1) := by decide +kernel
theorem dX11_trace_61 : decode cX11_trace 61 = .ok (.iaload, 1) := by decide +kernel
theorem dX11_trace_62 : decode cX11_trace 62 = .ok (.ireturn, 1) := by decide +kernel
theorem dX11_giveBack_0 : decode cX11_giveBack 0 = .ok (.aload_n 0, 1) := by decide +kernel
theorem dX11_giveBack_1 : decode cX11_giveBack 1 = .ok (.getfield 14, 3) := by decide +kernel
theorem dX11_giveBack_4 : decode cX11_giveBack 4 = .ok (.iload_n 1, 1) := by decide +kernel
theorem dX11_giveBack_5 : decode cX11_giveBack 5 = .ok (.invokevirtual 107, 3) := by decide +kernel
theorem dX11_giveBack_8 : decode cX11_giveBack 8 = .ok (.astore_n 2, 1) := by decide +kernel
theorem dX11_giveBack_9 : decode cX11_giveBack 9 = .ok (.aload_n 2, 1) := by decide +kernel
theorem dX11_giveBack_10 : decode cX11_giveBack 10 = .ok (.ifnonnull 6, 3) := by decide +kernel
theorem dX11_giveBack_13 : decode cX11_giveBack 13 = .ok (.bipush (-101), 2) := by decide +kernel
theorem dX11_giveBack_15 : decode cX11_giveBack 15 = .ok (.ireturn, 1) := by decide +kernel
theorem dX11_giveBack_16 : decode cX11_giveBack 16 = .ok (.aload_n 0, 1) := by decide +kernel
theorem dX11_giveBack_17 : decode cX11_giveBack 17 = .ok (.getfield 14, 3) := by decide +kernel
theorem dX11_giveBack_20 : decode cX11_giveBack 20 = .ok (.aload_n 2, 1) := by decide +kernel
theorem dX11_giveBack_21 : decode cX11_giveBack 21 = .ok (.iconst 3, 1) := by decide +kernel
theorem dX11_giveBack_22 : decode cX11_giveBack 22 = .ok (.invokevirtual 126, 3) := by decide +kernel
theorem dX11_giveBack_25 : decode cX11_giveBack 25 = .ok (.ifCond .eq 7, 3) := by decide +kernel
theorem dX11_giveBack_28 : decode cX11_giveBack 28 = .ok (.iconst 0, 1) := by decide +kernel
theorem dX11_giveBack_29 : decode cX11_giveBack 29 = .ok (.goto 4, 3) := by decide +kernel
theorem dX11_giveBack_32 : decode cX11_giveBack 32 = .ok (.iconst 1, 1) := by decide +kernel
theorem dX11_giveBack_33 : decode cX11_giveBack 33 = .ok (.ireturn, 1) := by decide +kernel
theorem dX11_cents_0 : decode cX11_cents 0 = .ok (.iload_n 1, 1) := by decide +kernel
theorem dX11_cents_1 : decode cX11_cents 1 = .ok (.bipush 8, 2) := by decide +kernel
theorem dX11_cents_3 : decode cX11_cents 3 = .ok (.invokestatic 31, 3) := by decide +kernel
theorem dX11_cents_6 : decode cX11_cents 6 = .ok (.ifCond .ne 7, 3) := by decide +kernel
theorem dX11_cents_9 : decode cX11_cents 9 = .ok (.ldc2_w 130, 3) := by decide +kernel
theorem dX11_cents_12 : decode cX11_cents 12 = .ok (.lreturn, 1) := by decide +kernel
theorem dX11_cents_13 : decode cX11_cents 13 = .ok (.iload_n 2, 1) := by decide +kernel
theorem dX11_cents_14 : decode cX11_cents 14 = .ok (.iconst 2, 1) := by decide +kernel
theorem dX11_cents_15 : decode cX11_cents 15 = .ok (.invokestatic 31, 3) := by decide +kernel
theorem dX11_cents_18 : decode cX11_cents 18 = .ok (.ifCond .ne 7, 3) := by decide +kernel
theorem dX11_cents_21 : decode cX11_cents 21 = .ok (.ldc2_w 132, 3) := by decide +kernel
theorem dX11_cents_24 : decode cX11_cents 24 = .ok (.lreturn, 1) := by decide +kernel
theorem dX11_cents_25 : decode cX11_cents 25 = .ok (.iload_n 2, 1) := by decide +kernel
theorem dX11_cents_26 : decode cX11_cents 26 = .ok (.ifCond .ne 14, 3) := by decide +kernel
theorem dX11_cents_29 : decode cX11_cents 29 = .ok (.aload_n 0, 1) := by decide +kernel
theorem dX11_cents_30 : decode cX11_cents 30 = .ok (.getfield 14, 3) := by decide +kernel
theorem dX11_cents_33 : decode cX11_cents 33 = .ok (.iload_n 1, 1) := by decide +kernel
theorem dX11_cents_34 : decode cX11_cents 34 = .ok (.invokevirtual 134, 3) := by decide +kernel
theorem dX11_cents_37 : decode cX11_cents 37 = .ok (.goto 12, 3) := by decide +kernel
theorem dX11_cents_40 : decode cX11_cents 40 = .ok (.aload_n 0, 1) := by decide +kernel
theorem dX11_cents_41 : decode cX11_cents 41 = .ok (.getfield 14, 3) := by decide +kernel
theorem dX11_cents_44 : decode cX11_cents 44 = .ok (.getfield 138, 3) := by decide +kernel
theorem dX11_cents_47 : decode cX11_cents 47 = .ok (.iload_n 1, 1) := by decide +kernel
theorem dX11_cents_48 : decode cX11_cents 48 = .ok (.laload, 1) := by decide +kernel
theorem dX11_cents_49 : decode cX11_cents 49 = .ok (.lreturn, 1) := by decide +kernel
theorem dX11_log_0 : decode cX11_log 0 = .ok (.iload_n 2, 1) := by decide +kernel
theorem dX11_log_1 : decode cX11_log 1 = .ok (.iconst 3, 1) := by decide +kernel
theorem dX11_log_2 : decode cX11_log 2 = .ok (.invokestatic 31, 3) := by decide +kernel
theorem dX11_log_5 : decode cX11_log 5 = .ok (.ifCond .eq 18, 3) := by decide +kernel
theorem dX11_log_8 : decode cX11_log 8 = .ok (.aload_n 0, 1) := by decide +kernel
theorem dX11_log_9 : decode cX11_log 9 = .ok (.getfield 14, 3) := by decide +kernel
theorem dX11_log_12 : decode cX11_log 12 = .ok (.getfield 142, 3) := by decide +kernel
theorem dX11_log_15 : decode cX11_log 15 = .ok (.iload_n 1, 1) := by decide +kernel
theorem dX11_log_16 : decode cX11_log 16 = .ok (.iload_n 2, 1) := by decide +kernel
theorem dX11_log_17 : decode cX11_log 17 = .ok (.invokevirtual 146, 3) := by decide +kernel
theorem dX11_log_20 : decode cX11_log 20 = .ok (.goto 5, 3) := by decide +kernel
theorem dX11_log_23 : decode cX11_log 23 = .ok (.bipush (-102), 2) := by decide +kernel
theorem dX11_log_25 : decode cX11_log 25 = .ok (.ireturn, 1) := by decide +kernel
theorem dX11_within_0 : decode cX11_within 0 = .ok (.iload_n 0, 1) := by decide +kernel
theorem dX11_within_1 : decode cX11_within 1 = .ok (.ifCond .lt 12, 3) := by decide +kernel
theorem dX11_within_4 : decode cX11_within 4 = .ok (.iload_n 0, 1) := by decide +kernel
theorem dX11_within_5 : decode cX11_within 5 = .ok (.iload_n 1, 1) := by decide +kernel
theorem dX11_within_6 : decode cX11_within 6 = .ok (.if_icmp .ge 7, 3) := by decide +kernel
theorem dX11_within_9 : decode cX11_within 9 = .ok (.iconst 1, 1) := by decide +kernel
theorem dX11_within_10 : decode cX11_within 10 = .ok (.goto 4, 3) := by decide +kernel
theorem dX11_within_13 : decode cX11_within 13 = .ok (.iconst 0, 1) := by decide +kernel
theorem dX11_within_14 : decode cX11_within 14 = .ok (.ireturn, 1) := by decide +kernel
theorem dX11_findScript_0 : decode cX11_findScript 0 = .ok (.iload_n 1, 1) := by decide +kernel
theorem dX11_findScript_1 : decode cX11_findScript 1 = .ok (.aload_n 0, 1) := by decide +kernel
theorem dX11_findScript_2 : decode cX11_findScript 2 = .ok (.arraylength, 1) := by decide +kernel
theorem dX11_findScript_3 : decode cX11_findScript 3 = .ok (.invokestatic 31, 3) := by decide +kernel
theorem dX11_findScript_6 : decode cX11_findScript 6 = .ok (.ifCond .eq 9, 3) := by decide +kernel
theorem dX11_findScript_9 : decode cX11_findScript 9 = .ok (.aload_n 0, 1) := by decide +kernel
theorem dX11_findScript_10 : decode cX11_findScript 10 = .ok (.iload_n 1, 1) := by decide +kernel
theorem dX11_findScript_11 : decode cX11_findScript 11 = .ok (.aaload, 1) := by decide +kernel
theorem dX11_findScript_12 : decode cX11_findScript 12 = .ok (.goto 4, 3) := by decide +kernel
theorem dX11_findScript_15 : decode cX11_findScript 15 = .ok (.aconst_null, 1) := by decide +kernel
theorem dX11_findScript_16 : decode cX11_findScript 16 = .ok (.areturn, 1) := by decide +kernel
theorem dX11_isUnder_0 : decode cX11_isUnder 0 = .ok (.iload_n 0, 1) := by decide +kernel
theorem dX11_isUnder_1 : decode cX11_isUnder 1 = .ok (.istore_n 2, 1) := by decide +kernel
theorem dX11_isUnder_2 : decode cX11_isUnder 2 = .ok (.iconst 0, 1) := by decide +kernel
theorem dX11_isUnder_3 : decode cX11_isUnder 3 = .ok (.istore_n 3, 1) := by decide +kernel
theorem dX11_isUnder_4 : decode cX11_isUnder 4 = .ok (.iload_n 3, 1) := by decide +kernel
theorem dX11_isUnder_5 : decode cX11_isUnder 5 = .ok (.bipush 12, 2) := by decide +kernel
theorem dX11_isUnder_7 : decode cX11_isUnder 7 = .ok (.if_icmp .ge 31, 3) := by decide +kernel
theorem dX11_isUnder_10 : decode cX11_isUnder 10 = .ok (.iload_n 2, 1) := by decide +kernel
theorem dX11_isUnder_11 : decode cX11_isUnder 11 = .ok (.bipush 12, 2) := by decide +kernel
theorem dX11_isUnder_13 : decode cX11_isUnder 13 = .ok (.invokestatic 31, 3) := by decide +kernel
theorem dX11_isUnder_16 : decode cX11_isUnder 16 = .ok (.ifCond .eq 22, 3) := by decide +kernel
theorem dX11_isUnder_19 : decode cX11_isUnder 19 = .ok (.iload_n 2, 1) := by decide +kernel
theorem dX11_isUnder_20 : decode cX11_isUnder 20 = .ok (.iload_n 1, 1) := by decide +kernel
theorem dX11_isUnder_21 : decode cX11_isUnder 21 = .ok (.if_icmp .ne 5, 3) := by decide +kernel
theorem dX11_isUnder_24 : decode cX11_isUnder 24 = .ok (.iconst 1, 1) := by decide +kernel
theorem dX11_isUnder_25 : decode cX11_isUnder 25 = .ok (.ireturn, 1) := by decide +kernel
theorem dX11_isUnder_26 : decode cX11_isUnder 26 = .ok (.getstatic 149, 3) := by decide +kernel
theorem dX11_isUnder_29 : decode cX11_isUnder 29 = .ok (.iload_n 2, 1) := by decide +kernel
theorem dX11_isUnder_30 : decode cX11_isUnder 30 = .ok (.iaload, 1) := by decide +kernel
theorem dX11_isUnder_31 : decode cX11_isUnder 31 = .ok (.istore_n 2, 1) := by decide +kernel
theorem dX11_isUnder_32 : decode cX11_isUnder 32 = .ok (.iinc 3 1, 3) := by decide +kernel
theorem dX11_isUnder_35 : decode cX11_isUnder 35 = .ok (.goto (-31), 3) := by decide +kernel
theorem dX11_isUnder_38 : decode cX11_isUnder 38 = .ok (.iconst 0, 1) := by decide +kernel
theorem dX11_isUnder_39 : decode cX11_isUnder 39 = .ok (.ireturn, 1) := by decide +kernel
theorem dX12_init_0 : decode cX12_init 0 = .ok (.aload_n 0, 1) := by decide +kernel
theorem dX12_init_1 : decode cX12_init 1 = .ok (.invokespecial 1, 3) := by decide +kernel
theorem dX12_init_4 : decode cX12_init 4 = .ok (.aload_n 0, 1) := by decide +kernel
theorem dX12_init_5 : decode cX12_init 5 = .ok (.bipush 60, 2) := by decide +kernel
theorem dX12_init_7 : decode cX12_init 7 = .ok (.newarray .int, 2) := by decide +kernel
theorem dX12_init_9 : decode cX12_init 9 = .ok (.putfield 7, 3) := by decide +kernel
theorem dX12_init_12 : decode cX12_init 12 = .ok (.aload_n 0, 1) := by decide +kernel
theorem dX12_init_13 : decode cX12_init 13 = .ok (.bipush 60, 2) := by decide +kernel
theorem dX12_init_15 : decode cX12_init 15 = .ok (.newarray .int, 2) := by decide +kernel
theorem dX12_init_17 : decode cX12_init 17 = .ok (.putfield 13, 3) := by decide +kernel
theorem dX12_init_20 : decode cX12_init 20 = .ok (.aload_n 0, 1) := by decide +kernel
theorem dX12_init_21 : decode cX12_init 21 = .ok (.bipush 60, 2) := by decide +kernel
theorem dX12_init_23 : decode cX12_init 23 = .ok (.newarray .int, 2) := by decide +kernel
theorem dX12_init_25 : decode cX12_init 25 = .ok (.putfield 16, 3) := by decide +kernel
theorem dX12_init_28 : decode cX12_init 28 = .ok (.aload_n 0, 1) := by decide +kernel
theorem dX12_init_29 : decode cX12_init 29 = .ok (.bipush 60, 2) := by decide +kernel
theorem dX12_init_31 : decode cX12_init 31 = .ok (.newarray .int, 2) := by decide +kernel
theorem dX12_init_33 : decode cX12_init 33 = .ok (.putfield 19, 3) := by decide +kernel
theorem dX12_init_36 : decode cX12_init 36 = .ok (.aload_n 0, 1) := by decide +kernel
theorem dX12_init_37 : decode cX12_init 37 = .ok (.bipush 30, 2) := by decide +kernel
theorem dX12_init_39 : decode cX12_init 39 = .ok (.newarray .int, 2) := by decide +kernel
theorem dX12_init_41 : decode cX12_init 41 = .ok (.putfield 22, 3) := by decide +kernel
theorem dX12_init_44 : decode cX12_init 44 = .ok (.aload_n 0, 1) := by decide +kernel
theorem dX12_init_45 : decode cX12_init 45 = .ok (.bipush 30, 2) := by decide +kernel
theorem dX12_init_47 : decode cX12_init 47 = .ok (.newarray .int, 2) := by decide +kernel
theorem dX12_init_49 : decode cX12_init 49 = .ok (.putfield 25, 3) := by decide +kernel
theorem dX12_init_52 : decode cX12_init 52 = .ok (.aload_n 0, 1) := by decide +kernel
theorem dX12_init_53 : decode cX12_init 53 = .ok (.bipush 30, 2) := by decide +kernel
theorem dX12_init_55 : decode cX12_init 55 = .ok (.newarray .int, 2) := by decide +kernel
theorem dX12_init_57 : decode cX12_init 57 = .ok (.putfield 28, 3) := by decide +kernel
theorem dX12_init_60 : decode cX12_init 60 = .ok (.aload_n 0, 1) := by decide +kernel
theorem dX12_init_61 : decode cX12_init 61 = .ok (.bipush 30, 2) := by decide +kernel
theorem dX12_init_63 : decode cX12_init 63 = .ok (.newarray .int, 2) := by decide +kernel
theorem dX12_init_65 : decode cX12_init 65 = .ok (.putfield 31, 3) := by decide +kernel
theorem dX12_init_68 : decode cX12_init 68 = .ok (.aload_n 0, 1) := by decide +kernel
theorem dX12_init_69 : decode cX12_init 69 = .ok (.bipush 8, 2) := by decide +kernel
theorem dX12_init_71 : decode cX12_init 71 = .ok (.newarray .long, 2) := by decide +kernel
theorem dX12_init_73 : decode cX12_init 73 = .ok (.putfield 34, 3) := by decide +kernel
theorem dX12_init_76 : decode cX12_init 76 = .ok (.aload_n 0, 1) := by decide +kernel
theorem dX12_init_77 : decode cX12_init 77 = .ok (.bipush 60, 2) := by decide +kernel
theorem dX12_init_79 : decode cX12_init 79 = .ok (.newarray .int, 2) := by decide +kernel
theorem dX12_init_81 : decode cX12_init 81 = .ok (.putfield 38, 3) := by decide +kernel
theorem dX12_init_84 : decode cX12_init 84 = .ok (.aload_n 0, 1) := by decide +kernel
theorem dX12_init_85 : decode cX12_init 85 = .ok (.bipush 60, 2) := by decide +kernel
theorem dX12_init_87 : decode cX12_init 87 = .ok (.newarray .int, 2) := by decide +kernel
theorem dX12_init_89 : decode cX12_init 89 = .ok (.putfield 41, 3) := by decide +kernel
theorem dX12_init_92 : decode cX12_init 92 = .ok (.aload_n 0, 1) := by decide +kernel
theorem dX12_init_93 : decode cX12_init 93 = .ok (.bipush 60, 2) := by decide +kernel
theorem dX12_init_95 : decode cX12_init 95 = .ok (.newarray .int, 2) := by decide +kernel
theorem dX12_init_97 : decode cX12_init 97 = .ok (.putfield 44, 3) := by decide +kernel
theorem dX12_init_100 : decode cX12_init 100 = .ok (.aload_n 0, 1) := by decide +kernel
theorem dX12_init_101 : decode cX12_init 101 = .ok (.bipush 12, 2) := by decide +kernel
theorem dX12_init_103 : decode cX12_init 103 = .ok (.newarray .int, 2) := by decide +kernel
theorem dX12_init_105 : decode cX12_init 105 = .ok (.putfield 47, 3) := by decide +kernel
theorem dX12_init_108 : decode cX12_init 108 = .ok (.aload_n 0, 1) := by decide +kernel
theorem dX12_init_109 : decode cX12_init 109 = .ok (.sipush 480, 3) := by decide +kernel
theorem dX12_init_112 : decode cX12_init 112 = .ok (.newarray .int, 2) := by decide +kernel
theorem dX12_init_114 : decode cX12_init 114 = .ok (.putfield 50, 3) := by decide +kernel
theorem dX12_init_117 : decode cX12_init 117 = .ok (.aload_n 0, 1) := by decide +kernel
theorem dX12_init_118 : decode cX12_init 118 = .ok (.sipush 480, 3) := by decide +kernel
theorem dX12_init_121 : decode cX12_init 121 = .ok (.newarray .int, 2) := by decide +kernel
theorem dX12_init_123 : decode cX12_init 123 = .ok (.putfield 53, 3) := by decide +kernel
theorem dX12_init_126 : decode cX12_init 126 = .ok (.aload_n 0, 1) := by decide +kernel
theorem dX12_init_127 : decode cX12_init 127 = .ok (.sipush 480, 3) := by decide +kernel
theorem dX12_init_130 : decode cX12_init 130 = .ok (.newarray .int, 2) := by decide +kernel
theorem dX12_init_132 : decode cX12_init 132 = .ok (.putfield 56, 3) := by decide +kernel
theorem dX12_init_135 : decode cX12_init 135 = .ok (.aload_n 0, 1) := by decide +kernel
theorem dX12_init_136 : decode cX12_init 136 = .ok (.bipush 50, 2) := by decide +kernel
theorem dX12_init_138 : decode cX12_init 138 = .ok (.newarray .int, 2) := by decide +kernel
theorem dX12_init_140 : decode cX12_init 140 = .ok (.putfield 59, 3) := by decide +kernel
theorem dX12_init_143 : decode cX12_init 143 = .ok (.aload_n 0, 1) := by decide +kernel
theorem dX12_init_144 : decode cX12_init 144 = .ok (.bipush 50, 2) := by decide +kernel
theorem dX12_init_146 : decode cX12_init 146 = .ok (.newarray .boolean, 2) := by decide +kernel
theorem dX12_init_148 : decode cX12_init 148 = .ok (.putfield 62, 3) := by decide +kernel
theorem dX12_init_151 : decode cX12_init 151 = .ok (.aload_n 0, 1) := by decide +kernel
theorem dX12_init_152 : decode cX12_init 152 = .ok (.sipush 150, 3) := by decide +kernel
theorem dX12_init_155 : decode cX12_init 155 = .ok (.newarray .int, 2) := by decide +kernel
theorem dX12_init_157 : decode cX12_init 157 = .ok (.putfield 66, 3) := by decide +kernel
theorem dX12_init_160 : decode cX12_init 160 = .ok (.aload_n 0, 1) := by decide +kernel
theorem dX12_init_161 : decode cX12_init 161 = .ok (.sipush 150, 3) := by decide +kernel
theorem dX12_init_164 : decode cX12_init 164 = .ok (.newarray .int, 2) := by decide +kernel
theorem dX12_init_166 : decode cX12_init 166 = .ok (.putfield 69, 3) := by decide +kernel
theorem dX12_init_169 : decode cX12_init 169 = .ok (.aload_n 0, 1) := by decide +kernel
theorem dX12_init_170 : decode cX12_init 170 = .ok (.sipush 150, 3) := by decide +kernel
theorem dX12_init_173 : decode cX12_init 173 = .ok (.newarray .int, 2) := by decide +kernel
theorem dX12_init_175 : decode cX12_init 175 = .ok (.putfield 72, 3) := by decide +kernel
theorem dX12_init_178 : decode cX12_init 178 = .ok (.aload_n 0, 1) := by decide +kernel
theorem dX12_init_179 : decode cX12_init 179 = .ok (.sipush 150, 3) := by decide +kernel
theorem dX12_init_182 : decode cX12_init 182 = .ok (.newarray .int, 2) := by decide +kernel
theorem dX12_init_184 : decode cX12_init 184 = .ok (.putfield 75, 3) := by decide +kernel
theorem dX12_init_187 : decode cX12_init 187 = .ok (.aload_n 0, 1) := by decide +kernel
theorem dX12_init_188 : decode cX12_init 188 = .ok (.sipush 150, 3) := by decide +kernel
theorem dX12_init_191 : decode cX12_init 191 = .ok (.newarray .int, 2) := by decide +kernel
theorem dX12_init_193 : decode cX12_init 193 = .ok (.putfield 78, 3) := by decide +kernel
theorem dX12_init_196 : decode cX12_init 196 = .ok (.aload_n 0, 1) := by decide +kernel
theorem dX12_init_197 : decode cX12_init 197 = .ok (.sipush 150, 3) := by decide +kernel
theorem dX12_init_200 : decode cX12_init 200 = .ok (.newarray .int, 2) := by decide +kernel
theorem dX12_init_202 : decode cX12_init 202 = .ok (.putfield 81, 3) := by decide +kernel
theorem dX12_init_205 : decode cX12_init 205 = .ok (.aload_n 0, 1) := by decide +kernel
theorem dX12_init_206 : decode cX12_init 206 = .ok (.bipush 88, 2) := by decide +kernel
theorem dX12_init_208 : decode cX12_init 208 = .ok (.newarray .int, 2) := by decide +kernel
theorem dX12_init_210 : decode cX12_init 210 = .ok (.putfield 84, 3) := by decide +kernel
theorem dX12_init_213 : decode cX12_init 213 = .ok (.aload_n 0, 1) := by decide +kernel
theorem dX12_init_214 : decode cX12_init 214 = .ok (.sipush 180, 3) := by decide +kernel
theorem dX12_init_217 : decode cX12_init 217 = .ok (.newarray .int, 2) := by decide +kernel
theorem dX12_init_219 : decode cX12_init 219 = .ok (.putfield 87, 3) := by decide +kernel
theorem dX12_init_222 : decode cX12_init 222 = .ok (.aload_n 0, 1) := by decide +kernel
theorem dX12_init_223 : decode cX12_init 223 = .ok (.sipush 180, 3) := by decide +kernel
theorem dX12_init_226 : decode cX12_init 226 = .ok (.newarray .int, 2) := by decide +kernel
theorem dX12_init_228 : decode cX12_init 228 = .ok (.putfield 90, 3) := by decide +kernel
theorem dX12_init_231 : decode cX12_init 231 = .ok (.aload_n 0, 1) := by decide +kernel
theorem dX12_init_232 : decode cX12_init 232 = .ok (.sipush 180, 3) := by decide +kernel
theorem dX12_init_235 : decode cX12_init 235 = .ok (.newarray .int, 2) := by decide +kernel
theorem dX12_init_237 : decode cX12_init 237 = .ok (.putfield 93, 3) := by decide +kernel
theorem dX12_init_240 : decode cX12_init 240 = .ok (.aload_n 0, 1) := by decide +kernel
theorem dX12_init_241 : decode cX12_init 241 = .ok (.sipush 180, 3) := by decide +kernel
theorem dX12_init_244 : decode cX12_init 244 = .ok (.newarray .int, 2) := by decide +kernel
theorem dX12_init_246 : decode cX12_init 246 = .ok (.putfield 96, 3) := by decide +kernel
theorem dX12_init_249 : decode cX12_init 249 = .ok (.aload_n 0, 1) := by decide +kernel
theorem dX12_init_250 : decode cX12_init 250 = .ok (.sipush 180, 3) := by decide +kernel
theorem dX12_init_253 : decode cX12_init 253 = .ok (.newarray .int, 2) := by decide +kernel
theorem dX12_init_255 : decode cX12_init 255 = .ok (.putfield 99, 3) := by decide +kernel
theorem dX12_init_258 : decode cX12_init 258 = .ok (.aload_n 0, 1) := by decide +kernel
theorem dX12_init_259 : decode cX12_init 259 = .ok (.sipush 180, 3) := by decide +kernel
theorem dX12_init_262 : decode cX12_init 262 = .ok (.newarray .boolean, 2) := by decide +kernel
theorem dX12_init_264 : decode cX12_init 264 = .ok (.putfield 102, 3) := by decide +kernel
theorem dX12_init_267 : decode cX12_init 267 = .ok (.aload_n 0, 1) := by decide +kernel
theorem dX12_init_268 : decode cX12_init 268 = .ok (.sipush 180, 3) := by decide +kernel
theorem dX12_init_271 : decode cX12_init 271 = .ok (.newarray .int, 2) := by decide +kernel
theorem dX12_init_273 : decode cX12_init 273 = .ok (.putfield 105, 3) := by decide +kernel
theorem dX12_init_276 : decode cX12_init 276 = .ok (.aload_n 0, 1) := by decide +kernel
theorem dX12_init_277 : decode cX12_init 277 = .ok (.sipush 3600, 3) := by decide +kernel
theorem dX12_init_280 : decode cX12_init 280 = .ok (.newarray .int, 2) := by decide +kernel
theorem dX12_init_282 : decode cX12_init 282 = .ok (.putfield 108, 3) := by decide +kernel
theorem dX12_init_285 : decode cX12_init 285 = .ok (.aload_n 0, 1) := by decide +kernel
theorem dX12_init_286 : decode cX12_init 286 = .ok (.bipush 16, 2) := by decide +kernel
theorem dX12_init_288 : decode cX12_init 288 = .ok (.newarray .int, 2) := by decide +kernel
theorem dX12_init_290 : decode cX12_init 290 = .ok (.putfield 111, 3) := by decide +kernel
theorem dX12_init_293 : decode cX12_init 293 = .ok (.aload_n 0, 1) := by decide +kernel
theorem dX12_init_294 : decode cX12_init 294 = .ok (.bipush 16, 2) := by decide +kernel
theorem dX12_init_296 : decode cX12_init 296 = .ok (.newarray .int, 2) := by decide +kernel
theorem dX12_init_298 : decode cX12_init 298 = .ok (.putfield 114, 3) := by decide +kernel
theorem dX12_init_301 : decode cX12_init 301 = .ok (.aload_n 0, 1) := by decide +kernel
theorem dX12_init_302 : decode cX12_init 302 = .ok (.bipush 16, 2) := by decide +kernel
theorem dX12_init_304 : decode cX12_init 304 = .ok (.newarray .int, 2) := by decide +kernel
theorem dX12_init_306 : decode cX12_init 306 = .ok (.putfield 117, 3) := by decide +kernel
theorem dX12_init_309 : decode cX12_init 309 = .ok (.aload_n 0, 1) := by decide +kernel
theorem dX12_init_310 : decode cX12_init 310 = .ok (.bipush 16, 2) := by decide +kernel
theorem dX12_init_312 : decode cX12_init 312 = .ok (.newarray .int, 2) := by decide +kernel
theorem dX12_init_314 : decode cX12_init 314 = .ok (.putfield 120, 3) := by decide +kernel
theorem dX12_init_317 : decode cX12_init 317 = .ok (.aload_n 0, 1) := by decide +kernel
theorem dX12_init_318 : decode cX12_init 318 = .ok (.bipush 16, 2) := by decide +kernel
theorem dX12_init_320 : decode cX12_init 320 = .ok (.newarray .int, 2) := by decide +kernel
theorem dX12_init_322 : decode cX12_init 322 = .ok (.putfield 123, 3) := by decide +kernel
theorem dX12_init_325 : decode cX12_init 325 = .ok (.aload_n 0, 1) := by decide +kernel
theorem dX12_init_326 : decode cX12_init 326 = .ok (.bipush 16, 2) := by decide +kernel
theorem dX12_init_328 : decode cX12_init 328 = .ok (.newarray .int, 2) := by decide +kernel
theorem dX12_init_330 : decode cX12_init 330 = .ok (.putfield 126, 3) := by decide +kernel
theorem dX12_init_333 : decode cX12_init 333 = .ok (.aload_n 0, 1) := by decide +kernel
theorem dX12_init_334 : decode cX12_init 334 = .ok (.iconst (-1), 1) := by decide +kernel
theorem dX12_init_335 : decode cX12_init 335 = .ok (.putfield 129, 3) := by decide +kernel
theorem dX12_init_338 : decode cX12_init 338 = .ok (.aload_n 0, 1) := by decide +kernel
theorem dX12_init_339 : decode cX12_init 339 = .ok (.bipush 60, 2) := by decide +kernel
theorem dX12_init_341 : decode cX12_init 341 = .ok (.newarray .int, 2) := by decide +kernel
theorem dX12_init_343 : decode cX12_init 343 = .ok (.putfield 133, 3) := by decide +kernel
theorem dX12_init_346 : decode cX12_init 346 = .ok (.aload_n 0, 1) := by decide +kernel
theorem dX12_init_347 : decode cX12_init 347 = .ok (.bipush 60, 2) := by decide +kernel
theorem dX12_init_349 : decode cX12_init 349 = .ok (.newarray .int, 2) := by decide +kernel
theorem dX12_init_351 : decode cX12_init 351 = .ok (.putfield 136, 3) := by decide +kernel
theorem dX12_init_354 : decode cX12_init 354 = .ok (.aload_n 0, 1) := by decide +kernel
theorem dX12_init_355 : decode cX12_init 355 = .ok (.bipush 60, 2) := by decide +kernel
theorem dX12_init_357 : decode cX12_init 357 = .ok (.newarray .int, 2) := by decide +kernel
theorem dX12_init_359 : decode cX12_init 359 = .ok (.putfield 139, 3) := by decide +kernel
theorem dX12_init_362 : decode cX12_init 362 = .ok (.aload_n 0, 1) := by decide +kernel
theorem dX12_init_363 : decode cX12_init 363 = .ok (.sipush 1200, 3) := by decide +kernel
theorem dX12_init_366 : decode cX12_init 366 = .ok (.newarray .int, 2) := by decide +kernel
theorem dX12_init_368 : decode cX12_init 368 = .ok (.putfield 142, 3) := by decide +kernel
theorem dX12_init_371 : decode cX12_init 371 = .ok (.return_, 1) := by decide +kernel
theorem dX12_in_0 : decode cX12_in 0 = .ok (.lload_n 0, 1) := by decide +kernel
theorem dX12_in_1 : decode cX12_in 1 = .ok (.lload_n 2, 1) := by decide +kernel
theorem dX12_in_2 : decode cX12_in 2 = .ok (.lcmp, 1) := by decide +kernel
theorem dX12_in_3 : decode cX12_in 3 = .ok (.ifCond .lt 14, 3) := by decide +kernel
theorem dX12_in_6 : decode cX12_in 6 = .ok (.lload_n 0, 1) := by decide +kernel
theorem dX12_in_7 : decode cX12_in 7 = .ok (.lload 4, 2) := by decide +kernel
theorem dX12_in_9 : decode cX12_in 9 = .ok (.lcmp, 1) := by decide +kernel
theorem dX12_in_10 : decode cX12_in 10 = .ok (.ifCond .gt 7, 3) := by decide +kernel
theorem dX12_in_13 : decode cX12_in 13 = .ok (.iconst 1, 1) := by decide +kernel
theorem dX12_in_14 : decode cX12_in 14 = .ok (.goto 4, 3) := by decide +kernel
theorem dX12_in_17 : decode cX12_in 17 = .ok (.iconst 0, 1) := by decide +kernel
theorem dX12_in_18 : decode cX12_in 18 = .ok (.ireturn, 1) := by decide +kernel
theorem dX12_part_0 : decode cX12_part 0 = .ok (.iload_n 1, 1) := by decide +kernel
theorem dX12_part_1 : decode cX12_part 1 = .ok (.i2l, 1) := by decide +kernel
theorem dX12_part_2 : decode cX12_part 2 = .ok (.lconst 0, 1) := by decide +kernel
theorem dX12_part_3 : decode cX12_part 3 = .ok (.ldc2_w 145, 3) := by decide +kernel
theorem dX12_part_6 : decode cX12_part 6 = .ok (.invokestatic 147, 3) := by decide +kernel
theorem dX12_part_9 : decode cX12_part 9 = .ok (.ifCond .eq 15, 3) := by decide +kernel
theorem dX12_part_12 : decode cX12_part 12 = .ok (.iload_n 2, 1) := by decide +kernel
theorem dX12_part_13 : decode cX12_part 13 = .ok (.i2l, 1) := by decide +kernel
theorem dX12_part_14 : decode cX12_part 14 = .ok (.lconst 0, 1) := by decide +kernel
theorem dX12_part_15 : decode cX12_part 15 = .ok (.ldc2_w 151, 3) := by decide +kernel
theorem dX12_part_18 : decode cX12_part 18 = .ok (.invokestatic 147, 3) := by decide +kernel
theorem dX12_part_21 : decode cX12_part 21 = .ok (.ifCond .ne 6, 3) := by decide +kernel
theorem dX12_part_24 : decode cX12_part 24 = .ok (.bipush (-102), 2) := by decide +kernel
theorem dX12_part_26 : decode cX12_part 26 = .ok (.ireturn, 1) := by decide +kernel
theorem dX12_part_27 : decode cX12_part 27 = .ok (.aload_n 0, 1) := by decide +kernel
theorem dX12_part_28 : decode cX12_part 28 = .ok (.getfield 153, 3) := by decide +kernel
theorem dX12_part_31 : decode cX12_part 31 = .ok (.bipush 60, 2) := by decide +kernel
theorem dX12_part_33 : decode cX12_part 33 = .ok (.if_icmp .ne 6, 3) := by decide +kernel
theorem dX12_part_36 : decode cX12_part 36 = .ok (.bipush (-104), 2) := by decide +kernel
theorem dX12_part_38 : decode cX12_part 38 = .ok (.ireturn, 1) := by decide +kernel
theorem dX12_part_39 : decode cX12_part 39 = .ok (.aload_n 0, 1) := by decide +kernel
theorem dX12_part_40 : decode cX12_part 40 = .ok (.getfield 7, 3) := by decide +kernel
theorem dX12_part_43 : decode cX12_part 43 = .ok (.aload_n 0, 1) := by decide +kernel
theorem dX12_part_44 : decode cX12_part 44 = .ok (.getfield 153, 3) := by decide +kernel
theorem dX12_part_47 : decode cX12_part 47 = .ok (.iload_n 1, 1) := by decide +kernel
theorem dX12_part_48 : decode cX12_part 48 = .ok (.iastore, 1) := by decide +kernel
theorem dX12_part_49 : decode cX12_part 49 = .ok (.aload_n 0, 1) := by decide +kernel
theorem dX12_part_50 : decode cX12_part 50 = .ok (.getfield 13, 3) := by decide +kernel
theorem dX12_part_53 : decode cX12_part 53 = .ok (.aload_n 0, 1) := by decide +kernel
theorem dX12_part_54 : decode cX12_part 54 = .ok (.getfield 153, 3) := by decide +kernel
theorem dX12_part_57 : decode cX12_part 57 = .ok (.iload_n 2, 1) := by decide +kernel
theorem dX12_part_58 : decode cX12_part 58 = .ok (.iastore, 1) := by decide +kernel
theorem dX12_part_59 : decode cX12_part 59 = .ok (.aload_n 0, 1) := by decide +kernel
theorem dX12_part_60 : decode cX12_part 60 = .ok (.getfield 16, 3) := by decide +kernel
theorem dX12_part_63 : decode cX12_part 63 = .ok (.aload_n 0, 1) := by decide +kernel
theorem dX12_part_64 : decode cX12_part 64 = .ok (.getfield 153, 3) := by decide +kernel
theorem dX12_part_67 : decode cX12_part 67 = .ok (.iconst 0, 1) := by decide +kernel
theorem dX12_part_68 : decode cX12_part 68 = .ok (.iastore, 1) := by decide +kernel
theorem dX12_part_69 : decode cX12_part 69 = .ok (.aload_n 0, 1) := by decide +kernel
theorem dX12_part_70 : decode cX12_part 70 = .ok (.dup, 1) := by decide +kernel
theorem dX12_part_71 : decode cX12_part 71 = .ok (.getfield 153, 3) := by decide +kernel
theorem dX12_part_74 : decode cX12_part 74 = .ok (.iconst 1, 1) := by decide +kernel
theorem dX12_part_75 : decode cX12_part 75 = .ok (.iadd, 1) := by decide +kernel
theorem dX12_part_76 : decode cX12_part 76 = .ok (.putfield 153, 3) := by decide +kernel
theorem dX12_part_79 : decode cX12_part 79 = .ok (.aload_n 0, 1) := by decide +kernel
theorem dX12_part_80 : decode cX12_part 80 = .ok (.getfield 153, 3) := by decide +kernel
theorem dX12_part_83 : decode cX12_part 83 = .ok (.iconst 1, 1) := by decide +kernel
theorem dX12_part_84 : decode cX12_part 84 = .ok (.isub, 1) := by decide +kernel
theorem dX12_part_85 : decode cX12_part 85 = .ok (.ireturn, 1) := by decide +kernel
theorem dX12_noPart_0 : decode cX12_noPart 0 = .ok (.iload_n 1, 1) := by decide +kernel
theorem dX12_noPart_1 : decode cX12_noPart 1 = .ok (.i2l, 1) := by decide +kernel
theorem dX12_noPart_2 : decode cX12_noPart 2 = .ok (.lconst 0, 1) := by decide +kernel
theorem dX12_noPart_3 : decode cX12_noPart 3 = .ok (.aload_n 0, 1) := by decide +kernel
theorem dX12_noPart_4 : decode cX12_noPart 4 = .ok (.getfield 153, 3) := by decide +kernel
theorem dX12_noPart_7 : decode cX12_noPart 7 = .ok (.iconst 1, 1) := by decide +kernel
theorem dX12_noPart_8 : decode cX12_noPart 8 = .ok (.isub, 1) := by decide +kernel
theorem dX12_noPart_9 : decode cX12_noPart 9 = .ok (.i2l, 1) := by decide +kernel
theorem dX12_noPart_10 : decode cX12_noPart 10 = .ok (.invokestatic 147, 3) := by decide +kernel
theorem dX12_noPart_13 : decode cX12_noPart 13 = .ok (.ifCond .ne 7, 3) := by decide +kernel
theorem dX12_noPart_16 : decode cX12_noPart 16 = .ok (.iconst 1, 1) := by decide +kernel
theorem dX12_noPart_17 : decode cX12_noPart 17 = .ok (.goto 4, 3) := by decide +kernel
theorem dX12_noPart_20 : decode cX12_noPart 20 = .ok (.iconst 0, 1) := by decide +kernel
theorem dX12_noPart_21 : decode cX12_noPart 21 = .ok (.ireturn, 1) := by decide +kernel
theorem dX12_state_0 : decode cX12_state 0 = .ok (.aload_n 0, 1) := by decide +kernel
theorem dX12_state_1 : decode cX12_state 1 = .ok (.iload_n 1, 1) := by decide +kernel
theorem dX12_state_2 : decode cX12_state 2 = .ok (.invokevirtual 156, 3) := by decide +kernel
theorem dX12_state_5 : decode cX12_state 5 = .ok (.ifCond .eq 8, 3) := by decide +kernel
theorem dX12_state_8 : decode cX12_state 8 = .ok (.bipush (-101), 2) := by decide +kernel
theorem dX12_state_10 : decode cX12_state 10 = .ok (.goto 9, 3) := by decide +kernel
theorem dX12_state_13 : decode cX12_state 13 = .ok (.aload_n 0, 1) := by decide +kernel
theorem dX12_state_14 : decode cX12_state 14 = .ok (.getfield 16, 3) := by decide +kernel
theorem dX12_state_17 : decode cX12_state 17 = .ok (.iload_n 1, 1) := by decide +kernel
theorem dX12_state_18 : decode cX12_state 18 = .ok (.iaload, 1) := by decide +kernel
theorem dX12_state_19 : decode cX12_state 19 = .ok (.ireturn, 1) := by decide +kernel
theorem dX12_clean_0 : decode cX12_clean 0 = .ok (.iload_n 1, 1) := by decide +kernel
theorem dX12_clean_1 : decode cX12_clean 1 = .ok (.i2l, 1) := by decide +kernel
theorem dX12_clean_2 : decode cX12_clean 2 = .ok (.lconst 0, 1) := by decide +kernel
theorem dX12_clean_3 : decode cX12_clean 3 = .ok (.ldc2_w 160, 3) := by decide +kernel
theorem dX12_clean_6 : decode cX12_clean 6 = .ok (.invokestatic 147, 3) := by decide +kernel
theorem dX12_clean_9 : decode cX12_clean 9 = .ok (.ifCond .ne 6, 3) := by decide +kernel
theorem dX12_clean_12 : decode cX12_clean 12 = .ok (.bipush (-102), 2) := by decide +kernel
theorem dX12_clean_14 : decode cX12_clean 14 = .ok (.ireturn, 1) := by decide +kernel
theorem dX12_clean_15 : decode cX12_clean 15 = .ok (.iload_n 1, 1) := by decide +kernel
theorem dX12_clean_16 : decode cX12_clean 16 = .ok (.aload_n 0, 1) := by decide +kernel
theorem dX12_clean_17 : decode cX12_clean 17 = .ok (.getfield 162, 3) := by decide +kernel
theorem dX12_clean_20 : decode cX12_clean 20 = .ok (.if_icmp .ge 7, 3) := by decide +kernel
theorem dX12_clean_23 : decode cX12_clean 23 = .ok (.iload_n 1, 1) := by decide +kernel
theorem dX12_clean_24 : decode cX12_clean 24 = .ok (.goto 7, 3) := by decide +kernel
theorem dX12_clean_27 : decode cX12_clean 27 = .ok (.aload_n 0, 1) := by decide +kernel
theorem dX12_clean_28 : decode cX12_clean 28 = .ok (.getfield 162, 3) := by decide +kernel
theorem dX12_clean_31 : decode cX12_clean 31 = .ok (.istore_n 2, 1) := by decide +kernel
theorem dX12_clean_32 : decode cX12_clean 32 = .ok (.iconst 0, 1) := by decide +kernel
theorem dX12_clean_33 : decode cX12_clean 33 = .ok (.istore_n 3, 1) := by decide +kernel
theorem dX12_clean_34 : decode cX12_clean 34 = .ok (.iload_n 3, 1) := by decide +kernel
