theorem dX10_take_25 : decode cX10_take 25 = .ok (.aload_n 1, 1) := by decide +kernel
theorem dX10_take_26 : decode cX10_take 26 = .ok (.getfield 15, 3) := by decide +kernel
theorem dX10_take_29 : decode cX10_take 29 = .ok (.iload_n 2, 1) := by decide +kernel
theorem dX10_take_30 : decode cX10_take 30 = .ok (.iaload, 1) := by decide +kernel
theorem dX10_take_31 : decode cX10_take 31 = .ok (.iastore, 1) := by decide +kernel
theorem dX10_take_32 : decode cX10_take 32 = .ok (.aload_n 0, 1) := by decide +kernel
theorem dX10_take_33 : decode cX10_take 33 = .ok (.getfield 18, 3) := by decide +kernel
theorem dX10_take_36 : decode cX10_take 36 = .ok (.iload_n 2, 1) := by decide +kernel
theorem dX10_take_37 : decode cX10_take 37 = .ok (.aload_n 1, 1) := by decide +kernel
theorem dX10_take_38 : decode cX10_take 38 = .ok (.getfield 18, 3) := by decide +kernel
theorem dX10_take_41 : decode cX10_take 41 = .ok (.iload_n 2, 1) := by decide +kernel
theorem dX10_take_42 : decode cX10_take 42 = .ok (.iaload, 1) := by decide +kernel
theorem dX10_take_43 : decode cX10_take 43 = .ok (.iastore, 1) := by decide +kernel
theorem dX10_take_44 : decode cX10_take 44 = .ok (.iinc 2 1, 3) := by decide +kernel
theorem dX10_take_47 : decode cX10_take 47 = .ok (.goto (-45), 3) := by decide +kernel
theorem dX10_take_50 : decode cX10_take 50 = .ok (.aload_n 0, 1) := by decide +kernel
theorem dX10_take_51 : decode cX10_take 51 = .ok (.aload_n 1, 1) := by decide +kernel
theorem dX10_take_52 : decode cX10_take 52 = .ok (.getfield 21, 3) := by decide +kernel
theorem dX10_take_55 : decode cX10_take 55 = .ok (.putfield 21, 3) := by decide +kernel
theorem dX10_take_58 : decode cX10_take 58 = .ok (.aload_n 0, 1) := by decide +kernel
theorem dX10_take_59 : decode cX10_take 59 = .ok (.aload_n 1, 1) := by decide +kernel
theorem dX10_take_60 : decode cX10_take 60 = .ok (.getfield 28, 3) := by decide +kernel
theorem dX10_take_63 : decode cX10_take 63 = .ok (.putfield 28, 3) := by decide +kernel
theorem dX10_take_66 : decode cX10_take 66 = .ok (.aload_n 0, 1) := by decide +kernel
theorem dX10_take_67 : decode cX10_take 67 = .ok (.aload_n 1, 1) := by decide +kernel
theorem dX10_take_68 : decode cX10_take 68 = .ok (.getfield 31, 3) := by decide +kernel
theorem dX10_take_71 : decode cX10_take 71 = .ok (.putfield 31, 3) := by decide +kernel
theorem dX10_take_74 : decode cX10_take 74 = .ok (.aload_n 0, 1) := by decide +kernel
theorem dX10_take_75 : decode cX10_take 75 = .ok (.aload_n 1, 1) := by decide +kernel
theorem dX10_take_76 : decode cX10_take 76 = .ok (.getfield 25, 3) := by decide +kernel
theorem dX10_take_79 : decode cX10_take 79 = .ok (.putfield 25, 3) := by decide +kernel
theorem dX10_take_82 : decode cX10_take 82 = .ok (.return_, 1) := by decide +kernel
theorem dX10_has_0 : decode cX10_has 0 = .ok (.iload_n 1, 1) := by decide +kernel
theorem dX10_has_1 : decode cX10_has 1 = .ok (.ifCond .lt 24, 3) := by decide +kernel
theorem dX10_has_4 : decode cX10_has 4 = .ok (.iload_n 1, 1) := by decide +kernel
theorem dX10_has_5 : decode cX10_has 5 = .ok (.bipush 24, 2) := by decide +kernel
theorem dX10_has_7 : decode cX10_has 7 = .ok (.if_icmp .ge 18, 3) := by decide +kernel
theorem dX10_has_10 : decode cX10_has 10 = .ok (.aload_n 0, 1) := by decide +kernel
theorem dX10_has_11 : decode cX10_has 11 = .ok (.getfield 21, 3) := by decide +kernel
theorem dX10_has_14 : decode cX10_has 14 = .ok (.iconst 1, 1) := by decide +kernel
theorem dX10_has_15 : decode cX10_has 15 = .ok (.iload_n 1, 1) := by decide +kernel
theorem dX10_has_16 : decode cX10_has 16 = .ok (.ishl, 1) := by decide +kernel
theorem dX10_has_17 : decode cX10_has 17 = .ok (.iand, 1) := by decide +kernel
theorem dX10_has_18 : decode cX10_has 18 = .ok (.ifCond .eq 7, 3) := by decide +kernel
theorem dX10_has_21 : decode cX10_has 21 = .ok (.iconst 1, 1) := by decide +kernel
theorem dX10_has_22 : decode cX10_has 22 = .ok (.goto 4, 3) := by decide +kernel
theorem dX10_has_25 : decode cX10_has 25 = .ok (.iconst 0, 1) := by decide +kernel
theorem dX10_has_26 : decode cX10_has 26 = .ok (.ireturn, 1) := by decide +kernel
theorem dX10_hasPlace_0 : decode cX10_hasPlace 0 = .ok (.aload_n 0, 1) := by decide +kernel
theorem dX10_hasPlace_1 : decode cX10_hasPlace 1 = .ok (.iload_n 1, 1) := by decide +kernel
theorem dX10_hasPlace_2 : decode cX10_hasPlace 2 = .ok (.invokevirtual 34, 3) := by decide +kernel
theorem dX10_hasPlace_5 : decode cX10_hasPlace 5 = .ok (.ifCond .eq 16, 3) := by decide +kernel
theorem dX10_hasPlace_8 : decode cX10_hasPlace 8 = .ok (.iload_n 2, 1) := by decide +kernel
theorem dX10_hasPlace_9 : decode cX10_hasPlace 9 = .ok (.ifCond .lt 12, 3) := by decide +kernel
theorem dX10_hasPlace_12 : decode cX10_hasPlace 12 = .ok (.iload_n 2, 1) := by decide +kernel
theorem dX10_hasPlace_13 : decode cX10_hasPlace 13 = .ok (.iconst 4, 1) := by decide +kernel
theorem dX10_hasPlace_14 : decode cX10_hasPlace 14 = .ok (.if_icmp .ge 7, 3) := by decide +kernel
theorem dX10_hasPlace_17 : decode cX10_hasPlace 17 = .ok (.iconst 1, 1) := by decide +kernel
theorem dX10_hasPlace_18 : decode cX10_hasPlace 18 = .ok (.goto 4, 3) := by decide +kernel
theorem dX10_hasPlace_21 : decode cX10_hasPlace 21 = .ok (.iconst 0, 1) := by decide +kernel
theorem dX10_hasPlace_22 : decode cX10_hasPlace 22 = .ok (.ireturn, 1) := by decide +kernel
theorem dX10_isUnbindable_0 : decode cX10_isUnbindable 0 = .ok (.iload_n 1, 1) := by decide +kernel
theorem dX10_isUnbindable_1 : decode cX10_isUnbindable 1 = .ok (.ifCond .lt 24, 3) := by decide +kernel
theorem dX10_isUnbindable_4 : decode cX10_isUnbindable 4 = .ok (.iload_n 1, 1) := by decide +kernel
theorem dX10_isUnbindable_5 : decode cX10_isUnbindable 5 = .ok (.bipush 24, 2) := by decide +kernel
theorem dX10_isUnbindable_7 : decode cX10_isUnbindable 7 = .ok (.if_icmp .ge 18, 3) := by decide +kernel
theorem dX10_isUnbindable_10 : decode cX10_isUnbindable 10 = .ok (.aload_n 0, 1) := by decide +kernel
theorem dX10_isUnbindable_11 : decode cX10_isUnbindable 11 = .ok (.getfield 28, 3) := by decide +kernel
theorem dX10_isUnbindable_14 : decode cX10_isUnbindable 14 = .ok (.iconst 1, 1) := by decide +kernel
theorem dX10_isUnbindable_15 : decode cX10_isUnbindable 15 = .ok (.iload_n 1, 1) := by decide +kernel
theorem dX10_isUnbindable_16 : decode cX10_isUnbindable 16 = .ok (.ishl, 1) := by decide +kernel
theorem dX10_isUnbindable_17 : decode cX10_isUnbindable 17 = .ok (.iand, 1) := by decide +kernel
theorem dX10_isUnbindable_18 : decode cX10_isUnbindable 18 = .ok (.ifCond .eq 7, 3) := by decide +kernel
theorem dX10_isUnbindable_21 : decode cX10_isUnbindable 21 = .ok (.iconst 1, 1) := by decide +kernel
theorem dX10_isUnbindable_22 : decode cX10_isUnbindable 22 = .ok (.goto 4, 3) := by decide +kernel
theorem dX10_isUnbindable_25 : decode cX10_isUnbindable 25 = .ok (.iconst 0, 1) := by decide +kernel
theorem dX10_isUnbindable_26 : decode cX10_isUnbindable 26 = .ok (.ireturn, 1) := by decide +kernel
theorem dX10_size_0 : decode cX10_size 0 = .ok (.aload_n 0, 1) := by decide +kernel
theorem dX10_size_1 : decode cX10_size 1 = .ok (.getfield 21, 3) := by decide +kernel
theorem dX10_size_4 : decode cX10_size 4 = .ok (.invokestatic 38, 3) := by decide +kernel
theorem dX10_size_7 : decode cX10_size 7 = .ok (.ireturn, 1) := by decide +kernel
theorem dX10_parentOf_0 : decode cX10_parentOf 0 = .ok (.iload_n 1, 1) := by decide +kernel
theorem dX10_parentOf_1 : decode cX10_parentOf 1 = .ok (.ifCond .lt 29, 3) := by decide +kernel
theorem dX10_parentOf_4 : decode cX10_parentOf 4 = .ok (.iload_n 1, 1) := by decide +kernel
theorem dX10_parentOf_5 : decode cX10_parentOf 5 = .ok (.bipush 24, 2) := by decide +kernel
theorem dX10_parentOf_7 : decode cX10_parentOf 7 = .ok (.if_icmp .ge 23, 3) := by decide +kernel
theorem dX10_parentOf_10 : decode cX10_parentOf 10 = .ok (.aload_n 0, 1) := by decide +kernel
theorem dX10_parentOf_11 : decode cX10_parentOf 11 = .ok (.getfield 9, 3) := by decide +kernel
theorem dX10_parentOf_14 : decode cX10_parentOf 14 = .ok (.iload_n 1, 1) := by decide +kernel
theorem dX10_parentOf_15 : decode cX10_parentOf 15 = .ok (.iaload, 1) := by decide +kernel
theorem dX10_parentOf_16 : decode cX10_parentOf 16 = .ok (.ifCond .lt 14, 3) := by decide +kernel
theorem dX10_parentOf_19 : decode cX10_parentOf 19 = .ok (.aload_n 0, 1) := by decide +kernel
theorem dX10_parentOf_20 : decode cX10_parentOf 20 = .ok (.getfield 9, 3) := by decide +kernel
theorem dX10_parentOf_23 : decode cX10_parentOf 23 = .ok (.iload_n 1, 1) := by decide +kernel
theorem dX10_parentOf_24 : decode cX10_parentOf 24 = .ok (.iaload, 1) := by decide +kernel
theorem dX10_parentOf_25 : decode cX10_parentOf 25 = .ok (.iconst 4, 1) := by decide +kernel
theorem dX10_parentOf_26 : decode cX10_parentOf 26 = .ok (.idiv, 1) := by decide +kernel
theorem dX10_parentOf_27 : decode cX10_parentOf 27 = .ok (.goto 5, 3) := by decide +kernel
theorem dX10_parentOf_30 : decode cX10_parentOf 30 = .ok (.bipush 24, 2) := by decide +kernel
theorem dX10_parentOf_32 : decode cX10_parentOf 32 = .ok (.ireturn, 1) := by decide +kernel
theorem dX10_dirOf_0 : decode cX10_dirOf 0 = .ok (.iload_n 1, 1) := by decide +kernel
theorem dX10_dirOf_1 : decode cX10_dirOf 1 = .ok (.ifCond .lt 29, 3) := by decide +kernel
theorem dX10_dirOf_4 : decode cX10_dirOf 4 = .ok (.iload_n 1, 1) := by decide +kernel
theorem dX10_dirOf_5 : decode cX10_dirOf 5 = .ok (.bipush 24, 2) := by decide +kernel
theorem dX10_dirOf_7 : decode cX10_dirOf 7 = .ok (.if_icmp .ge 23, 3) := by decide +kernel
theorem dX10_dirOf_10 : decode cX10_dirOf 10 = .ok (.aload_n 0, 1) := by decide +kernel
theorem dX10_dirOf_11 : decode cX10_dirOf 11 = .ok (.getfield 9, 3) := by decide +kernel
theorem dX10_dirOf_14 : decode cX10_dirOf 14 = .ok (.iload_n 1, 1) := by decide +kernel
theorem dX10_dirOf_15 : decode cX10_dirOf 15 = .ok (.iaload, 1) := by decide +kernel
theorem dX10_dirOf_16 : decode cX10_dirOf 16 = .ok (.ifCond .lt 14, 3) := by decide +kernel
theorem dX10_dirOf_19 : decode cX10_dirOf 19 = .ok (.aload_n 0, 1) := by decide +kernel
theorem dX10_dirOf_20 : decode cX10_dirOf 20 = .ok (.getfield 9, 3) := by decide +kernel
theorem dX10_dirOf_23 : decode cX10_dirOf 23 = .ok (.iload_n 1, 1) := by decide +kernel
theorem dX10_dirOf_24 : decode cX10_dirOf 24 = .ok (.iaload, 1) := by decide +kernel
theorem dX10_dirOf_25 : decode cX10_dirOf 25 = .ok (.iconst 4, 1) := by decide +kernel
theorem dX10_dirOf_26 : decode cX10_dirOf 26 = .ok (.irem, 1) := by decide +kernel
theorem dX10_dirOf_27 : decode cX10_dirOf 27 = .ok (.goto 4, 3) := by decide +kernel
theorem dX10_dirOf_30 : decode cX10_dirOf 30 = .ok (.iconst 4, 1) := by decide +kernel
theorem dX10_dirOf_31 : decode cX10_dirOf 31 = .ok (.ireturn, 1) := by decide +kernel
theorem dX10_groupOf_0 : decode cX10_groupOf 0 = .ok (.iload_n 1, 1) := by decide +kernel
theorem dX10_groupOf_1 : decode cX10_groupOf 1 = .ok (.ifCond .lt 18, 3) := by decide +kernel
theorem dX10_groupOf_4 : decode cX10_groupOf 4 = .ok (.iload_n 1, 1) := by decide +kernel
theorem dX10_groupOf_5 : decode cX10_groupOf 5 = .ok (.bipush 24, 2) := by decide +kernel
theorem dX10_groupOf_7 : decode cX10_groupOf 7 = .ok (.if_icmp .ge 12, 3) := by decide +kernel
theorem dX10_groupOf_10 : decode cX10_groupOf 10 = .ok (.aload_n 0, 1) := by decide +kernel
theorem dX10_groupOf_11 : decode cX10_groupOf 11 = .ok (.getfield 15, 3) := by decide +kernel
theorem dX10_groupOf_14 : decode cX10_groupOf 14 = .ok (.iload_n 1, 1) := by decide +kernel
theorem dX10_groupOf_15 : decode cX10_groupOf 15 = .ok (.iaload, 1) := by decide +kernel
theorem dX10_groupOf_16 : decode cX10_groupOf 16 = .ok (.goto 4, 3) := by decide +kernel
theorem dX10_groupOf_19 : decode cX10_groupOf 19 = .ok (.iconst 0, 1) := by decide +kernel
theorem dX10_groupOf_20 : decode cX10_groupOf 20 = .ok (.ireturn, 1) := by decide +kernel
theorem dX10_masterOf_0 : decode cX10_masterOf 0 = .ok (.iload_n 1, 1) := by decide +kernel
theorem dX10_masterOf_1 : decode cX10_masterOf 1 = .ok (.ifCond .lt 18, 3) := by decide +kernel
theorem dX10_masterOf_4 : decode cX10_masterOf 4 = .ok (.iload_n 1, 1) := by decide +kernel
theorem dX10_masterOf_5 : decode cX10_masterOf 5 = .ok (.bipush 24, 2) := by decide +kernel
theorem dX10_masterOf_7 : decode cX10_masterOf 7 = .ok (.if_icmp .ge 12, 3) := by decide +kernel
theorem dX10_masterOf_10 : decode cX10_masterOf 10 = .ok (.aload_n 0, 1) := by decide +kernel
theorem dX10_masterOf_11 : decode cX10_masterOf 11 = .ok (.getfield 18, 3) := by decide +kernel
theorem dX10_masterOf_14 : decode cX10_masterOf 14 = .ok (.iload_n 1, 1) := by decide +kernel
theorem dX10_masterOf_15 : decode cX10_masterOf 15 = .ok (.iaload, 1) := by decide +kernel
theorem dX10_masterOf_16 : decode cX10_masterOf 16 = .ok (.goto 4, 3) := by decide +kernel
theorem dX10_masterOf_19 : decode cX10_masterOf 19 = .ok (.iconst 0, 1) := by decide +kernel
theorem dX10_masterOf_20 : decode cX10_masterOf 20 = .ok (.ireturn, 1) := by decide +kernel
theorem dX10_kindOf_0 : decode cX10_kindOf 0 = .ok (.aload_n 0, 1) := by decide +kernel
theorem dX10_kindOf_1 : decode cX10_kindOf 1 = .ok (.iload_n 1, 1) := by decide +kernel
theorem dX10_kindOf_2 : decode cX10_kindOf 2 = .ok (.invokevirtual 34, 3) := by decide +kernel
theorem dX10_kindOf_5 : decode cX10_kindOf 5 = .ok (.ifCond .ne 5, 3) := by decide +kernel
theorem dX10_kindOf_8 : decode cX10_kindOf 8 = .ok (.iconst 0, 1) := by decide +kernel
theorem dX10_kindOf_9 : decode cX10_kindOf 9 = .ok (.ireturn, 1) := by decide +kernel
theorem dX10_kindOf_10 : decode cX10_kindOf 10 = .ok (.aload_n 0, 1) := by decide +kernel
theorem dX10_kindOf_11 : decode cX10_kindOf 11 = .ok (.getfield 15, 3) := by decide +kernel
theorem dX10_kindOf_14 : decode cX10_kindOf 14 = .ok (.iload_n 1, 1) := by decide +kernel
theorem dX10_kindOf_15 : decode cX10_kindOf 15 = .ok (.iaload, 1) := by decide +kernel
theorem dX10_kindOf_16 : decode cX10_kindOf 16 = .ok (.ifCond .eq 18, 3) := by decide +kernel
theorem dX10_kindOf_19 : decode cX10_kindOf 19 = .ok (.aload_n 0, 1) := by decide +kernel
theorem dX10_kindOf_20 : decode cX10_kindOf 20 = .ok (.getfield 18, 3) := by decide +kernel
theorem dX10_kindOf_23 : decode cX10_kindOf 23 = .ok (.iload_n 1, 1) := by decide +kernel
theorem dX10_kindOf_24 : decode cX10_kindOf 24 = .ok (.iaload, 1) := by decide +kernel
theorem dX10_kindOf_25 : decode cX10_kindOf 25 = .ok (.ifCond .eq 7, 3) := by decide +kernel
theorem dX10_kindOf_28 : decode cX10_kindOf 28 = .ok (.iconst 4, 1) := by decide +kernel
theorem dX10_kindOf_29 : decode cX10_kindOf 29 = .ok (.goto 4, 3) := by decide +kernel
theorem dX10_kindOf_32 : decode cX10_kindOf 32 = .ok (.iconst 1, 1) := by decide +kernel
theorem dX10_kindOf_33 : decode cX10_kindOf 33 = .ok (.ireturn, 1) := by decide +kernel
theorem dX10_kindOf_34 : decode cX10_kindOf 34 = .ok (.aload_n 0, 1) := by decide +kernel
theorem dX10_kindOf_35 : decode cX10_kindOf 35 = .ok (.getfield 18, 3) := by decide +kernel
theorem dX10_kindOf_38 : decode cX10_kindOf 38 = .ok (.iload_n 1, 1) := by decide +kernel
theorem dX10_kindOf_39 : decode cX10_kindOf 39 = .ok (.iaload, 1) := by decide +kernel
theorem dX10_kindOf_40 : decode cX10_kindOf 40 = .ok (.ifCond .eq 5, 3) := by decide +kernel
theorem dX10_kindOf_43 : decode cX10_kindOf 43 = .ok (.iconst 2, 1) := by decide +kernel
theorem dX10_kindOf_44 : decode cX10_kindOf 44 = .ok (.ireturn, 1) := by decide +kernel
theorem dX10_kindOf_45 : decode cX10_kindOf 45 = .ok (.aload_n 0, 1) := by decide +kernel
theorem dX10_kindOf_46 : decode cX10_kindOf 46 = .ok (.getfield 28, 3) := by decide +kernel
theorem dX10_kindOf_49 : decode cX10_kindOf 49 = .ok (.iconst 1, 1) := by decide +kernel
theorem dX10_kindOf_50 : decode cX10_kindOf 50 = .ok (.iload_n 1, 1) := by decide +kernel
theorem dX10_kindOf_51 : decode cX10_kindOf 51 = .ok (.ishl, 1) := by decide +kernel
theorem dX10_kindOf_52 : decode cX10_kindOf 52 = .ok (.iand, 1) := by decide +kernel
theorem dX10_kindOf_53 : decode cX10_kindOf 53 = .ok (.ifCond .eq 7, 3) := by decide +kernel
theorem dX10_kindOf_56 : decode cX10_kindOf 56 = .ok (.iconst 3, 1) := by decide +kernel
theorem dX10_kindOf_57 : decode cX10_kindOf 57 = .ok (.goto 4, 3) := by decide +kernel
theorem dX10_kindOf_60 : decode cX10_kindOf 60 = .ok (.iconst 0, 1) := by decide +kernel
theorem dX10_kindOf_61 : decode cX10_kindOf 61 = .ok (.ireturn, 1) := by decide +kernel
theorem dX10_mountAt_0 : decode cX10_mountAt 0 = .ok (.iconst 4, 1) := by decide +kernel
theorem dX10_mountAt_1 : decode cX10_mountAt 1 = .ok (.iload_n 1, 1) := by decide +kernel
theorem dX10_mountAt_2 : decode cX10_mountAt 2 = .ok (.imul, 1) := by decide +kernel
theorem dX10_mountAt_3 : decode cX10_mountAt 3 = .ok (.iload_n 2, 1) := by decide +kernel
theorem dX10_mountAt_4 : decode cX10_mountAt 4 = .ok (.iadd, 1) := by decide +kernel
theorem dX10_mountAt_5 : decode cX10_mountAt 5 = .ok (.istore_n 3, 1) := by decide +kernel
theorem dX10_mountAt_6 : decode cX10_mountAt 6 = .ok (.iconst 0, 1) := by decide +kernel
theorem dX10_mountAt_7 : decode cX10_mountAt 7 = .ok (.istore 4, 2) := by decide +kernel
theorem dX10_mountAt_9 : decode cX10_mountAt 9 = .ok (.iload 4, 2) := by decide +kernel
theorem dX10_mountAt_11 : decode cX10_mountAt 11 = .ok (.bipush 24, 2) := by decide +kernel
theorem dX10_mountAt_13 : decode cX10_mountAt 13 = .ok (.if_icmp .ge 27, 3) := by decide +kernel
theorem dX10_mountAt_16 : decode cX10_mountAt 16 = .ok (.iload_n 3, 1) := by decide +kernel
theorem dX10_mountAt_17 : decode cX10_mountAt 17 = .ok (.ifCond .lt 23, 3) := by decide +kernel
theorem dX10_mountAt_20 : decode cX10_mountAt 20 = .ok (.aload_n 0, 1) := by decide +kernel
theorem dX10_mountAt_21 : decode cX10_mountAt 21 = .ok (.getfield 9, 3) := by decide +kernel
theorem dX10_mountAt_24 : decode cX10_mountAt 24 = .ok (.iload 4, 2) := by decide +kernel
theorem dX10_mountAt_26 : decode cX10_mountAt 26 = .ok (.iaload, 1) := by decide +kernel
theorem dX10_mountAt_27 : decode cX10_mountAt 27 = .ok (.iload_n 3, 1) := by decide +kernel
theorem dX10_mountAt_28 : decode cX10_mountAt 28 = .ok (.if_icmp .ne 6, 3) := by decide +kernel
theorem dX10_mountAt_31 : decode cX10_mountAt 31 = .ok (.iload 4, 2) := by decide +kernel
theorem dX10_mountAt_33 : decode cX10_mountAt 33 = .ok (.ireturn, 1) := by decide +kernel
theorem dX10_mountAt_34 : decode cX10_mountAt 34 = .ok (.iinc 4 1, 3) := by decide +kernel
theorem dX10_mountAt_37 : decode cX10_mountAt 37 = .ok (.goto (-28), 3) := by decide +kernel
theorem dX10_mountAt_40 : decode cX10_mountAt 40 = .ok (.bipush 24, 2) := by decide +kernel
theorem dX10_mountAt_42 : decode cX10_mountAt 42 = .ok (.ireturn, 1) := by decide +kernel
theorem dX10_takenAt_0 : decode cX10_takenAt 0 = .ok (.iconst 0, 1) := by decide +kernel
theorem dX10_takenAt_1 : decode cX10_takenAt 1 = .ok (.istore_n 2, 1) := by decide +kernel
theorem dX10_takenAt_2 : decode cX10_takenAt 2 = .ok (.iconst 0, 1) := by decide +kernel
theorem dX10_takenAt_3 : decode cX10_takenAt 3 = .ok (.istore_n 3, 1) := by decide +kernel
theorem dX10_takenAt_4 : decode cX10_takenAt 4 = .ok (.iload_n 3, 1) := by decide +kernel
theorem dX10_takenAt_5 : decode cX10_takenAt 5 = .ok (.bipush 24, 2) := by decide +kernel
theorem dX10_takenAt_7 : decode cX10_takenAt 7 = .ok (.if_icmp .ge 43, 3) := by decide +kernel
theorem dX10_takenAt_10 : decode cX10_takenAt 10 = .ok (.aload_n 0, 1) := by decide +kernel
theorem dX10_takenAt_11 : decode cX10_takenAt 11 = .ok (.getfield 9, 3) := by decide +kernel
theorem dX10_takenAt_14 : decode cX10_takenAt 14 = .ok (.iload_n 3, 1) := by decide +kernel
theorem dX10_takenAt_15 : decode cX10_takenAt 15 = .ok (.iaload, 1) := by decide +kernel
theorem dX10_takenAt_16 : decode cX10_takenAt 16 = .ok (.ifCond .lt 28, 3) := by decide +kernel
theorem dX10_takenAt_19 : decode cX10_takenAt 19 = .ok (.aload_n 0, 1) := by decide +kernel
theorem dX10_takenAt_20 : decode cX10_takenAt 20 = .ok (.getfield 9, 3) := by decide +kernel
theorem dX10_takenAt_23 : decode cX10_takenAt 23 = .ok (.iload_n 3, 1) := by decide +kernel
theorem dX10_takenAt_24 : decode cX10_takenAt 24 = .ok (.iaload, 1) := by decide +kernel
theorem dX10_takenAt_25 : decode cX10_takenAt 25 = .ok (.iconst 4, 1) := by decide +kernel
theorem dX10_takenAt_26 : decode cX10_takenAt 26 = .ok (.irem, 1) := by decide +kernel
theorem dX10_takenAt_27 : decode cX10_takenAt 27 = .ok (.iload_n 1, 1) := by decide +kernel
theorem dX10_takenAt_28 : decode cX10_takenAt 28 = .ok (.if_icmp .ne 16, 3) := by decide +kernel
theorem dX10_takenAt_31 : decode cX10_takenAt 31 = .ok (.iload_n 2, 1) := by decide +kernel
theorem dX10_takenAt_32 : decode cX10_takenAt 32 = .ok (.iconst 1, 1) := by decide +kernel
theorem dX10_takenAt_33 : decode cX10_takenAt 33 = .ok (.aload_n 0, 1) := by decide +kernel
theorem dX10_takenAt_34 : decode cX10_takenAt 34 = .ok (.getfield 9, 3) := by decide +kernel
theorem dX10_takenAt_37 : decode cX10_takenAt 37 = .ok (.iload_n 3, 1) := by decide +kernel
theorem dX10_takenAt_38 : decode cX10_takenAt 38 = .ok (.iaload, 1) := by decide +kernel
theorem dX10_takenAt_39 : decode cX10_takenAt 39 = .ok (.iconst 4, 1) := by decide +kernel
theorem dX10_takenAt_40 : decode cX10_takenAt 40 = .ok (.idiv, 1) := by decide +kernel
theorem dX10_takenAt_41 : decode cX10_takenAt 41 = .ok (.ishl, 1) := by decide +kernel
theorem dX10_takenAt_42 : decode cX10_takenAt 42 = .ok (.ior, 1) := by decide +kernel
theorem dX10_takenAt_43 : decode cX10_takenAt 43 = .ok (.istore_n 2, 1) := by decide +kernel
theorem dX10_takenAt_44 : decode cX10_takenAt 44 = .ok (.iinc 3 1, 3) := by decide +kernel
theorem dX10_takenAt_47 : decode cX10_takenAt 47 = .ok (.goto (-43), 3) := by decide +kernel
theorem dX10_takenAt_50 : decode cX10_takenAt 50 = .ok (.iload_n 2, 1) := by decide +kernel
theorem dX10_takenAt_51 : decode cX10_takenAt 51 = .ok (.ireturn, 1) := by decide +kernel
theorem dX10_childrenOf_0 : decode cX10_childrenOf 0 = .ok (.iconst 0, 1) := by decide +kernel
theorem dX10_childrenOf_1 : decode cX10_childrenOf 1 = .ok (.istore_n 2, 1) := by decide +kernel
theorem dX10_childrenOf_2 : decode cX10_childrenOf 2 = .ok (.iconst 0, 1) := by decide +kernel
theorem dX10_childrenOf_3 : decode cX10_childrenOf 3 = .ok (.istore_n 3, 1) := by decide +kernel
theorem dX10_childrenOf_4 : decode cX10_childrenOf 4 = .ok (.iload_n 3, 1) := by decide +kernel
theorem dX10_childrenOf_5 : decode cX10_childrenOf 5 = .ok (.bipush 24, 2) := by decide +kernel
theorem dX10_childrenOf_7 : decode cX10_childrenOf 7 = .ok (.if_icmp .ge 24, 3) := by decide +kernel
theorem dX10_childrenOf_10 : decode cX10_childrenOf 10 = .ok (.aload_n 0, 1) := by decide +kernel
theorem dX10_childrenOf_11 : decode cX10_childrenOf 11 = .ok (.iload_n 3, 1) := by decide +kernel
theorem dX10_childrenOf_12 : decode cX10_childrenOf 12 = .ok (.invokevirtual 44, 3) := by decide +kernel
theorem dX10_childrenOf_15 : decode cX10_childrenOf 15 = .ok (.iload_n 1, 1) := by decide +kernel
theorem dX10_childrenOf_16 : decode cX10_childrenOf 16 = .ok (.if_icmp .ne 9, 3) := by decide +kernel
theorem dX10_childrenOf_19 : decode cX10_childrenOf 19 = .ok (.iload_n 2, 1) := by decide +kernel
theorem dX10_childrenOf_20 : decode cX10_childrenOf 20 = .ok (.iconst 1, 1) := by decide +kernel
theorem dX10_childrenOf_21 : decode cX10_childrenOf 21 = .ok (.iload_n 3, 1) := by decide +kernel
theorem dX10_childrenOf_22 : decode cX10_childrenOf 22 = .ok (.ishl, 1) := by decide +kernel
theorem dX10_childrenOf_23 : decode cX10_childrenOf 23 = .ok (.ior, 1) := by decide +kernel
theorem dX10_childrenOf_24 : decode cX10_childrenOf 24 = .ok (.istore_n 2, 1) := by decide +kernel
theorem dX10_childrenOf_25 : decode cX10_childrenOf 25 = .ok (.iinc 3 1, 3) := by decide +kernel
theorem dX10_childrenOf_28 : decode cX10_childrenOf 28 = .ok (.goto (-24), 3) := by decide +kernel
theorem dX10_childrenOf_31 : decode cX10_childrenOf 31 = .ok (.iload_n 2, 1) := by decide +kernel
theorem dX10_childrenOf_32 : decode cX10_childrenOf 32 = .ok (.ireturn, 1) := by decide +kernel
theorem dX10_stepsTo_0 : decode cX10_stepsTo 0 = .ok (.iconst 0, 1) := by decide +kernel
theorem dX10_stepsTo_1 : decode cX10_stepsTo 1 = .ok (.istore_n 2, 1) := by decide +kernel
theorem dX10_stepsTo_2 : decode cX10_stepsTo 2 = .ok (.aload_n 0, 1) := by decide +kernel
theorem dX10_stepsTo_3 : decode cX10_stepsTo 3 = .ok (.iload_n 1, 1) := by decide +kernel
theorem dX10_stepsTo_4 : decode cX10_stepsTo 4 = .ok (.invokevirtual 44, 3) := by decide +kernel
theorem dX10_stepsTo_7 : decode cX10_stepsTo 7 = .ok (.istore_n 3, 1) := by decide +kernel
theorem dX10_stepsTo_8 : decode cX10_stepsTo 8 = .ok (.iconst 0, 1) := by decide +kernel
theorem dX10_stepsTo_9 : decode cX10_stepsTo 9 = .ok (.istore 4, 2) := by decide +kernel
theorem dX10_stepsTo_11 : decode cX10_stepsTo 11 = .ok (.iload 4, 2) := by decide +kernel
theorem dX10_stepsTo_13 : decode cX10_stepsTo 13 = .ok (.bipush 24, 2) := by decide +kernel
theorem dX10_stepsTo_15 : decode cX10_stepsTo 15 = .ok (.if_icmp .ge 24, 3) := by decide +kernel
theorem dX10_stepsTo_18 : decode cX10_stepsTo 18 = .ok (.iload_n 3, 1) := by decide +kernel
theorem dX10_stepsTo_19 : decode cX10_stepsTo 19 = .ok (.bipush 24, 2) := by decide +kernel
theorem dX10_stepsTo_21 : decode cX10_stepsTo 21 = .ok (.if_icmp .eq 18, 3) := by decide +kernel
theorem dX10_stepsTo_24 : decode cX10_stepsTo 24 = .ok (.iinc 2 1, 3) := by decide +kernel
theorem dX10_stepsTo_27 : decode cX10_stepsTo 27 = .ok (.aload_n 0, 1) := by decide +kernel
theorem dX10_stepsTo_28 : decode cX10_stepsTo 28 = .ok (.iload_n 3, 1) := by decide +kernel
theorem dX10_stepsTo_29 : decode cX10_stepsTo 29 = .ok (.invokevirtual 44, 3) := by decide +kernel
theorem dX10_stepsTo_32 : decode cX10_stepsTo 32 = .ok (.istore_n 3, 1) := by decide +kernel
theorem dX10_stepsTo_33 : decode cX10_stepsTo 33 = .ok (.iinc 4 1, 3) := by decide +kernel
theorem dX10_stepsTo_36 : decode cX10_stepsTo 36 = .ok (.goto (-25), 3) := by decide +kernel
theorem dX10_stepsTo_39 : decode cX10_stepsTo 39 = .ok (.iload_n 2, 1) := by decide +kernel
theorem dX10_stepsTo_40 : decode cX10_stepsTo 40 = .ok (.ireturn, 1) := by decide +kernel
theorem dX10_isIn_0 : decode cX10_isIn 0 = .ok (.aload_n 0, 1) := by decide +kernel
theorem dX10_isIn_1 : decode cX10_isIn 1 = .ok (.iload_n 1, 1) := by decide +kernel
theorem dX10_isIn_2 : decode cX10_isIn 2 = .ok (.invokevirtual 44, 3) := by decide +kernel
theorem dX10_isIn_5 : decode cX10_isIn 5 = .ok (.istore_n 3, 1) := by decide +kernel
theorem dX10_isIn_6 : decode cX10_isIn 6 = .ok (.iconst 0, 1) := by decide +kernel
theorem dX10_isIn_7 : decode cX10_isIn 7 = .ok (.istore 4, 2) := by decide +kernel
theorem dX10_isIn_9 : decode cX10_isIn 9 = .ok (.iload 4, 2) := by decide +kernel
theorem dX10_isIn_11 : decode cX10_isIn 11 = .ok (.bipush 24, 2) := by decide +kernel
theorem dX10_isIn_13 : decode cX10_isIn 13 = .ok (.if_icmp .ge 28, 3) := by decide +kernel
theorem dX10_isIn_16 : decode cX10_isIn 16 = .ok (.iload_n 3, 1) := by decide +kernel
theorem dX10_isIn_17 : decode cX10_isIn 17 = .ok (.bipush 24, 2) := by decide +kernel
theorem dX10_isIn_19 : decode cX10_isIn 19 = .ok (.if_icmp .eq 22, 3) := by decide +kernel
theorem dX10_isIn_22 : decode cX10_isIn 22 = .ok (.iload_n 3, 1) := by decide +kernel
theorem dX10_isIn_23 : decode cX10_isIn 23 = .ok (.iload_n 2, 1) := by decide +kernel
theorem dX10_isIn_24 : decode cX10_isIn 24 = .ok (.if_icmp .ne 5, 3) := by decide +kernel
theorem dX10_isIn_27 : decode cX10_isIn 27 = .ok (.iconst 1, 1) := by decide +kernel
theorem dX10_isIn_28 : decode cX10_isIn 28 = .ok (.ireturn, 1) := by decide +kernel
theorem dX10_isIn_29 : decode cX10_isIn 29 = .ok (.aload_n 0, 1) := by decide +kernel
theorem dX10_isIn_30 : decode cX10_isIn 30 = .ok (.iload_n 3, 1) := by decide +kernel
theorem dX10_isIn_31 : decode cX10_isIn 31 = .ok (.invokevirtual 44, 3) := by decide +kernel
theorem dX10_isIn_34 : decode cX10_isIn 34 = .ok (.istore_n 3, 1) := by decide +kernel
theorem dX10_isIn_35 : decode cX10_isIn 35 = .ok (.iinc 4 1, 3) := by decide +kernel
theorem dX10_isIn_38 : decode cX10_isIn 38 = .ok (.goto (-29), 3) := by decide +kernel
theorem dX10_isIn_41 : decode cX10_isIn 41 = .ok (.iconst 0, 1) := by decide +kernel
theorem dX10_isIn_42 : decode cX10_isIn 42 = .ok (.ireturn, 1) := by decide +kernel
theorem dX10_allIn_0 : decode cX10_allIn 0 = .ok (.iconst 0, 1) := by decide +kernel
theorem dX10_allIn_1 : decode cX10_allIn 1 = .ok (.istore_n 2, 1) := by decide +kernel
theorem dX10_allIn_2 : decode cX10_allIn 2 = .ok (.iconst 0, 1) := by decide +kernel
theorem dX10_allIn_3 : decode cX10_allIn 3 = .ok (.istore_n 3, 1) := by decide +kernel
theorem dX10_allIn_4 : decode cX10_allIn 4 = .ok (.iload_n 3, 1) := by decide +kernel
theorem dX10_allIn_5 : decode cX10_allIn 5 = .ok (.bipush 24, 2) := by decide +kernel
theorem dX10_allIn_7 : decode cX10_allIn 7 = .ok (.if_icmp .ge 24, 3) := by decide +kernel
theorem dX10_allIn_10 : decode cX10_allIn 10 = .ok (.aload_n 0, 1) := by decide +kernel
theorem dX10_allIn_11 : decode cX10_allIn 11 = .ok (.iload_n 3, 1) := by decide +kernel
theorem dX10_allIn_12 : decode cX10_allIn 12 = .ok (.iload_n 1, 1) := by decide +kernel
theorem dX10_allIn_13 : decode cX10_allIn 13 = .ok (.invokevirtual 47, 3) := by decide +kernel
theorem dX10_allIn_16 : decode cX10_allIn 16 = .ok (.ifCond .eq 9, 3) := by decide +kernel
theorem dX10_allIn_19 : decode cX10_allIn 19 = .ok (.iload_n 2, 1) := by decide +kernel
theorem dX10_allIn_20 : decode cX10_allIn 20 = .ok (.iconst 1, 1) := by decide +kernel
theorem dX10_allIn_21 : decode cX10_allIn 21 = .ok (.iload_n 3, 1) := by decide +kernel
theorem dX10_allIn_22 : decode cX10_allIn 22 = .ok (.ishl, 1) := by decide +kernel
theorem dX10_allIn_23 : decode cX10_allIn 23 = .ok (.ior, 1) := by decide +kernel
theorem dX10_allIn_24 : decode cX10_allIn 24 = .ok (.istore_n 2, 1) := by decide +kernel
theorem dX10_allIn_25 : decode cX10_allIn 25 = .ok (.iinc 3 1, 3) := by decide +kernel
theorem dX10_allIn_28 : decode cX10_allIn 28 = .ok (.goto (-24), 3) := by decide +kernel
theorem dX10_allIn_31 : decode cX10_allIn 31 = .ok (.iload_n 2, 1) := by decide +kernel
theorem dX10_allIn_32 : decode cX10_allIn 32 = .ok (.ireturn, 1) := by decide +kernel
theorem dX10_withGroup_0 : decode cX10_withGroup 0 = .ok (.iload_n 1, 1) := by decide +kernel
theorem dX10_withGroup_1 : decode cX10_withGroup 1 = .ok (.ifCond .ne 7, 3) := by decide +kernel
theorem dX10_withGroup_4 : decode cX10_withGroup 4 = .ok (.iconst 0, 1) := by decide +kernel
theorem dX10_withGroup_5 : decode cX10_withGroup 5 = .ok (.goto 11, 3) := by decide +kernel
theorem dX10_withGroup_8 : decode cX10_withGroup 8 = .ok (.aload_n 0, 1) := by decide +kernel
theorem dX10_withGroup_9 : decode cX10_withGroup 9 = .ok (.getfield 15, 3) := by decide +kernel
theorem dX10_withGroup_12 : decode cX10_withGroup 12 = .ok (.iload_n 1, 1) := by decide +kernel
theorem dX10_withGroup_13 : decode cX10_withGroup 13 = .ok (.invokestatic 51, 3) := by decide +kernel
theorem dX10_withGroup_16 : decode cX10_withGroup 16 = .ok (.ireturn, 1) := by decide +kernel
theorem dX10_withMaster_0 : decode cX10_withMaster 0 = .ok (.iload_n 1, 1) := by decide +kernel
theorem dX10_withMaster_1 : decode cX10_withMaster 1 = .ok (.ifCond .ne 7, 3) := by decide +kernel
theorem dX10_withMaster_4 : decode cX10_withMaster 4 = .ok (.iconst 0, 1) := by decide +kernel
theorem dX10_withMaster_5 : decode cX10_withMaster 5 = .ok (.goto 11, 3) := by decide +kernel
theorem dX10_withMaster_8 : decode cX10_withMaster 8 = .ok (.aload_n 0, 1) := by decide +kernel
theorem dX10_withMaster_9 : decode cX10_withMaster 9 = .ok (.getfield 18, 3) := by decide +kernel
theorem dX10_withMaster_12 : decode cX10_withMaster 12 = .ok (.iload_n 1, 1) := by decide +kernel
theorem dX10_withMaster_13 : decode cX10_withMaster 13 = .ok (.invokestatic 51, 3) := by decide +kernel
theorem dX10_withMaster_16 : decode cX10_withMaster 16 = .ok (.ireturn, 1) := by decide +kernel
theorem dX10_withAnyGroup_0 : decode cX10_withAnyGroup 0 = .ok (.aload_n 0, 1) := by decide +kernel
theorem dX10_withAnyGroup_1 : decode cX10_withAnyGroup 1 = .ok (.getfield 21, 3) := by decide +kernel
theorem dX10_withAnyGroup_4 : decode cX10_withAnyGroup 4 = .ok (.aload_n 0, 1) := by decide +kernel
theorem dX10_withAnyGroup_5 : decode cX10_withAnyGroup 5 = .ok (.getfield 15, 3) := by decide +kernel
theorem dX10_withAnyGroup_8 : decode cX10_withAnyGroup 8 = .ok (.iconst 0, 1) := by decide +kernel
theorem dX10_withAnyGroup_9 : decode cX10_withAnyGroup 9 = .ok (.invokestatic 51, 3) := by decide +kernel
theorem dX10_withAnyGroup_12 : decode cX10_withAnyGroup 12 = .ok (.iconst (-1), 1) := by decide +kernel
theorem dX10_withAnyGroup_13 : decode cX10_withAnyGroup 13 = .ok (.ixor, 1) := by decide +kernel
theorem dX10_withAnyGroup_14 : decode cX10_withAnyGroup 14 = .ok (.iand, 1) := by decide +kernel
theorem dX10_withAnyGroup_15 : decode cX10_withAnyGroup 15 = .ok (.ireturn, 1) := by decide +kernel
theorem dX10_withAnyMaster_0 : decode cX10_withAnyMaster 0 = .ok (.aload_n 0, 1) := by decide +kernel
theorem dX10_withAnyMaster_1 : decode cX10_withAnyMaster 1 = .ok (.getfield 21, 3) := by decide +kernel
theorem dX10_withAnyMaster_4 : decode cX10_withAnyMaster 4 = .ok (.aload_n 0, 1) := by decide +kernel
theorem dX10_withAnyMaster_5 : decode cX10_withAnyMaster 5 = .ok (.getfield 18, 3) := by decide +kernel
theorem dX10_withAnyMaster_8 : decode cX10_withAnyMaster 8 = .ok (.iconst 0, 1) := by decide +kernel
theorem dX10_withAnyMaster_9 : decode cX10_withAnyMaster 9 = .ok (.invokestatic 51, 3) := by decide +kernel
theorem dX10_withAnyMaster_12 : decode cX10_withAnyMaster 12 = .ok (.iconst (-1), 1) := by decide +kernel
theorem dX10_withAnyMaster_13 : decode cX10_withAnyMaster 13 = .ok (.ixor, 1) := by decide +kernel
theorem dX10_withAnyMaster_14 : decode cX10_withAnyMaster 14 = .ok (.iand, 1) := by decide +kernel
theorem dX10_withAnyMaster_15 : decode cX10_withAnyMaster 15 = .ok (.ireturn, 1) := by decide +kernel
theorem dX10_having_0 : decode cX10_having 0 = .ok (.iconst 0, 1) := by decide +kernel
theorem dX10_having_1 : decode cX10_having 1 = .ok (.istore_n 2, 1) := by decide +kernel
theorem dX10_having_2 : decode cX10_having 2 = .ok (.iconst 0, 1) := by decide +kernel
theorem dX10_having_3 : decode cX10_having 3 = .ok (.istore_n 3, 1) := by decide +kernel
theorem dX10_having_4 : decode cX10_having 4 = .ok (.iload_n 3, 1) := by decide +kernel
theorem dX10_having_5 : decode cX10_having 5 = .ok (.bipush 24, 2) := by decide +kernel
theorem dX10_having_7 : decode cX10_having 7 = .ok (.if_icmp .ge 28, 3) := by decide +kernel
theorem dX10_having_10 : decode cX10_having 10 = .ok (.iload_n 3, 1) := by decide +kernel
theorem dX10_having_11 : decode cX10_having 11 = .ok (.aload_n 0, 1) := by decide +kernel
theorem dX10_having_12 : decode cX10_having 12 = .ok (.arraylength, 1) := by decide +kernel
theorem dX10_having_13 : decode cX10_having 13 = .ok (.if_icmp .ge 22, 3) := by decide +kernel
theorem dX10_having_16 : decode cX10_having 16 = .ok (.aload_n 0, 1) := by decide +kernel
theorem dX10_having_17 : decode cX10_having 17 = .ok (.iload_n 3, 1) := by decide +kernel
theorem dX10_having_18 : decode cX10_having 18 = .ok (.iaload, 1) := by decide +kernel
theorem dX10_having_19 : decode cX10_having 19 = .ok (.iload_n 1, 1) := by decide +kernel
theorem dX10_having_20 : decode cX10_having 20 = .ok (.if_icmp .ne 9, 3) := by decide +kernel
theorem dX10_having_23 : decode cX10_having 23 = .ok (.iload_n 2, 1) := by decide +kernel
theorem dX10_having_24 : decode cX10_having 24 = .ok (.iconst 1, 1) := by decide +kernel
theorem dX10_having_25 : decode cX10_having 25 = .ok (.iload_n 3, 1) := by decide +kernel
theorem dX10_having_26 : decode cX10_having 26 = .ok (.ishl, 1) := by decide +kernel
theorem dX10_having_27 : decode cX10_having 27 = .ok (.ior, 1) := by decide +kernel
theorem dX10_having_28 : decode cX10_having 28 = .ok (.istore_n 2, 1) := by decide +kernel
theorem dX10_having_29 : decode cX10_having 29 = .ok (.iinc 3 1, 3) := by decide +kernel
theorem dX10_having_32 : decode cX10_having 32 = .ok (.goto (-28), 3) := by decide +kernel
theorem dX10_having_35 : decode cX10_having 35 = .ok (.iload_n 2, 1) := by decide +kernel
theorem dX10_having_36 : decode cX10_having 36 = .ok (.ireturn, 1) := by decide +kernel
theorem dX10_groupCount_0 : decode cX10_groupCount 0 = .ok (.iconst 0, 1) := by decide +kernel
theorem dX10_groupCount_1 : decode cX10_groupCount 1 = .ok (.istore_n 1, 1) := by decide +kernel
theorem dX10_groupCount_2 : decode cX10_groupCount 2 = .ok (.iconst 0, 1) := by decide +kernel
theorem dX10_groupCount_3 : decode cX10_groupCount 3 = .ok (.istore_n 2, 1) := by decide +kernel
theorem dX10_groupCount_4 : decode cX10_groupCount 4 = .ok (.iload_n 2, 1) := by decide +kernel
theorem dX10_groupCount_5 : decode cX10_groupCount 5 = .ok (.bipush 24, 2) := by decide +kernel
theorem dX10_groupCount_7 : decode cX10_groupCount 7 = .ok (.if_icmp .ge 39, 3) := by decide +kernel
theorem dX10_groupCount_10 : decode cX10_groupCount 10 = .ok (.aload_n 0, 1) := by decide +kernel
theorem dX10_groupCount_11 : decode cX10_groupCount 11 = .ok (.getfield 15, 3) := by decide +kernel
theorem dX10_groupCount_14 : decode cX10_groupCount 14 = .ok (.iload_n 2, 1) := by decide +kernel
theorem dX10_groupCount_15 : decode cX10_groupCount 15 = .ok (.iaload, 1) := by decide +kernel
theorem dX10_groupCount_16 : decode cX10_groupCount 16 = .ok (.ifCond .eq 24, 3) := by decide +kernel
theorem dX10_groupCount_19 : decode cX10_groupCount 19 = .ok (.aload_n 0, 1) := by decide +kernel
theorem dX10_groupCount_20 : decode cX10_groupCount 20 = .ok (.aload_n 0, 1) := by decide +kernel
theorem dX10_groupCount_21 : decode cX10_groupCount 21 = .ok (.aload_n 0, 1) := by decide +kernel
theorem dX10_groupCount_22 : decode cX10_groupCount 22 = .ok (.getfield 15, 3) := by decide +kernel
theorem dX10_groupCount_25 : decode cX10_groupCount 25 = .ok (.iload_n 2, 1) := by decide +kernel
theorem dX10_groupCount_26 : decode cX10_groupCount 26 = .ok (.iaload, 1) := by decide +kernel
theorem dX10_groupCount_27 : decode cX10_groupCount 27 = .ok (.invokevirtual 55, 3) := by decide +kernel
theorem dX10_groupCount_30 : decode cX10_groupCount 30 = .ok (.invokevirtual 58, 3) := by decide +kernel
theorem dX10_groupCount_33 : decode cX10_groupCount 33 = .ok (.iload_n 2, 1) := by decide +kernel
theorem dX10_groupCount_34 : decode cX10_groupCount 34 = .ok (.if_icmp .ne 6, 3) := by decide +kernel
theorem dX10_groupCount_37 : decode cX10_groupCount 37 = .ok (.iinc 1 1, 3) := by decide +kernel
theorem dX10_groupCount_40 : decode cX10_groupCount 40 = .ok (.iinc 2 1, 3) := by decide +kernel
theorem dX10_groupCount_43 : decode cX10_groupCount 43 = .ok (.goto (-39), 3) := by decide +kernel
theorem dX10_groupCount_46 : decode cX10_groupCount 46 = .ok (.iload_n 1, 1) := by decide +kernel
theorem dX10_groupCount_47 : decode cX10_groupCount 47 = .ok (.ireturn, 1) := by decide +kernel
theorem dX10_peersOf_0 : decode cX10_peersOf 0 = .ok (.aload_n 0, 1) := by decide +kernel
theorem dX10_peersOf_1 : decode cX10_peersOf 1 = .ok (.aload_n 0, 1) := by decide +kernel
theorem dX10_peersOf_2 : decode cX10_peersOf 2 = .ok (.iload_n 1, 1) := by decide +kernel
theorem dX10_peersOf_3 : decode cX10_peersOf 3 = .ok (.invokevirtual 61, 3) := by decide +kernel
theorem dX10_peersOf_6 : decode cX10_peersOf 6 = .ok (.invokevirtual 55, 3) := by decide +kernel
theorem dX10_peersOf_9 : decode cX10_peersOf 9 = .ok (.iconst 1, 1) := by decide +kernel
theorem dX10_peersOf_10 : decode cX10_peersOf 10 = .ok (.iload_n 1, 1) := by decide +kernel
theorem dX10_peersOf_11 : decode cX10_peersOf 11 = .ok (.ishl, 1) := by decide +kernel
theorem dX10_peersOf_12 : decode cX10_peersOf 12 = .ok (.ior, 1) := by decide +kernel
theorem dX10_peersOf_13 : decode cX10_peersOf 13 = .ok (.ireturn, 1) := by decide +kernel
theorem dX10_leastMasterOf_0 : decode cX10_leastMasterOf 0 = .ok (.aload_n 0, 1) := by decide +kernel
theorem dX10_leastMasterOf_1 : decode cX10_leastMasterOf 1 = .ok (.aload_n 0, 1) := by decide +kernel
theorem dX10_leastMasterOf_2 : decode cX10_leastMasterOf 2 = .ok (.aload_n 0, 1) := by decide +kernel
theorem dX10_leastMasterOf_3 : decode cX10_leastMasterOf 3 = .ok (.iload_n 1, 1) := by decide +kernel
theorem dX10_leastMasterOf_4 : decode cX10_leastMasterOf 4 = .ok (.invokevirtual 64, 3) := by decide +kernel
theorem dX10_leastMasterOf_7 : decode cX10_leastMasterOf 7 = .ok (.invokevirtual 55, 3) := by decide +kernel
theorem dX10_leastMasterOf_10 : decode cX10_leastMasterOf 10 = .ok (.invokevirtual 58, 3) := by decide +kernel
theorem dX10_leastMasterOf_13 : decode cX10_leastMasterOf 13 = .ok (.ireturn, 1) := by decide +kernel
theorem dX10_spreadOf_0 : decode cX10_spreadOf 0 = .ok (.iconst 1, 1) := by decide +kernel
theorem dX10_spreadOf_1 : decode cX10_spreadOf 1 = .ok (.iload_n 1, 1) := by decide +kernel
theorem dX10_spreadOf_2 : decode cX10_spreadOf 2 = .ok (.ishl, 1) := by decide +kernel
theorem dX10_spreadOf_3 : decode cX10_spreadOf 3 = .ok (.istore_n 2, 1) := by decide +kernel
theorem dX10_spreadOf_4 : decode cX10_spreadOf 4 = .ok (.iconst 0, 1) := by decide +kernel
theorem dX10_spreadOf_5 : decode cX10_spreadOf 5 = .ok (.istore_n 3, 1) := by decide +kernel
theorem dX10_spreadOf_6 : decode cX10_spreadOf 6 = .ok (.iconst 0, 1) := by decide +kernel
theorem dX10_spreadOf_7 : decode cX10_spreadOf 7 = .ok (.istore 4, 2) := by decide +kernel
theorem dX10_spreadOf_9 : decode cX10_spreadOf 9 = .ok (.iload 4, 2) := by decide +kernel
theorem dX10_spreadOf_11 : decode cX10_spreadOf 11 = .ok (.bipush 24, 2) := by decide +kernel
theorem dX10_spreadOf_13 : decode cX10_spreadOf 13 = .ok (.if_icmp .ge 63, 3) := by decide +kernel
theorem dX10_spreadOf_16 : decode cX10_spreadOf 16 = .ok (.iload_n 3, 1) := by decide +kernel
theorem dX10_spreadOf_17 : decode cX10_spreadOf 17 = .ok (.iload_n 2, 1) := by decide +kernel
theorem dX10_spreadOf_18 : decode cX10_spreadOf 18 = .ok (.if_icmp .eq 58, 3) := by decide +kernel
theorem dX10_spreadOf_21 : decode cX10_spreadOf 21 = .ok (.aload_n 0, 1) := by decide +kernel
theorem dX10_spreadOf_22 : decode cX10_spreadOf 22 = .ok (.iload_n 2, 1) := by decide +kernel
theorem dX10_spreadOf_23 : decode cX10_spreadOf 23 = .ok (.iload_n 3, 1) := by decide +kernel
theorem dX10_spreadOf_24 : decode cX10_spreadOf 24 = .ok (.iconst (-1), 1) := by decide +kernel
theorem dX10_spreadOf_25 : decode cX10_spreadOf 25 = .ok (.ixor, 1) := by decide +kernel
theorem dX10_spreadOf_26 : decode cX10_spreadOf 26 = .ok (.iand, 1) := by decide +kernel
theorem dX10_spreadOf_27 : decode cX10_spreadOf 27 = .ok (.invokevirtual 58, 3) := by decide +kernel
theorem dX10_spreadOf_30 : decode cX10_spreadOf 30 = .ok (.istore 5, 2) := by decide +kernel
theorem dX10_spreadOf_32 : decode cX10_spreadOf 32 = .ok (.aload_n 0, 1) := by decide +kernel
theorem dX10_spreadOf_33 : decode cX10_spreadOf 33 = .ok (.iload 5, 2) := by decide +kernel
theorem dX10_spreadOf_35 : decode cX10_spreadOf 35 = .ok (.invokevirtual 61, 3) := by decide +kernel
theorem dX10_spreadOf_38 : decode cX10_spreadOf 38 = .ok (.istore 6, 2) := by decide +kernel
theorem dX10_spreadOf_40 : decode cX10_spreadOf 40 = .ok (.aload_n 0, 1) := by decide +kernel
theorem dX10_spreadOf_41 : decode cX10_spreadOf 41 = .ok (.iload 6, 2) := by decide +kernel
theorem dX10_spreadOf_43 : decode cX10_spreadOf 43 = .ok (.invokevirtual 55, 3) := by decide +kernel
theorem dX10_spreadOf_46 : decode cX10_spreadOf 46 = .ok (.iconst 1, 1) := by decide +kernel
theorem dX10_spreadOf_47 : decode cX10_spreadOf 47 = .ok (.iload 5, 2) := by decide +kernel
theorem dX10_spreadOf_49 : decode cX10_spreadOf 49 = .ok (.ishl, 1) := by decide +kernel
theorem dX10_spreadOf_50 : decode cX10_spreadOf 50 = .ok (.ior, 1) := by decide +kernel
theorem dX10_spreadOf_51 : decode cX10_spreadOf 51 = .ok (.istore 7, 2) := by decide +kernel
theorem dX10_spreadOf_53 : decode cX10_spreadOf 53 = .ok (.iload_n 3, 1) := by decide +kernel
theorem dX10_spreadOf_54 : decode cX10_spreadOf 54 = .ok (.iload 7, 2) := by decide +kernel
theorem dX10_spreadOf_56 : decode cX10_spreadOf 56 = .ok (.ior, 1) := by decide +kernel
theorem dX10_spreadOf_57 : decode cX10_spreadOf 57 = .ok (.istore_n 3, 1) := by decide +kernel
theorem dX10_spreadOf_58 : decode cX10_spreadOf 58 = .ok (.iload_n 2, 1) := by decide +kernel
theorem dX10_spreadOf_59 : decode cX10_spreadOf 59 = .ok (.iload 7, 2) := by decide +kernel
theorem dX10_spreadOf_61 : decode cX10_spreadOf 61 = .ok (.aload_n 0, 1) := by decide +kernel
theorem dX10_spreadOf_62 : decode cX10_spreadOf 62 = .ok (.iload 6, 2) := by decide +kernel
theorem dX10_spreadOf_64 : decode cX10_spreadOf 64 = .ok (.invokevirtual 67, 3) := by decide +kernel
theorem dX10_spreadOf_67 : decode cX10_spreadOf 67 = .ok (.ior, 1) := by decide +kernel
theorem dX10_spreadOf_68 : decode cX10_spreadOf 68 = .ok (.ior, 1) := by decide +kernel
theorem dX10_spreadOf_69 : decode cX10_spreadOf 69 = .ok (.istore_n 2, 1) := by decide +kernel
theorem dX10_spreadOf_70 : decode cX10_spreadOf 70 = .ok (.iinc 4 1, 3) := by decide +kernel
theorem dX10_spreadOf_73 : decode cX10_spreadOf 73 = .ok (.goto (-64), 3) := by decide +kernel
theorem dX10_spreadOf_76 : decode cX10_spreadOf 76 = .ok (.iload_n 2, 1) := by decide +kernel
theorem dX10_spreadOf_77 : decode cX10_spreadOf 77 = .ok (.ireturn, 1) := by decide +kernel
theorem dX10_leastOf_0 : decode cX10_leastOf 0 = .ok (.iconst 0, 1) := by decide +kernel
theorem dX10_leastOf_1 : decode cX10_leastOf 1 = .ok (.istore_n 2, 1) := by decide +kernel
theorem dX10_leastOf_2 : decode cX10_leastOf 2 = .ok (.iload_n 2, 1) := by decide +kernel
theorem dX10_leastOf_3 : decode cX10_leastOf 3 = .ok (.bipush 24, 2) := by decide +kernel
theorem dX10_leastOf_5 : decode cX10_leastOf 5 = .ok (.if_icmp .ge 19, 3) := by decide +kernel
theorem dX10_leastOf_8 : decode cX10_leastOf 8 = .ok (.iload_n 1, 1) := by decide +kernel
theorem dX10_leastOf_9 : decode cX10_leastOf 9 = .ok (.iconst 1, 1) := by decide +kernel
theorem dX10_leastOf_10 : decode cX10_leastOf 10 = .ok (.iload_n 2, 1) := by decide +kernel
theorem dX10_leastOf_11 : decode cX10_leastOf 11 = .ok (.ishl, 1) := by decide +kernel
theorem dX10_leastOf_12 : decode cX10_leastOf 12 = .ok (.iand, 1) := by decide +kernel
theorem dX10_leastOf_13 : decode cX10_leastOf 13 = .ok (.ifCond .eq 5, 3) := by decide +kernel
theorem dX10_leastOf_16 : decode cX10_leastOf 16 = .ok (.iload_n 2, 1) := by decide +kernel
theorem dX10_leastOf_17 : decode cX10_leastOf 17 = .ok (.ireturn, 1) := by decide +kernel
theorem dX10_leastOf_18 : decode cX10_leastOf 18 = .ok (.iinc 2 1, 3) := by decide +kernel
theorem dX10_leastOf_21 : decode cX10_leastOf 21 = .ok (.goto (-19), 3) := by decide +kernel
theorem dX10_leastOf_24 : decode cX10_leastOf 24 = .ok (.bipush 24, 2) := by decide +kernel
theorem dX10_leastOf_26 : decode cX10_leastOf 26 = .ok (.ireturn, 1) := by decide +kernel
theorem dX10_newGroup_0 : decode cX10_newGroup 0 = .ok (.aload_n 0, 1) := by decide +kernel
theorem dX10_newGroup_1 : decode cX10_newGroup 1 = .ok (.dup, 1) := by decide +kernel
theorem dX10_newGroup_2 : decode cX10_newGroup 2 = .ok (.getfield 25, 3) := by decide +kernel
theorem dX10_newGroup_5 : decode cX10_newGroup 5 = .ok (.iconst 1, 1) := by decide +kernel
theorem dX10_newGroup_6 : decode cX10_newGroup 6 = .ok (.iadd, 1) := by decide +kernel
theorem dX10_newGroup_7 : decode cX10_newGroup 7 = .ok (.putfield 25, 3) := by decide +kernel
theorem dX10_newGroup_10 : decode cX10_newGroup 10 = .ok (.aload_n 0, 1) := by decide +kernel
theorem dX10_newGroup_11 : decode cX10_newGroup 11 = .ok (.getfield 25, 3) := by decide +kernel
theorem dX10_newGroup_14 : decode cX10_newGroup 14 = .ok (.iconst 1, 1) := by decide +kernel
theorem dX10_newGroup_15 : decode cX10_newGroup 15 = .ok (.isub, 1) := by decide +kernel
theorem dX10_newGroup_16 : decode cX10_newGroup 16 = .ok (.ireturn, 1) := by decide +kernel
theorem dX10_put_0 : decode cX10_put 0 = .ok (.aload_n 0, 1) := by decide +kernel
theorem dX10_put_1 : decode cX10_put 1 = .ok (.aload_n 0, 1) := by decide +kernel
theorem dX10_put_2 : decode cX10_put 2 = .ok (.getfield 21, 3) := by decide +kernel
theorem dX10_put_5 : decode cX10_put 5 = .ok (.iconst (-1), 1) := by decide +kernel
theorem dX10_put_6 : decode cX10_put 6 = .ok (.ixor, 1) := by decide +kernel
theorem dX10_put_7 : decode cX10_put 7 = .ok (.invokevirtual 58, 3) := by decide +kernel
theorem dX10_put_10 : decode cX10_put 10 = .ok (.istore 5, 2) := by decide +kernel
theorem dX10_put_12 : decode cX10_put 12 = .ok (.iload 5, 2) := by decide +kernel
theorem dX10_put_14 : decode cX10_put 14 = .ok (.bipush 24, 2) := by decide +kernel
theorem dX10_put_16 : decode cX10_put 16 = .ok (.if_icmp .ge 45, 3) := by decide +kernel
theorem dX10_put_19 : decode cX10_put 19 = .ok (.aload_n 0, 1) := by decide +kernel
theorem dX10_put_20 : decode cX10_put 20 = .ok (.dup, 1) := by decide +kernel
theorem dX10_put_21 : decode cX10_put 21 = .ok (.getfield 21, 3) := by decide +kernel
theorem dX10_put_24 : decode cX10_put 24 = .ok (.iconst 1, 1) := by decide +kernel
theorem dX10_put_25 : decode cX10_put 25 = .ok (.iload 5, 2) := by decide +kernel
theorem dX10_put_27 : decode cX10_put 27 = .ok (.ishl, 1) := by decide +kernel
theorem dX10_put_28 : decode cX10_put 28 = .ok (.ior, 1) := by decide +kernel
theorem dX10_put_29 : decode cX10_put 29 = .ok (.putfield 21, 3) := by decide +kernel
theorem dX10_put_32 : decode cX10_put 32 = .ok (.aload_n 0, 1) := by decide +kernel
theorem dX10_put_33 : decode cX10_put 33 = .ok (.getfield 9, 3) := by decide +kernel
theorem dX10_put_36 : decode cX10_put 36 = .ok (.iload 5, 2) := by decide +kernel
theorem dX10_put_38 : decode cX10_put 38 = .ok (.iconst 4, 1) := by decide +kernel
theorem dX10_put_39 : decode cX10_put 39 = .ok (.iload_n 1, 1) := by decide +kernel
theorem dX10_put_40 : decode cX10_put 40 = .ok (.imul, 1) := by decide +kernel
theorem dX10_put_41 : decode cX10_put 41 = .ok (.iload_n 2, 1) := by decide +kernel
theorem dX10_put_42 : decode cX10_put 42 = .ok (.iadd, 1) := by decide +kernel
theorem dX10_put_43 : decode cX10_put 43 = .ok (.iastore, 1) := by decide +kernel
theorem dX10_put_44 : decode cX10_put 44 = .ok (.aload_n 0, 1) := by decide +kernel
theorem dX10_put_45 : decode cX10_put 45 = .ok (.getfield 15, 3) := by decide +kernel
theorem dX10_put_48 : decode cX10_put 48 = .ok (.iload 5, 2) := by decide +kernel
theorem dX10_put_50 : decode cX10_put 50 = .ok (.iload_n 3, 1) := by decide +kernel
theorem dX10_put_51 : decode cX10_put 51 = .ok (.iastore, 1) := by decide +kernel
theorem dX10_put_52 : decode cX10_put 52 = .ok (.aload_n 0, 1) := by decide +kernel
theorem dX10_put_53 : decode cX10_put 53 = .ok (.getfield 18, 3) := by decide +kernel
theorem dX10_put_56 : decode cX10_put 56 = .ok (.iload 5, 2) := by decide +kernel
theorem dX10_put_58 : decode cX10_put 58 = .ok (.iload 4, 2) := by decide +kernel
theorem dX10_put_60 : decode cX10_put 60 = .ok (.iastore, 1) := by decide +kernel
theorem dX10_put_61 : decode cX10_put 61 = .ok (.iload 5, 2) := by decide +kernel
theorem dX10_put_63 : decode cX10_put 63 = .ok (.ireturn, 1) := by decide +kernel
theorem dX10_remove_0 : decode cX10_remove 0 = .ok (.aload_n 0, 1) := by decide +kernel
theorem dX10_remove_1 : decode cX10_remove 1 = .ok (.iload_n 1, 1) := by decide +kernel
theorem dX10_remove_2 : decode cX10_remove 2 = .ok (.invokevirtual 34, 3) := by decide +kernel
theorem dX10_remove_5 : decode cX10_remove 5 = .ok (.ifCond .eq 50, 3) := by decide +kernel
theorem dX10_remove_8 : decode cX10_remove 8 = .ok (.aload_n 0, 1) := by decide +kernel
theorem dX10_remove_9 : decode cX10_remove 9 = .ok (.iload_n 1, 1) := by decide +kernel
theorem dX10_remove_10 : decode cX10_remove 10 = .ok (.invokevirtual 70, 3) := by decide +kernel
theorem dX10_remove_13 : decode cX10_remove 13 = .ok (.aload_n 0, 1) := by decide +kernel
theorem dX10_remove_14 : decode cX10_remove 14 = .ok (.dup, 1) := by decide +kernel
theorem dX10_remove_15 : decode cX10_remove 15 = .ok (.getfield 21, 3) := by decide +kernel
theorem dX10_remove_18 : decode cX10_remove 18 = .ok (.iconst 1, 1) := by decide +kernel
theorem dX10_remove_19 : decode cX10_remove 19 = .ok (.iload_n 1, 1) := by decide +kernel
theorem dX10_remove_20 : decode cX10_remove 20 = .ok (.ishl, 1) := by decide +kernel
theorem dX10_remove_21 : decode cX10_remove 21 = .ok (.iconst (-1), 1) := by decide +kernel
theorem dX10_remove_22 : decode cX10_remove 22 = .ok (.ixor, 1) := by decide +kernel
theorem dX10_remove_23 : decode cX10_remove 23 = .ok (.iand, 1) := by decide +kernel
theorem dX10_remove_24 : decode cX10_remove 24 = .ok (.putfield 21, 3) := by decide +kernel
theorem dX10_remove_27 : decode cX10_remove 27 = .ok (.aload_n 0, 1) := by decide +kernel
theorem dX10_remove_28 : decode cX10_remove 28 = .ok (.dup, 1) := by decide +kernel
theorem dX10_remove_29 : decode cX10_remove 29 = .ok (.getfield 28, 3) := by decide +kernel
theorem dX10_remove_32 : decode cX10_remove 32 = .ok (.iconst 1, 1) := by decide +kernel
theorem dX10_remove_33 : decode cX10_remove 33 = .ok (.iload_n 1, 1) := by decide +kernel
theorem dX10_remove_34 : decode cX10_remove 34 = .ok (.ishl, 1) := by decide +kernel
theorem dX10_remove_35 : decode cX10_remove 35 = .ok (.iconst (-1), 1) := by decide +kernel
theorem dX10_remove_36 : decode cX10_remove 36 = .ok (.ixor, 1) := by decide +kernel
theorem dX10_remove_37 : decode cX10_remove 37 = .ok (.iand, 1) := by decide +kernel
theorem dX10_remove_38 : decode cX10_remove 38 = .ok (.putfield 28, 3) := by decide +kernel
theorem dX10_remove_41 : decode cX10_remove 41 = .ok (.aload_n 0, 1) := by decide +kernel
theorem dX10_remove_42 : decode cX10_remove 42 = .ok (.getfield 9, 3) := by decide +kernel
theorem dX10_remove_45 : decode cX10_remove 45 = .ok (.iload_n 1, 1) := by decide +kernel
theorem dX10_remove_46 : decode cX10_remove 46 = .ok (.iconst (-1), 1) := by decide +kernel
theorem dX10_remove_47 : decode cX10_remove 47 = .ok (.iastore, 1) := by decide +kernel
theorem dX10_remove_48 : decode cX10_remove 48 = .ok (.aload_n 0, 1) := by decide +kernel
theorem dX10_remove_49 : decode cX10_remove 49 = .ok (.getfield 18, 3) := by decide +kernel
theorem dX10_remove_52 : decode cX10_remove 52 = .ok (.iload_n 1, 1) := by decide +kernel
theorem dX10_remove_53 : decode cX10_remove 53 = .ok (.iconst 0, 1) := by decide +kernel
theorem dX10_remove_54 : decode cX10_remove 54 = .ok (.iastore, 1) := by decide +kernel
theorem dX10_remove_55 : decode cX10_remove 55 = .ok (.return_, 1) := by decide +kernel
theorem dX10_carry_0 : decode cX10_carry 0 = .ok (.aload_n 0, 1) := by decide +kernel
theorem dX10_carry_1 : decode cX10_carry 1 = .ok (.iload_n 1, 1) := by decide +kernel
theorem dX10_carry_2 : decode cX10_carry 2 = .ok (.invokevirtual 34, 3) := by decide +kernel
theorem dX10_carry_5 : decode cX10_carry 5 = .ok (.ifCond .eq 14, 3) := by decide +kernel
theorem dX10_carry_8 : decode cX10_carry 8 = .ok (.aload_n 0, 1) := by decide +kernel
theorem dX10_carry_9 : decode cX10_carry 9 = .ok (.getfield 9, 3) := by decide +kernel
theorem dX10_carry_12 : decode cX10_carry 12 = .ok (.iload_n 1, 1) := by decide +kernel
theorem dX10_carry_13 : decode cX10_carry 13 = .ok (.iconst 4, 1) := by decide +kernel
theorem dX10_carry_14 : decode cX10_carry 14 = .ok (.iload_n 2, 1) := by decide +kernel
theorem dX10_carry_15 : decode cX10_carry 15 = .ok (.imul, 1) := by decide +kernel
theorem dX10_carry_16 : decode cX10_carry 16 = .ok (.iload_n 3, 1) := by decide +kernel
theorem dX10_carry_17 : decode cX10_carry 17 = .ok (.iadd, 1) := by decide +kernel
theorem dX10_carry_18 : decode cX10_carry 18 = .ok (.iastore, 1) := by decide +kernel
theorem dX10_carry_19 : decode cX10_carry 19 = .ok (.return_, 1) := by decide +kernel
theorem dX10_leaveGroup_0 : decode cX10_leaveGroup 0 = .ok (.aload_n 0, 1) := by decide +kernel
theorem dX10_leaveGroup_1 : decode cX10_leaveGroup 1 = .ok (.iload_n 1, 1) := by decide +kernel
theorem dX10_leaveGroup_2 : decode cX10_leaveGroup 2 = .ok (.invokevirtual 34, 3) := by decide +kernel
theorem dX10_leaveGroup_5 : decode cX10_leaveGroup 5 = .ok (.ifCond .eq 12, 3) := by decide +kernel
theorem dX10_leaveGroup_8 : decode cX10_leaveGroup 8 = .ok (.aload_n 0, 1) := by decide +kernel
theorem dX10_leaveGroup_9 : decode cX10_leaveGroup 9 = .ok (.getfield 15, 3) := by decide +kernel
theorem dX10_leaveGroup_12 : decode cX10_leaveGroup 12 = .ok (.iload_n 1, 1) := by decide +kernel
theorem dX10_leaveGroup_13 : decode cX10_leaveGroup 13 = .ok (.iaload, 1) := by decide +kernel
theorem dX10_leaveGroup_14 : decode cX10_leaveGroup 14 = .ok (.ifCond .ne 4, 3) := by decide +kernel
theorem dX10_leaveGroup_17 : decode cX10_leaveGroup 17 = .ok (.return_, 1) := by decide +kernel
theorem dX10_leaveGroup_18 : decode cX10_leaveGroup 18 = .ok (.aload_n 0, 1) := by decide +kernel
theorem dX10_leaveGroup_19 : decode cX10_leaveGroup 19 = .ok (.getfield 15, 3) := by decide +kernel
theorem dX10_leaveGroup_22 : decode cX10_leaveGroup 22 = .ok (.iload_n 1, 1) := by decide +kernel
theorem dX10_leaveGroup_23 : decode cX10_leaveGroup 23 = .ok (.iaload, 1) := by decide +kernel
theorem dX10_leaveGroup_24 : decode cX10_leaveGroup 24 = .ok (.istore_n 2, 1) := by decide +kernel
theorem dX10_leaveGroup_25 : decode cX10_leaveGroup 25 = .ok (.aload_n 0, 1) := by decide +kernel
theorem dX10_leaveGroup_26 : decode cX10_leaveGroup 26 = .ok (.getfield 15, 3) := by decide +kernel
theorem dX10_leaveGroup_29 : decode cX10_leaveGroup 29 = .ok (.iload_n 1, 1) := by decide +kernel
theorem dX10_leaveGroup_30 : decode cX10_leaveGroup 30 = .ok (.iconst 0, 1) := by decide +kernel
theorem dX10_leaveGroup_31 : decode cX10_leaveGroup 31 = .ok (.iastore, 1) := by decide +kernel
theorem dX10_leaveGroup_32 : decode cX10_leaveGroup 32 = .ok (.aload_n 0, 1) := by decide +kernel
theorem dX10_leaveGroup_33 : decode cX10_leaveGroup 33 = .ok (.iload_n 2, 1) := by decide +kernel
theorem dX10_leaveGroup_34 : decode cX10_leaveGroup 34 = .ok (.invokevirtual 55, 3) := by decide +kernel
theorem dX10_leaveGroup_37 : decode cX10_leaveGroup 37 = .ok (.ifCond .ne 39, 3) := by decide +kernel
theorem dX10_leaveGroup_40 : decode cX10_leaveGroup 40 = .ok (.iconst 0, 1) := by decide +kernel
theorem dX10_leaveGroup_41 : decode cX10_leaveGroup 41 = .ok (.istore_n 3, 1) := by decide +kernel
theorem dX10_leaveGroup_42 : decode cX10_leaveGroup 42 = .ok (.iload_n 3, 1) := by decide +kernel
theorem dX10_leaveGroup_43 : decode cX10_leaveGroup 43 = .ok (.bipush 24, 2) := by decide +kernel
theorem dX10_leaveGroup_45 : decode cX10_leaveGroup 45 = .ok (.if_icmp .ge 31, 3) := by decide +kernel
theorem dX10_leaveGroup_48 : decode cX10_leaveGroup 48 = .ok (.aload_n 0, 1) := by decide +kernel
theorem dX10_leaveGroup_49 : decode cX10_leaveGroup 49 = .ok (.getfield 18, 3) := by decide +kernel
theorem dX10_leaveGroup_52 : decode cX10_leaveGroup 52 = .ok (.iload_n 3, 1) := by decide +kernel
theorem dX10_leaveGroup_53 : decode cX10_leaveGroup 53 = .ok (.iaload, 1) := by decide +kernel
theorem dX10_leaveGroup_54 : decode cX10_leaveGroup 54 = .ok (.iload_n 2, 1) := by decide +kernel
theorem dX10_leaveGroup_55 : decode cX10_leaveGroup 55 = .ok (.if_icmp .ne 15, 3) := by decide +kernel
theorem dX10_leaveGroup_58 : decode cX10_leaveGroup 58 = .ok (.aload_n 0, 1) := by decide +kernel
theorem dX10_leaveGroup_59 : decode cX10_leaveGroup 59 = .ok (.getfield 18, 3) := by decide +kernel
theorem dX10_leaveGroup_62 : decode cX10_leaveGroup 62 = .ok (.iload_n 3, 1) := by decide +kernel
theorem dX10_leaveGroup_63 : decode cX10_leaveGroup 63 = .ok (.aload_n 0, 1) := by decide +kernel
theorem dX10_leaveGroup_64 : decode cX10_leaveGroup 64 = .ok (.getfield 18, 3) := by decide +kernel
theorem dX10_leaveGroup_67 : decode cX10_leaveGroup 67 = .ok (.iload_n 1, 1) := by decide +kernel
theorem dX10_leaveGroup_68 : decode cX10_leaveGroup 68 = .ok (.iaload, 1) := by decide +kernel
theorem dX10_leaveGroup_69 : decode cX10_leaveGroup 69 = .ok (.iastore, 1) := by decide +kernel
theorem dX10_leaveGroup_70 : decode cX10_leaveGroup 70 = .ok (.iinc 3 1, 3) := by decide +kernel
theorem dX10_leaveGroup_73 : decode cX10_leaveGroup 73 = .ok (.goto (-31), 3) := by decide +kernel
theorem dX10_leaveGroup_76 : decode cX10_leaveGroup 76 = .ok (.return_, 1) := by decide +kernel
theorem dX10_makePrivate_0 : decode cX10_makePrivate 0 = .ok (.aload_n 0, 1) := by decide +kernel
theorem dX10_makePrivate_1 : decode cX10_makePrivate 1 = .ok (.iload_n 1, 1) := by decide +kernel
theorem dX10_makePrivate_2 : decode cX10_makePrivate 2 = .ok (.invokevirtual 34, 3) := by decide +kernel
theorem dX10_makePrivate_5 : decode cX10_makePrivate 5 = .ok (.ifCond .eq 29, 3) := by decide +kernel
theorem dX10_makePrivate_8 : decode cX10_makePrivate 8 = .ok (.aload_n 0, 1) := by decide +kernel
theorem dX10_makePrivate_9 : decode cX10_makePrivate 9 = .ok (.iload_n 1, 1) := by decide +kernel
theorem dX10_makePrivate_10 : decode cX10_makePrivate 10 = .ok (.invokevirtual 70, 3) := by decide +kernel
theorem dX10_makePrivate_13 : decode cX10_makePrivate 13 = .ok (.aload_n 0, 1) := by decide +kernel
theorem dX10_makePrivate_14 : decode cX10_makePrivate 14 = .ok (.getfield 18, 3) := by decide +kernel
theorem dX10_makePrivate_17 : decode cX10_makePrivate 17 = .ok (.iload_n 1, 1) := by decide +kernel
theorem dX10_makePrivate_18 : decode cX10_makePrivate 18 = .ok (.iconst 0, 1) := by decide +kernel
theorem dX10_makePrivate_19 : decode cX10_makePrivate 19 = .ok (.iastore, 1) := by decide +kernel
theorem dX10_makePrivate_20 : decode cX10_makePrivate 20 = .ok (.aload_n 0, 1) := by decide +kernel
theorem dX10_makePrivate_21 : decode cX10_makePrivate 21 = .ok (.dup, 1) := by decide +kernel
theorem dX10_makePrivate_22 : decode cX10_makePrivate 22 = .ok (.getfield 28, 3) := by decide +kernel
theorem dX10_makePrivate_25 : decode cX10_makePrivate 25 = .ok (.iconst 1, 1) := by decide +kernel
theorem dX10_makePrivate_26 : decode cX10_makePrivate 26 = .ok (.iload_n 1, 1) := by decide +kernel
theorem dX10_makePrivate_27 : decode cX10_makePrivate 27 = .ok (.ishl, 1) := by decide +kernel
theorem dX10_makePrivate_28 : decode cX10_makePrivate 28 = .ok (.iconst (-1), 1) := by decide +kernel
theorem dX10_makePrivate_29 : decode cX10_makePrivate 29 = .ok (.ixor, 1) := by decide +kernel
theorem dX10_makePrivate_30 : decode cX10_makePrivate 30 = .ok (.iand, 1) := by decide +kernel
theorem dX10_makePrivate_31 : decode cX10_makePrivate 31 = .ok (.putfield 28, 3) := by decide +kernel
theorem dX10_makePrivate_34 : decode cX10_makePrivate 34 = .ok (.return_, 1) := by decide +kernel
theorem dX10_makeUnbindable_0 : decode cX10_makeUnbindable 0 = .ok (.aload_n 0, 1) := by decide +kernel
theorem dX10_makeUnbindable_1 : decode cX10_makeUnbindable 1 = .ok (.iload_n 1, 1) := by decide +kernel
theorem dX10_makeUnbindable_2 : decode cX10_makeUnbindable 2 = .ok (.invokevirtual 34, 3) := by decide +kernel
theorem dX10_makeUnbindable_5 : decode cX10_makeUnbindable 5 = .ok (.ifCond .eq 20, 3) := by decide +kernel
theorem dX10_makeUnbindable_8 : decode cX10_makeUnbindable 8 = .ok (.aload_n 0, 1) := by decide +kernel
theorem dX10_makeUnbindable_9 : decode cX10_makeUnbindable 9 = .ok (.iload_n 1, 1) := by decide +kernel
theorem dX10_makeUnbindable_10 : decode cX10_makeUnbindable 10 = .ok (.invokevirtual 74, 3) := by decide +kernel
theorem dX10_makeUnbindable_13 : decode cX10_makeUnbindable 13 = .ok (.aload_n 0, 1) := by decide +kernel
theorem dX10_makeUnbindable_14 : decode cX10_makeUnbindable 14 = .ok (.dup, 1) := by decide +kernel
theorem dX10_makeUnbindable_15 : decode cX10_makeUnbindable 15 = .ok (.getfield 28, 3) := by decide +kernel
theorem dX10_makeUnbindable_18 : decode cX10_makeUnbindable 18 = .ok (.iconst 1, 1) := by decide +kernel
theorem dX10_makeUnbindable_19 : decode cX10_makeUnbindable 19 = .ok (.iload_n 1, 1) := by decide +kernel
theorem dX10_makeUnbindable_20 : decode cX10_makeUnbindable 20 = .ok (.ishl, 1) := by decide +kernel
theorem dX10_makeUnbindable_21 : decode cX10_makeUnbindable 21 = .ok (.ior, 1) := by decide +kernel
theorem dX10_makeUnbindable_22 : decode cX10_makeUnbindable 22 = .ok (.putfield 28, 3) := by decide +kernel
theorem dX10_makeUnbindable_25 : decode cX10_makeUnbindable 25 = .ok (.return_, 1) := by decide +kernel
theorem dX10_makeShared_0 : decode cX10_makeShared 0 = .ok (.aload_n 0, 1) := by decide +kernel
theorem dX10_makeShared_1 : decode cX10_makeShared 1 = .ok (.iload_n 1, 1) := by decide +kernel
theorem dX10_makeShared_2 : decode cX10_makeShared 2 = .ok (.invokevirtual 34, 3) := by decide +kernel
theorem dX10_makeShared_5 : decode cX10_makeShared 5 = .ok (.ifCond .eq 36, 3) := by decide +kernel
theorem dX10_makeShared_8 : decode cX10_makeShared 8 = .ok (.aload_n 0, 1) := by decide +kernel
theorem dX10_makeShared_9 : decode cX10_makeShared 9 = .ok (.dup, 1) := by decide +kernel
theorem dX10_makeShared_10 : decode cX10_makeShared 10 = .ok (.getfield 28, 3) := by decide +kernel
theorem dX10_makeShared_13 : decode cX10_makeShared 13 = .ok (.iconst 1, 1) := by decide +kernel
theorem dX10_makeShared_14 : decode cX10_makeShared 14 = .ok (.iload_n 1, 1) := by decide +kernel
theorem dX10_makeShared_15 : decode cX10_makeShared 15 = .ok (.ishl, 1) := by decide +kernel
theorem dX10_makeShared_16 : decode cX10_makeShared 16 = .ok (.iconst (-1), 1) := by decide +kernel
theorem dX10_makeShared_17 : decode cX10_makeShared 17 = .ok (.ixor, 1) := by decide +kernel
theorem dX10_makeShared_18 : decode cX10_makeShared 18 = .ok (.iand, 1) := by decide +kernel
theorem dX10_makeShared_19 : decode cX10_makeShared 19 = .ok (.putfield 28, 3) := by decide +kernel
theorem dX10_makeShared_22 : decode cX10_makeShared 22 = .ok (.aload_n 0, 1) := by decide +kernel
theorem dX10_makeShared_23 : decode cX10_makeShared 23 = .ok (.getfield 15, 3) := by decide +kernel
theorem dX10_makeShared_26 : decode cX10_makeShared 26 = .ok (.iload_n 1, 1) := by decide +kernel
theorem dX10_makeShared_27 : decode cX10_makeShared 27 = .ok (.iaload, 1) := by decide +kernel
theorem dX10_makeShared_28 : decode cX10_makeShared 28 = .ok (.ifCond .ne 13, 3) := by decide +kernel
theorem dX10_makeShared_31 : decode cX10_makeShared 31 = .ok (.aload_n 0, 1) := by decide +kernel
theorem dX10_makeShared_32 : decode cX10_makeShared 32 = .ok (.getfield 15, 3) := by decide +kernel
theorem dX10_makeShared_35 : decode cX10_makeShared 35 = .ok (.iload_n 1, 1) := by decide +kernel
theorem dX10_makeShared_36 : decode cX10_makeShared 36 = .ok (.aload_n 0, 1) := by decide +kernel
theorem dX10_makeShared_37 : decode cX10_makeShared 37 = .ok (.invokevirtual 77, 3) := by decide +kernel
theorem dX10_makeShared_40 : decode cX10_makeShared 40 = .ok (.iastore, 1) := by decide +kernel
theorem dX10_makeShared_41 : decode cX10_makeShared 41 = .ok (.return_, 1) := by decide +kernel
theorem dX10_makeSlave_0 : decode cX10_makeSlave 0 = .ok (.aload_n 0, 1) := by decide +kernel
theorem dX10_makeSlave_1 : decode cX10_makeSlave 1 = .ok (.iload_n 1, 1) := by decide +kernel
theorem dX10_makeSlave_2 : decode cX10_makeSlave 2 = .ok (.invokevirtual 34, 3) := by decide +kernel
theorem dX10_makeSlave_5 : decode cX10_makeSlave 5 = .ok (.ifCond .eq 36, 3) := by decide +kernel
theorem dX10_makeSlave_8 : decode cX10_makeSlave 8 = .ok (.aload_n 0, 1) := by decide +kernel
theorem dX10_makeSlave_9 : decode cX10_makeSlave 9 = .ok (.aload_n 0, 1) := by decide +kernel
theorem dX10_makeSlave_10 : decode cX10_makeSlave 10 = .ok (.getfield 15, 3) := by decide +kernel
theorem dX10_makeSlave_13 : decode cX10_makeSlave 13 = .ok (.iload_n 1, 1) := by decide +kernel
theorem dX10_makeSlave_14 : decode cX10_makeSlave 14 = .ok (.iaload, 1) := by decide +kernel
theorem dX10_makeSlave_15 : decode cX10_makeSlave 15 = .ok (.invokevirtual 55, 3) := by decide +kernel
theorem dX10_makeSlave_18 : decode cX10_makeSlave 18 = .ok (.iconst 1, 1) := by decide +kernel
theorem dX10_makeSlave_19 : decode cX10_makeSlave 19 = .ok (.iload_n 1, 1) := by decide +kernel
theorem dX10_makeSlave_20 : decode cX10_makeSlave 20 = .ok (.ishl, 1) := by decide +kernel
theorem dX10_makeSlave_21 : decode cX10_makeSlave 21 = .ok (.if_icmp .eq 15, 3) := by decide +kernel
theorem dX10_makeSlave_24 : decode cX10_makeSlave 24 = .ok (.aload_n 0, 1) := by decide +kernel
theorem dX10_makeSlave_25 : decode cX10_makeSlave 25 = .ok (.getfield 18, 3) := by decide +kernel
theorem dX10_makeSlave_28 : decode cX10_makeSlave 28 = .ok (.iload_n 1, 1) := by decide +kernel
theorem dX10_makeSlave_29 : decode cX10_makeSlave 29 = .ok (.aload_n 0, 1) := by decide +kernel
theorem dX10_makeSlave_30 : decode cX10_makeSlave 30 = .ok (.getfield 15, 3) := by decide +kernel
theorem dX10_makeSlave_33 : decode cX10_makeSlave 33 = .ok (.iload_n 1, 1) := by decide +kernel
theorem dX10_makeSlave_34 : decode cX10_makeSlave 34 = .ok (.iaload, 1) := by decide +kernel
theorem dX10_makeSlave_35 : decode cX10_makeSlave 35 = .ok (.iastore, 1) := by decide +kernel
theorem dX10_makeSlave_36 : decode cX10_makeSlave 36 = .ok (.aload_n 0, 1) := by decide +kernel
theorem dX10_makeSlave_37 : decode cX10_makeSlave 37 = .ok (.iload_n 1, 1) := by decide +kernel
theorem dX10_makeSlave_38 : decode cX10_makeSlave 38 = .ok (.invokevirtual 70, 3) := by decide +kernel
theorem dX10_makeSlave_41 : decode cX10_makeSlave 41 = .ok (.return_, 1) := by decide +kernel
theorem dX11_init_0 : decode cX11_init 0 = .ok (.aload_n 0, 1) := by decide +kernel
theorem dX11_init_1 : decode cX11_init 1 = .ok (.invokespecial 1, 3) := by decide +kernel
theorem dX11_init_4 : decode cX11_init 4 = .ok (.aload_n 0, 1) := by decide +kernel
theorem dX11_init_5 : decode cX11_init 5 = .ok (.new 7, 3) := by decide +kernel
theorem dX11_init_8 : decode cX11_init 8 = .ok (.dup, 1) := by decide +kernel
theorem dX11_init_9 : decode cX11_init 9 = .ok (.invokespecial 9, 3) := by decide +kernel
theorem dX11_init_12 : decode cX11_init 12 = .ok (.putfield 10, 3) := by decide +kernel
theorem dX11_init_15 : decode cX11_init 15 = .ok (.aload_n 0, 1) := by decide +kernel
theorem dX11_init_16 : decode cX11_init 16 = .ok (.new 7, 3) := by decide +kernel
theorem dX11_init_19 : decode cX11_init 19 = .ok (.dup, 1) := by decide +kernel
theorem dX11_init_20 : decode cX11_init 20 = .ok (.invokespecial 9, 3) := by decide +kernel
theorem dX11_init_23 : decode cX11_init 23 = .ok (.putfield 16, 3) := by decide +kernel
theorem dX11_init_26 : decode cX11_init 26 = .ok (.aload_n 0, 1) := by decide +kernel
theorem dX11_init_27 : decode cX11_init 27 = .ok (.new 19, 3) := by decide +kernel
theorem dX11_init_30 : decode cX11_init 30 = .ok (.dup, 1) := by decide +kernel
theorem dX11_init_31 : decode cX11_init 31 = .ok (.invokespecial 21, 3) := by decide +kernel
theorem dX11_init_34 : decode cX11_init 34 = .ok (.putfield 22, 3) := by decide +kernel
theorem dX11_init_37 : decode cX11_init 37 = .ok (.aload_n 0, 1) := by decide +kernel
theorem dX11_init_38 : decode cX11_init 38 = .ok (.iconst 2, 1) := by decide +kernel
theorem dX11_init_39 : decode cX11_init 39 = .ok (.anewarray 7, 3) := by decide +kernel
theorem dX11_init_42 : decode cX11_init 42 = .ok (.putfield 26, 3) := by decide +kernel
theorem dX11_init_45 : decode cX11_init 45 = .ok (.aload_n 0, 1) := by decide +kernel
theorem dX11_init_46 : decode cX11_init 46 = .ok (.new 30, 3) := by decide +kernel
theorem dX11_init_49 : decode cX11_init 49 = .ok (.dup, 1) := by decide +kernel
theorem dX11_init_50 : decode cX11_init 50 = .ok (.invokespecial 32, 3) := by decide +kernel
theorem dX11_init_53 : decode cX11_init 53 = .ok (.putfield 33, 3) := by decide +kernel
theorem dX11_init_56 : decode cX11_init 56 = .ok (.aload_n 0, 1) := by decide +kernel
theorem dX11_init_57 : decode cX11_init 57 = .ok (.new 37, 3) := by decide +kernel
theorem dX11_init_60 : decode cX11_init 60 = .ok (.dup, 1) := by decide +kernel
theorem dX11_init_61 : decode cX11_init 61 = .ok (.invokespecial 39, 3) := by decide +kernel
theorem dX11_init_64 : decode cX11_init 64 = .ok (.putfield 40, 3) := by decide +kernel
theorem dX11_init_67 : decode cX11_init 67 = .ok (.aload_n 0, 1) := by decide +kernel
theorem dX11_init_68 : decode cX11_init 68 = .ok (.new 44, 3) := by decide +kernel
theorem dX11_init_71 : decode cX11_init 71 = .ok (.dup, 1) := by decide +kernel
theorem dX11_init_72 : decode cX11_init 72 = .ok (.invokespecial 46, 3) := by decide +kernel
theorem dX11_init_75 : decode cX11_init 75 = .ok (.putfield 47, 3) := by decide +kernel
theorem dX11_init_78 : decode cX11_init 78 = .ok (.aload_n 0, 1) := by decide +kernel
theorem dX11_init_79 : decode cX11_init 79 = .ok (.new 44, 3) := by decide +kernel
theorem dX11_init_82 : decode cX11_init 82 = .ok (.dup, 1) := by decide +kernel
theorem dX11_init_83 : decode cX11_init 83 = .ok (.invokespecial 46, 3) := by decide +kernel
theorem dX11_init_86 : decode cX11_init 86 = .ok (.putfield 51, 3) := by decide +kernel
theorem dX11_init_89 : decode cX11_init 89 = .ok (.aload_n 0, 1) := by decide +kernel
theorem dX11_init_90 : decode cX11_init 90 = .ok (.new 54, 3) := by decide +kernel
theorem dX11_init_93 : decode cX11_init 93 = .ok (.dup, 1) := by decide +kernel
theorem dX11_init_94 : decode cX11_init 94 = .ok (.aload_n 0, 1) := by decide +kernel
theorem dX11_init_95 : decode cX11_init 95 = .ok (.getfield 10, 3) := by decide +kernel
theorem dX11_init_98 : decode cX11_init 98 = .ok (.aload_n 0, 1) := by decide +kernel
theorem dX11_init_99 : decode cX11_init 99 = .ok (.getfield 47, 3) := by decide +kernel
theorem dX11_init_102 : decode cX11_init 102 = .ok (.invokespecial 56, 3) := by decide +kernel
theorem dX11_init_105 : decode cX11_init 105 = .ok (.putfield 59, 3) := by decide +kernel
theorem dX11_init_108 : decode cX11_init 108 = .ok (.aload_n 0, 1) := by decide +kernel
theorem dX11_init_109 : decode cX11_init 109 = .ok (.new 63, 3) := by decide +kernel
theorem dX11_init_112 : decode cX11_init 112 = .ok (.dup, 1) := by decide +kernel
theorem dX11_init_113 : decode cX11_init 113 = .ok (.invokespecial 65, 3) := by decide +kernel
theorem dX11_init_116 : decode cX11_init 116 = .ok (.putfield 66, 3) := by decide +kernel
theorem dX11_init_119 : decode cX11_init 119 = .ok (.aload_n 0, 1) := by decide +kernel
theorem dX11_init_120 : decode cX11_init 120 = .ok (.new 70, 3) := by decide +kernel
theorem dX11_init_123 : decode cX11_init 123 = .ok (.dup, 1) := by decide +kernel
theorem dX11_init_124 : decode cX11_init 124 = .ok (.aload_n 0, 1) := by decide +kernel
theorem dX11_init_125 : decode cX11_init 125 = .ok (.getfield 10, 3) := by decide +kernel
theorem dX11_init_128 : decode cX11_init 128 = .ok (.aload_n 0, 1) := by decide +kernel
theorem dX11_init_129 : decode cX11_init 129 = .ok (.getfield 59, 3) := by decide +kernel
theorem dX11_init_132 : decode cX11_init 132 = .ok (.aload_n 0, 1) := by decide +kernel
theorem dX11_init_133 : decode cX11_init 133 = .ok (.getfield 66, 3) := by decide +kernel
theorem dX11_init_136 : decode cX11_init 136 = .ok (.invokespecial 72, 3) := by decide +kernel
theorem dX11_init_139 : decode cX11_init 139 = .ok (.putfield 75, 3) := by decide +kernel
theorem dX11_init_142 : decode cX11_init 142 = .ok (.aload_n 0, 1) := by decide +kernel
theorem dX11_init_143 : decode cX11_init 143 = .ok (.new 79, 3) := by decide +kernel
theorem dX11_init_146 : decode cX11_init 146 = .ok (.dup, 1) := by decide +kernel
theorem dX11_init_147 : decode cX11_init 147 = .ok (.aload_n 0, 1) := by decide +kernel
theorem dX11_init_148 : decode cX11_init 148 = .ok (.getfield 10, 3) := by decide +kernel
theorem dX11_init_151 : decode cX11_init 151 = .ok (.invokespecial 81, 3) := by decide +kernel
theorem dX11_init_154 : decode cX11_init 154 = .ok (.putfield 84, 3) := by decide +kernel
theorem dX11_init_157 : decode cX11_init 157 = .ok (.aload_n 0, 1) := by decide +kernel
theorem dX11_init_158 : decode cX11_init 158 = .ok (.new 88, 3) := by decide +kernel
theorem dX11_init_161 : decode cX11_init 161 = .ok (.dup, 1) := by decide +kernel
theorem dX11_init_162 : decode cX11_init 162 = .ok (.invokespecial 90, 3) := by decide +kernel
theorem dX11_init_165 : decode cX11_init 165 = .ok (.putfield 91, 3) := by decide +kernel
theorem dX11_init_168 : decode cX11_init 168 = .ok (.aload_n 0, 1) := by decide +kernel
theorem dX11_init_169 : decode cX11_init 169 = .ok (.new 95, 3) := by decide +kernel
theorem dX11_init_172 : decode cX11_init 172 = .ok (.dup, 1) := by decide +kernel
theorem dX11_init_173 : decode cX11_init 173 = .ok (.invokespecial 97, 3) := by decide +kernel
theorem dX11_init_176 : decode cX11_init 176 = .ok (.putfield 98, 3) := by decide +kernel
theorem dX11_init_179 : decode cX11_init 179 = .ok (.return_, 1) := by decide +kernel
theorem dX11_sign_0 : decode cX11_sign 0 = .ok (.aload_n 0, 1) := by decide +kernel
theorem dX11_sign_1 : decode cX11_sign 1 = .ok (.getfield 33, 3) := by decide +kernel
theorem dX11_sign_4 : decode cX11_sign 4 = .ok (.iload_n 1, 1) := by decide +kernel
theorem dX11_sign_5 : decode cX11_sign 5 = .ok (.invokevirtual 102, 3) := by decide +kernel
theorem dX11_sign_8 : decode cX11_sign 8 = .ok (.ifCond .eq 13, 3) := by decide +kernel
theorem dX11_sign_11 : decode cX11_sign 11 = .ok (.aload_n 0, 1) := by decide +kernel
theorem dX11_sign_12 : decode cX11_sign 12 = .ok (.getfield 33, 3) := by decide +kernel
theorem dX11_sign_15 : decode cX11_sign 15 = .ok (.getfield 106, 3) := by decide +kernel
theorem dX11_sign_18 : decode cX11_sign 18 = .ok (.goto 4, 3) := by decide +kernel
theorem dX11_sign_21 : decode cX11_sign 21 = .ok (.iconst (-1), 1) := by decide +kernel
theorem dX11_sign_22 : decode cX11_sign 22 = .ok (.ireturn, 1) := by decide +kernel
theorem dX11_end_0 : decode cX11_end 0 = .ok (.aload_n 0, 1) := by decide +kernel
theorem dX11_end_1 : decode cX11_end 1 = .ok (.getfield 33, 3) := by decide +kernel
theorem dX11_end_4 : decode cX11_end 4 = .ok (.iload_n 1, 1) := by decide +kernel
theorem dX11_end_5 : decode cX11_end 5 = .ok (.invokevirtual 110, 3) := by decide +kernel
theorem dX11_end_8 : decode cX11_end 8 = .ok (.ireturn, 1) := by decide +kernel
theorem dX11_rule_0 : decode cX11_rule 0 = .ok (.aload_n 0, 1) := by decide +kernel
theorem dX11_rule_1 : decode cX11_rule 1 = .ok (.getfield 51, 3) := by decide +kernel
theorem dX11_rule_4 : decode cX11_rule 4 = .ok (.aload_n 0, 1) := by decide +kernel
theorem dX11_rule_5 : decode cX11_rule 5 = .ok (.getfield 33, 3) := by decide +kernel
theorem dX11_rule_8 : decode cX11_rule 8 = .ok (.invokevirtual 113, 3) := by decide +kernel
theorem dX11_rule_11 : decode cX11_rule 11 = .ok (.istore_n 1, 1) := by decide +kernel
theorem dX11_rule_12 : decode cX11_rule 12 = .ok (.aload_n 0, 1) := by decide +kernel
theorem dX11_rule_13 : decode cX11_rule 13 = .ok (.getfield 33, 3) := by decide +kernel
theorem dX11_rule_16 : decode cX11_rule 16 = .ok (.invokevirtual 117, 3) := by decide +kernel
theorem dX11_rule_19 : decode cX11_rule 19 = .ok (.iload_n 1, 1) := by decide +kernel
theorem dX11_rule_20 : decode cX11_rule 20 = .ok (.iconst (-1), 1) := by decide +kernel
theorem dX11_rule_21 : decode cX11_rule 21 = .ok (.if_icmp .eq 7, 3) := by decide +kernel
theorem dX11_rule_24 : decode cX11_rule 24 = .ok (.iconst (-1), 1) := by decide +kernel
theorem dX11_rule_25 : decode cX11_rule 25 = .ok (.iload_n 1, 1) := by decide +kernel
theorem dX11_rule_26 : decode cX11_rule 26 = .ok (.isub, 1) := by decide +kernel
theorem dX11_rule_27 : decode cX11_rule 27 = .ok (.ireturn, 1) := by decide +kernel
theorem dX11_rule_28 : decode cX11_rule 28 = .ok (.aload_n 0, 1) := by decide +kernel
theorem dX11_rule_29 : decode cX11_rule 29 = .ok (.getfield 47, 3) := by decide +kernel
theorem dX11_rule_32 : decode cX11_rule 32 = .ok (.aload_n 0, 1) := by decide +kernel
theorem dX11_rule_33 : decode cX11_rule 33 = .ok (.getfield 51, 3) := by decide +kernel
theorem dX11_rule_36 : decode cX11_rule 36 = .ok (.invokevirtual 120, 3) := by decide +kernel
theorem dX11_rule_39 : decode cX11_rule 39 = .ok (.iconst 0, 1) := by decide +kernel
theorem dX11_rule_40 : decode cX11_rule 40 = .ok (.ireturn, 1) := by decide +kernel
theorem dX11_place_0 : decode cX11_place 0 = .ok (.aload_n 0, 1) := by decide +kernel
theorem dX11_place_1 : decode cX11_place 1 = .ok (.getfield 33, 3) := by decide +kernel
theorem dX11_place_4 : decode cX11_place 4 = .ok (.getfield 106, 3) := by decide +kernel
theorem dX11_place_7 : decode cX11_place 7 = .ok (.istore_n 1, 1) := by decide +kernel
theorem dX11_place_8 : decode cX11_place 8 = .ok (.aload_n 0, 1) := by decide +kernel
theorem dX11_place_9 : decode cX11_place 9 = .ok (.getfield 66, 3) := by decide +kernel
theorem dX11_place_12 : decode cX11_place 12 = .ok (.aload_n 0, 1) := by decide +kernel
theorem dX11_place_13 : decode cX11_place 13 = .ok (.getfield 10, 3) := by decide +kernel
theorem dX11_place_16 : decode cX11_place 16 = .ok (.aload_n 0, 1) := by decide +kernel
theorem dX11_place_17 : decode cX11_place 17 = .ok (.getfield 33, 3) := by decide +kernel
theorem dX11_place_20 : decode cX11_place 20 = .ok (.iconst 0, 1) := by decide +kernel
theorem dX11_place_21 : decode cX11_place 21 = .ok (.invokevirtual 124, 3) := by decide +kernel
theorem dX11_place_24 : decode cX11_place 24 = .ok (.istore_n 2, 1) := by decide +kernel
theorem dX11_place_25 : decode cX11_place 25 = .ok (.aload_n 0, 1) := by decide +kernel
theorem dX11_place_26 : decode cX11_place 26 = .ok (.getfield 33, 3) := by decide +kernel
theorem dX11_place_29 : decode cX11_place 29 = .ok (.invokevirtual 117, 3) := by decide +kernel
theorem dX11_place_32 : decode cX11_place 32 = .ok (.iload_n 1, 1) := by decide +kernel
theorem dX11_place_33 : decode cX11_place 33 = .ok (.ifCond .eq 8, 3) := by decide +kernel
theorem dX11_place_36 : decode cX11_place 36 = .ok (.iload_n 2, 1) := by decide +kernel
theorem dX11_place_37 : decode cX11_place 37 = .ok (.iload_n 1, 1) := by decide +kernel
theorem dX11_place_38 : decode cX11_place 38 = .ok (.if_icmp .ge 7, 3) := by decide +kernel
theorem dX11_place_41 : decode cX11_place 41 = .ok (.iconst (-1), 1) := by decide +kernel
theorem dX11_place_42 : decode cX11_place 42 = .ok (.iload_n 2, 1) := by decide +kernel
theorem dX11_place_43 : decode cX11_place 43 = .ok (.isub, 1) := by decide +kernel
theorem dX11_place_44 : decode cX11_place 44 = .ok (.ireturn, 1) := by decide +kernel
theorem dX11_place_45 : decode cX11_place 45 = .ok (.aload_n 0, 1) := by decide +kernel
theorem dX11_place_46 : decode cX11_place 46 = .ok (.getfield 40, 3) := by decide +kernel
theorem dX11_place_49 : decode cX11_place 49 = .ok (.aload_n 0, 1) := by decide +kernel
theorem dX11_place_50 : decode cX11_place 50 = .ok (.getfield 10, 3) := by decide +kernel
theorem dX11_place_53 : decode cX11_place 53 = .ok (.aload_n 0, 1) := by decide +kernel
theorem dX11_place_54 : decode cX11_place 54 = .ok (.getfield 66, 3) := by decide +kernel
theorem dX11_place_57 : decode cX11_place 57 = .ok (.getfield 128, 3) := by decide +kernel
theorem dX11_place_60 : decode cX11_place 60 = .ok (.aload_n 0, 1) := by decide +kernel
theorem dX11_place_61 : decode cX11_place 61 = .ok (.getfield 66, 3) := by decide +kernel
theorem dX11_place_64 : decode cX11_place 64 = .ok (.getfield 131, 3) := by decide +kernel
theorem dX11_place_67 : decode cX11_place 67 = .ok (.invokevirtual 134, 3) := by decide +kernel
theorem dX11_place_70 : decode cX11_place 70 = .ok (.i2l, 1) := by decide +kernel
theorem dX11_place_71 : decode cX11_place 71 = .ok (.invokevirtual 138, 3) := by decide +kernel
theorem dX11_place_74 : decode cX11_place 74 = .ok (.bipush 100, 2) := by decide +kernel
theorem dX11_place_76 : decode cX11_place 76 = .ok (.aload_n 0, 1) := by decide +kernel
theorem dX11_place_77 : decode cX11_place 77 = .ok (.getfield 66, 3) := by decide +kernel
theorem dX11_place_80 : decode cX11_place 80 = .ok (.getfield 128, 3) := by decide +kernel
theorem dX11_place_83 : decode cX11_place 83 = .ok (.imul, 1) := by decide +kernel
theorem dX11_place_84 : decode cX11_place 84 = .ok (.aload_n 0, 1) := by decide +kernel
theorem dX11_place_85 : decode cX11_place 85 = .ok (.getfield 66, 3) := by decide +kernel
theorem dX11_place_88 : decode cX11_place 88 = .ok (.getfield 131, 3) := by decide +kernel
theorem dX11_place_91 : decode cX11_place 91 = .ok (.iadd, 1) := by decide +kernel
theorem dX11_place_92 : decode cX11_place 92 = .ok (.ireturn, 1) := by decide +kernel
theorem dX11_mount_0 : decode cX11_mount 0 = .ok (.aload_n 0, 1) := by decide +kernel
theorem dX11_mount_1 : decode cX11_mount 1 = .ok (.getfield 10, 3) := by decide +kernel
theorem dX11_mount_4 : decode cX11_mount 4 = .ok (.iload_n 1, 1) := by decide +kernel
theorem dX11_mount_5 : decode cX11_mount 5 = .ok (.invokevirtual 142, 3) := by decide +kernel
theorem dX11_mount_8 : decode cX11_mount 8 = .ok (.ifCond .ne 13, 3) := by decide +kernel
theorem dX11_mount_11 : decode cX11_mount 11 = .ok (.new 145, 3) := by decide +kernel
theorem dX11_mount_14 : decode cX11_mount 14 = .ok (.dup, 1) := by decide +kernel
theorem dX11_mount_15 : decode cX11_mount 15 = .ok (.ldc 147, 2) := by decide +kernel
theorem dX11_mount_17 : decode cX11_mount 17 = .ok (.invokespecial 149, 3) := by decide +kernel
theorem dX11_mount_20 : decode cX11_mount 20 = .ok (.athrow, 1) := by decide +kernel
theorem dX11_mount_21 : decode cX11_mount 21 = .ok (.iload_n 2, 1) := by decide +kernel
theorem dX11_mount_22 : decode cX11_mount 22 = .ok (.tableswitch 92 0 5 #[38, 47, 56, 65, 74, 83], 38) := by decide +kernel
theorem dX11_mount_60 : decode cX11_mount 60 = .ok (.aload_n 0, 1) := by decide +kernel
theorem dX11_mount_61 : decode cX11_mount 61 = .ok (.getfield 10, 3) := by decide +kernel
theorem dX11_mount_64 : decode cX11_mount 64 = .ok (.iload_n 1, 1) := by decide +kernel
theorem dX11_mount_65 : decode cX11_mount 65 = .ok (.invokevirtual 152, 3) := by decide +kernel
theorem dX11_mount_68 : decode cX11_mount 68 = .ok (.ireturn, 1) := by decide +kernel
theorem dX11_mount_69 : decode cX11_mount 69 = .ok (.aload_n 0, 1) := by decide +kernel
theorem dX11_mount_70 : decode cX11_mount 70 = .ok (.getfield 10, 3) := by decide +kernel
theorem dX11_mount_73 : decode cX11_mount 73 = .ok (.iload_n 1, 1) := by decide +kernel
theorem dX11_mount_74 : decode cX11_mount 74 = .ok (.invokevirtual 156, 3) := by decide +kernel
theorem dX11_mount_77 : decode cX11_mount 77 = .ok (.ireturn, 1) := by decide +kernel
theorem dX11_mount_78 : decode cX11_mount 78 = .ok (.aload_n 0, 1) := by decide +kernel
theorem dX11_mount_79 : decode cX11_mount 79 = .ok (.getfield 10, 3) := by decide +kernel
theorem dX11_mount_82 : decode cX11_mount 82 = .ok (.iload_n 1, 1) := by decide +kernel
theorem dX11_mount_83 : decode cX11_mount 83 = .ok (.invokevirtual 159, 3) := by decide +kernel
theorem dX11_mount_86 : decode cX11_mount 86 = .ok (.ireturn, 1) := by decide +kernel
theorem dX11_mount_87 : decode cX11_mount 87 = .ok (.aload_n 0, 1) := by decide +kernel
theorem dX11_mount_88 : decode cX11_mount 88 = .ok (.getfield 10, 3) := by decide +kernel
theorem dX11_mount_91 : decode cX11_mount 91 = .ok (.iload_n 1, 1) := by decide +kernel
theorem dX11_mount_92 : decode cX11_mount 92 = .ok (.invokevirtual 162, 3) := by decide +kernel
theorem dX11_mount_95 : decode cX11_mount 95 = .ok (.ireturn, 1) := by decide +kernel
theorem dX11_mount_96 : decode cX11_mount 96 = .ok (.aload_n 0, 1) := by decide +kernel
theorem dX11_mount_97 : decode cX11_mount 97 = .ok (.getfield 10, 3) := by decide +kernel
theorem dX11_mount_100 : decode cX11_mount 100 = .ok (.iload_n 1, 1) := by decide +kernel
theorem dX11_mount_101 : decode cX11_mount 101 = .ok (.invokevirtual 165, 3) := by decide +kernel
theorem dX11_mount_104 : decode cX11_mount 104 = .ok (.ireturn, 1) := by decide +kernel
theorem dX11_mount_105 : decode cX11_mount 105 = .ok (.aload_n 0, 1) := by decide +kernel
theorem dX11_mount_106 : decode cX11_mount 106 = .ok (.getfield 10, 3) := by decide +kernel
theorem dX11_mount_109 : decode cX11_mount 109 = .ok (.iload_n 1, 1) := by decide +kernel
theorem dX11_mount_110 : decode cX11_mount 110 = .ok (.invokevirtual 168, 3) := by decide +kernel
theorem dX11_mount_113 : decode cX11_mount 113 = .ok (.ireturn, 1) := by decide +kernel
theorem dX11_mount_114 : decode cX11_mount 114 = .ok (.new 145, 3) := by decide +kernel
theorem dX11_mount_117 : decode cX11_mount 117 = .ok (.dup, 1) := by decide +kernel
theorem dX11_mount_118 : decode cX11_mount 118 = .ok (.ldc 171, 2) := by decide +kernel
theorem dX11_mount_120 : decode cX11_mount 120 = .ok (.invokespecial 149, 3) := by decide +kernel
theorem dX11_mount_123 : decode cX11_mount 123 = .ok (.athrow, 1) := by decide +kernel
theorem dX11_at_0 : decode cX11_at 0 = .ok (.aload_n 0, 1) := by decide +kernel
theorem dX11_at_1 : decode cX11_at 1 = .ok (.getfield 10, 3) := by decide +kernel
theorem dX11_at_4 : decode cX11_at 4 = .ok (.iload_n 1, 1) := by decide +kernel
theorem dX11_at_5 : decode cX11_at 5 = .ok (.iload_n 2, 1) := by decide +kernel
theorem dX11_at_6 : decode cX11_at 6 = .ok (.invokevirtual 173, 3) := by decide +kernel
theorem dX11_at_9 : decode cX11_at 9 = .ok (.ifCond .ne 13, 3) := by decide +kernel
theorem dX11_at_12 : decode cX11_at 12 = .ok (.new 145, 3) := by decide +kernel
theorem dX11_at_15 : decode cX11_at 15 = .ok (.dup, 1) := by decide +kernel
theorem dX11_at_16 : decode cX11_at 16 = .ok (.ldc 177, 2) := by decide +kernel
theorem dX11_at_18 : decode cX11_at 18 = .ok (.invokespecial 149, 3) := by decide +kernel
theorem dX11_at_21 : decode cX11_at 21 = .ok (.athrow, 1) := by decide +kernel
theorem dX11_at_22 : decode cX11_at 22 = .ok (.aload_n 0, 1) := by decide +kernel
theorem dX11_at_23 : decode cX11_at 23 = .ok (.getfield 10, 3) := by decide +kernel
theorem dX11_at_26 : decode cX11_at 26 = .ok (.iload_n 1, 1) := by decide +kernel
theorem dX11_at_27 : decode cX11_at 27 = .ok (.iload_n 2, 1) := by decide +kernel
theorem dX11_at_28 : decode cX11_at 28 = .ok (.invokevirtual 134, 3) := by decide +kernel
theorem dX11_at_31 : decode cX11_at 31 = .ok (.ireturn, 1) := by decide +kernel
theorem dX11_sheet_0 : decode cX11_sheet 0 = .ok (.iload_n 1, 1) := by decide +kernel
theorem dX11_sheet_1 : decode cX11_sheet 1 = .ok (.ifCond .lt 14, 3) := by decide +kernel
theorem dX11_sheet_4 : decode cX11_sheet 4 = .ok (.iload_n 1, 1) := by decide +kernel
theorem dX11_sheet_5 : decode cX11_sheet 5 = .ok (.iconst 3, 1) := by decide +kernel
theorem dX11_sheet_6 : decode cX11_sheet 6 = .ok (.if_icmp .gt 9, 3) := by decide +kernel
theorem dX11_sheet_9 : decode cX11_sheet 9 = .ok (.iload_n 2, 1) := by decide +kernel
theorem dX11_sheet_10 : decode cX11_sheet 10 = .ok (.bipush 24, 2) := by decide +kernel
theorem dX11_sheet_12 : decode cX11_sheet 12 = .ok (.if_icmp .le 5, 3) := by decide +kernel
theorem dX11_sheet_15 : decode cX11_sheet 15 = .ok (.iconst (-1), 1) := by decide +kernel
theorem dX11_sheet_16 : decode cX11_sheet 16 = .ok (.ireturn, 1) := by decide +kernel
theorem dX11_sheet_17 : decode cX11_sheet 17 = .ok (.iload_n 1, 1) := by decide +kernel
theorem dX11_sheet_18 : decode cX11_sheet 18 = .ok (.iconst 3, 1) := by decide +kernel
theorem dX11_sheet_19 : decode cX11_sheet 19 = .ok (.if_icmp .ne 14, 3) := by decide +kernel
theorem dX11_sheet_22 : decode cX11_sheet 22 = .ok (.aload_n 0, 1) := by decide +kernel
theorem dX11_sheet_23 : decode cX11_sheet 23 = .ok (.getfield 10, 3) := by decide +kernel
theorem dX11_sheet_26 : decode cX11_sheet 26 = .ok (.iconst 0, 1) := by decide +kernel
theorem dX11_sheet_27 : decode cX11_sheet 27 = .ok (.putfield 179, 3) := by decide +kernel
theorem dX11_sheet_30 : decode cX11_sheet 30 = .ok (.bipush (-3), 2) := by decide +kernel
theorem dX11_sheet_32 : decode cX11_sheet 32 = .ok (.ireturn, 1) := by decide +kernel
theorem dX11_sheet_33 : decode cX11_sheet 33 = .ok (.iload_n 2, 1) := by decide +kernel
theorem dX11_sheet_34 : decode cX11_sheet 34 = .ok (.ifCond .ge 6, 3) := by decide +kernel
theorem dX11_sheet_37 : decode cX11_sheet 37 = .ok (.bipush (-2), 2) := by decide +kernel
theorem dX11_sheet_39 : decode cX11_sheet 39 = .ok (.ireturn, 1) := by decide +kernel
theorem dX11_sheet_40 : decode cX11_sheet 40 = .ok (.aload_n 0, 1) := by decide +kernel
theorem dX11_sheet_41 : decode cX11_sheet 41 = .ok (.getfield 10, 3) := by decide +kernel
theorem dX11_sheet_44 : decode cX11_sheet 44 = .ok (.aload_n 0, 1) := by decide +kernel
theorem dX11_sheet_45 : decode cX11_sheet 45 = .ok (.iload_n 1, 1) := by decide +kernel
theorem dX11_sheet_46 : decode cX11_sheet 46 = .ok (.iload_n 2, 1) := by decide +kernel
theorem dX11_sheet_47 : decode cX11_sheet 47 = .ok (.iload_n 3, 1) := by decide +kernel
theorem dX11_sheet_48 : decode cX11_sheet 48 = .ok (.iload 4, 2) := by decide +kernel
theorem dX11_sheet_50 : decode cX11_sheet 50 = .ok (.invokevirtual 182, 3) := by decide +kernel
theorem dX11_sheet_53 : decode cX11_sheet 53 = .ok (.putfield 179, 3) := by decide +kernel
theorem dX11_sheet_56 : decode cX11_sheet 56 = .ok (.aload_n 0, 1) := by decide +kernel
theorem dX11_sheet_57 : decode cX11_sheet 57 = .ok (.getfield 10, 3) := by decide +kernel
theorem dX11_sheet_60 : decode cX11_sheet 60 = .ok (.getfield 179, 3) := by decide +kernel
theorem dX11_sheet_63 : decode cX11_sheet 63 = .ok (.invokestatic 186, 3) := by decide +kernel
theorem dX11_sheet_66 : decode cX11_sheet 66 = .ok (.ireturn, 1) := by decide +kernel
theorem dX11_toldBySheet_0 : decode cX11_toldBySheet 0 = .ok (.iconst 0, 1) := by decide +kernel
theorem dX11_toldBySheet_1 : decode cX11_toldBySheet 1 = .ok (.istore 5, 2) := by decide +kernel
theorem dX11_toldBySheet_3 : decode cX11_toldBySheet 3 = .ok (.iconst 0, 1) := by decide +kernel
theorem dX11_toldBySheet_4 : decode cX11_toldBySheet 4 = .ok (.istore 6, 2) := by decide +kernel
theorem dX11_toldBySheet_6 : decode cX11_toldBySheet 6 = .ok (.iconst 0, 1) := by decide +kernel
theorem dX11_toldBySheet_7 : decode cX11_toldBySheet 7 = .ok (.istore 7, 2) := by decide +kernel
theorem dX11_toldBySheet_9 : decode cX11_toldBySheet 9 = .ok (.iload 7, 2) := by decide +kernel
theorem dX11_toldBySheet_11 : decode cX11_toldBySheet 11 = .ok (.bipush 24, 2) := by decide +kernel
theorem dX11_toldBySheet_13 : decode cX11_toldBySheet 13 = .ok (.if_icmp .ge 81, 3) := by decide +kernel
theorem dX11_toldBySheet_16 : decode cX11_toldBySheet 16 = .ok (.iload 6, 2) := by decide +kernel
theorem dX11_toldBySheet_18 : decode cX11_toldBySheet 18 = .ok (.iload_n 2, 1) := by decide +kernel
theorem dX11_toldBySheet_19 : decode cX11_toldBySheet 19 = .ok (.if_icmp .ge 75, 3) := by decide +kernel
theorem dX11_toldBySheet_22 : decode cX11_toldBySheet 22 = .ok (.aload_n 0, 1) := by decide +kernel
theorem dX11_toldBySheet_23 : decode cX11_toldBySheet 23 = .ok (.getfield 10, 3) := by decide +kernel
theorem dX11_toldBySheet_26 : decode cX11_toldBySheet 26 = .ok (.iload 7, 2) := by decide +kernel
theorem dX11_toldBySheet_28 : decode cX11_toldBySheet 28 = .ok (.invokevirtual 142, 3) := by decide +kernel
theorem dX11_toldBySheet_31 : decode cX11_toldBySheet 31 = .ok (.ifCond .eq 57, 3) := by decide +kernel
theorem dX11_toldBySheet_34 : decode cX11_toldBySheet 34 = .ok (.iload_n 3, 1) := by decide +kernel
theorem dX11_toldBySheet_35 : decode cX11_toldBySheet 35 = .ok (.iload 6, 2) := by decide +kernel
theorem dX11_toldBySheet_37 : decode cX11_toldBySheet 37 = .ok (.iload 4, 2) := by decide +kernel
theorem dX11_toldBySheet_39 : decode cX11_toldBySheet 39 = .ok (.imul, 1) := by decide +kernel
theorem dX11_toldBySheet_40 : decode cX11_toldBySheet 40 = .ok (.iadd, 1) := by decide +kernel
theorem dX11_toldBySheet_41 : decode cX11_toldBySheet 41 = .ok (.istore 8, 2) := by decide +kernel
theorem dX11_toldBySheet_43 : decode cX11_toldBySheet 43 = .ok (.iinc 6 1, 3) := by decide +kernel
theorem dX11_toldBySheet_46 : decode cX11_toldBySheet 46 = .ok (.aload_n 0, 1) := by decide +kernel
theorem dX11_toldBySheet_47 : decode cX11_toldBySheet 47 = .ok (.getfield 10, 3) := by decide +kernel
theorem dX11_toldBySheet_50 : decode cX11_toldBySheet 50 = .ok (.iload 7, 2) := by decide +kernel
theorem dX11_toldBySheet_52 : decode cX11_toldBySheet 52 = .ok (.invokevirtual 159, 3) := by decide +kernel
theorem dX11_toldBySheet_55 : decode cX11_toldBySheet 55 = .ok (.ifCond .ne 33, 3) := by decide +kernel
theorem dX11_toldBySheet_58 : decode cX11_toldBySheet 58 = .ok (.aload_n 0, 1) := by decide +kernel
theorem dX11_toldBySheet_59 : decode cX11_toldBySheet 59 = .ok (.getfield 10, 3) := by decide +kernel
theorem dX11_toldBySheet_62 : decode cX11_toldBySheet 62 = .ok (.iload 7, 2) := by decide +kernel
theorem dX11_toldBySheet_64 : decode cX11_toldBySheet 64 = .ok (.invokevirtual 162, 3) := by decide +kernel
theorem dX11_toldBySheet_67 : decode cX11_toldBySheet 67 = .ok (.ifCond .ne 21, 3) := by decide +kernel
theorem dX11_toldBySheet_70 : decode cX11_toldBySheet 70 = .ok (.iload_n 1, 1) := by decide +kernel
theorem dX11_toldBySheet_71 : decode cX11_toldBySheet 71 = .ok (.iload 8, 2) := by decide +kernel
theorem dX11_toldBySheet_73 : decode cX11_toldBySheet 73 = .ok (.invokestatic 191, 3) := by decide +kernel
theorem dX11_toldBySheet_76 : decode cX11_toldBySheet 76 = .ok (.ifCond .le 12, 3) := by decide +kernel
theorem dX11_toldBySheet_79 : decode cX11_toldBySheet 79 = .ok (.iload 5, 2) := by decide +kernel
theorem dX11_toldBySheet_81 : decode cX11_toldBySheet 81 = .ok (.iconst 1, 1) := by decide +kernel
theorem dX11_toldBySheet_82 : decode cX11_toldBySheet 82 = .ok (.iload 7, 2) := by decide +kernel
theorem dX11_toldBySheet_84 : decode cX11_toldBySheet 84 = .ok (.ishl, 1) := by decide +kernel
theorem dX11_toldBySheet_85 : decode cX11_toldBySheet 85 = .ok (.ior, 1) := by decide +kernel
theorem dX11_toldBySheet_86 : decode cX11_toldBySheet 86 = .ok (.istore 5, 2) := by decide +kernel
theorem dX11_toldBySheet_88 : decode cX11_toldBySheet 88 = .ok (.iinc 7 1, 3) := by decide +kernel
theorem dX11_toldBySheet_91 : decode cX11_toldBySheet 91 = .ok (.goto (-82), 3) := by decide +kernel
theorem dX11_toldBySheet_94 : decode cX11_toldBySheet 94 = .ok (.iload 5, 2) := by decide +kernel
theorem dX11_toldBySheet_96 : decode cX11_toldBySheet 96 = .ok (.ireturn, 1) := by decide +kernel
theorem dX11_asWide_0 : decode cX11_asWide 0 = .ok (.iload_n 0, 1) := by decide +kernel
theorem dX11_asWide_1 : decode cX11_asWide 1 = .ok (.ifCond .ne 8, 3) := by decide +kernel
theorem dX11_asWide_4 : decode cX11_asWide 4 = .ok (.iload_n 1, 1) := by decide +kernel
theorem dX11_asWide_5 : decode cX11_asWide 5 = .ok (.i2b, 1) := by decide +kernel
theorem dX11_asWide_6 : decode cX11_asWide 6 = .ok (.goto 14, 3) := by decide +kernel
theorem dX11_asWide_9 : decode cX11_asWide 9 = .ok (.iload_n 0, 1) := by decide +kernel
theorem dX11_asWide_10 : decode cX11_asWide 10 = .ok (.iconst 1, 1) := by decide +kernel
theorem dX11_asWide_11 : decode cX11_asWide 11 = .ok (.if_icmp .ne 8, 3) := by decide +kernel
theorem dX11_asWide_14 : decode cX11_asWide 14 = .ok (.iload_n 1, 1) := by decide +kernel
theorem dX11_asWide_15 : decode cX11_asWide 15 = .ok (.i2s, 1) := by decide +kernel
theorem dX11_asWide_16 : decode cX11_asWide 16 = .ok (.goto 4, 3) := by decide +kernel
theorem dX11_asWide_19 : decode cX11_asWide 19 = .ok (.iload_n 1, 1) := by decide +kernel
theorem dX11_asWide_20 : decode cX11_asWide 20 = .ok (.ireturn, 1) := by decide +kernel
theorem dX11_mounts_0 : decode cX11_mounts 0 = .ok (.aload_n 0, 1) := by decide +kernel
theorem dX11_mounts_1 : decode cX11_mounts 1 = .ok (.getfield 16, 3) := by decide +kernel
theorem dX11_mounts_4 : decode cX11_mounts 4 = .ok (.aload_n 0, 1) := by decide +kernel
theorem dX11_mounts_5 : decode cX11_mounts 5 = .ok (.getfield 10, 3) := by decide +kernel
theorem dX11_mounts_8 : decode cX11_mounts 8 = .ok (.invokevirtual 194, 3) := by decide +kernel
theorem dX11_mounts_11 : decode cX11_mounts 11 = .ok (.aload_n 0, 1) := by decide +kernel
theorem dX11_mounts_12 : decode cX11_mounts 12 = .ok (.aload_n 0, 1) := by decide +kernel
theorem dX11_mounts_13 : decode cX11_mounts 13 = .ok (.getfield 59, 3) := by decide +kernel
theorem dX11_mounts_16 : decode cX11_mounts 16 = .ok (.iload_n 1, 1) := by decide +kernel
theorem dX11_mounts_17 : decode cX11_mounts 17 = .ok (.iload_n 2, 1) := by decide +kernel
theorem dX11_mounts_18 : decode cX11_mounts 18 = .ok (.invokevirtual 196, 3) := by decide +kernel
theorem dX11_mounts_21 : decode cX11_mounts 21 = .ok (.invokevirtual 199, 3) := by decide +kernel
theorem dX11_mounts_24 : decode cX11_mounts 24 = .ok (.ireturn, 1) := by decide +kernel
theorem dX11_binds_0 : decode cX11_binds 0 = .ok (.aload_n 0, 1) := by decide +kernel
theorem dX11_binds_1 : decode cX11_binds 1 = .ok (.getfield 16, 3) := by decide +kernel
theorem dX11_binds_4 : decode cX11_binds 4 = .ok (.aload_n 0, 1) := by decide +kernel
theorem dX11_binds_5 : decode cX11_binds 5 = .ok (.getfield 10, 3) := by decide +kernel
theorem dX11_binds_8 : decode cX11_binds 8 = .ok (.invokevirtual 194, 3) := by decide +kernel
theorem dX11_binds_11 : decode cX11_binds 11 = .ok (.aload_n 0, 1) := by decide +kernel
theorem dX11_binds_12 : decode cX11_binds 12 = .ok (.aload_n 0, 1) := by decide +kernel
theorem dX11_binds_13 : decode cX11_binds 13 = .ok (.getfield 59, 3) := by decide +kernel
theorem dX11_binds_16 : decode cX11_binds 16 = .ok (.iload_n 1, 1) := by decide +kernel
theorem dX11_binds_17 : decode cX11_binds 17 = .ok (.iload_n 2, 1) := by decide +kernel
theorem dX11_binds_18 : decode cX11_binds 18 = .ok (.iload_n 3, 1) := by decide +kernel
theorem dX11_binds_19 : decode cX11_binds 19 = .ok (.invokevirtual 202, 3) := by decide +kernel
theorem dX11_binds_22 : decode cX11_binds 22 = .ok (.invokevirtual 199, 3) := by decide +kernel
theorem dX11_binds_25 : decode cX11_binds 25 = .ok (.ireturn, 1) := by decide +kernel
theorem dX11_trees_0 : decode cX11_trees 0 = .ok (.aload_n 0, 1) := by decide +kernel
theorem dX11_trees_1 : decode cX11_trees 1 = .ok (.getfield 16, 3) := by decide +kernel
theorem dX11_trees_4 : decode cX11_trees 4 = .ok (.aload_n 0, 1) := by decide +kernel
theorem dX11_trees_5 : decode cX11_trees 5 = .ok (.getfield 10, 3) := by decide +kernel
theorem dX11_trees_8 : decode cX11_trees 8 = .ok (.invokevirtual 194, 3) := by decide +kernel
theorem dX11_trees_11 : decode cX11_trees 11 = .ok (.aload_n 0, 1) := by decide +kernel
theorem dX11_trees_12 : decode cX11_trees 12 = .ok (.aload_n 0, 1) := by decide +kernel
theorem dX11_trees_13 : decode cX11_trees 13 = .ok (.getfield 59, 3) := by decide +kernel
theorem dX11_trees_16 : decode cX11_trees 16 = .ok (.iload_n 1, 1) := by decide +kernel
theorem dX11_trees_17 : decode cX11_trees 17 = .ok (.iload_n 2, 1) := by decide +kernel
theorem dX11_trees_18 : decode cX11_trees 18 = .ok (.iload_n 3, 1) := by decide +kernel
theorem dX11_trees_19 : decode cX11_trees 19 = .ok (.invokevirtual 206, 3) := by decide +kernel
theorem dX11_trees_22 : decode cX11_trees 22 = .ok (.invokevirtual 199, 3) := by decide +kernel
theorem dX11_trees_25 : decode cX11_trees 25 = .ok (.ireturn, 1) := by decide +kernel
theorem dX11_makes_0 : decode cX11_makes 0 = .ok (.aload_n 0, 1) := by decide +kernel
theorem dX11_makes_1 : decode cX11_makes 1 = .ok (.getfield 16, 3) := by decide +kernel
theorem dX11_makes_4 : decode cX11_makes 4 = .ok (.aload_n 0, 1) := by decide +kernel
theorem dX11_makes_5 : decode cX11_makes 5 = .ok (.getfield 10, 3) := by decide +kernel
theorem dX11_makes_8 : decode cX11_makes 8 = .ok (.invokevirtual 194, 3) := by decide +kernel
theorem dX11_makes_11 : decode cX11_makes 11 = .ok (.aload_n 0, 1) := by decide +kernel
theorem dX11_makes_12 : decode cX11_makes 12 = .ok (.aload_n 0, 1) := by decide +kernel
theorem dX11_makes_13 : decode cX11_makes 13 = .ok (.getfield 59, 3) := by decide +kernel
theorem dX11_makes_16 : decode cX11_makes 16 = .ok (.iload_n 1, 1) := by decide +kernel
theorem dX11_makes_17 : decode cX11_makes 17 = .ok (.iload_n 2, 1) := by decide +kernel
theorem dX11_makes_18 : decode cX11_makes 18 = .ok (.invokevirtual 209, 3) := by decide +kernel
theorem dX11_makes_21 : decode cX11_makes 21 = .ok (.invokevirtual 212, 3) := by decide +kernel
theorem dX11_makes_24 : decode cX11_makes 24 = .ok (.ireturn, 1) := by decide +kernel
theorem dX11_unmounts_0 : decode cX11_unmounts 0 = .ok (.aload_n 0, 1) := by decide +kernel
theorem dX11_unmounts_1 : decode cX11_unmounts 1 = .ok (.getfield 16, 3) := by decide +kernel
theorem dX11_unmounts_4 : decode cX11_unmounts 4 = .ok (.aload_n 0, 1) := by decide +kernel
theorem dX11_unmounts_5 : decode cX11_unmounts 5 = .ok (.getfield 10, 3) := by decide +kernel
theorem dX11_unmounts_8 : decode cX11_unmounts 8 = .ok (.invokevirtual 194, 3) := by decide +kernel
theorem dX11_unmounts_11 : decode cX11_unmounts 11 = .ok (.aload_n 0, 1) := by decide +kernel
theorem dX11_unmounts_12 : decode cX11_unmounts 12 = .ok (.aload_n 0, 1) := by decide +kernel
theorem dX11_unmounts_13 : decode cX11_unmounts 13 = .ok (.getfield 59, 3) := by decide +kernel
theorem dX11_unmounts_16 : decode cX11_unmounts 16 = .ok (.iload_n 1, 1) := by decide +kernel
theorem dX11_unmounts_17 : decode cX11_unmounts 17 = .ok (.iload_n 2, 1) := by decide +kernel
theorem dX11_unmounts_18 : decode cX11_unmounts 18 = .ok (.invokevirtual 215, 3) := by decide +kernel
theorem dX11_unmounts_21 : decode cX11_unmounts 21 = .ok (.invokevirtual 212, 3) := by decide +kernel
theorem dX11_unmounts_24 : decode cX11_unmounts 24 = .ok (.istore_n 3, 1) := by decide +kernel
theorem dX11_unmounts_25 : decode cX11_unmounts 25 = .ok (.iload_n 3, 1) := by decide +kernel
theorem dX11_unmounts_26 : decode cX11_unmounts 26 = .ok (.ifCond .lt 28, 3) := by decide +kernel
theorem dX11_unmounts_29 : decode cX11_unmounts 29 = .ok (.aload_n 0, 1) := by decide +kernel
theorem dX11_unmounts_30 : decode cX11_unmounts 30 = .ok (.getfield 40, 3) := by decide +kernel
theorem dX11_unmounts_33 : decode cX11_unmounts 33 = .ok (.aload_n 0, 1) := by decide +kernel
theorem dX11_unmounts_34 : decode cX11_unmounts 34 = .ok (.getfield 16, 3) := by decide +kernel
theorem dX11_unmounts_37 : decode cX11_unmounts 37 = .ok (.getfield 218, 3) := by decide +kernel
theorem dX11_unmounts_40 : decode cX11_unmounts 40 = .ok (.aload_n 0, 1) := by decide +kernel
theorem dX11_unmounts_41 : decode cX11_unmounts 41 = .ok (.getfield 10, 3) := by decide +kernel
theorem dX11_unmounts_44 : decode cX11_unmounts 44 = .ok (.getfield 218, 3) := by decide +kernel
theorem dX11_unmounts_47 : decode cX11_unmounts 47 = .ok (.iconst (-1), 1) := by decide +kernel
theorem dX11_unmounts_48 : decode cX11_unmounts 48 = .ok (.ixor, 1) := by decide +kernel
theorem dX11_unmounts_49 : decode cX11_unmounts 49 = .ok (.iand, 1) := by decide +kernel
theorem dX11_unmounts_50 : decode cX11_unmounts 50 = .ok (.i2l, 1) := by decide +kernel
theorem dX11_unmounts_51 : decode cX11_unmounts 51 = .ok (.invokevirtual 138, 3) := by decide +kernel
theorem dX11_unmounts_54 : decode cX11_unmounts 54 = .ok (.iload_n 3, 1) := by decide +kernel
theorem dX11_unmounts_55 : decode cX11_unmounts 55 = .ok (.ireturn, 1) := by decide +kernel
theorem dX11_moves_0 : decode cX11_moves 0 = .ok (.aload_n 0, 1) := by decide +kernel
theorem dX11_moves_1 : decode cX11_moves 1 = .ok (.getfield 16, 3) := by decide +kernel
theorem dX11_moves_4 : decode cX11_moves 4 = .ok (.aload_n 0, 1) := by decide +kernel
theorem dX11_moves_5 : decode cX11_moves 5 = .ok (.getfield 10, 3) := by decide +kernel
theorem dX11_moves_8 : decode cX11_moves 8 = .ok (.invokevirtual 194, 3) := by decide +kernel
theorem dX11_moves_11 : decode cX11_moves 11 = .ok (.aload_n 0, 1) := by decide +kernel
theorem dX11_moves_12 : decode cX11_moves 12 = .ok (.aload_n 0, 1) := by decide +kernel
theorem dX11_moves_13 : decode cX11_moves 13 = .ok (.getfield 59, 3) := by decide +kernel
theorem dX11_moves_16 : decode cX11_moves 16 = .ok (.iload_n 1, 1) := by decide +kernel
theorem dX11_moves_17 : decode cX11_moves 17 = .ok (.iload_n 2, 1) := by decide +kernel
theorem dX11_moves_18 : decode cX11_moves 18 = .ok (.iload_n 3, 1) := by decide +kernel
theorem dX11_moves_19 : decode cX11_moves 19 = .ok (.invokevirtual 221, 3) := by decide +kernel
theorem dX11_moves_22 : decode cX11_moves 22 = .ok (.invokevirtual 212, 3) := by decide +kernel
theorem dX11_moves_25 : decode cX11_moves 25 = .ok (.ireturn, 1) := by decide +kernel
theorem dX11_remembered_0 : decode cX11_remembered 0 = .ok (.iload_n 1, 1) := by decide +kernel
theorem dX11_remembered_1 : decode cX11_remembered 1 = .ok (.ifCond .lt 14, 3) := by decide +kernel
theorem dX11_remembered_4 : decode cX11_remembered 4 = .ok (.aload_n 0, 1) := by decide +kernel
theorem dX11_remembered_5 : decode cX11_remembered 5 = .ok (.getfield 22, 3) := by decide +kernel
theorem dX11_remembered_8 : decode cX11_remembered 8 = .ok (.aload_n 0, 1) := by decide +kernel
theorem dX11_remembered_9 : decode cX11_remembered 9 = .ok (.getfield 16, 3) := by decide +kernel
theorem dX11_remembered_12 : decode cX11_remembered 12 = .ok (.invokevirtual 224, 3) := by decide +kernel
theorem dX11_remembered_15 : decode cX11_remembered 15 = .ok (.iload_n 1, 1) := by decide +kernel
theorem dX11_remembered_16 : decode cX11_remembered 16 = .ok (.ireturn, 1) := by decide +kernel
theorem dX11_toldWithCame_0 : decode cX11_toldWithCame 0 = .ok (.aload_n 0, 1) := by decide +kernel
theorem dX11_toldWithCame_1 : decode cX11_toldWithCame 1 = .ok (.iload_n 1, 1) := by decide +kernel
theorem dX11_toldWithCame_2 : decode cX11_toldWithCame 2 = .ok (.invokevirtual 212, 3) := by decide +kernel
theorem dX11_toldWithCame_5 : decode cX11_toldWithCame 5 = .ok (.ifCond .lt 35, 3) := by decide +kernel
theorem dX11_toldWithCame_8 : decode cX11_toldWithCame 8 = .ok (.aload_n 0, 1) := by decide +kernel
theorem dX11_toldWithCame_9 : decode cX11_toldWithCame 9 = .ok (.getfield 10, 3) := by decide +kernel
theorem dX11_toldWithCame_12 : decode cX11_toldWithCame 12 = .ok (.getfield 218, 3) := by decide +kernel
theorem dX11_toldWithCame_15 : decode cX11_toldWithCame 15 = .ok (.aload_n 0, 1) := by decide +kernel
theorem dX11_toldWithCame_16 : decode cX11_toldWithCame 16 = .ok (.getfield 16, 3) := by decide +kernel
theorem dX11_toldWithCame_19 : decode cX11_toldWithCame 19 = .ok (.getfield 218, 3) := by decide +kernel
theorem dX11_toldWithCame_22 : decode cX11_toldWithCame 22 = .ok (.iconst (-1), 1) := by decide +kernel
theorem dX11_toldWithCame_23 : decode cX11_toldWithCame 23 = .ok (.ixor, 1) := by decide +kernel
theorem dX11_toldWithCame_24 : decode cX11_toldWithCame 24 = .ok (.iand, 1) := by decide +kernel
theorem dX11_toldWithCame_25 : decode cX11_toldWithCame 25 = .ok (.istore_n 2, 1) := by decide +kernel
theorem dX11_toldWithCame_26 : decode cX11_toldWithCame 26 = .ok (.aload_n 0, 1) := by decide +kernel
theorem dX11_toldWithCame_27 : decode cX11_toldWithCame 27 = .ok (.getfield 40, 3) := by decide +kernel
theorem dX11_toldWithCame_30 : decode cX11_toldWithCame 30 = .ok (.iload_n 2, 1) := by decide +kernel
theorem dX11_toldWithCame_31 : decode cX11_toldWithCame 31 = .ok (.invokestatic 186, 3) := by decide +kernel
theorem dX11_toldWithCame_34 : decode cX11_toldWithCame 34 = .ok (.i2l, 1) := by decide +kernel
theorem dX11_toldWithCame_35 : decode cX11_toldWithCame 35 = .ok (.iload_n 2, 1) := by decide +kernel
theorem dX11_toldWithCame_36 : decode cX11_toldWithCame 36 = .ok (.i2l, 1) := by decide +kernel
theorem dX11_toldWithCame_37 : decode cX11_toldWithCame 37 = .ok (.invokevirtual 227, 3) := by decide +kernel
theorem dX11_toldWithCame_40 : decode cX11_toldWithCame 40 = .ok (.iload_n 1, 1) := by decide +kernel
theorem dX11_toldWithCame_41 : decode cX11_toldWithCame 41 = .ok (.ireturn, 1) := by decide +kernel
theorem dX11_day_0 : decode cX11_day 0 = .ok (.aload_n 0, 1) := by decide +kernel
theorem dX11_day_1 : decode cX11_day 1 = .ok (.getfield 75, 3) := by decide +kernel
theorem dX11_day_4 : decode cX11_day 4 = .ok (.aload_n 0, 1) := by decide +kernel
theorem dX11_day_5 : decode cX11_day 5 = .ok (.getfield 33, 3) := by decide +kernel
theorem dX11_day_8 : decode cX11_day 8 = .ok (.invokevirtual 231, 3) := by decide +kernel
theorem dX11_day_11 : decode cX11_day 11 = .ok (.istore_n 1, 1) := by decide +kernel
theorem dX11_day_12 : decode cX11_day 12 = .ok (.iload_n 1, 1) := by decide +kernel
theorem dX11_day_13 : decode cX11_day 13 = .ok (.iconst (-1), 1) := by decide +kernel
theorem dX11_day_14 : decode cX11_day 14 = .ok (.if_icmp .eq 14, 3) := by decide +kernel
theorem dX11_day_17 : decode cX11_day 17 = .ok (.aload_n 0, 1) := by decide +kernel
theorem dX11_day_18 : decode cX11_day 18 = .ok (.getfield 33, 3) := by decide +kernel
theorem dX11_day_21 : decode cX11_day 21 = .ok (.invokevirtual 117, 3) := by decide +kernel
theorem dX11_day_24 : decode cX11_day 24 = .ok (.iconst (-1), 1) := by decide +kernel
theorem dX11_day_25 : decode cX11_day 25 = .ok (.iload_n 1, 1) := by decide +kernel
theorem dX11_day_26 : decode cX11_day 26 = .ok (.isub, 1) := by decide +kernel
theorem dX11_day_27 : decode cX11_day 27 = .ok (.ireturn, 1) := by decide +kernel
theorem dX11_day_28 : decode cX11_day 28 = .ok (.aload_n 0, 1) := by decide +kernel
theorem dX11_day_29 : decode cX11_day 29 = .ok (.getfield 16, 3) := by decide +kernel
theorem dX11_day_32 : decode cX11_day 32 = .ok (.aload_n 0, 1) := by decide +kernel
theorem dX11_day_33 : decode cX11_day 33 = .ok (.getfield 10, 3) := by decide +kernel
theorem dX11_day_36 : decode cX11_day 36 = .ok (.invokevirtual 194, 3) := by decide +kernel
theorem dX11_day_39 : decode cX11_day 39 = .ok (.iconst 0, 1) := by decide +kernel
theorem dX11_day_40 : decode cX11_day 40 = .ok (.istore_n 2, 1) := by decide +kernel
theorem dX11_day_41 : decode cX11_day 41 = .ok (.iconst 1, 1) := by decide +kernel
theorem dX11_day_42 : decode cX11_day 42 = .ok (.istore_n 3, 1) := by decide +kernel
theorem dX11_day_43 : decode cX11_day 43 = .ok (.aload_n 0, 1) := by decide +kernel
theorem dX11_day_44 : decode cX11_day 44 = .ok (.getfield 75, 3) := by decide +kernel
theorem dX11_day_47 : decode cX11_day 47 = .ok (.invokevirtual 232, 3) := by decide +kernel
theorem dX11_day_50 : decode cX11_day 50 = .ok (.iconst 0, 1) := by decide +kernel
theorem dX11_day_51 : decode cX11_day 51 = .ok (.istore 4, 2) := by decide +kernel
theorem dX11_day_53 : decode cX11_day 53 = .ok (.iload 4, 2) := by decide +kernel
theorem dX11_day_55 : decode cX11_day 55 = .ok (.bipush 72, 2) := by decide +kernel
theorem dX11_day_57 : decode cX11_day 57 = .ok (.if_icmp .ge 59, 3) := by decide +kernel
theorem dX11_day_60 : decode cX11_day 60 = .ok (.iload_n 3, 1) := by decide +kernel
theorem dX11_day_61 : decode cX11_day 61 = .ok (.ifCond .eq 55, 3) := by decide +kernel
theorem dX11_day_64 : decode cX11_day 64 = .ok (.aload_n 0, 1) := by decide +kernel
theorem dX11_day_65 : decode cX11_day 65 = .ok (.getfield 75, 3) := by decide +kernel
theorem dX11_day_68 : decode cX11_day 68 = .ok (.aload_n 0, 1) := by decide +kernel
theorem dX11_day_69 : decode cX11_day 69 = .ok (.getfield 33, 3) := by decide +kernel
theorem dX11_day_72 : decode cX11_day 72 = .ok (.invokevirtual 235, 3) := by decide +kernel
theorem dX11_day_75 : decode cX11_day 75 = .ok (.ifCond .eq 41, 3) := by decide +kernel
theorem dX11_day_78 : decode cX11_day 78 = .ok (.aload_n 0, 1) := by decide +kernel
theorem dX11_day_79 : decode cX11_day 79 = .ok (.getfield 75, 3) := by decide +kernel
theorem dX11_day_82 : decode cX11_day 82 = .ok (.aload_n 0, 1) := by decide +kernel
theorem dX11_day_83 : decode cX11_day 83 = .ok (.getfield 33, 3) := by decide +kernel
theorem dX11_day_86 : decode cX11_day 86 = .ok (.invokevirtual 239, 3) := by decide +kernel
theorem dX11_day_89 : decode cX11_day 89 = .ok (.ifCond .lt 7, 3) := by decide +kernel
theorem dX11_day_92 : decode cX11_day 92 = .ok (.iconst 1, 1) := by decide +kernel
theorem dX11_day_93 : decode cX11_day 93 = .ok (.goto 4, 3) := by decide +kernel
theorem dX11_day_96 : decode cX11_day 96 = .ok (.iconst 0, 1) := by decide +kernel
theorem dX11_day_97 : decode cX11_day 97 = .ok (.istore_n 3, 1) := by decide +kernel
theorem dX11_day_98 : decode cX11_day 98 = .ok (.iload_n 2, 1) := by decide +kernel
theorem dX11_day_99 : decode cX11_day 99 = .ok (.iload_n 3, 1) := by decide +kernel
theorem dX11_day_100 : decode cX11_day 100 = .ok (.ifCond .eq 7, 3) := by decide +kernel
theorem dX11_day_103 : decode cX11_day 103 = .ok (.iconst 1, 1) := by decide +kernel
theorem dX11_day_104 : decode cX11_day 104 = .ok (.goto 4, 3) := by decide +kernel
theorem dX11_day_107 : decode cX11_day 107 = .ok (.iconst 0, 1) := by decide +kernel
theorem dX11_day_108 : decode cX11_day 108 = .ok (.iadd, 1) := by decide +kernel
theorem dX11_day_109 : decode cX11_day 109 = .ok (.istore_n 2, 1) := by decide +kernel
theorem dX11_day_110 : decode cX11_day 110 = .ok (.iinc 4 1, 3) := by decide +kernel
theorem dX11_day_113 : decode cX11_day 113 = .ok (.goto (-60), 3) := by decide +kernel
theorem dX11_day_116 : decode cX11_day 116 = .ok (.aload_n 0, 1) := by decide +kernel
theorem dX11_day_117 : decode cX11_day 117 = .ok (.getfield 33, 3) := by decide +kernel
theorem dX11_day_120 : decode cX11_day 120 = .ok (.invokevirtual 117, 3) := by decide +kernel
theorem dX11_day_123 : decode cX11_day 123 = .ok (.iload_n 2, 1) := by decide +kernel
theorem dX11_day_124 : decode cX11_day 124 = .ok (.ifCond .le 14, 3) := by decide +kernel
theorem dX11_day_127 : decode cX11_day 127 = .ok (.aload_n 0, 1) := by decide +kernel
theorem dX11_day_128 : decode cX11_day 128 = .ok (.getfield 22, 3) := by decide +kernel
theorem dX11_day_131 : decode cX11_day 131 = .ok (.aload_n 0, 1) := by decide +kernel
theorem dX11_day_132 : decode cX11_day 132 = .ok (.getfield 16, 3) := by decide +kernel
theorem dX11_day_135 : decode cX11_day 135 = .ok (.invokevirtual 224, 3) := by decide +kernel
theorem dX11_day_138 : decode cX11_day 138 = .ok (.aload_n 0, 1) := by decide +kernel
theorem dX11_day_139 : decode cX11_day 139 = .ok (.getfield 40, 3) := by decide +kernel
theorem dX11_day_142 : decode cX11_day 142 = .ok (.iload_n 3, 1) := by decide +kernel
theorem dX11_day_143 : decode cX11_day 143 = .ok (.ifCond .eq 7, 3) := by decide +kernel
theorem dX11_day_146 : decode cX11_day 146 = .ok (.lconst 0, 1) := by decide +kernel
theorem dX11_day_147 : decode cX11_day 147 = .ok (.goto 4, 3) := by decide +kernel
theorem dX11_day_150 : decode cX11_day 150 = .ok (.lconst 1, 1) := by decide +kernel
theorem dX11_day_151 : decode cX11_day 151 = .ok (.aload_n 0, 1) := by decide +kernel
theorem dX11_day_152 : decode cX11_day 152 = .ok (.getfield 10, 3) := by decide +kernel
theorem dX11_day_155 : decode cX11_day 155 = .ok (.invokevirtual 242, 3) := by decide +kernel
theorem dX11_day_158 : decode cX11_day 158 = .ok (.i2l, 1) := by decide +kernel
theorem dX11_day_159 : decode cX11_day 159 = .ok (.invokevirtual 227, 3) := by decide +kernel
theorem dX11_day_162 : decode cX11_day 162 = .ok (.iload_n 2, 1) := by decide +kernel
theorem dX11_day_163 : decode cX11_day 163 = .ok (.ireturn, 1) := by decide +kernel
theorem dX11_undo_0 : decode cX11_undo 0 = .ok (.aload_n 0, 1) := by decide +kernel
theorem dX11_undo_1 : decode cX11_undo 1 = .ok (.getfield 22, 3) := by decide +kernel
theorem dX11_undo_4 : decode cX11_undo 4 = .ok (.aload_n 0, 1) := by decide +kernel
theorem dX11_undo_5 : decode cX11_undo 5 = .ok (.getfield 10, 3) := by decide +kernel
theorem dX11_undo_8 : decode cX11_undo 8 = .ok (.invokevirtual 245, 3) := by decide +kernel
theorem dX11_undo_11 : decode cX11_undo 11 = .ok (.ifCond .eq 13, 3) := by decide +kernel
theorem dX11_undo_14 : decode cX11_undo 14 = .ok (.aload_n 0, 1) := by decide +kernel
theorem dX11_undo_15 : decode cX11_undo 15 = .ok (.getfield 22, 3) := by decide +kernel
theorem dX11_undo_18 : decode cX11_undo 18 = .ok (.getfield 249, 3) := by decide +kernel
theorem dX11_undo_21 : decode cX11_undo 21 = .ok (.goto 4, 3) := by decide +kernel
theorem dX11_undo_24 : decode cX11_undo 24 = .ok (.iconst (-1), 1) := by decide +kernel
theorem dX11_undo_25 : decode cX11_undo 25 = .ok (.ireturn, 1) := by decide +kernel
theorem dX11_spread_0 : decode cX11_spread 0 = .ok (.aload_n 0, 1) := by decide +kernel
theorem dX11_spread_1 : decode cX11_spread 1 = .ok (.getfield 10, 3) := by decide +kernel
theorem dX11_spread_4 : decode cX11_spread 4 = .ok (.iload_n 1, 1) := by decide +kernel
theorem dX11_spread_5 : decode cX11_spread 5 = .ok (.invokevirtual 142, 3) := by decide +kernel
theorem dX11_spread_8 : decode cX11_spread 8 = .ok (.ifCond .ne 5, 3) := by decide +kernel
theorem dX11_spread_11 : decode cX11_spread 11 = .ok (.iconst (-1), 1) := by decide +kernel
theorem dX11_spread_12 : decode cX11_spread 12 = .ok (.ireturn, 1) := by decide +kernel
theorem dX11_spread_13 : decode cX11_spread 13 = .ok (.aload_n 0, 1) := by decide +kernel
theorem dX11_spread_14 : decode cX11_spread 14 = .ok (.aload_n 0, 1) := by decide +kernel
theorem dX11_spread_15 : decode cX11_spread 15 = .ok (.getfield 10, 3) := by decide +kernel
theorem dX11_spread_18 : decode cX11_spread 18 = .ok (.iload_n 1, 1) := by decide +kernel
theorem dX11_spread_19 : decode cX11_spread 19 = .ok (.invokevirtual 250, 3) := by decide +kernel
theorem dX11_spread_22 : decode cX11_spread 22 = .ok (.invokevirtual 253, 3) := by decide +kernel
theorem dX11_spread_25 : decode cX11_spread 25 = .ok (.ireturn, 1) := by decide +kernel
theorem dX11_peers_0 : decode cX11_peers 0 = .ok (.aload_n 0, 1) := by decide +kernel
theorem dX11_peers_1 : decode cX11_peers 1 = .ok (.getfield 10, 3) := by decide +kernel
theorem dX11_peers_4 : decode cX11_peers 4 = .ok (.iload_n 1, 1) := by decide +kernel
theorem dX11_peers_5 : decode cX11_peers 5 = .ok (.invokevirtual 142, 3) := by decide +kernel
theorem dX11_peers_8 : decode cX11_peers 8 = .ok (.ifCond .ne 5, 3) := by decide +kernel
theorem dX11_peers_11 : decode cX11_peers 11 = .ok (.iconst (-1), 1) := by decide +kernel
theorem dX11_peers_12 : decode cX11_peers 12 = .ok (.ireturn, 1) := by decide +kernel
theorem dX11_peers_13 : decode cX11_peers 13 = .ok (.aload_n 0, 1) := by decide +kernel
theorem dX11_peers_14 : decode cX11_peers 14 = .ok (.getfield 10, 3) := by decide +kernel
theorem dX11_peers_17 : decode cX11_peers 17 = .ok (.iload_n 1, 1) := by decide +kernel
theorem dX11_peers_18 : decode cX11_peers 18 = .ok (.invokevirtual 256, 3) := by decide +kernel
theorem dX11_peers_21 : decode cX11_peers 21 = .ok (.istore_n 2, 1) := by decide +kernel
theorem dX11_peers_22 : decode cX11_peers 22 = .ok (.aload_n 0, 1) := by decide +kernel
theorem dX11_peers_23 : decode cX11_peers 23 = .ok (.getfield 40, 3) := by decide +kernel
theorem dX11_peers_26 : decode cX11_peers 26 = .ok (.iload_n 2, 1) := by decide +kernel
theorem dX11_peers_27 : decode cX11_peers 27 = .ok (.invokestatic 186, 3) := by decide +kernel
theorem dX11_peers_30 : decode cX11_peers 30 = .ok (.i2l, 1) := by decide +kernel
theorem dX11_peers_31 : decode cX11_peers 31 = .ok (.aload_n 0, 1) := by decide +kernel
theorem dX11_peers_32 : decode cX11_peers 32 = .ok (.getfield 10, 3) := by decide +kernel
theorem dX11_peers_35 : decode cX11_peers 35 = .ok (.aload_n 0, 1) := by decide +kernel
theorem dX11_peers_36 : decode cX11_peers 36 = .ok (.getfield 10, 3) := by decide +kernel
theorem dX11_peers_39 : decode cX11_peers 39 = .ok (.iload_n 1, 1) := by decide +kernel
theorem dX11_peers_40 : decode cX11_peers 40 = .ok (.invokevirtual 159, 3) := by decide +kernel
theorem dX11_peers_43 : decode cX11_peers 43 = .ok (.invokevirtual 259, 3) := by decide +kernel
theorem dX11_peers_46 : decode cX11_peers 46 = .ok (.i2l, 1) := by decide +kernel
theorem dX11_peers_47 : decode cX11_peers 47 = .ok (.invokevirtual 227, 3) := by decide +kernel
theorem dX11_peers_50 : decode cX11_peers 50 = .ok (.iload_n 2, 1) := by decide +kernel
theorem dX11_peers_51 : decode cX11_peers 51 = .ok (.ireturn, 1) := by decide +kernel
theorem dX11_masters_0 : decode cX11_masters 0 = .ok (.aload_n 0, 1) := by decide +kernel
theorem dX11_masters_1 : decode cX11_masters 1 = .ok (.getfield 10, 3) := by decide +kernel
theorem dX11_masters_4 : decode cX11_masters 4 = .ok (.iload_n 1, 1) := by decide +kernel
theorem dX11_masters_5 : decode cX11_masters 5 = .ok (.invokevirtual 142, 3) := by decide +kernel
theorem dX11_masters_8 : decode cX11_masters 8 = .ok (.ifCond .ne 5, 3) := by decide +kernel
theorem dX11_masters_11 : decode cX11_masters 11 = .ok (.iconst (-1), 1) := by decide +kernel
theorem dX11_masters_12 : decode cX11_masters 12 = .ok (.ireturn, 1) := by decide +kernel
theorem dX11_masters_13 : decode cX11_masters 13 = .ok (.aload_n 0, 1) := by decide +kernel
theorem dX11_masters_14 : decode cX11_masters 14 = .ok (.getfield 40, 3) := by decide +kernel
theorem dX11_masters_17 : decode cX11_masters 17 = .ok (.invokevirtual 262, 3) := by decide +kernel
theorem dX11_masters_20 : decode cX11_masters 20 = .ok (.aload_n 0, 1) := by decide +kernel
theorem dX11_masters_21 : decode cX11_masters 21 = .ok (.getfield 10, 3) := by decide +kernel
theorem dX11_masters_24 : decode cX11_masters 24 = .ok (.iload_n 1, 1) := by decide +kernel
theorem dX11_masters_25 : decode cX11_masters 25 = .ok (.invokevirtual 263, 3) := by decide +kernel
theorem dX11_masters_28 : decode cX11_masters 28 = .ok (.istore_n 2, 1) := by decide +kernel
theorem dX11_masters_29 : decode cX11_masters 29 = .ok (.iconst 0, 1) := by decide +kernel
theorem dX11_masters_30 : decode cX11_masters 30 = .ok (.istore_n 3, 1) := by decide +kernel
theorem dX11_masters_31 : decode cX11_masters 31 = .ok (.iload_n 3, 1) := by decide +kernel
theorem dX11_masters_32 : decode cX11_masters 32 = .ok (.bipush 24, 2) := by decide +kernel
theorem dX11_masters_34 : decode cX11_masters 34 = .ok (.if_icmp .ge 33, 3) := by decide +kernel
theorem dX11_masters_37 : decode cX11_masters 37 = .ok (.iload_n 2, 1) := by decide +kernel
theorem dX11_masters_38 : decode cX11_masters 38 = .ok (.bipush 24, 2) := by decide +kernel
theorem dX11_masters_40 : decode cX11_masters 40 = .ok (.if_icmp .eq 27, 3) := by decide +kernel
theorem dX11_masters_43 : decode cX11_masters 43 = .ok (.aload_n 0, 1) := by decide +kernel
theorem dX11_masters_44 : decode cX11_masters 44 = .ok (.getfield 40, 3) := by decide +kernel
theorem dX11_masters_47 : decode cX11_masters 47 = .ok (.iload_n 2, 1) := by decide +kernel
theorem dX11_masters_48 : decode cX11_masters 48 = .ok (.i2l, 1) := by decide +kernel
theorem dX11_masters_49 : decode cX11_masters 49 = .ok (.invokevirtual 266, 3) := by decide +kernel
theorem dX11_masters_52 : decode cX11_masters 52 = .ok (.aload_n 0, 1) := by decide +kernel
theorem dX11_masters_53 : decode cX11_masters 53 = .ok (.getfield 10, 3) := by decide +kernel
theorem dX11_masters_56 : decode cX11_masters 56 = .ok (.iload_n 2, 1) := by decide +kernel
theorem dX11_masters_57 : decode cX11_masters 57 = .ok (.invokevirtual 263, 3) := by decide +kernel
theorem dX11_masters_60 : decode cX11_masters 60 = .ok (.istore_n 2, 1) := by decide +kernel
theorem dX11_masters_61 : decode cX11_masters 61 = .ok (.iinc 3 1, 3) := by decide +kernel
theorem dX11_masters_64 : decode cX11_masters 64 = .ok (.goto (-33), 3) := by decide +kernel
theorem dX11_masters_67 : decode cX11_masters 67 = .ok (.aload_n 0, 1) := by decide +kernel
theorem dX11_masters_68 : decode cX11_masters 68 = .ok (.getfield 40, 3) := by decide +kernel
theorem dX11_masters_71 : decode cX11_masters 71 = .ok (.getfield 268, 3) := by decide +kernel
theorem dX11_masters_74 : decode cX11_masters 74 = .ok (.ireturn, 1) := by decide +kernel
theorem dX11_groups_0 : decode cX11_groups 0 = .ok (.iconst 0, 1) := by decide +kernel
theorem dX11_groups_1 : decode cX11_groups 1 = .ok (.istore_n 1, 1) := by decide +kernel
theorem dX11_groups_2 : decode cX11_groups 2 = .ok (.aload_n 0, 1) := by decide +kernel
theorem dX11_groups_3 : decode cX11_groups 3 = .ok (.getfield 40, 3) := by decide +kernel
theorem dX11_groups_6 : decode cX11_groups 6 = .ok (.invokevirtual 262, 3) := by decide +kernel
theorem dX11_groups_9 : decode cX11_groups 9 = .ok (.iconst 0, 1) := by decide +kernel
theorem dX11_groups_10 : decode cX11_groups 10 = .ok (.istore_n 2, 1) := by decide +kernel
theorem dX11_groups_11 : decode cX11_groups 11 = .ok (.iload_n 2, 1) := by decide +kernel
theorem dX11_groups_12 : decode cX11_groups 12 = .ok (.bipush 24, 2) := by decide +kernel
theorem dX11_groups_14 : decode cX11_groups 14 = .ok (.if_icmp .ge 57, 3) := by decide +kernel
theorem dX11_groups_17 : decode cX11_groups 17 = .ok (.aload_n 0, 1) := by decide +kernel
theorem dX11_groups_18 : decode cX11_groups 18 = .ok (.getfield 10, 3) := by decide +kernel
theorem dX11_groups_21 : decode cX11_groups 21 = .ok (.aload_n 0, 1) := by decide +kernel
theorem dX11_groups_22 : decode cX11_groups 22 = .ok (.getfield 10, 3) := by decide +kernel
theorem dX11_groups_25 : decode cX11_groups 25 = .ok (.iload_n 2, 1) := by decide +kernel
theorem dX11_groups_26 : decode cX11_groups 26 = .ok (.invokevirtual 159, 3) := by decide +kernel
theorem dX11_groups_29 : decode cX11_groups 29 = .ok (.invokevirtual 269, 3) := by decide +kernel
theorem dX11_groups_32 : decode cX11_groups 32 = .ok (.invokestatic 186, 3) := by decide +kernel
theorem dX11_groups_35 : decode cX11_groups 35 = .ok (.istore_n 3, 1) := by decide +kernel
theorem dX11_groups_36 : decode cX11_groups 36 = .ok (.aload_n 0, 1) := by decide +kernel
theorem dX11_groups_37 : decode cX11_groups 37 = .ok (.getfield 10, 3) := by decide +kernel
theorem dX11_groups_40 : decode cX11_groups 40 = .ok (.iload_n 2, 1) := by decide +kernel
theorem dX11_groups_41 : decode cX11_groups 41 = .ok (.invokevirtual 142, 3) := by decide +kernel
theorem dX11_groups_44 : decode cX11_groups 44 = .ok (.ifCond .eq 21, 3) := by decide +kernel
theorem dX11_groups_47 : decode cX11_groups 47 = .ok (.iload_n 3, 1) := by decide +kernel
theorem dX11_groups_48 : decode cX11_groups 48 = .ok (.iload_n 1, 1) := by decide +kernel
theorem dX11_groups_49 : decode cX11_groups 49 = .ok (.if_icmp .le 16, 3) := by decide +kernel
theorem dX11_groups_52 : decode cX11_groups 52 = .ok (.iload_n 3, 1) := by decide +kernel
theorem dX11_groups_53 : decode cX11_groups 53 = .ok (.istore_n 1, 1) := by decide +kernel
theorem dX11_groups_54 : decode cX11_groups 54 = .ok (.aload_n 0, 1) := by decide +kernel
theorem dX11_groups_55 : decode cX11_groups 55 = .ok (.getfield 40, 3) := by decide +kernel
theorem dX11_groups_58 : decode cX11_groups 58 = .ok (.iload_n 3, 1) := by decide +kernel
theorem dX11_groups_59 : decode cX11_groups 59 = .ok (.i2l, 1) := by decide +kernel
theorem dX11_groups_60 : decode cX11_groups 60 = .ok (.iload_n 2, 1) := by decide +kernel
theorem dX11_groups_61 : decode cX11_groups 61 = .ok (.i2l, 1) := by decide +kernel
theorem dX11_groups_62 : decode cX11_groups 62 = .ok (.invokevirtual 227, 3) := by decide +kernel
theorem dX11_groups_65 : decode cX11_groups 65 = .ok (.iinc 2 1, 3) := by decide +kernel
theorem dX11_groups_68 : decode cX11_groups 68 = .ok (.goto (-57), 3) := by decide +kernel
theorem dX11_groups_71 : decode cX11_groups 71 = .ok (.aload_n 0, 1) := by decide +kernel
theorem dX11_groups_72 : decode cX11_groups 72 = .ok (.getfield 10, 3) := by decide +kernel
theorem dX11_groups_75 : decode cX11_groups 75 = .ok (.invokevirtual 272, 3) := by decide +kernel
theorem dX11_groups_78 : decode cX11_groups 78 = .ok (.ireturn, 1) := by decide +kernel
theorem dX11_keepers_0 : decode cX11_keepers 0 = .ok (.aload_n 0, 1) := by decide +kernel
theorem dX11_keepers_1 : decode cX11_keepers 1 = .ok (.getfield 10, 3) := by decide +kernel
theorem dX11_keepers_4 : decode cX11_keepers 4 = .ok (.iload_n 1, 1) := by decide +kernel
theorem dX11_keepers_5 : decode cX11_keepers 5 = .ok (.invokevirtual 142, 3) := by decide +kernel
theorem dX11_keepers_8 : decode cX11_keepers 8 = .ok (.ifCond .eq 14, 3) := by decide +kernel
theorem dX11_keepers_11 : decode cX11_keepers 11 = .ok (.aload_n 0, 1) := by decide +kernel
theorem dX11_keepers_12 : decode cX11_keepers 12 = .ok (.getfield 10, 3) := by decide +kernel
theorem dX11_keepers_15 : decode cX11_keepers 15 = .ok (.iload_n 2, 1) := by decide +kernel
theorem dX11_keepers_16 : decode cX11_keepers 16 = .ok (.invokevirtual 142, 3) := by decide +kernel
theorem dX11_keepers_19 : decode cX11_keepers 19 = .ok (.ifCond .ne 5, 3) := by decide +kernel
theorem dX11_keepers_22 : decode cX11_keepers 22 = .ok (.iconst (-1), 1) := by decide +kernel
theorem dX11_keepers_23 : decode cX11_keepers 23 = .ok (.ireturn, 1) := by decide +kernel
theorem dX11_keepers_24 : decode cX11_keepers 24 = .ok (.iconst 1, 1) := by decide +kernel
theorem dX11_keepers_25 : decode cX11_keepers 25 = .ok (.iload_n 2, 1) := by decide +kernel
theorem dX11_keepers_26 : decode cX11_keepers 26 = .ok (.ishl, 1) := by decide +kernel
theorem dX11_keepers_27 : decode cX11_keepers 27 = .ok (.istore_n 3, 1) := by decide +kernel
theorem dX11_keepers_28 : decode cX11_keepers 28 = .ok (.iload_n 1, 1) := by decide +kernel
theorem dX11_keepers_29 : decode cX11_keepers 29 = .ok (.iload_n 2, 1) := by decide +kernel
theorem dX11_keepers_30 : decode cX11_keepers 30 = .ok (.if_icmp .eq 16, 3) := by decide +kernel
theorem dX11_keepers_33 : decode cX11_keepers 33 = .ok (.aload_n 0, 1) := by decide +kernel
theorem dX11_keepers_34 : decode cX11_keepers 34 = .ok (.getfield 10, 3) := by decide +kernel
theorem dX11_keepers_37 : decode cX11_keepers 37 = .ok (.iload_n 1, 1) := by decide +kernel
theorem dX11_keepers_38 : decode cX11_keepers 38 = .ok (.invokevirtual 250, 3) := by decide +kernel
theorem dX11_keepers_41 : decode cX11_keepers 41 = .ok (.iload_n 3, 1) := by decide +kernel
theorem dX11_keepers_42 : decode cX11_keepers 42 = .ok (.iand, 1) := by decide +kernel
theorem dX11_keepers_43 : decode cX11_keepers 43 = .ok (.ifCond .ne 6, 3) := by decide +kernel
theorem dX11_keepers_46 : decode cX11_keepers 46 = .ok (.bipush (-2), 2) := by decide +kernel
theorem dX11_keepers_48 : decode cX11_keepers 48 = .ok (.ireturn, 1) := by decide +kernel
theorem dX11_keepers_49 : decode cX11_keepers 49 = .ok (.iconst 0, 1) := by decide +kernel
theorem dX11_keepers_50 : decode cX11_keepers 50 = .ok (.istore 4, 2) := by decide +kernel
theorem dX11_keepers_52 : decode cX11_keepers 52 = .ok (.iconst 0, 1) := by decide +kernel
theorem dX11_keepers_53 : decode cX11_keepers 53 = .ok (.istore 5, 2) := by decide +kernel
theorem dX11_keepers_55 : decode cX11_keepers 55 = .ok (.iload 5, 2) := by decide +kernel
theorem dX11_keepers_57 : decode cX11_keepers 57 = .ok (.bipush 24, 2) := by decide +kernel
theorem dX11_keepers_59 : decode cX11_keepers 59 = .ok (.if_icmp .ge 75, 3) := by decide +kernel
theorem dX11_keepers_62 : decode cX11_keepers 62 = .ok (.aload_n 0, 1) := by decide +kernel
theorem dX11_keepers_63 : decode cX11_keepers 63 = .ok (.getfield 10, 3) := by decide +kernel
theorem dX11_keepers_66 : decode cX11_keepers 66 = .ok (.iload 5, 2) := by decide +kernel
theorem dX11_keepers_68 : decode cX11_keepers 68 = .ok (.invokevirtual 142, 3) := by decide +kernel
theorem dX11_keepers_71 : decode cX11_keepers 71 = .ok (.ifCond .eq 57, 3) := by decide +kernel
theorem dX11_keepers_74 : decode cX11_keepers 74 = .ok (.iload 5, 2) := by decide +kernel
theorem dX11_keepers_76 : decode cX11_keepers 76 = .ok (.iload_n 1, 1) := by decide +kernel
theorem dX11_keepers_77 : decode cX11_keepers 77 = .ok (.if_icmp .eq 51, 3) := by decide +kernel
theorem dX11_keepers_80 : decode cX11_keepers 80 = .ok (.iload 5, 2) := by decide +kernel
theorem dX11_keepers_82 : decode cX11_keepers 82 = .ok (.iload_n 2, 1) := by decide +kernel
theorem dX11_keepers_83 : decode cX11_keepers 83 = .ok (.if_icmp .eq 45, 3) := by decide +kernel
theorem dX11_keepers_86 : decode cX11_keepers 86 = .ok (.aload_n 0, 1) := by decide +kernel
theorem dX11_keepers_87 : decode cX11_keepers 87 = .ok (.getfield 16, 3) := by decide +kernel
theorem dX11_keepers_90 : decode cX11_keepers 90 = .ok (.aload_n 0, 1) := by decide +kernel
theorem dX11_keepers_91 : decode cX11_keepers 91 = .ok (.getfield 10, 3) := by decide +kernel
theorem dX11_keepers_94 : decode cX11_keepers 94 = .ok (.invokevirtual 194, 3) := by decide +kernel
theorem dX11_keepers_97 : decode cX11_keepers 97 = .ok (.aload_n 0, 1) := by decide +kernel
theorem dX11_keepers_98 : decode cX11_keepers 98 = .ok (.getfield 16, 3) := by decide +kernel
theorem dX11_keepers_101 : decode cX11_keepers 101 = .ok (.iload 5, 2) := by decide +kernel
theorem dX11_keepers_103 : decode cX11_keepers 103 = .ok (.invokevirtual 275, 3) := by decide +kernel
theorem dX11_keepers_106 : decode cX11_keepers 106 = .ok (.aload_n 0, 1) := by decide +kernel
theorem dX11_keepers_107 : decode cX11_keepers 107 = .ok (.getfield 16, 3) := by decide +kernel
theorem dX11_keepers_110 : decode cX11_keepers 110 = .ok (.iload_n 1, 1) := by decide +kernel
theorem dX11_keepers_111 : decode cX11_keepers 111 = .ok (.invokevirtual 250, 3) := by decide +kernel
theorem dX11_keepers_114 : decode cX11_keepers 114 = .ok (.iload_n 3, 1) := by decide +kernel
theorem dX11_keepers_115 : decode cX11_keepers 115 = .ok (.iand, 1) := by decide +kernel
theorem dX11_keepers_116 : decode cX11_keepers 116 = .ok (.ifCond .ne 12, 3) := by decide +kernel
theorem dX11_keepers_119 : decode cX11_keepers 119 = .ok (.iload 4, 2) := by decide +kernel
theorem dX11_keepers_121 : decode cX11_keepers 121 = .ok (.iconst 1, 1) := by decide +kernel
theorem dX11_keepers_122 : decode cX11_keepers 122 = .ok (.iload 5, 2) := by decide +kernel
theorem dX11_keepers_124 : decode cX11_keepers 124 = .ok (.ishl, 1) := by decide +kernel
theorem dX11_keepers_125 : decode cX11_keepers 125 = .ok (.ior, 1) := by decide +kernel
theorem dX11_keepers_126 : decode cX11_keepers 126 = .ok (.istore 4, 2) := by decide +kernel
theorem dX11_keepers_128 : decode cX11_keepers 128 = .ok (.iinc 5 1, 3) := by decide +kernel
theorem dX11_keepers_131 : decode cX11_keepers 131 = .ok (.goto (-76), 3) := by decide +kernel
theorem dX11_keepers_134 : decode cX11_keepers 134 = .ok (.aload_n 0, 1) := by decide +kernel
theorem dX11_keepers_135 : decode cX11_keepers 135 = .ok (.iload 4, 2) := by decide +kernel
theorem dX11_keepers_137 : decode cX11_keepers 137 = .ok (.invokevirtual 253, 3) := by decide +kernel
theorem dX11_keepers_140 : decode cX11_keepers 140 = .ok (.ireturn, 1) := by decide +kernel
theorem dX11_toldWithSize_0 : decode cX11_toldWithSize 0 = .ok (.aload_n 0, 1) := by decide +kernel
theorem dX11_toldWithSize_1 : decode cX11_toldWithSize 1 = .ok (.getfield 40, 3) := by decide +kernel
theorem dX11_toldWithSize_4 : decode cX11_toldWithSize 4 = .ok (.iload_n 1, 1) := by decide +kernel
theorem dX11_toldWithSize_5 : decode cX11_toldWithSize 5 = .ok (.invokestatic 186, 3) := by decide +kernel
theorem dX11_toldWithSize_8 : decode cX11_toldWithSize 8 = .ok (.i2l, 1) := by decide +kernel
theorem dX11_toldWithSize_9 : decode cX11_toldWithSize 9 = .ok (.invokevirtual 138, 3) := by decide +kernel
theorem dX11_toldWithSize_12 : decode cX11_toldWithSize 12 = .ok (.iload_n 1, 1) := by decide +kernel
theorem dX11_toldWithSize_13 : decode cX11_toldWithSize 13 = .ok (.ireturn, 1) := by decide +kernel
theorem dX11_inside_0 : decode cX11_inside 0 = .ok (.aload_n 0, 1) := by decide +kernel
theorem dX11_inside_1 : decode cX11_inside 1 = .ok (.getfield 10, 3) := by decide +kernel
theorem dX11_inside_4 : decode cX11_inside 4 = .ok (.iload_n 1, 1) := by decide +kernel
theorem dX11_inside_5 : decode cX11_inside 5 = .ok (.invokevirtual 142, 3) := by decide +kernel
theorem dX11_inside_8 : decode cX11_inside 8 = .ok (.ifCond .ne 5, 3) := by decide +kernel
theorem dX11_inside_11 : decode cX11_inside 11 = .ok (.iconst (-1), 1) := by decide +kernel
theorem dX11_inside_12 : decode cX11_inside 12 = .ok (.ireturn, 1) := by decide +kernel
theorem dX11_inside_13 : decode cX11_inside 13 = .ok (.aload_n 0, 1) := by decide +kernel
theorem dX11_inside_14 : decode cX11_inside 14 = .ok (.getfield 10, 3) := by decide +kernel
theorem dX11_inside_17 : decode cX11_inside 17 = .ok (.iload_n 1, 1) := by decide +kernel
theorem dX11_inside_18 : decode cX11_inside 18 = .ok (.invokevirtual 279, 3) := by decide +kernel
theorem dX11_inside_21 : decode cX11_inside 21 = .ok (.istore_n 2, 1) := by decide +kernel
theorem dX11_inside_22 : decode cX11_inside 22 = .ok (.iconst 0, 1) := by decide +kernel
theorem dX11_inside_23 : decode cX11_inside 23 = .ok (.istore_n 3, 1) := by decide +kernel
theorem dX11_inside_24 : decode cX11_inside 24 = .ok (.iconst 0, 1) := by decide +kernel
theorem dX11_inside_25 : decode cX11_inside 25 = .ok (.istore 4, 2) := by decide +kernel
theorem dX11_inside_27 : decode cX11_inside 27 = .ok (.iload 4, 2) := by decide +kernel
theorem dX11_inside_29 : decode cX11_inside 29 = .ok (.bipush 24, 2) := by decide +kernel
theorem dX11_inside_31 : decode cX11_inside 31 = .ok (.if_icmp .ge 41, 3) := by decide +kernel
theorem dX11_inside_34 : decode cX11_inside 34 = .ok (.iload_n 2, 1) := by decide +kernel
theorem dX11_inside_35 : decode cX11_inside 35 = .ok (.iconst 1, 1) := by decide +kernel
theorem dX11_inside_36 : decode cX11_inside 36 = .ok (.iload 4, 2) := by decide +kernel
theorem dX11_inside_38 : decode cX11_inside 38 = .ok (.ishl, 1) := by decide +kernel
theorem dX11_inside_39 : decode cX11_inside 39 = .ok (.iand, 1) := by decide +kernel
theorem dX11_inside_40 : decode cX11_inside 40 = .ok (.ifCond .eq 26, 3) := by decide +kernel
theorem dX11_inside_43 : decode cX11_inside 43 = .ok (.iload_n 3, 1) := by decide +kernel
theorem dX11_inside_44 : decode cX11_inside 44 = .ok (.aload_n 0, 1) := by decide +kernel
theorem dX11_inside_45 : decode cX11_inside 45 = .ok (.getfield 10, 3) := by decide +kernel
theorem dX11_inside_48 : decode cX11_inside 48 = .ok (.iload 4, 2) := by decide +kernel
theorem dX11_inside_50 : decode cX11_inside 50 = .ok (.invokevirtual 168, 3) := by decide +kernel
theorem dX11_inside_53 : decode cX11_inside 53 = .ok (.aload_n 0, 1) := by decide +kernel
theorem dX11_inside_54 : decode cX11_inside 54 = .ok (.getfield 10, 3) := by decide +kernel
theorem dX11_inside_57 : decode cX11_inside 57 = .ok (.iload_n 1, 1) := by decide +kernel
theorem dX11_inside_58 : decode cX11_inside 58 = .ok (.invokevirtual 168, 3) := by decide +kernel
theorem dX11_inside_61 : decode cX11_inside 61 = .ok (.isub, 1) := by decide +kernel
theorem dX11_inside_62 : decode cX11_inside 62 = .ok (.invokestatic 282, 3) := by decide +kernel
theorem dX11_inside_65 : decode cX11_inside 65 = .ok (.istore_n 3, 1) := by decide +kernel
theorem dX11_inside_66 : decode cX11_inside 66 = .ok (.iinc 4 1, 3) := by decide +kernel
theorem dX11_inside_69 : decode cX11_inside 69 = .ok (.goto (-42), 3) := by decide +kernel
theorem dX11_inside_72 : decode cX11_inside 72 = .ok (.aload_n 0, 1) := by decide +kernel
theorem dX11_inside_73 : decode cX11_inside 73 = .ok (.getfield 40, 3) := by decide +kernel
theorem dX11_inside_76 : decode cX11_inside 76 = .ok (.iload_n 2, 1) := by decide +kernel
theorem dX11_inside_77 : decode cX11_inside 77 = .ok (.invokestatic 186, 3) := by decide +kernel
theorem dX11_inside_80 : decode cX11_inside 80 = .ok (.i2l, 1) := by decide +kernel
theorem dX11_inside_81 : decode cX11_inside 81 = .ok (.iload_n 3, 1) := by decide +kernel
theorem dX11_inside_82 : decode cX11_inside 82 = .ok (.i2l, 1) := by decide +kernel
theorem dX11_inside_83 : decode cX11_inside 83 = .ok (.invokevirtual 227, 3) := by decide +kernel
theorem dX11_inside_86 : decode cX11_inside 86 = .ok (.iload_n 2, 1) := by decide +kernel
theorem dX11_inside_87 : decode cX11_inside 87 = .ok (.ireturn, 1) := by decide +kernel
theorem dX11_path_0 : decode cX11_path 0 = .ok (.aload_n 0, 1) := by decide +kernel
theorem dX11_path_1 : decode cX11_path 1 = .ok (.getfield 10, 3) := by decide +kernel
theorem dX11_path_4 : decode cX11_path 4 = .ok (.iload_n 1, 1) := by decide +kernel
theorem dX11_path_5 : decode cX11_path 5 = .ok (.invokevirtual 142, 3) := by decide +kernel
theorem dX11_path_8 : decode cX11_path 8 = .ok (.ifCond .ne 5, 3) := by decide +kernel
theorem dX11_path_11 : decode cX11_path 11 = .ok (.iconst (-1), 1) := by decide +kernel
theorem dX11_path_12 : decode cX11_path 12 = .ok (.ireturn, 1) := by decide +kernel
theorem dX11_path_13 : decode cX11_path 13 = .ok (.aload_n 0, 1) := by decide +kernel
theorem dX11_path_14 : decode cX11_path 14 = .ok (.getfield 40, 3) := by decide +kernel
theorem dX11_path_17 : decode cX11_path 17 = .ok (.invokevirtual 262, 3) := by decide +kernel
theorem dX11_path_20 : decode cX11_path 20 = .ok (.iload_n 1, 1) := by decide +kernel
theorem dX11_path_21 : decode cX11_path 21 = .ok (.istore_n 2, 1) := by decide +kernel
theorem dX11_path_22 : decode cX11_path 22 = .ok (.iconst 0, 1) := by decide +kernel
theorem dX11_path_23 : decode cX11_path 23 = .ok (.istore_n 3, 1) := by decide +kernel
theorem dX11_path_24 : decode cX11_path 24 = .ok (.iload_n 3, 1) := by decide +kernel
theorem dX11_path_25 : decode cX11_path 25 = .ok (.bipush 24, 2) := by decide +kernel
theorem dX11_path_27 : decode cX11_path 27 = .ok (.if_icmp .ge 44, 3) := by decide +kernel
theorem dX11_path_30 : decode cX11_path 30 = .ok (.iload_n 2, 1) := by decide +kernel
theorem dX11_path_31 : decode cX11_path 31 = .ok (.ifCond .eq 40, 3) := by decide +kernel
theorem dX11_path_34 : decode cX11_path 34 = .ok (.iload_n 2, 1) := by decide +kernel
theorem dX11_path_35 : decode cX11_path 35 = .ok (.bipush 24, 2) := by decide +kernel
theorem dX11_path_37 : decode cX11_path 37 = .ok (.if_icmp .eq 34, 3) := by decide +kernel
theorem dX11_path_40 : decode cX11_path 40 = .ok (.aload_n 0, 1) := by decide +kernel
theorem dX11_path_41 : decode cX11_path 41 = .ok (.getfield 40, 3) := by decide +kernel
theorem dX11_path_44 : decode cX11_path 44 = .ok (.aload_n 0, 1) := by decide +kernel
theorem dX11_path_45 : decode cX11_path 45 = .ok (.getfield 10, 3) := by decide +kernel
theorem dX11_path_48 : decode cX11_path 48 = .ok (.iload_n 2, 1) := by decide +kernel
theorem dX11_path_49 : decode cX11_path 49 = .ok (.invokevirtual 156, 3) := by decide +kernel
theorem dX11_path_52 : decode cX11_path 52 = .ok (.i2l, 1) := by decide +kernel
theorem dX11_path_53 : decode cX11_path 53 = .ok (.invokevirtual 266, 3) := by decide +kernel
theorem dX11_path_56 : decode cX11_path 56 = .ok (.aload_n 0, 1) := by decide +kernel
theorem dX11_path_57 : decode cX11_path 57 = .ok (.getfield 10, 3) := by decide +kernel
theorem dX11_path_60 : decode cX11_path 60 = .ok (.iload_n 2, 1) := by decide +kernel
theorem dX11_path_61 : decode cX11_path 61 = .ok (.invokevirtual 152, 3) := by decide +kernel
theorem dX11_path_64 : decode cX11_path 64 = .ok (.istore_n 2, 1) := by decide +kernel
theorem dX11_path_65 : decode cX11_path 65 = .ok (.iinc 3 1, 3) := by decide +kernel
theorem dX11_path_68 : decode cX11_path 68 = .ok (.goto (-44), 3) := by decide +kernel
theorem dX11_path_71 : decode cX11_path 71 = .ok (.aload_n 0, 1) := by decide +kernel
theorem dX11_path_72 : decode cX11_path 72 = .ok (.getfield 40, 3) := by decide +kernel
theorem dX11_path_75 : decode cX11_path 75 = .ok (.invokevirtual 287, 3) := by decide +kernel
theorem dX11_path_78 : decode cX11_path 78 = .ok (.aload_n 0, 1) := by decide +kernel
theorem dX11_path_79 : decode cX11_path 79 = .ok (.getfield 40, 3) := by decide +kernel
theorem dX11_path_82 : decode cX11_path 82 = .ok (.getfield 268, 3) := by decide +kernel
theorem dX11_path_85 : decode cX11_path 85 = .ok (.ireturn, 1) := by decide +kernel
theorem dX11_alike_0 : decode cX11_alike 0 = .ok (.aload_n 0, 1) := by decide +kernel
theorem dX11_alike_1 : decode cX11_alike 1 = .ok (.getfield 10, 3) := by decide +kernel
theorem dX11_alike_4 : decode cX11_alike 4 = .ok (.iload_n 1, 1) := by decide +kernel
theorem dX11_alike_5 : decode cX11_alike 5 = .ok (.invokevirtual 142, 3) := by decide +kernel
theorem dX11_alike_8 : decode cX11_alike 8 = .ok (.ifCond .eq 14, 3) := by decide +kernel
theorem dX11_alike_11 : decode cX11_alike 11 = .ok (.aload_n 0, 1) := by decide +kernel
theorem dX11_alike_12 : decode cX11_alike 12 = .ok (.getfield 10, 3) := by decide +kernel
theorem dX11_alike_15 : decode cX11_alike 15 = .ok (.iload_n 2, 1) := by decide +kernel
theorem dX11_alike_16 : decode cX11_alike 16 = .ok (.invokevirtual 142, 3) := by decide +kernel
theorem dX11_alike_19 : decode cX11_alike 19 = .ok (.ifCond .ne 5, 3) := by decide +kernel
theorem dX11_alike_22 : decode cX11_alike 22 = .ok (.iconst (-1), 1) := by decide +kernel
theorem dX11_alike_23 : decode cX11_alike 23 = .ok (.ireturn, 1) := by decide +kernel
theorem dX11_alike_24 : decode cX11_alike 24 = .ok (.aload_n 0, 1) := by decide +kernel
theorem dX11_alike_25 : decode cX11_alike 25 = .ok (.getfield 40, 3) := by decide +kernel
theorem dX11_alike_28 : decode cX11_alike 28 = .ok (.invokevirtual 262, 3) := by decide +kernel
theorem dX11_alike_31 : decode cX11_alike 31 = .ok (.aload_n 0, 1) := by decide +kernel
theorem dX11_alike_32 : decode cX11_alike 32 = .ok (.iload_n 1, 1) := by decide +kernel
theorem dX11_alike_33 : decode cX11_alike 33 = .ok (.iload_n 2, 1) := by decide +kernel
theorem dX11_alike_34 : decode cX11_alike 34 = .ok (.iconst 0, 1) := by decide +kernel
theorem dX11_alike_35 : decode cX11_alike 35 = .ok (.invokevirtual 290, 3) := by decide +kernel
theorem dX11_alike_38 : decode cX11_alike 38 = .ok (.ifCond .eq 7, 3) := by decide +kernel
theorem dX11_alike_41 : decode cX11_alike 41 = .ok (.iconst 0, 1) := by decide +kernel
theorem dX11_alike_42 : decode cX11_alike 42 = .ok (.goto 4, 3) := by decide +kernel
theorem dX11_alike_45 : decode cX11_alike 45 = .ok (.iconst 1, 1) := by decide +kernel
theorem dX11_alike_46 : decode cX11_alike 46 = .ok (.ireturn, 1) := by decide +kernel
theorem dX11_differs_0 : decode cX11_differs 0 = .ok (.iload_n 3, 1) := by decide +kernel
theorem dX11_differs_1 : decode cX11_differs 1 = .ok (.bipush 24, 2) := by decide +kernel
theorem dX11_differs_3 : decode cX11_differs 3 = .ok (.if_icmp .lt 5, 3) := by decide +kernel
theorem dX11_differs_6 : decode cX11_differs 6 = .ok (.iconst 0, 1) := by decide +kernel
theorem dX11_differs_7 : decode cX11_differs 7 = .ok (.ireturn, 1) := by decide +kernel
theorem dX11_differs_8 : decode cX11_differs 8 = .ok (.iconst 0, 1) := by decide +kernel
theorem dX11_differs_9 : decode cX11_differs 9 = .ok (.istore 4, 2) := by decide +kernel
theorem dX11_differs_11 : decode cX11_differs 11 = .ok (.iload 4, 2) := by decide +kernel
theorem dX11_differs_13 : decode cX11_differs 13 = .ok (.iconst 4, 1) := by decide +kernel
theorem dX11_differs_14 : decode cX11_differs 14 = .ok (.if_icmp .ge 102, 3) := by decide +kernel
theorem dX11_differs_17 : decode cX11_differs 17 = .ok (.aload_n 0, 1) := by decide +kernel
theorem dX11_differs_18 : decode cX11_differs 18 = .ok (.getfield 10, 3) := by decide +kernel
theorem dX11_differs_21 : decode cX11_differs 21 = .ok (.iload_n 1, 1) := by decide +kernel
theorem dX11_differs_22 : decode cX11_differs 22 = .ok (.iload 4, 2) := by decide +kernel
theorem dX11_differs_24 : decode cX11_differs 24 = .ok (.invokevirtual 134, 3) := by decide +kernel
theorem dX11_differs_27 : decode cX11_differs 27 = .ok (.istore 5, 2) := by decide +kernel
theorem dX11_differs_29 : decode cX11_differs 29 = .ok (.aload_n 0, 1) := by decide +kernel
theorem dX11_differs_30 : decode cX11_differs 30 = .ok (.getfield 10, 3) := by decide +kernel
theorem dX11_differs_33 : decode cX11_differs 33 = .ok (.iload_n 2, 1) := by decide +kernel
theorem dX11_differs_34 : decode cX11_differs 34 = .ok (.iload 4, 2) := by decide +kernel
theorem dX11_differs_36 : decode cX11_differs 36 = .ok (.invokevirtual 134, 3) := by decide +kernel
theorem dX11_differs_39 : decode cX11_differs 39 = .ok (.istore 6, 2) := by decide +kernel
theorem dX11_differs_41 : decode cX11_differs 41 = .ok (.aload_n 0, 1) := by decide +kernel
theorem dX11_differs_42 : decode cX11_differs 42 = .ok (.getfield 40, 3) := by decide +kernel
theorem dX11_differs_45 : decode cX11_differs 45 = .ok (.iload 4, 2) := by decide +kernel
theorem dX11_differs_47 : decode cX11_differs 47 = .ok (.i2l, 1) := by decide +kernel
theorem dX11_differs_48 : decode cX11_differs 48 = .ok (.invokevirtual 266, 3) := by decide +kernel
theorem dX11_differs_51 : decode cX11_differs 51 = .ok (.iload 5, 2) := by decide +kernel
theorem dX11_differs_53 : decode cX11_differs 53 = .ok (.bipush 24, 2) := by decide +kernel
theorem dX11_differs_55 : decode cX11_differs 55 = .ok (.if_icmp .ne 7, 3) := by decide +kernel
theorem dX11_differs_58 : decode cX11_differs 58 = .ok (.iconst 1, 1) := by decide +kernel
theorem dX11_differs_59 : decode cX11_differs 59 = .ok (.goto 4, 3) := by decide +kernel
theorem dX11_differs_62 : decode cX11_differs 62 = .ok (.iconst 0, 1) := by decide +kernel
theorem dX11_differs_63 : decode cX11_differs 63 = .ok (.iload 6, 2) := by decide +kernel
theorem dX11_differs_65 : decode cX11_differs 65 = .ok (.bipush 24, 2) := by decide +kernel
theorem dX11_differs_67 : decode cX11_differs 67 = .ok (.if_icmp .ne 7, 3) := by decide +kernel
theorem dX11_differs_70 : decode cX11_differs 70 = .ok (.iconst 1, 1) := by decide +kernel
theorem dX11_differs_71 : decode cX11_differs 71 = .ok (.goto 4, 3) := by decide +kernel
theorem dX11_differs_74 : decode cX11_differs 74 = .ok (.iconst 0, 1) := by decide +kernel
theorem dX11_differs_75 : decode cX11_differs 75 = .ok (.if_icmp .eq 5, 3) := by decide +kernel
theorem dX11_differs_78 : decode cX11_differs 78 = .ok (.iconst 1, 1) := by decide +kernel
theorem dX11_differs_79 : decode cX11_differs 79 = .ok (.ireturn, 1) := by decide +kernel
theorem dX11_differs_80 : decode cX11_differs 80 = .ok (.iload 5, 2) := by decide +kernel
theorem dX11_differs_82 : decode cX11_differs 82 = .ok (.bipush 24, 2) := by decide +kernel
theorem dX11_differs_84 : decode cX11_differs 84 = .ok (.if_icmp .eq 19, 3) := by decide +kernel
theorem dX11_differs_87 : decode cX11_differs 87 = .ok (.aload_n 0, 1) := by decide +kernel
theorem dX11_differs_88 : decode cX11_differs 88 = .ok (.iload 5, 2) := by decide +kernel
theorem dX11_differs_90 : decode cX11_differs 90 = .ok (.iload 6, 2) := by decide +kernel
theorem dX11_differs_92 : decode cX11_differs 92 = .ok (.iload_n 3, 1) := by decide +kernel
theorem dX11_differs_93 : decode cX11_differs 93 = .ok (.iconst 1, 1) := by decide +kernel
theorem dX11_differs_94 : decode cX11_differs 94 = .ok (.iadd, 1) := by decide +kernel
theorem dX11_differs_95 : decode cX11_differs 95 = .ok (.invokevirtual 290, 3) := by decide +kernel
theorem dX11_differs_98 : decode cX11_differs 98 = .ok (.ifCond .eq 5, 3) := by decide +kernel
theorem dX11_differs_101 : decode cX11_differs 101 = .ok (.iconst 1, 1) := by decide +kernel
theorem dX11_differs_102 : decode cX11_differs 102 = .ok (.ireturn, 1) := by decide +kernel
theorem dX11_differs_103 : decode cX11_differs 103 = .ok (.aload_n 0, 1) := by decide +kernel
theorem dX11_differs_104 : decode cX11_differs 104 = .ok (.getfield 40, 3) := by decide +kernel
theorem dX11_differs_107 : decode cX11_differs 107 = .ok (.invokevirtual 294, 3) := by decide +kernel
theorem dX11_differs_110 : decode cX11_differs 110 = .ok (.iinc 4 1, 3) := by decide +kernel
theorem dX11_differs_113 : decode cX11_differs 113 = .ok (.goto (-102), 3) := by decide +kernel
theorem dX11_differs_116 : decode cX11_differs 116 = .ok (.iconst 0, 1) := by decide +kernel
theorem dX11_differs_117 : decode cX11_differs 117 = .ok (.ireturn, 1) := by decide +kernel
theorem dX11_largest_0 : decode cX11_largest 0 = .ok (.bipush (-2), 2) := by decide +kernel
theorem dX11_largest_2 : decode cX11_largest 2 = .ok (.istore_n 1, 1) := by decide +kernel
theorem dX11_largest_3 : decode cX11_largest 3 = .ok (.iconst 0, 1) := by decide +kernel
theorem dX11_largest_4 : decode cX11_largest 4 = .ok (.istore_n 2, 1) := by decide +kernel
theorem dX11_largest_5 : decode cX11_largest 5 = .ok (.iconst 1, 1) := by decide +kernel
theorem dX11_largest_6 : decode cX11_largest 6 = .ok (.istore_n 3, 1) := by decide +kernel
theorem dX11_largest_7 : decode cX11_largest 7 = .ok (.iload_n 3, 1) := by decide +kernel
theorem dX11_largest_8 : decode cX11_largest 8 = .ok (.bipush 24, 2) := by decide +kernel
theorem dX11_largest_10 : decode cX11_largest 10 = .ok (.if_icmp .ge 46, 3) := by decide +kernel
theorem dX11_largest_13 : decode cX11_largest 13 = .ok (.aload_n 0, 1) := by decide +kernel
theorem dX11_largest_14 : decode cX11_largest 14 = .ok (.getfield 10, 3) := by decide +kernel
theorem dX11_largest_17 : decode cX11_largest 17 = .ok (.iload_n 3, 1) := by decide +kernel
theorem dX11_largest_18 : decode cX11_largest 18 = .ok (.invokevirtual 142, 3) := by decide +kernel
theorem dX11_largest_21 : decode cX11_largest 21 = .ok (.ifCond .eq 29, 3) := by decide +kernel
theorem dX11_largest_24 : decode cX11_largest 24 = .ok (.aload_n 0, 1) := by decide +kernel
theorem dX11_largest_25 : decode cX11_largest 25 = .ok (.getfield 10, 3) := by decide +kernel
theorem dX11_largest_28 : decode cX11_largest 28 = .ok (.iload_n 3, 1) := by decide +kernel
theorem dX11_largest_29 : decode cX11_largest 29 = .ok (.invokevirtual 279, 3) := by decide +kernel
theorem dX11_largest_32 : decode cX11_largest 32 = .ok (.invokestatic 186, 3) := by decide +kernel
theorem dX11_largest_35 : decode cX11_largest 35 = .ok (.iconst 1, 1) := by decide +kernel
theorem dX11_largest_36 : decode cX11_largest 36 = .ok (.iadd, 1) := by decide +kernel
theorem dX11_largest_37 : decode cX11_largest 37 = .ok (.istore 4, 2) := by decide +kernel
theorem dX11_largest_39 : decode cX11_largest 39 = .ok (.iload 4, 2) := by decide +kernel
theorem dX11_largest_41 : decode cX11_largest 41 = .ok (.iload_n 2, 1) := by decide +kernel
theorem dX11_largest_42 : decode cX11_largest 42 = .ok (.if_icmp .le 8, 3) := by decide +kernel
theorem dX11_largest_45 : decode cX11_largest 45 = .ok (.iload 4, 2) := by decide +kernel
theorem dX11_largest_47 : decode cX11_largest 47 = .ok (.istore_n 2, 1) := by decide +kernel
theorem dX11_largest_48 : decode cX11_largest 48 = .ok (.iload_n 3, 1) := by decide +kernel
theorem dX11_largest_49 : decode cX11_largest 49 = .ok (.istore_n 1, 1) := by decide +kernel
theorem dX11_largest_50 : decode cX11_largest 50 = .ok (.iinc 3 1, 3) := by decide +kernel
theorem dX11_largest_53 : decode cX11_largest 53 = .ok (.goto (-46), 3) := by decide +kernel
theorem dX11_largest_56 : decode cX11_largest 56 = .ok (.iload_n 2, 1) := by decide +kernel
theorem dX11_largest_57 : decode cX11_largest 57 = .ok (.ifCond .le 12, 3) := by decide +kernel
theorem dX11_largest_60 : decode cX11_largest 60 = .ok (.aload_n 0, 1) := by decide +kernel
theorem dX11_largest_61 : decode cX11_largest 61 = .ok (.getfield 40, 3) := by decide +kernel
theorem dX11_largest_64 : decode cX11_largest 64 = .ok (.iload_n 2, 1) := by decide +kernel
theorem dX11_largest_65 : decode cX11_largest 65 = .ok (.i2l, 1) := by decide +kernel
theorem dX11_largest_66 : decode cX11_largest 66 = .ok (.invokevirtual 138, 3) := by decide +kernel
theorem dX11_largest_69 : decode cX11_largest 69 = .ok (.iload_n 1, 1) := by decide +kernel
theorem dX11_largest_70 : decode cX11_largest 70 = .ok (.ireturn, 1) := by decide +kernel
theorem dX11_would_0 : decode cX11_would 0 = .ok (.aload_n 0, 1) := by decide +kernel
theorem dX11_would_1 : decode cX11_would 1 = .ok (.getfield 59, 3) := by decide +kernel
theorem dX11_would_4 : decode cX11_would 4 = .ok (.aload_n 0, 1) := by decide +kernel
theorem dX11_would_5 : decode cX11_would 5 = .ok (.getfield 47, 3) := by decide +kernel
theorem dX11_would_8 : decode cX11_would 8 = .ok (.iload_n 1, 1) := by decide +kernel
theorem dX11_would_9 : decode cX11_would 9 = .ok (.iload_n 2, 1) := by decide +kernel
theorem dX11_would_10 : decode cX11_would 10 = .ok (.invokevirtual 297, 3) := by decide +kernel
theorem dX11_would_13 : decode cX11_would 13 = .ok (.istore_n 3, 1) := by decide +kernel
theorem dX11_would_14 : decode cX11_would 14 = .ok (.iload_n 3, 1) := by decide +kernel
theorem dX11_would_15 : decode cX11_would 15 = .ok (.ifCond .ge 5, 3) := by decide +kernel
theorem dX11_would_18 : decode cX11_would 18 = .ok (.iload_n 3, 1) := by decide +kernel
theorem dX11_would_19 : decode cX11_would 19 = .ok (.ireturn, 1) := by decide +kernel
theorem dX11_would_20 : decode cX11_would 20 = .ok (.aload_n 0, 1) := by decide +kernel
theorem dX11_would_21 : decode cX11_would 21 = .ok (.getfield 40, 3) := by decide +kernel
theorem dX11_would_24 : decode cX11_would 24 = .ok (.iload_n 1, 1) := by decide +kernel
theorem dX11_would_25 : decode cX11_would 25 = .ok (.i2l, 1) := by decide +kernel
theorem dX11_would_26 : decode cX11_would 26 = .ok (.invokevirtual 138, 3) := by decide +kernel
theorem dX11_would_29 : decode cX11_would 29 = .ok (.iconst 0, 1) := by decide +kernel
theorem dX11_would_30 : decode cX11_would 30 = .ok (.istore 4, 2) := by decide +kernel
theorem dX11_would_32 : decode cX11_would 32 = .ok (.iload 4, 2) := by decide +kernel
theorem dX11_would_34 : decode cX11_would 34 = .ok (.bipush 24, 2) := by decide +kernel
theorem dX11_would_36 : decode cX11_would 36 = .ok (.if_icmp .ge 46, 3) := by decide +kernel
theorem dX11_would_39 : decode cX11_would 39 = .ok (.iload 4, 2) := by decide +kernel
theorem dX11_would_41 : decode cX11_would 41 = .ok (.iload_n 1, 1) := by decide +kernel
theorem dX11_would_42 : decode cX11_would 42 = .ok (.if_icmp .eq 34, 3) := by decide +kernel
theorem dX11_would_45 : decode cX11_would 45 = .ok (.iload_n 3, 1) := by decide +kernel
theorem dX11_would_46 : decode cX11_would 46 = .ok (.iconst 1, 1) := by decide +kernel
theorem dX11_would_47 : decode cX11_would 47 = .ok (.iload 4, 2) := by decide +kernel
theorem dX11_would_49 : decode cX11_would 49 = .ok (.ishl, 1) := by decide +kernel
theorem dX11_would_50 : decode cX11_would 50 = .ok (.iand, 1) := by decide +kernel
theorem dX11_would_51 : decode cX11_would 51 = .ok (.ifCond .eq 25, 3) := by decide +kernel
theorem dX11_would_54 : decode cX11_would 54 = .ok (.aload_n 0, 1) := by decide +kernel
theorem dX11_would_55 : decode cX11_would 55 = .ok (.getfield 40, 3) := by decide +kernel
theorem dX11_would_58 : decode cX11_would 58 = .ok (.getfield 268, 3) := by decide +kernel
theorem dX11_would_61 : decode cX11_would 61 = .ok (.bipush 14, 2) := by decide +kernel
theorem dX11_would_63 : decode cX11_would 63 = .ok (.if_icmp .ge 13, 3) := by decide +kernel
theorem dX11_would_66 : decode cX11_would 66 = .ok (.aload_n 0, 1) := by decide +kernel
theorem dX11_would_67 : decode cX11_would 67 = .ok (.getfield 40, 3) := by decide +kernel
theorem dX11_would_70 : decode cX11_would 70 = .ok (.iload 4, 2) := by decide +kernel
theorem dX11_would_72 : decode cX11_would 72 = .ok (.i2l, 1) := by decide +kernel
theorem dX11_would_73 : decode cX11_would 73 = .ok (.invokevirtual 266, 3) := by decide +kernel
theorem dX11_would_76 : decode cX11_would 76 = .ok (.iinc 4 1, 3) := by decide +kernel
theorem dX11_would_79 : decode cX11_would 79 = .ok (.goto (-47), 3) := by decide +kernel
theorem dX11_would_82 : decode cX11_would 82 = .ok (.iload_n 3, 1) := by decide +kernel
theorem dX11_would_83 : decode cX11_would 83 = .ok (.invokestatic 186, 3) := by decide +kernel
theorem dX11_would_86 : decode cX11_would 86 = .ok (.ireturn, 1) := by decide +kernel
theorem dX11_lost_0 : decode cX11_lost 0 = .ok (.aload_n 0, 1) := by decide +kernel
theorem dX11_lost_1 : decode cX11_lost 1 = .ok (.getfield 59, 3) := by decide +kernel
theorem dX11_lost_4 : decode cX11_lost 4 = .ok (.iload_n 1, 1) := by decide +kernel
theorem dX11_lost_5 : decode cX11_lost 5 = .ok (.iload_n 2, 1) := by decide +kernel
theorem dX11_lost_6 : decode cX11_lost 6 = .ok (.invokevirtual 301, 3) := by decide +kernel
theorem dX11_lost_9 : decode cX11_lost 9 = .ok (.istore_n 3, 1) := by decide +kernel
theorem dX11_lost_10 : decode cX11_lost 10 = .ok (.iload_n 3, 1) := by decide +kernel
theorem dX11_lost_11 : decode cX11_lost 11 = .ok (.ifCond .ge 7, 3) := by decide +kernel
theorem dX11_lost_14 : decode cX11_lost 14 = .ok (.iload_n 3, 1) := by decide +kernel
theorem dX11_lost_15 : decode cX11_lost 15 = .ok (.goto 8, 3) := by decide +kernel
theorem dX11_lost_18 : decode cX11_lost 18 = .ok (.aload_n 0, 1) := by decide +kernel
theorem dX11_lost_19 : decode cX11_lost 19 = .ok (.iload_n 3, 1) := by decide +kernel
theorem dX11_lost_20 : decode cX11_lost 20 = .ok (.invokevirtual 253, 3) := by decide +kernel
theorem dX11_lost_23 : decode cX11_lost 23 = .ok (.ireturn, 1) := by decide +kernel
theorem dX11_widest_0 : decode cX11_widest 0 = .ok (.bipush (-2), 2) := by decide +kernel
theorem dX11_widest_2 : decode cX11_widest 2 = .ok (.istore_n 1, 1) := by decide +kernel
theorem dX11_widest_3 : decode cX11_widest 3 = .ok (.iconst 0, 1) := by decide +kernel
theorem dX11_widest_4 : decode cX11_widest 4 = .ok (.istore_n 2, 1) := by decide +kernel
theorem dX11_widest_5 : decode cX11_widest 5 = .ok (.iconst 0, 1) := by decide +kernel
theorem dX11_widest_6 : decode cX11_widest 6 = .ok (.istore_n 3, 1) := by decide +kernel
theorem dX11_widest_7 : decode cX11_widest 7 = .ok (.iload_n 3, 1) := by decide +kernel
theorem dX11_widest_8 : decode cX11_widest 8 = .ok (.iconst 4, 1) := by decide +kernel
theorem dX11_widest_9 : decode cX11_widest 9 = .ok (.if_icmp .ge 159, 3) := by decide +kernel
theorem dX11_widest_12 : decode cX11_widest 12 = .ok (.aload_n 0, 1) := by decide +kernel
theorem dX11_widest_13 : decode cX11_widest 13 = .ok (.getfield 10, 3) := by decide +kernel
theorem dX11_widest_16 : decode cX11_widest 16 = .ok (.iload_n 3, 1) := by decide +kernel
theorem dX11_widest_17 : decode cX11_widest 17 = .ok (.invokevirtual 304, 3) := by decide +kernel
theorem dX11_widest_20 : decode cX11_widest 20 = .ok (.istore 4, 2) := by decide +kernel
theorem dX11_widest_22 : decode cX11_widest 22 = .ok (.aload_n 0, 1) := by decide +kernel
theorem dX11_widest_23 : decode cX11_widest 23 = .ok (.getfield 47, 3) := by decide +kernel
theorem dX11_widest_26 : decode cX11_widest 26 = .ok (.aload_n 0, 1) := by decide +kernel
theorem dX11_widest_27 : decode cX11_widest 27 = .ok (.getfield 10, 3) := by decide +kernel
theorem dX11_widest_30 : decode cX11_widest 30 = .ok (.iload_n 3, 1) := by decide +kernel
theorem dX11_widest_31 : decode cX11_widest 31 = .ok (.invokevirtual 307, 3) := by decide +kernel
theorem dX11_widest_34 : decode cX11_widest 34 = .ok (.iload 4, 2) := by decide +kernel
theorem dX11_widest_36 : decode cX11_widest 36 = .ok (.iconst (-1), 1) := by decide +kernel
theorem dX11_widest_37 : decode cX11_widest 37 = .ok (.ixor, 1) := by decide +kernel
theorem dX11_widest_38 : decode cX11_widest 38 = .ok (.iand, 1) := by decide +kernel
theorem dX11_widest_39 : decode cX11_widest 39 = .ok (.istore 5, 2) := by decide +kernel
theorem dX11_widest_41 : decode cX11_widest 41 = .ok (.iconst 0, 1) := by decide +kernel
theorem dX11_widest_42 : decode cX11_widest 42 = .ok (.istore 6, 2) := by decide +kernel
theorem dX11_widest_44 : decode cX11_widest 44 = .ok (.iload 6, 2) := by decide +kernel
theorem dX11_widest_46 : decode cX11_widest 46 = .ok (.bipush 24, 2) := by decide +kernel
theorem dX11_widest_48 : decode cX11_widest 48 = .ok (.if_icmp .ge 114, 3) := by decide +kernel
theorem dX11_widest_51 : decode cX11_widest 51 = .ok (.aload_n 0, 1) := by decide +kernel
theorem dX11_widest_52 : decode cX11_widest 52 = .ok (.getfield 10, 3) := by decide +kernel
theorem dX11_widest_55 : decode cX11_widest 55 = .ok (.iload 6, 2) := by decide +kernel
theorem dX11_widest_57 : decode cX11_widest 57 = .ok (.invokevirtual 142, 3) := by decide +kernel
theorem dX11_widest_60 : decode cX11_widest 60 = .ok (.ifCond .eq 96, 3) := by decide +kernel
theorem dX11_widest_63 : decode cX11_widest 63 = .ok (.iload 4, 2) := by decide +kernel
theorem dX11_widest_65 : decode cX11_widest 65 = .ok (.iconst 1, 1) := by decide +kernel
theorem dX11_widest_66 : decode cX11_widest 66 = .ok (.iload 6, 2) := by decide +kernel
theorem dX11_widest_68 : decode cX11_widest 68 = .ok (.ishl, 1) := by decide +kernel
theorem dX11_widest_69 : decode cX11_widest 69 = .ok (.iand, 1) := by decide +kernel
theorem dX11_widest_70 : decode cX11_widest 70 = .ok (.ifCond .ne 86, 3) := by decide +kernel
theorem dX11_widest_73 : decode cX11_widest 73 = .ok (.aload_n 0, 1) := by decide +kernel
theorem dX11_widest_74 : decode cX11_widest 74 = .ok (.getfield 10, 3) := by decide +kernel
theorem dX11_widest_77 : decode cX11_widest 77 = .ok (.iload 6, 2) := by decide +kernel
theorem dX11_widest_79 : decode cX11_widest 79 = .ok (.invokevirtual 250, 3) := by decide +kernel
theorem dX11_widest_82 : decode cX11_widest 82 = .ok (.iload 5, 2) := by decide +kernel
theorem dX11_widest_84 : decode cX11_widest 84 = .ok (.iand, 1) := by decide +kernel
theorem dX11_widest_85 : decode cX11_widest 85 = .ok (.iconst 1, 1) := by decide +kernel
theorem dX11_widest_86 : decode cX11_widest 86 = .ok (.iload 6, 2) := by decide +kernel
theorem dX11_widest_88 : decode cX11_widest 88 = .ok (.ishl, 1) := by decide +kernel
theorem dX11_widest_89 : decode cX11_widest 89 = .ok (.ior, 1) := by decide +kernel
theorem dX11_widest_90 : decode cX11_widest 90 = .ok (.invokestatic 186, 3) := by decide +kernel
theorem dX11_widest_93 : decode cX11_widest 93 = .ok (.istore 7, 2) := by decide +kernel
theorem dX11_widest_95 : decode cX11_widest 95 = .ok (.iload 7, 2) := by decide +kernel
theorem dX11_widest_97 : decode cX11_widest 97 = .ok (.iload_n 2, 1) := by decide +kernel
theorem dX11_widest_98 : decode cX11_widest 98 = .ok (.if_icmp .gt 20, 3) := by decide +kernel
theorem dX11_widest_101 : decode cX11_widest 101 = .ok (.iload 7, 2) := by decide +kernel
theorem dX11_widest_103 : decode cX11_widest 103 = .ok (.iload_n 2, 1) := by decide +kernel
theorem dX11_widest_104 : decode cX11_widest 104 = .ok (.if_icmp .ne 18, 3) := by decide +kernel
theorem dX11_widest_107 : decode cX11_widest 107 = .ok (.bipush 10, 2) := by decide +kernel
theorem dX11_widest_109 : decode cX11_widest 109 = .ok (.iload 6, 2) := by decide +kernel
theorem dX11_widest_111 : decode cX11_widest 111 = .ok (.imul, 1) := by decide +kernel
theorem dX11_widest_112 : decode cX11_widest 112 = .ok (.iload_n 3, 1) := by decide +kernel
theorem dX11_widest_113 : decode cX11_widest 113 = .ok (.iadd, 1) := by decide +kernel
theorem dX11_widest_114 : decode cX11_widest 114 = .ok (.iload_n 1, 1) := by decide +kernel
theorem dX11_widest_115 : decode cX11_widest 115 = .ok (.if_icmp .ge 7, 3) := by decide +kernel
theorem dX11_widest_118 : decode cX11_widest 118 = .ok (.iconst 1, 1) := by decide +kernel
theorem dX11_widest_119 : decode cX11_widest 119 = .ok (.goto 4, 3) := by decide +kernel
theorem dX11_widest_122 : decode cX11_widest 122 = .ok (.iconst 0, 1) := by decide +kernel
theorem dX11_widest_123 : decode cX11_widest 123 = .ok (.istore 8, 2) := by decide +kernel
theorem dX11_widest_125 : decode cX11_widest 125 = .ok (.iload 8, 2) := by decide +kernel
theorem dX11_widest_127 : decode cX11_widest 127 = .ok (.ifCond .eq 29, 3) := by decide +kernel
theorem dX11_widest_130 : decode cX11_widest 130 = .ok (.aload_n 0, 1) := by decide +kernel
theorem dX11_widest_131 : decode cX11_widest 131 = .ok (.getfield 10, 3) := by decide +kernel
theorem dX11_widest_134 : decode cX11_widest 134 = .ok (.invokevirtual 242, 3) := by decide +kernel
theorem dX11_widest_137 : decode cX11_widest 137 = .ok (.iload 7, 2) := by decide +kernel
theorem dX11_widest_139 : decode cX11_widest 139 = .ok (.iadd, 1) := by decide +kernel
theorem dX11_widest_140 : decode cX11_widest 140 = .ok (.bipush 24, 2) := by decide +kernel
theorem dX11_widest_142 : decode cX11_widest 142 = .ok (.if_icmp .gt 14, 3) := by decide +kernel
theorem dX11_widest_145 : decode cX11_widest 145 = .ok (.iload 7, 2) := by decide +kernel
theorem dX11_widest_147 : decode cX11_widest 147 = .ok (.istore_n 2, 1) := by decide +kernel
theorem dX11_widest_148 : decode cX11_widest 148 = .ok (.bipush 10, 2) := by decide +kernel
theorem dX11_widest_150 : decode cX11_widest 150 = .ok (.iload 6, 2) := by decide +kernel
theorem dX11_widest_152 : decode cX11_widest 152 = .ok (.imul, 1) := by decide +kernel
theorem dX11_widest_153 : decode cX11_widest 153 = .ok (.iload_n 3, 1) := by decide +kernel
theorem dX11_widest_154 : decode cX11_widest 154 = .ok (.iadd, 1) := by decide +kernel
theorem dX11_widest_155 : decode cX11_widest 155 = .ok (.istore_n 1, 1) := by decide +kernel
theorem dX11_widest_156 : decode cX11_widest 156 = .ok (.iinc 6 1, 3) := by decide +kernel
theorem dX11_widest_159 : decode cX11_widest 159 = .ok (.goto (-115), 3) := by decide +kernel
theorem dX11_widest_162 : decode cX11_widest 162 = .ok (.iinc 3 1, 3) := by decide +kernel
theorem dX11_widest_165 : decode cX11_widest 165 = .ok (.goto (-158), 3) := by decide +kernel
theorem dX11_widest_168 : decode cX11_widest 168 = .ok (.iload_n 2, 1) := by decide +kernel
theorem dX11_widest_169 : decode cX11_widest 169 = .ok (.ifCond .le 12, 3) := by decide +kernel
theorem dX11_widest_172 : decode cX11_widest 172 = .ok (.aload_n 0, 1) := by decide +kernel
theorem dX11_widest_173 : decode cX11_widest 173 = .ok (.getfield 40, 3) := by decide +kernel
theorem dX11_widest_176 : decode cX11_widest 176 = .ok (.iload_n 2, 1) := by decide +kernel
theorem dX11_widest_177 : decode cX11_widest 177 = .ok (.i2l, 1) := by decide +kernel
theorem dX11_widest_178 : decode cX11_widest 178 = .ok (.invokevirtual 138, 3) := by decide +kernel
theorem dX11_widest_181 : decode cX11_widest 181 = .ok (.iload_n 1, 1) := by decide +kernel
theorem dX11_widest_182 : decode cX11_widest 182 = .ok (.ireturn, 1) := by decide +kernel
theorem dX11_heard_0 : decode cX11_heard 0 = .ok (.aload_n 0, 1) := by decide +kernel
theorem dX11_heard_1 : decode cX11_heard 1 = .ok (.getfield 84, 3) := by decide +kernel
theorem dX11_heard_4 : decode cX11_heard 4 = .ok (.iload_n 1, 1) := by decide +kernel
theorem dX11_heard_5 : decode cX11_heard 5 = .ok (.iload_n 2, 1) := by decide +kernel
theorem dX11_heard_6 : decode cX11_heard 6 = .ok (.invokevirtual 311, 3) := by decide +kernel
theorem dX11_heard_9 : decode cX11_heard 9 = .ok (.ifCond .eq 13, 3) := by decide +kernel
theorem dX11_heard_12 : decode cX11_heard 12 = .ok (.aload_n 0, 1) := by decide +kernel
theorem dX11_heard_13 : decode cX11_heard 13 = .ok (.getfield 84, 3) := by decide +kernel
theorem dX11_heard_16 : decode cX11_heard 16 = .ok (.getfield 314, 3) := by decide +kernel
theorem dX11_heard_19 : decode cX11_heard 19 = .ok (.goto 4, 3) := by decide +kernel
theorem dX11_heard_22 : decode cX11_heard 22 = .ok (.iconst (-1), 1) := by decide +kernel
theorem dX11_heard_23 : decode cX11_heard 23 = .ok (.ireturn, 1) := by decide +kernel
theorem dX11_forget_0 : decode cX11_forget 0 = .ok (.aload_n 0, 1) := by decide +kernel
theorem dX11_forget_1 : decode cX11_forget 1 = .ok (.getfield 84, 3) := by decide +kernel
theorem dX11_forget_4 : decode cX11_forget 4 = .ok (.getfield 314, 3) := by decide +kernel
theorem dX11_forget_7 : decode cX11_forget 7 = .ok (.istore_n 1, 1) := by decide +kernel
theorem dX11_forget_8 : decode cX11_forget 8 = .ok (.aload_n 0, 1) := by decide +kernel
theorem dX11_forget_9 : decode cX11_forget 9 = .ok (.getfield 84, 3) := by decide +kernel
theorem dX11_forget_12 : decode cX11_forget 12 = .ok (.iconst 0, 1) := by decide +kernel
theorem dX11_forget_13 : decode cX11_forget 13 = .ok (.putfield 314, 3) := by decide +kernel
theorem dX11_forget_16 : decode cX11_forget 16 = .ok (.iload_n 1, 1) := by decide +kernel
theorem dX11_forget_17 : decode cX11_forget 17 = .ok (.ireturn, 1) := by decide +kernel
theorem dX11_fits_0 : decode cX11_fits 0 = .ok (.aload_n 0, 1) := by decide +kernel
theorem dX11_fits_1 : decode cX11_fits 1 = .ok (.aload_n 0, 1) := by decide +kernel
theorem dX11_fits_2 : decode cX11_fits 2 = .ok (.getfield 84, 3) := by decide +kernel
theorem dX11_fits_5 : decode cX11_fits 5 = .ok (.invokevirtual 315, 3) := by decide +kernel
theorem dX11_fits_8 : decode cX11_fits 8 = .ok (.invokevirtual 253, 3) := by decide +kernel
theorem dX11_fits_11 : decode cX11_fits 11 = .ok (.ireturn, 1) := by decide +kernel
theorem dX11_asks_0 : decode cX11_asks 0 = .ok (.aload_n 0, 1) := by decide +kernel
theorem dX11_asks_1 : decode cX11_asks 1 = .ok (.getfield 84, 3) := by decide +kernel
theorem dX11_asks_4 : decode cX11_asks 4 = .ok (.invokevirtual 318, 3) := by decide +kernel
theorem dX11_asks_7 : decode cX11_asks 7 = .ok (.istore_n 1, 1) := by decide +kernel
theorem dX11_asks_8 : decode cX11_asks 8 = .ok (.iload_n 1, 1) := by decide +kernel
theorem dX11_asks_9 : decode cX11_asks 9 = .ok (.iconst (-1), 1) := by decide +kernel
theorem dX11_asks_10 : decode cX11_asks 10 = .ok (.if_icmp .ne 6, 3) := by decide +kernel
theorem dX11_asks_13 : decode cX11_asks 13 = .ok (.bipush (-2), 2) := by decide +kernel
theorem dX11_asks_15 : decode cX11_asks 15 = .ok (.ireturn, 1) := by decide +kernel
theorem dX11_asks_16 : decode cX11_asks 16 = .ok (.aload_n 0, 1) := by decide +kernel
theorem dX11_asks_17 : decode cX11_asks 17 = .ok (.getfield 40, 3) := by decide +kernel
theorem dX11_asks_20 : decode cX11_asks 20 = .ok (.aload_n 0, 1) := by decide +kernel
theorem dX11_asks_21 : decode cX11_asks 21 = .ok (.getfield 84, 3) := by decide +kernel
theorem dX11_asks_24 : decode cX11_asks 24 = .ok (.getfield 321, 3) := by decide +kernel
theorem dX11_asks_27 : decode cX11_asks 27 = .ok (.i2l, 1) := by decide +kernel
theorem dX11_asks_28 : decode cX11_asks 28 = .ok (.invokevirtual 138, 3) := by decide +kernel
theorem dX11_asks_31 : decode cX11_asks 31 = .ok (.iload_n 1, 1) := by decide +kernel
theorem dX11_asks_32 : decode cX11_asks 32 = .ok (.ireturn, 1) := by decide +kernel
theorem dX11_saw_0 : decode cX11_saw 0 = .ok (.aload_n 0, 1) := by decide +kernel
theorem dX11_saw_1 : decode cX11_saw 1 = .ok (.getfield 91, 3) := by decide +kernel
theorem dX11_saw_4 : decode cX11_saw 4 = .ok (.iload_n 1, 1) := by decide +kernel
theorem dX11_saw_5 : decode cX11_saw 5 = .ok (.iload_n 2, 1) := by decide +kernel
theorem dX11_saw_6 : decode cX11_saw 6 = .ok (.iload_n 3, 1) := by decide +kernel
theorem dX11_saw_7 : decode cX11_saw 7 = .ok (.invokevirtual 324, 3) := by decide +kernel
theorem dX11_saw_10 : decode cX11_saw 10 = .ok (.ifCond .eq 13, 3) := by decide +kernel
theorem dX11_saw_13 : decode cX11_saw 13 = .ok (.aload_n 0, 1) := by decide +kernel
theorem dX11_saw_14 : decode cX11_saw 14 = .ok (.getfield 91, 3) := by decide +kernel
theorem dX11_saw_17 : decode cX11_saw 17 = .ok (.getfield 327, 3) := by decide +kernel
theorem dX11_saw_20 : decode cX11_saw 20 = .ok (.goto 4, 3) := by decide +kernel
theorem dX11_saw_23 : decode cX11_saw 23 = .ok (.iconst (-1), 1) := by decide +kernel
theorem dX11_saw_24 : decode cX11_saw 24 = .ok (.ireturn, 1) := by decide +kernel
theorem dX11_denies_0 : decode cX11_denies 0 = .ok (.aload_n 0, 1) := by decide +kernel
theorem dX11_denies_1 : decode cX11_denies 1 = .ok (.getfield 91, 3) := by decide +kernel
theorem dX11_denies_4 : decode cX11_denies 4 = .ok (.getfield 327, 3) := by decide +kernel
theorem dX11_denies_7 : decode cX11_denies 7 = .ok (.istore_n 1, 1) := by decide +kernel
theorem dX11_denies_8 : decode cX11_denies 8 = .ok (.aload_n 0, 1) := by decide +kernel
theorem dX11_denies_9 : decode cX11_denies 9 = .ok (.getfield 91, 3) := by decide +kernel
theorem dX11_denies_12 : decode cX11_denies 12 = .ok (.iconst 0, 1) := by decide +kernel
theorem dX11_denies_13 : decode cX11_denies 13 = .ok (.putfield 327, 3) := by decide +kernel
theorem dX11_denies_16 : decode cX11_denies 16 = .ok (.iload_n 1, 1) := by decide +kernel
theorem dX11_denies_17 : decode cX11_denies 17 = .ok (.ireturn, 1) := by decide +kernel
theorem dX11_laws_0 : decode cX11_laws 0 = .ok (.aload_n 0, 1) := by decide +kernel
theorem dX11_laws_1 : decode cX11_laws 1 = .ok (.getfield 91, 3) := by decide +kernel
theorem dX11_laws_4 : decode cX11_laws 4 = .ok (.invokevirtual 328, 3) := by decide +kernel
theorem dX11_laws_7 : decode cX11_laws 7 = .ok (.lstore_n 1, 1) := by decide +kernel
theorem dX11_laws_8 : decode cX11_laws 8 = .ok (.aload_n 0, 1) := by decide +kernel
theorem dX11_laws_9 : decode cX11_laws 9 = .ok (.getfield 40, 3) := by decide +kernel
theorem dX11_laws_12 : decode cX11_laws 12 = .ok (.invokevirtual 262, 3) := by decide +kernel
theorem dX11_laws_15 : decode cX11_laws 15 = .ok (.iconst 0, 1) := by decide +kernel
theorem dX11_laws_16 : decode cX11_laws 16 = .ok (.istore_n 3, 1) := by decide +kernel
theorem dX11_laws_17 : decode cX11_laws 17 = .ok (.iload_n 3, 1) := by decide +kernel
theorem dX11_laws_18 : decode cX11_laws 18 = .ok (.bipush 35, 2) := by decide +kernel
theorem dX11_laws_20 : decode cX11_laws 20 = .ok (.if_icmp .ge 46, 3) := by decide +kernel
theorem dX11_laws_23 : decode cX11_laws 23 = .ok (.aload_n 0, 1) := by decide +kernel
theorem dX11_laws_24 : decode cX11_laws 24 = .ok (.getfield 40, 3) := by decide +kernel
theorem dX11_laws_27 : decode cX11_laws 27 = .ok (.getfield 268, 3) := by decide +kernel
theorem dX11_laws_30 : decode cX11_laws 30 = .ok (.ifCond .ne 36, 3) := by decide +kernel
theorem dX11_laws_33 : decode cX11_laws 33 = .ok (.lload_n 1, 1) := by decide +kernel
theorem dX11_laws_34 : decode cX11_laws 34 = .ok (.lconst 1, 1) := by decide +kernel
theorem dX11_laws_35 : decode cX11_laws 35 = .ok (.iload_n 3, 1) := by decide +kernel
theorem dX11_laws_36 : decode cX11_laws 36 = .ok (.lshl, 1) := by decide +kernel
theorem dX11_laws_37 : decode cX11_laws 37 = .ok (.land, 1) := by decide +kernel
theorem dX11_laws_38 : decode cX11_laws 38 = .ok (.lconst 0, 1) := by decide +kernel
theorem dX11_laws_39 : decode cX11_laws 39 = .ok (.lcmp, 1) := by decide +kernel
theorem dX11_laws_40 : decode cX11_laws 40 = .ok (.ifCond .eq 20, 3) := by decide +kernel
theorem dX11_laws_43 : decode cX11_laws 43 = .ok (.aload_n 0, 1) := by decide +kernel
theorem dX11_laws_44 : decode cX11_laws 44 = .ok (.getfield 40, 3) := by decide +kernel
theorem dX11_laws_47 : decode cX11_laws 47 = .ok (.iload_n 3, 1) := by decide +kernel
theorem dX11_laws_48 : decode cX11_laws 48 = .ok (.invokestatic 331, 3) := by decide +kernel
theorem dX11_laws_51 : decode cX11_laws 51 = .ok (.i2l, 1) := by decide +kernel
theorem dX11_laws_52 : decode cX11_laws 52 = .ok (.iload_n 3, 1) := by decide +kernel
theorem dX11_laws_53 : decode cX11_laws 53 = .ok (.invokestatic 334, 3) := by decide +kernel
theorem dX11_laws_56 : decode cX11_laws 56 = .ok (.i2l, 1) := by decide +kernel
theorem dX11_laws_57 : decode cX11_laws 57 = .ok (.invokevirtual 227, 3) := by decide +kernel
theorem dX11_laws_60 : decode cX11_laws 60 = .ok (.iinc 3 1, 3) := by decide +kernel
theorem dX11_laws_63 : decode cX11_laws 63 = .ok (.goto (-46), 3) := by decide +kernel
theorem dX11_laws_66 : decode cX11_laws 66 = .ok (.lload_n 1, 1) := by decide +kernel
theorem dX11_laws_67 : decode cX11_laws 67 = .ok (.invokestatic 337, 3) := by decide +kernel
theorem dX11_laws_70 : decode cX11_laws 70 = .ok (.ireturn, 1) := by decide +kernel
theorem dX11_looks_0 : decode cX11_looks 0 = .ok (.aload_n 0, 1) := by decide +kernel
theorem dX11_looks_1 : decode cX11_looks 1 = .ok (.getfield 91, 3) := by decide +kernel
theorem dX11_looks_4 : decode cX11_looks 4 = .ok (.invokevirtual 342, 3) := by decide +kernel
theorem dX11_looks_7 : decode cX11_looks 7 = .ok (.istore_n 1, 1) := by decide +kernel
theorem dX11_looks_8 : decode cX11_looks 8 = .ok (.iload_n 1, 1) := by decide +kernel
theorem dX11_looks_9 : decode cX11_looks 9 = .ok (.iconst (-1), 1) := by decide +kernel
theorem dX11_looks_10 : decode cX11_looks 10 = .ok (.if_icmp .ne 6, 3) := by decide +kernel
theorem dX11_looks_13 : decode cX11_looks 13 = .ok (.bipush (-2), 2) := by decide +kernel
theorem dX11_looks_15 : decode cX11_looks 15 = .ok (.ireturn, 1) := by decide +kernel
theorem dX11_looks_16 : decode cX11_looks 16 = .ok (.aload_n 0, 1) := by decide +kernel
theorem dX11_looks_17 : decode cX11_looks 17 = .ok (.getfield 40, 3) := by decide +kernel
theorem dX11_looks_20 : decode cX11_looks 20 = .ok (.aload_n 0, 1) := by decide +kernel
theorem dX11_looks_21 : decode cX11_looks 21 = .ok (.getfield 91, 3) := by decide +kernel
theorem dX11_looks_24 : decode cX11_looks 24 = .ok (.getfield 345, 3) := by decide +kernel
theorem dX11_looks_27 : decode cX11_looks 27 = .ok (.i2l, 1) := by decide +kernel
theorem dX11_looks_28 : decode cX11_looks 28 = .ok (.invokevirtual 138, 3) := by decide +kernel
theorem dX11_looks_31 : decode cX11_looks 31 = .ok (.iload_n 1, 1) := by decide +kernel
theorem dX11_looks_32 : decode cX11_looks 32 = .ok (.ireturn, 1) := by decide +kernel
theorem dX11_odds_0 : decode cX11_odds 0 = .ok (.aload_n 0, 1) := by decide +kernel
theorem dX11_odds_1 : decode cX11_odds 1 = .ok (.getfield 10, 3) := by decide +kernel
theorem dX11_odds_4 : decode cX11_odds 4 = .ok (.iload_n 1, 1) := by decide +kernel
theorem dX11_odds_5 : decode cX11_odds 5 = .ok (.invokevirtual 142, 3) := by decide +kernel
theorem dX11_odds_8 : decode cX11_odds 8 = .ok (.ifCond .eq 23, 3) := by decide +kernel
theorem dX11_odds_11 : decode cX11_odds 11 = .ok (.iload_n 2, 1) := by decide +kernel
theorem dX11_odds_12 : decode cX11_odds 12 = .ok (.ifCond .lt 19, 3) := by decide +kernel
theorem dX11_odds_15 : decode cX11_odds 15 = .ok (.iload_n 2, 1) := by decide +kernel
theorem dX11_odds_16 : decode cX11_odds 16 = .ok (.bipush 16, 2) := by decide +kernel
theorem dX11_odds_18 : decode cX11_odds 18 = .ok (.if_icmp .gt 13, 3) := by decide +kernel
theorem dX11_odds_21 : decode cX11_odds 21 = .ok (.iload_n 3, 1) := by decide +kernel
theorem dX11_odds_22 : decode cX11_odds 22 = .ok (.ifCond .lt 9, 3) := by decide +kernel
theorem dX11_odds_25 : decode cX11_odds 25 = .ok (.iload_n 3, 1) := by decide +kernel
theorem dX11_odds_26 : decode cX11_odds 26 = .ok (.bipush 10, 2) := by decide +kernel
theorem dX11_odds_28 : decode cX11_odds 28 = .ok (.if_icmp .le 5, 3) := by decide +kernel
theorem dX11_odds_31 : decode cX11_odds 31 = .ok (.iconst (-1), 1) := by decide +kernel
theorem dX11_odds_32 : decode cX11_odds 32 = .ok (.ireturn, 1) := by decide +kernel
theorem dX11_odds_33 : decode cX11_odds 33 = .ok (.aload_n 0, 1) := by decide +kernel
theorem dX11_odds_34 : decode cX11_odds 34 = .ok (.getfield 10, 3) := by decide +kernel
theorem dX11_odds_37 : decode cX11_odds 37 = .ok (.iload_n 1, 1) := by decide +kernel
theorem dX11_odds_38 : decode cX11_odds 38 = .ok (.invokevirtual 250, 3) := by decide +kernel
theorem dX11_odds_41 : decode cX11_odds 41 = .ok (.invokestatic 186, 3) := by decide +kernel
theorem dX11_odds_44 : decode cX11_odds 44 = .ok (.iconst 1, 1) := by decide +kernel
theorem dX11_odds_45 : decode cX11_odds 45 = .ok (.isub, 1) := by decide +kernel
theorem dX11_odds_46 : decode cX11_odds 46 = .ok (.istore 4, 2) := by decide +kernel
theorem dX11_odds_48 : decode cX11_odds 48 = .ok (.iload 4, 2) := by decide +kernel
theorem dX11_odds_50 : decode cX11_odds 50 = .ok (.bipush 16, 2) := by decide +kernel
theorem dX11_odds_52 : decode cX11_odds 52 = .ok (.if_icmp .le 5, 3) := by decide +kernel
theorem dX11_odds_55 : decode cX11_odds 55 = .ok (.iconst (-1), 1) := by decide +kernel
theorem dX11_odds_56 : decode cX11_odds 56 = .ok (.ireturn, 1) := by decide +kernel
theorem dX11_odds_57 : decode cX11_odds 57 = .ok (.aload_n 0, 1) := by decide +kernel
theorem dX11_odds_58 : decode cX11_odds 58 = .ok (.getfield 98, 3) := by decide +kernel
theorem dX11_odds_61 : decode cX11_odds 61 = .ok (.iload 4, 2) := by decide +kernel
theorem dX11_odds_63 : decode cX11_odds 63 = .ok (.iload_n 2, 1) := by decide +kernel
theorem dX11_odds_64 : decode cX11_odds 64 = .ok (.iload_n 3, 1) := by decide +kernel
theorem dX11_odds_65 : decode cX11_odds 65 = .ok (.invokevirtual 346, 3) := by decide +kernel
theorem dX11_odds_68 : decode cX11_odds 68 = .ok (.aload_n 0, 1) := by decide +kernel
theorem dX11_odds_69 : decode cX11_odds 69 = .ok (.getfield 40, 3) := by decide +kernel
theorem dX11_odds_72 : decode cX11_odds 72 = .ok (.aload_n 0, 1) := by decide +kernel
theorem dX11_odds_73 : decode cX11_odds 73 = .ok (.getfield 98, 3) := by decide +kernel
theorem dX11_odds_76 : decode cX11_odds 76 = .ok (.getfield 350, 3) := by decide +kernel
theorem dX11_odds_79 : decode cX11_odds 79 = .ok (.aload_n 0, 1) := by decide +kernel
theorem dX11_odds_80 : decode cX11_odds 80 = .ok (.getfield 98, 3) := by decide +kernel
theorem dX11_odds_83 : decode cX11_odds 83 = .ok (.getfield 354, 3) := by decide +kernel
theorem dX11_odds_86 : decode cX11_odds 86 = .ok (.invokevirtual 227, 3) := by decide +kernel
theorem dX11_odds_89 : decode cX11_odds 89 = .ok (.iconst 0, 1) := by decide +kernel
theorem dX11_odds_90 : decode cX11_odds 90 = .ok (.ireturn, 1) := by decide +kernel
theorem dX11_hacks_0 : decode cX11_hacks 0 = .ok (.aload_n 0, 1) := by decide +kernel
theorem dX11_hacks_1 : decode cX11_hacks 1 = .ok (.getfield 10, 3) := by decide +kernel
theorem dX11_hacks_4 : decode cX11_hacks 4 = .ok (.iload_n 1, 1) := by decide +kernel
theorem dX11_hacks_5 : decode cX11_hacks 5 = .ok (.invokevirtual 142, 3) := by decide +kernel
theorem dX11_hacks_8 : decode cX11_hacks 8 = .ok (.ifCond .ne 5, 3) := by decide +kernel
theorem dX11_hacks_11 : decode cX11_hacks 11 = .ok (.iconst (-1), 1) := by decide +kernel
theorem dX11_hacks_12 : decode cX11_hacks 12 = .ok (.ireturn, 1) := by decide +kernel
theorem dX11_hacks_13 : decode cX11_hacks 13 = .ok (.aload_n 0, 1) := by decide +kernel
theorem dX11_hacks_14 : decode cX11_hacks 14 = .ok (.getfield 40, 3) := by decide +kernel
theorem dX11_hacks_17 : decode cX11_hacks 17 = .ok (.invokevirtual 262, 3) := by decide +kernel
theorem dX11_hacks_20 : decode cX11_hacks 20 = .ok (.aload_n 0, 1) := by decide +kernel
theorem dX11_hacks_21 : decode cX11_hacks 21 = .ok (.getfield 10, 3) := by decide +kernel
theorem dX11_hacks_24 : decode cX11_hacks 24 = .ok (.iload_n 1, 1) := by decide +kernel
theorem dX11_hacks_25 : decode cX11_hacks 25 = .ok (.bipush 24, 2) := by decide +kernel
theorem dX11_hacks_27 : decode cX11_hacks 27 = .ok (.iconst 0, 1) := by decide +kernel
theorem dX11_hacks_28 : decode cX11_hacks 28 = .ok (.invokestatic 357, 3) := by decide +kernel
theorem dX11_hacks_31 : decode cX11_hacks 31 = .ok (.ifCond .ne 5, 3) := by decide +kernel
theorem dX11_hacks_34 : decode cX11_hacks 34 = .ok (.iconst 0, 1) := by decide +kernel
theorem dX11_hacks_35 : decode cX11_hacks 35 = .ok (.ireturn, 1) := by decide +kernel
theorem dX11_hacks_36 : decode cX11_hacks 36 = .ok (.aload_n 0, 1) := by decide +kernel
theorem dX11_hacks_37 : decode cX11_hacks 37 = .ok (.getfield 10, 3) := by decide +kernel
theorem dX11_hacks_40 : decode cX11_hacks 40 = .ok (.iload_n 1, 1) := by decide +kernel
theorem dX11_hacks_41 : decode cX11_hacks 41 = .ok (.invokevirtual 279, 3) := by decide +kernel
theorem dX11_hacks_44 : decode cX11_hacks 44 = .ok (.istore_n 2, 1) := by decide +kernel
theorem dX11_hacks_45 : decode cX11_hacks 45 = .ok (.iconst 0, 1) := by decide +kernel
theorem dX11_hacks_46 : decode cX11_hacks 46 = .ok (.istore_n 3, 1) := by decide +kernel
theorem dX11_hacks_47 : decode cX11_hacks 47 = .ok (.iload_n 3, 1) := by decide +kernel
theorem dX11_hacks_48 : decode cX11_hacks 48 = .ok (.bipush 24, 2) := by decide +kernel
theorem dX11_hacks_50 : decode cX11_hacks 50 = .ok (.if_icmp .ge 49, 3) := by decide +kernel
theorem dX11_hacks_53 : decode cX11_hacks 53 = .ok (.aload_n 0, 1) := by decide +kernel
theorem dX11_hacks_54 : decode cX11_hacks 54 = .ok (.getfield 40, 3) := by decide +kernel
theorem dX11_hacks_57 : decode cX11_hacks 57 = .ok (.getfield 268, 3) := by decide +kernel
theorem dX11_hacks_60 : decode cX11_hacks 60 = .ok (.ifCond .ne 39, 3) := by decide +kernel
theorem dX11_hacks_63 : decode cX11_hacks 63 = .ok (.iload_n 2, 1) := by decide +kernel
theorem dX11_hacks_64 : decode cX11_hacks 64 = .ok (.iconst 1, 1) := by decide +kernel
theorem dX11_hacks_65 : decode cX11_hacks 65 = .ok (.iload_n 3, 1) := by decide +kernel
theorem dX11_hacks_66 : decode cX11_hacks 66 = .ok (.ishl, 1) := by decide +kernel
theorem dX11_hacks_67 : decode cX11_hacks 67 = .ok (.iand, 1) := by decide +kernel
theorem dX11_hacks_68 : decode cX11_hacks 68 = .ok (.ifCond .eq 25, 3) := by decide +kernel
theorem dX11_hacks_71 : decode cX11_hacks 71 = .ok (.aload_n 0, 1) := by decide +kernel
theorem dX11_hacks_72 : decode cX11_hacks 72 = .ok (.getfield 10, 3) := by decide +kernel
theorem dX11_hacks_75 : decode cX11_hacks 75 = .ok (.iload_n 1, 1) := by decide +kernel
theorem dX11_hacks_76 : decode cX11_hacks 76 = .ok (.iload_n 3, 1) := by decide +kernel
theorem dX11_hacks_77 : decode cX11_hacks 77 = .ok (.iconst 0, 1) := by decide +kernel
theorem dX11_hacks_78 : decode cX11_hacks 78 = .ok (.invokestatic 357, 3) := by decide +kernel
theorem dX11_hacks_81 : decode cX11_hacks 81 = .ok (.ifCond .ne 12, 3) := by decide +kernel
theorem dX11_hacks_84 : decode cX11_hacks 84 = .ok (.aload_n 0, 1) := by decide +kernel
theorem dX11_hacks_85 : decode cX11_hacks 85 = .ok (.getfield 40, 3) := by decide +kernel
theorem dX11_hacks_88 : decode cX11_hacks 88 = .ok (.iload_n 3, 1) := by decide +kernel
theorem dX11_hacks_89 : decode cX11_hacks 89 = .ok (.i2l, 1) := by decide +kernel
theorem dX11_hacks_90 : decode cX11_hacks 90 = .ok (.invokevirtual 138, 3) := by decide +kernel
theorem dX11_hacks_93 : decode cX11_hacks 93 = .ok (.iinc 3 1, 3) := by decide +kernel
theorem dX11_hacks_96 : decode cX11_hacks 96 = .ok (.goto (-49), 3) := by decide +kernel
theorem dX11_hacks_99 : decode cX11_hacks 99 = .ok (.iconst 1, 1) := by decide +kernel
theorem dX11_hacks_100 : decode cX11_hacks 100 = .ok (.ireturn, 1) := by decide +kernel
theorem dX11_nimber_0 : decode cX11_nimber 0 = .ok (.iconst 0, 1) := by decide +kernel
theorem dX11_nimber_1 : decode cX11_nimber 1 = .ok (.istore 4, 2) := by decide +kernel
theorem dX11_nimber_3 : decode cX11_nimber 3 = .ok (.iconst 0, 1) := by decide +kernel
theorem dX11_nimber_4 : decode cX11_nimber 4 = .ok (.istore 5, 2) := by decide +kernel
theorem dX11_nimber_6 : decode cX11_nimber 6 = .ok (.iload 5, 2) := by decide +kernel
theorem dX11_nimber_8 : decode cX11_nimber 8 = .ok (.iconst 4, 1) := by decide +kernel
theorem dX11_nimber_9 : decode cX11_nimber 9 = .ok (.if_icmp .ge 54, 3) := by decide +kernel
theorem dX11_nimber_12 : decode cX11_nimber 12 = .ok (.iload_n 3, 1) := by decide +kernel
theorem dX11_nimber_13 : decode cX11_nimber 13 = .ok (.bipush 24, 2) := by decide +kernel
theorem dX11_nimber_15 : decode cX11_nimber 15 = .ok (.if_icmp .ge 48, 3) := by decide +kernel
theorem dX11_nimber_18 : decode cX11_nimber 18 = .ok (.aload_n 0, 1) := by decide +kernel
theorem dX11_nimber_19 : decode cX11_nimber 19 = .ok (.iload_n 1, 1) := by decide +kernel
theorem dX11_nimber_20 : decode cX11_nimber 20 = .ok (.iload 5, 2) := by decide +kernel
theorem dX11_nimber_22 : decode cX11_nimber 22 = .ok (.invokevirtual 134, 3) := by decide +kernel
theorem dX11_nimber_25 : decode cX11_nimber 25 = .ok (.istore 6, 2) := by decide +kernel
theorem dX11_nimber_27 : decode cX11_nimber 27 = .ok (.iload 6, 2) := by decide +kernel
theorem dX11_nimber_29 : decode cX11_nimber 29 = .ok (.bipush 24, 2) := by decide +kernel
theorem dX11_nimber_31 : decode cX11_nimber 31 = .ok (.if_icmp .eq 26, 3) := by decide +kernel
theorem dX11_nimber_34 : decode cX11_nimber 34 = .ok (.iload 6, 2) := by decide +kernel
theorem dX11_nimber_36 : decode cX11_nimber 36 = .ok (.iload_n 2, 1) := by decide +kernel
theorem dX11_nimber_37 : decode cX11_nimber 37 = .ok (.if_icmp .eq 20, 3) := by decide +kernel
theorem dX11_nimber_40 : decode cX11_nimber 40 = .ok (.iload 4, 2) := by decide +kernel
theorem dX11_nimber_42 : decode cX11_nimber 42 = .ok (.aload_n 0, 1) := by decide +kernel
theorem dX11_nimber_43 : decode cX11_nimber 43 = .ok (.iload 6, 2) := by decide +kernel
theorem dX11_nimber_45 : decode cX11_nimber 45 = .ok (.iload_n 2, 1) := by decide +kernel
theorem dX11_nimber_46 : decode cX11_nimber 46 = .ok (.iload_n 3, 1) := by decide +kernel
theorem dX11_nimber_47 : decode cX11_nimber 47 = .ok (.iconst 1, 1) := by decide +kernel
theorem dX11_nimber_48 : decode cX11_nimber 48 = .ok (.iadd, 1) := by decide +kernel
theorem dX11_nimber_49 : decode cX11_nimber 49 = .ok (.invokestatic 357, 3) := by decide +kernel
theorem dX11_nimber_52 : decode cX11_nimber 52 = .ok (.iconst 1, 1) := by decide +kernel
theorem dX11_nimber_53 : decode cX11_nimber 53 = .ok (.iadd, 1) := by decide +kernel
theorem dX11_nimber_54 : decode cX11_nimber 54 = .ok (.ixor, 1) := by decide +kernel
theorem dX11_nimber_55 : decode cX11_nimber 55 = .ok (.istore 4, 2) := by decide +kernel
theorem dX11_nimber_57 : decode cX11_nimber 57 = .ok (.iinc 5 1, 3) := by decide +kernel
theorem dX11_nimber_60 : decode cX11_nimber 60 = .ok (.goto (-54), 3) := by decide +kernel
theorem dX11_nimber_63 : decode cX11_nimber 63 = .ok (.iload 4, 2) := by decide +kernel
theorem dX11_nimber_65 : decode cX11_nimber 65 = .ok (.ireturn, 1) := by decide +kernel
theorem dX11_rests_0 : decode cX11_rests 0 = .ok (.iload_n 1, 1) := by decide +kernel
theorem dX11_rests_1 : decode cX11_rests 1 = .ok (.ifCond .lt 9, 3) := by decide +kernel
theorem dX11_rests_4 : decode cX11_rests 4 = .ok (.iload_n 1, 1) := by decide +kernel
theorem dX11_rests_5 : decode cX11_rests 5 = .ok (.bipush 20, 2) := by decide +kernel
theorem dX11_rests_7 : decode cX11_rests 7 = .ok (.if_icmp .le 5, 3) := by decide +kernel
theorem dX11_rests_10 : decode cX11_rests 10 = .ok (.iconst (-1), 1) := by decide +kernel
theorem dX11_rests_11 : decode cX11_rests 11 = .ok (.ireturn, 1) := by decide +kernel
theorem dX11_rests_12 : decode cX11_rests 12 = .ok (.iconst 0, 1) := by decide +kernel
theorem dX11_rests_13 : decode cX11_rests 13 = .ok (.istore_n 2, 1) := by decide +kernel
theorem dX11_rests_14 : decode cX11_rests 14 = .ok (.aload_n 0, 1) := by decide +kernel
theorem dX11_rests_15 : decode cX11_rests 15 = .ok (.getfield 40, 3) := by decide +kernel
theorem dX11_rests_18 : decode cX11_rests 18 = .ok (.invokevirtual 262, 3) := by decide +kernel
theorem dX11_rests_21 : decode cX11_rests 21 = .ok (.iconst 0, 1) := by decide +kernel
theorem dX11_rests_22 : decode cX11_rests 22 = .ok (.istore_n 3, 1) := by decide +kernel
theorem dX11_rests_23 : decode cX11_rests 23 = .ok (.iload_n 3, 1) := by decide +kernel
theorem dX11_rests_24 : decode cX11_rests 24 = .ok (.bipush 9, 2) := by decide +kernel
theorem dX11_rests_26 : decode cX11_rests 26 = .ok (.if_icmp .gt 65, 3) := by decide +kernel
theorem dX11_rests_29 : decode cX11_rests 29 = .ok (.iconst 0, 1) := by decide +kernel
theorem dX11_rests_30 : decode cX11_rests 30 = .ok (.istore 4, 2) := by decide +kernel
theorem dX11_rests_32 : decode cX11_rests 32 = .ok (.iload 4, 2) := by decide +kernel
theorem dX11_rests_34 : decode cX11_rests 34 = .ok (.bipush 9, 2) := by decide +kernel
theorem dX11_rests_36 : decode cX11_rests 36 = .ok (.if_icmp .gt 49, 3) := by decide +kernel
theorem dX11_rests_39 : decode cX11_rests 39 = .ok (.iload_n 1, 1) := by decide +kernel
theorem dX11_rests_40 : decode cX11_rests 40 = .ok (.iload_n 3, 1) := by decide +kernel
theorem dX11_rests_41 : decode cX11_rests 41 = .ok (.iload 4, 2) := by decide +kernel
theorem dX11_rests_43 : decode cX11_rests 43 = .ok (.invokestatic 361, 3) := by decide +kernel
theorem dX11_rests_46 : decode cX11_rests 46 = .ok (.ifCond .eq 33, 3) := by decide +kernel
theorem dX11_rests_49 : decode cX11_rests 49 = .ok (.iload_n 1, 1) := by decide +kernel
theorem dX11_rests_50 : decode cX11_rests 50 = .ok (.iload 4, 2) := by decide +kernel
theorem dX11_rests_52 : decode cX11_rests 52 = .ok (.iload_n 3, 1) := by decide +kernel
theorem dX11_rests_53 : decode cX11_rests 53 = .ok (.invokestatic 361, 3) := by decide +kernel
theorem dX11_rests_56 : decode cX11_rests 56 = .ok (.ifCond .eq 23, 3) := by decide +kernel
theorem dX11_rests_59 : decode cX11_rests 59 = .ok (.iinc 2 1, 3) := by decide +kernel
theorem dX11_rests_62 : decode cX11_rests 62 = .ok (.iload_n 2, 1) := by decide +kernel
theorem dX11_rests_63 : decode cX11_rests 63 = .ok (.iconst 1, 1) := by decide +kernel
theorem dX11_rests_64 : decode cX11_rests 64 = .ok (.if_icmp .ne 15, 3) := by decide +kernel
theorem dX11_rests_67 : decode cX11_rests 67 = .ok (.aload_n 0, 1) := by decide +kernel
theorem dX11_rests_68 : decode cX11_rests 68 = .ok (.getfield 40, 3) := by decide +kernel
theorem dX11_rests_71 : decode cX11_rests 71 = .ok (.iload_n 3, 1) := by decide +kernel
theorem dX11_rests_72 : decode cX11_rests 72 = .ok (.i2l, 1) := by decide +kernel
theorem dX11_rests_73 : decode cX11_rests 73 = .ok (.iload 4, 2) := by decide +kernel
theorem dX11_rests_75 : decode cX11_rests 75 = .ok (.i2l, 1) := by decide +kernel
theorem dX11_rests_76 : decode cX11_rests 76 = .ok (.invokevirtual 227, 3) := by decide +kernel
theorem dX11_rests_79 : decode cX11_rests 79 = .ok (.iinc 4 1, 3) := by decide +kernel
theorem dX11_rests_82 : decode cX11_rests 82 = .ok (.goto (-50), 3) := by decide +kernel
theorem dX11_rests_85 : decode cX11_rests 85 = .ok (.iinc 3 1, 3) := by decide +kernel
theorem dX11_rests_88 : decode cX11_rests 88 = .ok (.goto (-65), 3) := by decide +kernel
theorem dX11_rests_91 : decode cX11_rests 91 = .ok (.iload_n 2, 1) := by decide +kernel
theorem dX11_rests_92 : decode cX11_rests 92 = .ok (.ireturn, 1) := by decide +kernel
theorem dX11_isBest_0 : decode cX11_isBest 0 = .ok (.iconst 0, 1) := by decide +kernel
theorem dX11_isBest_1 : decode cX11_isBest 1 = .ok (.istore_n 3, 1) := by decide +kernel
theorem dX11_isBest_2 : decode cX11_isBest 2 = .ok (.iload_n 3, 1) := by decide +kernel
theorem dX11_isBest_3 : decode cX11_isBest 3 = .ok (.bipush 9, 2) := by decide +kernel
theorem dX11_isBest_5 : decode cX11_isBest 5 = .ok (.if_icmp .gt 26, 3) := by decide +kernel
theorem dX11_isBest_8 : decode cX11_isBest 8 = .ok (.iload_n 0, 1) := by decide +kernel
theorem dX11_isBest_9 : decode cX11_isBest 9 = .ok (.iload_n 3, 1) := by decide +kernel
theorem dX11_isBest_10 : decode cX11_isBest 10 = .ok (.iload_n 2, 1) := by decide +kernel
theorem dX11_isBest_11 : decode cX11_isBest 11 = .ok (.invokestatic 364, 3) := by decide +kernel
theorem dX11_isBest_14 : decode cX11_isBest 14 = .ok (.iload_n 0, 1) := by decide +kernel
theorem dX11_isBest_15 : decode cX11_isBest 15 = .ok (.iload_n 1, 1) := by decide +kernel
theorem dX11_isBest_16 : decode cX11_isBest 16 = .ok (.iload_n 2, 1) := by decide +kernel
theorem dX11_isBest_17 : decode cX11_isBest 17 = .ok (.invokestatic 364, 3) := by decide +kernel
theorem dX11_isBest_20 : decode cX11_isBest 20 = .ok (.if_icmp .le 5, 3) := by decide +kernel
theorem dX11_isBest_23 : decode cX11_isBest 23 = .ok (.iconst 0, 1) := by decide +kernel
theorem dX11_isBest_24 : decode cX11_isBest 24 = .ok (.ireturn, 1) := by decide +kernel
theorem dX11_isBest_25 : decode cX11_isBest 25 = .ok (.iinc 3 1, 3) := by decide +kernel
theorem dX11_isBest_28 : decode cX11_isBest 28 = .ok (.goto (-26), 3) := by decide +kernel
theorem dX11_isBest_31 : decode cX11_isBest 31 = .ok (.iconst 1, 1) := by decide +kernel
theorem dX11_isBest_32 : decode cX11_isBest 32 = .ok (.ireturn, 1) := by decide +kernel
theorem dX11_gain_0 : decode cX11_gain 0 = .ok (.iload_n 1, 1) := by decide +kernel
theorem dX11_gain_1 : decode cX11_gain 1 = .ok (.iload_n 2, 1) := by decide +kernel
theorem dX11_gain_2 : decode cX11_gain 2 = .ok (.if_icmp .le 7, 3) := by decide +kernel
theorem dX11_gain_5 : decode cX11_gain 5 = .ok (.iload_n 0, 1) := by decide +kernel
theorem dX11_gain_6 : decode cX11_gain 6 = .ok (.iload_n 1, 1) := by decide +kernel
theorem dX11_gain_7 : decode cX11_gain 7 = .ok (.isub, 1) := by decide +kernel
theorem dX11_gain_8 : decode cX11_gain 8 = .ok (.ireturn, 1) := by decide +kernel
theorem dX11_gain_9 : decode cX11_gain 9 = .ok (.iload_n 1, 1) := by decide +kernel
theorem dX11_gain_10 : decode cX11_gain 10 = .ok (.iload_n 2, 1) := by decide +kernel
theorem dX11_gain_11 : decode cX11_gain 11 = .ok (.if_icmp .ge 13, 3) := by decide +kernel
theorem dX11_gain_14 : decode cX11_gain 14 = .ok (.iload_n 0, 1) := by decide +kernel
theorem dX11_gain_15 : decode cX11_gain 15 = .ok (.iconst 2, 1) := by decide +kernel
theorem dX11_gain_16 : decode cX11_gain 16 = .ok (.idiv, 1) := by decide +kernel
theorem dX11_gain_17 : decode cX11_gain 17 = .ok (.iconst 2, 1) := by decide +kernel
theorem dX11_gain_18 : decode cX11_gain 18 = .ok (.iload_n 1, 1) := by decide +kernel
theorem dX11_gain_19 : decode cX11_gain 19 = .ok (.imul, 1) := by decide +kernel
theorem dX11_gain_20 : decode cX11_gain 20 = .ok (.isub, 1) := by decide +kernel
theorem dX11_gain_21 : decode cX11_gain 21 = .ok (.goto 8, 3) := by decide +kernel
theorem dX11_gain_24 : decode cX11_gain 24 = .ok (.iload_n 0, 1) := by decide +kernel
theorem dX11_gain_25 : decode cX11_gain 25 = .ok (.iconst 3, 1) := by decide +kernel
theorem dX11_gain_26 : decode cX11_gain 26 = .ok (.idiv, 1) := by decide +kernel
theorem dX11_gain_27 : decode cX11_gain 27 = .ok (.iload_n 1, 1) := by decide +kernel
theorem dX11_gain_28 : decode cX11_gain 28 = .ok (.isub, 1) := by decide +kernel
theorem dX11_gain_29 : decode cX11_gain 29 = .ok (.ireturn, 1) := by decide +kernel
theorem dX11_law_0 : decode cX11_law 0 = .ok (.aload_n 0, 1) := by decide +kernel
theorem dX11_law_1 : decode cX11_law 1 = .ok (.getfield 51, 3) := by decide +kernel
theorem dX11_law_4 : decode cX11_law 4 = .ok (.aload_n 0, 1) := by decide +kernel
theorem dX11_law_5 : decode cX11_law 5 = .ok (.getfield 33, 3) := by decide +kernel
theorem dX11_law_8 : decode cX11_law 8 = .ok (.invokevirtual 113, 3) := by decide +kernel
theorem dX11_law_11 : decode cX11_law 11 = .ok (.istore_n 3, 1) := by decide +kernel
theorem dX11_law_12 : decode cX11_law 12 = .ok (.aload_n 0, 1) := by decide +kernel
theorem dX11_law_13 : decode cX11_law 13 = .ok (.getfield 33, 3) := by decide +kernel
theorem dX11_law_16 : decode cX11_law 16 = .ok (.invokevirtual 117, 3) := by decide +kernel
theorem dX11_law_19 : decode cX11_law 19 = .ok (.iload_n 3, 1) := by decide +kernel
theorem dX11_law_20 : decode cX11_law 20 = .ok (.iconst (-1), 1) := by decide +kernel
theorem dX11_law_21 : decode cX11_law 21 = .ok (.if_icmp .eq 9, 3) := by decide +kernel
theorem dX11_law_24 : decode cX11_law 24 = .ok (.sipush (-10000), 3) := by decide +kernel
theorem dX11_law_27 : decode cX11_law 27 = .ok (.iload_n 3, 1) := by decide +kernel
theorem dX11_law_28 : decode cX11_law 28 = .ok (.isub, 1) := by decide +kernel
theorem dX11_law_29 : decode cX11_law 29 = .ok (.ireturn, 1) := by decide +kernel
theorem dX11_law_30 : decode cX11_law 30 = .ok (.aload_n 0, 1) := by decide +kernel
theorem dX11_law_31 : decode cX11_law 31 = .ok (.getfield 10, 3) := by decide +kernel
theorem dX11_law_34 : decode cX11_law 34 = .ok (.iload_n 1, 1) := by decide +kernel
theorem dX11_law_35 : decode cX11_law 35 = .ok (.iload_n 2, 1) := by decide +kernel
theorem dX11_law_36 : decode cX11_law 36 = .ok (.invokevirtual 173, 3) := by decide +kernel
theorem dX11_law_39 : decode cX11_law 39 = .ok (.ifCond .ne 6, 3) := by decide +kernel
theorem dX11_law_42 : decode cX11_law 42 = .ok (.bipush (-2), 2) := by decide +kernel
theorem dX11_law_44 : decode cX11_law 44 = .ok (.ireturn, 1) := by decide +kernel
theorem dX11_law_45 : decode cX11_law 45 = .ok (.aload_n 0, 1) := by decide +kernel
theorem dX11_law_46 : decode cX11_law 46 = .ok (.aload_n 0, 1) := by decide +kernel
theorem dX11_law_47 : decode cX11_law 47 = .ok (.getfield 51, 3) := by decide +kernel
theorem dX11_law_50 : decode cX11_law 50 = .ok (.iload_n 1, 1) := by decide +kernel
theorem dX11_law_51 : decode cX11_law 51 = .ok (.iload_n 2, 1) := by decide +kernel
theorem dX11_law_52 : decode cX11_law 52 = .ok (.invokevirtual 367, 3) := by decide +kernel
theorem dX11_law_55 : decode cX11_law 55 = .ok (.istore 4, 2) := by decide +kernel
theorem dX11_law_57 : decode cX11_law 57 = .ok (.aload_n 0, 1) := by decide +kernel
theorem dX11_law_58 : decode cX11_law 58 = .ok (.aload_n 0, 1) := by decide +kernel
theorem dX11_law_59 : decode cX11_law 59 = .ok (.getfield 47, 3) := by decide +kernel
theorem dX11_law_62 : decode cX11_law 62 = .ok (.iload_n 1, 1) := by decide +kernel
theorem dX11_law_63 : decode cX11_law 63 = .ok (.iload_n 2, 1) := by decide +kernel
theorem dX11_law_64 : decode cX11_law 64 = .ok (.invokevirtual 367, 3) := by decide +kernel
theorem dX11_law_67 : decode cX11_law 67 = .ok (.istore 5, 2) := by decide +kernel
theorem dX11_law_69 : decode cX11_law 69 = .ok (.aload_n 0, 1) := by decide +kernel
theorem dX11_law_70 : decode cX11_law 70 = .ok (.getfield 40, 3) := by decide +kernel
theorem dX11_law_73 : decode cX11_law 73 = .ok (.iload 4, 2) := by decide +kernel
theorem dX11_law_75 : decode cX11_law 75 = .ok (.i2l, 1) := by decide +kernel
theorem dX11_law_76 : decode cX11_law 76 = .ok (.iload 5, 2) := by decide +kernel
theorem dX11_law_78 : decode cX11_law 78 = .ok (.i2l, 1) := by decide +kernel
theorem dX11_law_79 : decode cX11_law 79 = .ok (.invokevirtual 227, 3) := by decide +kernel
theorem dX11_law_82 : decode cX11_law 82 = .ok (.iload 4, 2) := by decide +kernel
theorem dX11_law_84 : decode cX11_law 84 = .ok (.iload 5, 2) := by decide +kernel
theorem dX11_law_86 : decode cX11_law 86 = .ok (.isub, 1) := by decide +kernel
theorem dX11_law_87 : decode cX11_law 87 = .ok (.ireturn, 1) := by decide +kernel
theorem dX11_broughtBy_0 : decode cX11_broughtBy 0 = .ok (.aload_n 0, 1) := by decide +kernel
theorem dX11_broughtBy_1 : decode cX11_broughtBy 1 = .ok (.getfield 59, 3) := by decide +kernel
theorem dX11_broughtBy_4 : decode cX11_broughtBy 4 = .ok (.aload_n 1, 1) := by decide +kernel
theorem dX11_broughtBy_5 : decode cX11_broughtBy 5 = .ok (.iload_n 2, 1) := by decide +kernel
theorem dX11_broughtBy_6 : decode cX11_broughtBy 6 = .ok (.iload_n 3, 1) := by decide +kernel
theorem dX11_broughtBy_7 : decode cX11_broughtBy 7 = .ok (.invokevirtual 297, 3) := by decide +kernel
theorem dX11_broughtBy_10 : decode cX11_broughtBy 10 = .ok (.istore 4, 2) := by decide +kernel
theorem dX11_broughtBy_12 : decode cX11_broughtBy 12 = .ok (.iload 4, 2) := by decide +kernel
theorem dX11_broughtBy_14 : decode cX11_broughtBy 14 = .ok (.ifCond .ge 7, 3) := by decide +kernel
theorem dX11_broughtBy_17 : decode cX11_broughtBy 17 = .ok (.iconst 0, 1) := by decide +kernel
theorem dX11_broughtBy_18 : decode cX11_broughtBy 18 = .ok (.goto 8, 3) := by decide +kernel
theorem dX11_broughtBy_21 : decode cX11_broughtBy 21 = .ok (.iload 4, 2) := by decide +kernel
theorem dX11_broughtBy_23 : decode cX11_broughtBy 23 = .ok (.invokestatic 186, 3) := by decide +kernel
theorem dX11_broughtBy_26 : decode cX11_broughtBy 26 = .ok (.ireturn, 1) := by decide +kernel
theorem dX11_years_0 : decode cX11_years 0 = .ok (.iload_n 2, 1) := by decide +kernel
theorem dX11_years_1 : decode cX11_years 1 = .ok (.iconst 1, 1) := by decide +kernel
theorem dX11_years_2 : decode cX11_years 2 = .ok (.if_icmp .lt 9, 3) := by decide +kernel
theorem dX11_years_5 : decode cX11_years 5 = .ok (.iload_n 2, 1) := by decide +kernel
theorem dX11_years_6 : decode cX11_years 6 = .ok (.bipush 40, 2) := by decide +kernel
theorem dX11_years_8 : decode cX11_years 8 = .ok (.if_icmp .le 5, 3) := by decide +kernel
theorem dX11_years_11 : decode cX11_years 11 = .ok (.iconst (-1), 1) := by decide +kernel
theorem dX11_years_12 : decode cX11_years 12 = .ok (.ireturn, 1) := by decide +kernel
theorem dX11_years_13 : decode cX11_years 13 = .ok (.aload_n 0, 1) := by decide +kernel
theorem dX11_years_14 : decode cX11_years 14 = .ok (.iload_n 1, 1) := by decide +kernel
theorem dX11_years_15 : decode cX11_years 15 = .ok (.putfield 370, 3) := by decide +kernel
theorem dX11_years_18 : decode cX11_years 18 = .ok (.iconst 0, 1) := by decide +kernel
theorem dX11_years_19 : decode cX11_years 19 = .ok (.istore_n 3, 1) := by decide +kernel
theorem dX11_years_20 : decode cX11_years 20 = .ok (.iconst 0, 1) := by decide +kernel
theorem dX11_years_21 : decode cX11_years 21 = .ok (.istore 4, 2) := by decide +kernel
theorem dX11_years_23 : decode cX11_years 23 = .ok (.iload 4, 2) := by decide +kernel
theorem dX11_years_25 : decode cX11_years 25 = .ok (.iload_n 2, 1) := by decide +kernel
theorem dX11_years_26 : decode cX11_years 26 = .ok (.if_icmp .ge 117, 3) := by decide +kernel
theorem dX11_years_29 : decode cX11_years 29 = .ok (.aload_n 0, 1) := by decide +kernel
theorem dX11_years_30 : decode cX11_years 30 = .ok (.bipush 6, 2) := by decide +kernel
theorem dX11_years_32 : decode cX11_years 32 = .ok (.invokevirtual 373, 3) := by decide +kernel
theorem dX11_years_35 : decode cX11_years 35 = .ok (.istore 5, 2) := by decide +kernel
theorem dX11_years_37 : decode cX11_years 37 = .ok (.aload_n 0, 1) := by decide +kernel
theorem dX11_years_38 : decode cX11_years 38 = .ok (.bipush 24, 2) := by decide +kernel
theorem dX11_years_40 : decode cX11_years 40 = .ok (.invokevirtual 373, 3) := by decide +kernel
theorem dX11_years_43 : decode cX11_years 43 = .ok (.istore 6, 2) := by decide +kernel
theorem dX11_years_45 : decode cX11_years 45 = .ok (.aload_n 0, 1) := by decide +kernel
theorem dX11_years_46 : decode cX11_years 46 = .ok (.iconst 4, 1) := by decide +kernel
theorem dX11_years_47 : decode cX11_years 47 = .ok (.invokevirtual 373, 3) := by decide +kernel
theorem dX11_years_50 : decode cX11_years 50 = .ok (.istore 7, 2) := by decide +kernel
theorem dX11_years_52 : decode cX11_years 52 = .ok (.iload 5, 2) := by decide +kernel
theorem dX11_years_54 : decode cX11_years 54 = .ok (.iconst 3, 1) := by decide +kernel
theorem dX11_years_55 : decode cX11_years 55 = .ok (.if_icmp .ge 16, 3) := by decide +kernel
theorem dX11_years_58 : decode cX11_years 58 = .ok (.aload_n 0, 1) := by decide +kernel
theorem dX11_years_59 : decode cX11_years 59 = .ok (.iload 6, 2) := by decide +kernel
theorem dX11_years_61 : decode cX11_years 61 = .ok (.iload 7, 2) := by decide +kernel
theorem dX11_years_63 : decode cX11_years 63 = .ok (.invokevirtual 376, 3) := by decide +kernel
theorem dX11_years_66 : decode cX11_years 66 = .ok (.istore 8, 2) := by decide +kernel
theorem dX11_years_68 : decode cX11_years 68 = .ok (.goto 56, 3) := by decide +kernel
theorem dX11_years_71 : decode cX11_years 71 = .ok (.iload 5, 2) := by decide +kernel
theorem dX11_years_73 : decode cX11_years 73 = .ok (.iconst 3, 1) := by decide +kernel
theorem dX11_years_74 : decode cX11_years 74 = .ok (.if_icmp .ne 15, 3) := by decide +kernel
theorem dX11_years_77 : decode cX11_years 77 = .ok (.aload_n 0, 1) := by decide +kernel
theorem dX11_years_78 : decode cX11_years 78 = .ok (.iload 6, 2) := by decide +kernel
theorem dX11_years_80 : decode cX11_years 80 = .ok (.iconst 1, 1) := by decide +kernel
theorem dX11_years_81 : decode cX11_years 81 = .ok (.invokevirtual 379, 3) := by decide +kernel
theorem dX11_years_84 : decode cX11_years 84 = .ok (.istore 8, 2) := by decide +kernel
theorem dX11_years_86 : decode cX11_years 86 = .ok (.goto 38, 3) := by decide +kernel
theorem dX11_years_89 : decode cX11_years 89 = .ok (.iload 5, 2) := by decide +kernel
theorem dX11_years_91 : decode cX11_years 91 = .ok (.iconst 4, 1) := by decide +kernel
theorem dX11_years_92 : decode cX11_years 92 = .ok (.if_icmp .ne 22, 3) := by decide +kernel
theorem dX11_years_95 : decode cX11_years 95 = .ok (.aload_n 0, 1) := by decide +kernel
theorem dX11_years_96 : decode cX11_years 96 = .ok (.aload_n 0, 1) := by decide +kernel
theorem dX11_years_97 : decode cX11_years 97 = .ok (.bipush 24, 2) := by decide +kernel
theorem dX11_years_99 : decode cX11_years 99 = .ok (.invokevirtual 373, 3) := by decide +kernel
theorem dX11_years_102 : decode cX11_years 102 = .ok (.iload 6, 2) := by decide +kernel
theorem dX11_years_104 : decode cX11_years 104 = .ok (.iload 7, 2) := by decide +kernel
theorem dX11_years_106 : decode cX11_years 106 = .ok (.invokevirtual 382, 3) := by decide +kernel
theorem dX11_years_109 : decode cX11_years 109 = .ok (.istore 8, 2) := by decide +kernel
theorem dX11_years_111 : decode cX11_years 111 = .ok (.goto 13, 3) := by decide +kernel
theorem dX11_years_114 : decode cX11_years 114 = .ok (.aload_n 0, 1) := by decide +kernel
theorem dX11_years_115 : decode cX11_years 115 = .ok (.iload 6, 2) := by decide +kernel
theorem dX11_years_117 : decode cX11_years 117 = .ok (.iload 7, 2) := by decide +kernel
theorem dX11_years_119 : decode cX11_years 119 = .ok (.invokevirtual 385, 3) := by decide +kernel
theorem dX11_years_122 : decode cX11_years 122 = .ok (.istore 8, 2) := by decide +kernel
theorem dX11_years_124 : decode cX11_years 124 = .ok (.iload_n 3, 1) := by decide +kernel
theorem dX11_years_125 : decode cX11_years 125 = .ok (.iload 8, 2) := by decide +kernel
theorem dX11_years_127 : decode cX11_years 127 = .ok (.ifCond .lt 7, 3) := by decide +kernel
theorem dX11_years_130 : decode cX11_years 130 = .ok (.iconst 1, 1) := by decide +kernel
theorem dX11_years_131 : decode cX11_years 131 = .ok (.goto 4, 3) := by decide +kernel
theorem dX11_years_134 : decode cX11_years 134 = .ok (.iconst 0, 1) := by decide +kernel
theorem dX11_years_135 : decode cX11_years 135 = .ok (.iadd, 1) := by decide +kernel
theorem dX11_years_136 : decode cX11_years 136 = .ok (.istore_n 3, 1) := by decide +kernel
theorem dX11_years_137 : decode cX11_years 137 = .ok (.iinc 4 1, 3) := by decide +kernel
theorem dX11_years_140 : decode cX11_years 140 = .ok (.goto (-117), 3) := by decide +kernel
theorem dX11_years_143 : decode cX11_years 143 = .ok (.aload_n 0, 1) := by decide +kernel
theorem dX11_years_144 : decode cX11_years 144 = .ok (.getfield 40, 3) := by decide +kernel
theorem dX11_years_147 : decode cX11_years 147 = .ok (.aload_n 0, 1) := by decide +kernel
theorem dX11_years_148 : decode cX11_years 148 = .ok (.getfield 10, 3) := by decide +kernel
theorem dX11_years_151 : decode cX11_years 151 = .ok (.invokevirtual 272, 3) := by decide +kernel
theorem dX11_years_154 : decode cX11_years 154 = .ok (.i2l, 1) := by decide +kernel
theorem dX11_years_155 : decode cX11_years 155 = .ok (.iload_n 3, 1) := by decide +kernel
theorem dX11_years_156 : decode cX11_years 156 = .ok (.i2l, 1) := by decide +kernel
theorem dX11_years_157 : decode cX11_years 157 = .ok (.invokevirtual 227, 3) := by decide +kernel
theorem dX11_years_160 : decode cX11_years 160 = .ok (.aload_n 0, 1) := by decide +kernel
theorem dX11_years_161 : decode cX11_years 161 = .ok (.getfield 10, 3) := by decide +kernel
theorem dX11_years_164 : decode cX11_years 164 = .ok (.invokevirtual 242, 3) := by decide +kernel
theorem dX11_years_167 : decode cX11_years 167 = .ok (.ireturn, 1) := by decide +kernel
theorem dX11_draw_0 : decode cX11_draw 0 = .ok (.aload_n 0, 1) := by decide +kernel
theorem dX11_draw_1 : decode cX11_draw 1 = .ok (.aload_n 0, 1) := by decide +kernel
theorem dX11_draw_2 : decode cX11_draw 2 = .ok (.getfield 370, 3) := by decide +kernel
theorem dX11_draw_5 : decode cX11_draw 5 = .ok (.ldc_w 388, 3) := by decide +kernel
theorem dX11_draw_8 : decode cX11_draw 8 = .ok (.imul, 1) := by decide +kernel
theorem dX11_draw_9 : decode cX11_draw 9 = .ok (.sipush 12345, 3) := by decide +kernel
theorem dX11_draw_12 : decode cX11_draw 12 = .ok (.iadd, 1) := by decide +kernel
theorem dX11_draw_13 : decode cX11_draw 13 = .ok (.putfield 370, 3) := by decide +kernel
theorem dX11_draw_16 : decode cX11_draw 16 = .ok (.iload_n 1, 1) := by decide +kernel
theorem dX11_draw_17 : decode cX11_draw 17 = .ok (.ifCond .le 15, 3) := by decide +kernel
theorem dX11_draw_20 : decode cX11_draw 20 = .ok (.aload_n 0, 1) := by decide +kernel
theorem dX11_draw_21 : decode cX11_draw 21 = .ok (.getfield 370, 3) := by decide +kernel
theorem dX11_draw_24 : decode cX11_draw 24 = .ok (.bipush 16, 2) := by decide +kernel
theorem dX11_draw_26 : decode cX11_draw 26 = .ok (.iushr, 1) := by decide +kernel
theorem dX11_draw_27 : decode cX11_draw 27 = .ok (.iload_n 1, 1) := by decide +kernel
theorem dX11_draw_28 : decode cX11_draw 28 = .ok (.irem, 1) := by decide +kernel
theorem dX11_draw_29 : decode cX11_draw 29 = .ok (.goto 4, 3) := by decide +kernel
theorem dX11_draw_32 : decode cX11_draw 32 = .ok (.iconst 0, 1) := by decide +kernel
theorem dX11_draw_33 : decode cX11_draw 33 = .ok (.ireturn, 1) := by decide +kernel
theorem dX11_keep_0 : decode cX11_keep 0 = .ok (.iload_n 1, 1) := by decide +kernel
theorem dX11_keep_1 : decode cX11_keep 1 = .ok (.ifCond .lt 8, 3) := by decide +kernel
theorem dX11_keep_4 : decode cX11_keep 4 = .ok (.iload_n 1, 1) := by decide +kernel
theorem dX11_keep_5 : decode cX11_keep 5 = .ok (.iconst 2, 1) := by decide +kernel
theorem dX11_keep_6 : decode cX11_keep 6 = .ok (.if_icmp .lt 5, 3) := by decide +kernel
theorem dX11_keep_9 : decode cX11_keep 9 = .ok (.iconst 0, 1) := by decide +kernel
theorem dX11_keep_10 : decode cX11_keep 10 = .ok (.ireturn, 1) := by decide +kernel
theorem dX11_keep_11 : decode cX11_keep 11 = .ok (.aload_n 0, 1) := by decide +kernel
theorem dX11_keep_12 : decode cX11_keep 12 = .ok (.getfield 26, 3) := by decide +kernel
theorem dX11_keep_15 : decode cX11_keep 15 = .ok (.iload_n 1, 1) := by decide +kernel
theorem dX11_keep_16 : decode cX11_keep 16 = .ok (.aaload, 1) := by decide +kernel
theorem dX11_keep_17 : decode cX11_keep 17 = .ok (.ifnonnull 16, 3) := by decide +kernel
theorem dX11_keep_20 : decode cX11_keep 20 = .ok (.aload_n 0, 1) := by decide +kernel
theorem dX11_keep_21 : decode cX11_keep 21 = .ok (.getfield 26, 3) := by decide +kernel
theorem dX11_keep_24 : decode cX11_keep 24 = .ok (.iload_n 1, 1) := by decide +kernel
theorem dX11_keep_25 : decode cX11_keep 25 = .ok (.new 7, 3) := by decide +kernel
theorem dX11_keep_28 : decode cX11_keep 28 = .ok (.dup, 1) := by decide +kernel
theorem dX11_keep_29 : decode cX11_keep 29 = .ok (.invokespecial 9, 3) := by decide +kernel
theorem dX11_keep_32 : decode cX11_keep 32 = .ok (.aastore, 1) := by decide +kernel
theorem dX11_keep_33 : decode cX11_keep 33 = .ok (.aload_n 0, 1) := by decide +kernel
theorem dX11_keep_34 : decode cX11_keep 34 = .ok (.getfield 26, 3) := by decide +kernel
theorem dX11_keep_37 : decode cX11_keep 37 = .ok (.iload_n 1, 1) := by decide +kernel
theorem dX11_keep_38 : decode cX11_keep 38 = .ok (.aaload, 1) := by decide +kernel
theorem dX11_keep_39 : decode cX11_keep 39 = .ok (.aload_n 0, 1) := by decide +kernel
theorem dX11_keep_40 : decode cX11_keep 40 = .ok (.getfield 10, 3) := by decide +kernel
theorem dX11_keep_43 : decode cX11_keep 43 = .ok (.invokevirtual 194, 3) := by decide +kernel
theorem dX11_keep_46 : decode cX11_keep 46 = .ok (.iconst 1, 1) := by decide +kernel
theorem dX11_keep_47 : decode cX11_keep 47 = .ok (.ireturn, 1) := by decide +kernel
theorem dX11_again_0 : decode cX11_again 0 = .ok (.iload_n 1, 1) := by decide +kernel
theorem dX11_again_1 : decode cX11_again 1 = .ok (.ifCond .lt 17, 3) := by decide +kernel
theorem dX11_again_4 : decode cX11_again 4 = .ok (.iload_n 1, 1) := by decide +kernel
theorem dX11_again_5 : decode cX11_again 5 = .ok (.iconst 2, 1) := by decide +kernel
theorem dX11_again_6 : decode cX11_again 6 = .ok (.if_icmp .ge 12, 3) := by decide +kernel
theorem dX11_again_9 : decode cX11_again 9 = .ok (.aload_n 0, 1) := by decide +kernel
theorem dX11_again_10 : decode cX11_again 10 = .ok (.getfield 26, 3) := by decide +kernel
theorem dX11_again_13 : decode cX11_again 13 = .ok (.iload_n 1, 1) := by decide +kernel
theorem dX11_again_14 : decode cX11_again 14 = .ok (.aaload, 1) := by decide +kernel
theorem dX11_again_15 : decode cX11_again 15 = .ok (.ifnonnull 5, 3) := by decide +kernel
theorem dX11_again_18 : decode cX11_again 18 = .ok (.iconst 0, 1) := by decide +kernel
theorem dX11_again_19 : decode cX11_again 19 = .ok (.ireturn, 1) := by decide +kernel
theorem dX11_again_20 : decode cX11_again 20 = .ok (.aload_n 0, 1) := by decide +kernel
theorem dX11_again_21 : decode cX11_again 21 = .ok (.getfield 10, 3) := by decide +kernel
theorem dX11_again_24 : decode cX11_again 24 = .ok (.aload_n 0, 1) := by decide +kernel
theorem dX11_again_25 : decode cX11_again 25 = .ok (.getfield 26, 3) := by decide +kernel
theorem dX11_again_28 : decode cX11_again 28 = .ok (.iload_n 1, 1) := by decide +kernel
theorem dX11_again_29 : decode cX11_again 29 = .ok (.aaload, 1) := by decide +kernel
theorem dX11_again_30 : decode cX11_again 30 = .ok (.invokevirtual 194, 3) := by decide +kernel
theorem dX11_again_33 : decode cX11_again 33 = .ok (.aload_n 0, 1) := by decide +kernel
theorem dX11_again_34 : decode cX11_again 34 = .ok (.getfield 22, 3) := by decide +kernel
theorem dX11_again_37 : decode cX11_again 37 = .ok (.iconst 0, 1) := by decide +kernel
theorem dX11_again_38 : decode cX11_again 38 = .ok (.putfield 249, 3) := by decide +kernel
theorem dX11_again_41 : decode cX11_again 41 = .ok (.iconst 1, 1) := by decide +kernel
theorem dX11_again_42 : decode cX11_again 42 = .ok (.ireturn, 1) := by decide +kernel
theorem dX11_count_0 : decode cX11_count 0 = .ok (.iload_n 1, 1) := by decide +kernel
theorem dX11_count_1 : decode cX11_count 1 = .ok (.tableswitch 147 0 10 #[59, 67, 75, 83, 91, 99, 107, 115, 123, 131, 139], 59) := by decide +kernel
theorem dX11_count_60 : decode cX11_count 60 = .ok (.aload_n 0, 1) := by decide +kernel
theorem dX11_count_61 : decode cX11_count 61 = .ok (.getfield 10, 3) := by decide +kernel
theorem dX11_count_64 : decode cX11_count 64 = .ok (.getfield 218, 3) := by decide +kernel
theorem dX11_count_67 : decode cX11_count 67 = .ok (.ireturn, 1) := by decide +kernel
theorem dX11_count_68 : decode cX11_count 68 = .ok (.aload_n 0, 1) := by decide +kernel
theorem dX11_count_69 : decode cX11_count 69 = .ok (.getfield 10, 3) := by decide +kernel
theorem dX11_count_72 : decode cX11_count 72 = .ok (.invokevirtual 389, 3) := by decide +kernel
theorem dX11_count_75 : decode cX11_count 75 = .ok (.ireturn, 1) := by decide +kernel
theorem dX11_count_76 : decode cX11_count 76 = .ok (.aload_n 0, 1) := by decide +kernel
theorem dX11_count_77 : decode cX11_count 77 = .ok (.getfield 10, 3) := by decide +kernel
theorem dX11_count_80 : decode cX11_count 80 = .ok (.invokevirtual 392, 3) := by decide +kernel
theorem dX11_count_83 : decode cX11_count 83 = .ok (.ireturn, 1) := by decide +kernel
theorem dX11_count_84 : decode cX11_count 84 = .ok (.aload_n 0, 1) := by decide +kernel
theorem dX11_count_85 : decode cX11_count 85 = .ok (.getfield 10, 3) := by decide +kernel
theorem dX11_count_88 : decode cX11_count 88 = .ok (.getfield 179, 3) := by decide +kernel
theorem dX11_count_91 : decode cX11_count 91 = .ok (.ireturn, 1) := by decide +kernel
theorem dX11_count_92 : decode cX11_count 92 = .ok (.aload_n 0, 1) := by decide +kernel
theorem dX11_count_93 : decode cX11_count 93 = .ok (.getfield 10, 3) := by decide +kernel
theorem dX11_count_96 : decode cX11_count 96 = .ok (.getfield 395, 3) := by decide +kernel
theorem dX11_count_99 : decode cX11_count 99 = .ok (.ireturn, 1) := by decide +kernel
theorem dX11_count_100 : decode cX11_count 100 = .ok (.aload_n 0, 1) := by decide +kernel
theorem dX11_count_101 : decode cX11_count 101 = .ok (.getfield 10, 3) := by decide +kernel
theorem dX11_count_104 : decode cX11_count 104 = .ok (.getfield 397, 3) := by decide +kernel
theorem dX11_count_107 : decode cX11_count 107 = .ok (.ireturn, 1) := by decide +kernel
theorem dX11_count_108 : decode cX11_count 108 = .ok (.aload_n 0, 1) := by decide +kernel
theorem dX11_count_109 : decode cX11_count 109 = .ok (.getfield 84, 3) := by decide +kernel
theorem dX11_count_112 : decode cX11_count 112 = .ok (.getfield 314, 3) := by decide +kernel
theorem dX11_count_115 : decode cX11_count 115 = .ok (.ireturn, 1) := by decide +kernel
theorem dX11_count_116 : decode cX11_count 116 = .ok (.aload_n 0, 1) := by decide +kernel
theorem dX11_count_117 : decode cX11_count 117 = .ok (.getfield 91, 3) := by decide +kernel
theorem dX11_count_120 : decode cX11_count 120 = .ok (.getfield 327, 3) := by decide +kernel
theorem dX11_count_123 : decode cX11_count 123 = .ok (.ireturn, 1) := by decide +kernel
theorem dX11_count_124 : decode cX11_count 124 = .ok (.aload_n 0, 1) := by decide +kernel
theorem dX11_count_125 : decode cX11_count 125 = .ok (.getfield 22, 3) := by decide +kernel
theorem dX11_count_128 : decode cX11_count 128 = .ok (.getfield 249, 3) := by decide +kernel
theorem dX11_count_131 : decode cX11_count 131 = .ok (.ireturn, 1) := by decide +kernel
theorem dX11_count_132 : decode cX11_count 132 = .ok (.aload_n 0, 1) := by decide +kernel
theorem dX11_count_133 : decode cX11_count 133 = .ok (.getfield 40, 3) := by decide +kernel
theorem dX11_count_136 : decode cX11_count 136 = .ok (.getfield 268, 3) := by decide +kernel
theorem dX11_count_139 : decode cX11_count 139 = .ok (.ireturn, 1) := by decide +kernel
theorem dX11_count_140 : decode cX11_count 140 = .ok (.aload_n 0, 1) := by decide +kernel
theorem dX11_count_141 : decode cX11_count 141 = .ok (.getfield 33, 3) := by decide +kernel
theorem dX11_count_144 : decode cX11_count 144 = .ok (.getfield 106, 3) := by decide +kernel
theorem dX11_count_147 : decode cX11_count 147 = .ok (.ireturn, 1) := by decide +kernel
theorem dX11_count_148 : decode cX11_count 148 = .ok (.iconst (-1), 1) := by decide +kernel
theorem dX11_count_149 : decode cX11_count 149 = .ok (.ireturn, 1) := by decide +kernel
theorem dX11_row_0 : decode cX11_row 0 = .ok (.iload_n 1, 1) := by decide +kernel
theorem dX11_row_1 : decode cX11_row 1 = .ok (.ifCond .lt 14, 3) := by decide +kernel
theorem dX11_row_4 : decode cX11_row 4 = .ok (.iload_n 1, 1) := by decide +kernel
theorem dX11_row_5 : decode cX11_row 5 = .ok (.aload_n 0, 1) := by decide +kernel
theorem dX11_row_6 : decode cX11_row 6 = .ok (.getfield 40, 3) := by decide +kernel
theorem dX11_row_9 : decode cX11_row 9 = .ok (.getfield 268, 3) := by decide +kernel
theorem dX11_row_12 : decode cX11_row 12 = .ok (.if_icmp .lt 14, 3) := by decide +kernel
theorem dX11_row_15 : decode cX11_row 15 = .ok (.new 145, 3) := by decide +kernel
theorem dX11_row_18 : decode cX11_row 18 = .ok (.dup, 1) := by decide +kernel
theorem dX11_row_19 : decode cX11_row 19 = .ok (.ldc_w 400, 3) := by decide +kernel
theorem dX11_row_22 : decode cX11_row 22 = .ok (.invokespecial 149, 3) := by decide +kernel
theorem dX11_row_25 : decode cX11_row 25 = .ok (.athrow, 1) := by decide +kernel
theorem dX11_row_26 : decode cX11_row 26 = .ok (.aload_n 0, 1) := by decide +kernel
theorem dX11_row_27 : decode cX11_row 27 = .ok (.getfield 40, 3) := by decide +kernel
theorem dX11_row_30 : decode cX11_row 30 = .ok (.iload_n 1, 1) := by decide +kernel
theorem dX11_row_31 : decode cX11_row 31 = .ok (.invokevirtual 402, 3) := by decide +kernel
theorem dX11_row_34 : decode cX11_row 34 = .ok (.lreturn, 1) := by decide +kernel
theorem dX12_init_0 : decode cX12_init 0 = .ok (.aload_n 0, 1) := by decide +kernel
theorem dX12_init_1 : decode cX12_init 1 = .ok (.invokespecial 3, 3) := by decide +kernel
theorem dX12_init_4 : decode cX12_init 4 = .ok (.aload_n 0, 1) := by decide +kernel
theorem dX12_init_5 : decode cX12_init 5 = .ok (.bipush 122, 2) := by decide +kernel
theorem dX12_init_7 : decode cX12_init 7 = .ok (.newarray .int, 2) := by decide +kernel
theorem dX12_init_9 : decode cX12_init 9 = .ok (.putfield 9, 3) := by decide +kernel
theorem dX12_init_12 : decode cX12_init 12 = .ok (.aload_n 0, 1) := by decide +kernel
theorem dX12_init_13 : decode cX12_init 13 = .ok (.bipush 80, 2) := by decide +kernel
theorem dX12_init_15 : decode cX12_init 15 = .ok (.newarray .byte, 2) := by decide +kernel
theorem dX12_init_17 : decode cX12_init 17 = .ok (.putfield 13, 3) := by decide +kernel
theorem dX12_init_20 : decode cX12_init 20 = .ok (.aload_n 0, 1) := by decide +kernel
theorem dX12_init_21 : decode cX12_init 21 = .ok (.bipush 32, 2) := by decide +kernel
theorem dX12_init_23 : decode cX12_init 23 = .ok (.newarray .long, 2) := by decide +kernel
theorem dX12_init_25 : decode cX12_init 25 = .ok (.putfield 17, 3) := by decide +kernel
theorem dX12_init_28 : decode cX12_init 28 = .ok (.aload_n 0, 1) := by decide +kernel
theorem dX12_init_29 : decode cX12_init 29 = .ok (.bipush 40, 2) := by decide +kernel
theorem dX12_init_31 : decode cX12_init 31 = .ok (.newarray .byte, 2) := by decide +kernel
theorem dX12_init_33 : decode cX12_init 33 = .ok (.putfield 21, 3) := by decide +kernel
theorem dX12_init_36 : decode cX12_init 36 = .ok (.aload_n 0, 1) := by decide +kernel
theorem dX12_init_37 : decode cX12_init 37 = .ok (.bipush 40, 2) := by decide +kernel
theorem dX12_init_39 : decode cX12_init 39 = .ok (.newarray .byte, 2) := by decide +kernel
theorem dX12_init_41 : decode cX12_init 41 = .ok (.putfield 24, 3) := by decide +kernel
theorem dX12_init_44 : decode cX12_init 44 = .ok (.aload_n 0, 1) := by decide +kernel
theorem dX12_init_45 : decode cX12_init 45 = .ok (.bipush 7, 2) := by decide +kernel
theorem dX12_init_47 : decode cX12_init 47 = .ok (.newarray .int, 2) := by decide +kernel
theorem dX12_init_49 : decode cX12_init 49 = .ok (.putfield 27, 3) := by decide +kernel
theorem dX12_init_52 : decode cX12_init 52 = .ok (.aload_n 0, 1) := by decide +kernel
theorem dX12_init_53 : decode cX12_init 53 = .ok (.sipush 160, 3) := by decide +kernel
theorem dX12_init_56 : decode cX12_init 56 = .ok (.newarray .byte, 2) := by decide +kernel
theorem dX12_init_58 : decode cX12_init 58 = .ok (.putfield 30, 3) := by decide +kernel
theorem dX12_init_61 : decode cX12_init 61 = .ok (.aload_n 0, 1) := by decide +kernel
theorem dX12_init_62 : decode cX12_init 62 = .ok (.sipush 1464, 3) := by decide +kernel
theorem dX12_init_65 : decode cX12_init 65 = .ok (.newarray .int, 2) := by decide +kernel
theorem dX12_init_67 : decode cX12_init 67 = .ok (.putfield 33, 3) := by decide +kernel
theorem dX12_init_70 : decode cX12_init 70 = .ok (.aload_n 0, 1) := by decide +kernel
theorem dX12_init_71 : decode cX12_init 71 = .ok (.bipush 122, 2) := by decide +kernel
theorem dX12_init_73 : decode cX12_init 73 = .ok (.newarray .int, 2) := by decide +kernel
theorem dX12_init_75 : decode cX12_init 75 = .ok (.putfield 36, 3) := by decide +kernel
theorem dX12_init_78 : decode cX12_init 78 = .ok (.aload_n 0, 1) := by decide +kernel
theorem dX12_init_79 : decode cX12_init 79 = .ok (.bipush 122, 2) := by decide +kernel
theorem dX12_init_81 : decode cX12_init 81 = .ok (.newarray .int, 2) := by decide +kernel
theorem dX12_init_83 : decode cX12_init 83 = .ok (.putfield 39, 3) := by decide +kernel
theorem dX12_init_86 : decode cX12_init 86 = .ok (.aload_n 0, 1) := by decide +kernel
theorem dX12_init_87 : decode cX12_init 87 = .ok (.bipush 24, 2) := by decide +kernel
theorem dX12_init_89 : decode cX12_init 89 = .ok (.newarray .int, 2) := by decide +kernel
theorem dX12_init_91 : decode cX12_init 91 = .ok (.putfield 42, 3) := by decide +kernel
theorem dX12_init_94 : decode cX12_init 94 = .ok (.aload_n 0, 1) := by decide +kernel
theorem dX12_init_95 : decode cX12_init 95 = .ok (.bipush 24, 2) := by decide +kernel
theorem dX12_init_97 : decode cX12_init 97 = .ok (.newarray .int, 2) := by decide +kernel
theorem dX12_init_99 : decode cX12_init 99 = .ok (.putfield 45, 3) := by decide +kernel
theorem dX12_init_102 : decode cX12_init 102 = .ok (.aload_n 0, 1) := by decide +kernel
theorem dX12_init_103 : decode cX12_init 103 = .ok (.bipush 122, 2) := by decide +kernel
theorem dX12_init_105 : decode cX12_init 105 = .ok (.newarray .int, 2) := by decide +kernel
theorem dX12_init_107 : decode cX12_init 107 = .ok (.putfield 48, 3) := by decide +kernel
theorem dX12_init_110 : decode cX12_init 110 = .ok (.aload_n 0, 1) := by decide +kernel
theorem dX12_init_111 : decode cX12_init 111 = .ok (.sipush 320, 3) := by decide +kernel
theorem dX12_init_114 : decode cX12_init 114 = .ok (.newarray .int, 2) := by decide +kernel
theorem dX12_init_116 : decode cX12_init 116 = .ok (.putfield 51, 3) := by decide +kernel
theorem dX12_init_119 : decode cX12_init 119 = .ok (.aload_n 0, 1) := by decide +kernel
theorem dX12_init_120 : decode cX12_init 120 = .ok (.bipush 12, 2) := by decide +kernel
theorem dX12_init_122 : decode cX12_init 122 = .ok (.newarray .int, 2) := by decide +kernel
theorem dX12_init_124 : decode cX12_init 124 = .ok (.putfield 54, 3) := by decide +kernel
theorem dX12_init_127 : decode cX12_init 127 = .ok (.aload_n 0, 1) := by decide +kernel
theorem dX12_init_128 : decode cX12_init 128 = .ok (.bipush 12, 2) := by decide +kernel
theorem dX12_init_130 : decode cX12_init 130 = .ok (.newarray .int, 2) := by decide +kernel
theorem dX12_init_132 : decode cX12_init 132 = .ok (.putfield 57, 3) := by decide +kernel
theorem dX12_init_135 : decode cX12_init 135 = .ok (.aload_n 0, 1) := by decide +kernel
theorem dX12_init_136 : decode cX12_init 136 = .ok (.bipush 10, 2) := by decide +kernel
theorem dX12_init_138 : decode cX12_init 138 = .ok (.newarray .int, 2) := by decide +kernel
theorem dX12_init_140 : decode cX12_init 140 = .ok (.putfield 60, 3) := by decide +kernel
theorem dX12_init_143 : decode cX12_init 143 = .ok (.aload_n 0, 1) := by decide +kernel
theorem dX12_init_144 : decode cX12_init 144 = .ok (.bipush 10, 2) := by decide +kernel
theorem dX12_init_146 : decode cX12_init 146 = .ok (.newarray .int, 2) := by decide +kernel
theorem dX12_init_148 : decode cX12_init 148 = .ok (.putfield 63, 3) := by decide +kernel
theorem dX12_init_151 : decode cX12_init 151 = .ok (.aload_n 0, 1) := by decide +kernel
theorem dX12_init_152 : decode cX12_init 152 = .ok (.bipush 10, 2) := by decide +kernel
theorem dX12_init_154 : decode cX12_init 154 = .ok (.newarray .int, 2) := by decide +kernel
theorem dX12_init_156 : decode cX12_init 156 = .ok (.putfield 66, 3) := by decide +kernel
theorem dX12_init_159 : decode cX12_init 159 = .ok (.aload_n 0, 1) := by decide +kernel
theorem dX12_init_160 : decode cX12_init 160 = .ok (.bipush 17, 2) := by decide +kernel
theorem dX12_init_162 : decode cX12_init 162 = .ok (.newarray .long, 2) := by decide +kernel
theorem dX12_init_164 : decode cX12_init 164 = .ok (.putfield 69, 3) := by decide +kernel
theorem dX12_init_167 : decode cX12_init 167 = .ok (.aload_n 0, 1) := by decide +kernel
theorem dX12_init_168 : decode cX12_init 168 = .ok (.sipush 244, 3) := by decide +kernel
theorem dX12_init_171 : decode cX12_init 171 = .ok (.newarray .int, 2) := by decide +kernel
theorem dX12_init_173 : decode cX12_init 173 = .ok (.putfield 72, 3) := by decide +kernel
theorem dX12_init_176 : decode cX12_init 176 = .ok (.aload_n 0, 1) := by decide +kernel
theorem dX12_init_177 : decode cX12_init 177 = .ok (.iconst 2, 1) := by decide +kernel
theorem dX12_init_178 : decode cX12_init 178 = .ok (.newarray .boolean, 2) := by decide +kernel
theorem dX12_init_180 : decode cX12_init 180 = .ok (.putfield 75, 3) := by decide +kernel
theorem dX12_init_183 : decode cX12_init 183 = .ok (.iconst 0, 1) := by decide +kernel
theorem dX12_init_184 : decode cX12_init 184 = .ok (.istore_n 1, 1) := by decide +kernel
theorem dX12_init_185 : decode cX12_init 185 = .ok (.iload_n 1, 1) := by decide +kernel
theorem dX12_init_186 : decode cX12_init 186 = .ok (.bipush 24, 2) := by decide +kernel
theorem dX12_init_188 : decode cX12_init 188 = .ok (.if_icmp .ge 16, 3) := by decide +kernel
theorem dX12_init_191 : decode cX12_init 191 = .ok (.aload_n 0, 1) := by decide +kernel
theorem dX12_init_192 : decode cX12_init 192 = .ok (.getfield 9, 3) := by decide +kernel
theorem dX12_init_195 : decode cX12_init 195 = .ok (.iload_n 1, 1) := by decide +kernel
theorem dX12_init_196 : decode cX12_init 196 = .ok (.iconst (-1), 1) := by decide +kernel
theorem dX12_init_197 : decode cX12_init 197 = .ok (.iastore, 1) := by decide +kernel
theorem dX12_init_198 : decode cX12_init 198 = .ok (.iinc 1 1, 3) := by decide +kernel
theorem dX12_init_201 : decode cX12_init 201 = .ok (.goto (-16), 3) := by decide +kernel
theorem dX12_init_204 : decode cX12_init 204 = .ok (.aload_n 0, 1) := by decide +kernel
theorem dX12_init_205 : decode cX12_init 205 = .ok (.getfield 9, 3) := by decide +kernel
theorem dX12_init_208 : decode cX12_init 208 = .ok (.iconst 0, 1) := by decide +kernel
theorem dX12_init_209 : decode cX12_init 209 = .ok (.bipush 24, 2) := by decide +kernel
theorem dX12_init_211 : decode cX12_init 211 = .ok (.iastore, 1) := by decide +kernel
theorem dX12_init_212 : decode cX12_init 212 = .ok (.aload_n 0, 1) := by decide +kernel
theorem dX12_init_213 : decode cX12_init 213 = .ok (.getfield 9, 3) := by decide +kernel
theorem dX12_init_216 : decode cX12_init 216 = .ok (.bipush 24, 2) := by decide +kernel
theorem dX12_init_218 : decode cX12_init 218 = .ok (.iconst 4, 1) := by decide +kernel
theorem dX12_init_219 : decode cX12_init 219 = .ok (.iastore, 1) := by decide +kernel
