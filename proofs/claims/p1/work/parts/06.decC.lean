theorem dX12_init_220 : decode cX12_init 220 = .ok (.aload_n 0, 1) := by decide +kernel
theorem dX12_init_221 : decode cX12_init 221 = .ok (.getfield 9, 3) := by decide +kernel
theorem dX12_init_224 : decode cX12_init 224 = .ok (.bipush 121, 2) := by decide +kernel
theorem dX12_init_226 : decode cX12_init 226 = .ok (.iconst 1, 1) := by decide +kernel
theorem dX12_init_227 : decode cX12_init 227 = .ok (.iastore, 1) := by decide +kernel
theorem dX12_init_228 : decode cX12_init 228 = .ok (.return_, 1) := by decide +kernel
theorem dX12_thrown_0 : decode cX12_thrown 0 = .ok (.aload_n 0, 1) := by decide +kernel
theorem dX12_thrown_1 : decode cX12_thrown 1 = .ok (.getfield 79, 3) := by decide +kernel
theorem dX12_thrown_4 : decode cX12_thrown 4 = .ok (.ireturn, 1) := by decide +kernel
theorem dX12_in_0 : decode cX12_in 0 = .ok (.iload_n 0, 1) := by decide +kernel
theorem dX12_in_1 : decode cX12_in 1 = .ok (.iload_n 1, 1) := by decide +kernel
theorem dX12_in_2 : decode cX12_in 2 = .ok (.if_icmp .lt 12, 3) := by decide +kernel
theorem dX12_in_5 : decode cX12_in 5 = .ok (.iload_n 0, 1) := by decide +kernel
theorem dX12_in_6 : decode cX12_in 6 = .ok (.iload_n 2, 1) := by decide +kernel
theorem dX12_in_7 : decode cX12_in 7 = .ok (.if_icmp .gt 7, 3) := by decide +kernel
theorem dX12_in_10 : decode cX12_in 10 = .ok (.iconst 1, 1) := by decide +kernel
theorem dX12_in_11 : decode cX12_in 11 = .ok (.goto 4, 3) := by decide +kernel
theorem dX12_in_14 : decode cX12_in 14 = .ok (.iconst 0, 1) := by decide +kernel
theorem dX12_in_15 : decode cX12_in 15 = .ok (.ireturn, 1) := by decide +kernel
theorem dX12_has_0 : decode cX12_has 0 = .ok (.iload_n 0, 1) := by decide +kernel
theorem dX12_has_1 : decode cX12_has 1 = .ok (.iload_n 1, 1) := by decide +kernel
theorem dX12_has_2 : decode cX12_has 2 = .ok (.ishr, 1) := by decide +kernel
theorem dX12_has_3 : decode cX12_has 3 = .ok (.iconst 1, 1) := by decide +kernel
theorem dX12_has_4 : decode cX12_has 4 = .ok (.iand, 1) := by decide +kernel
theorem dX12_has_5 : decode cX12_has 5 = .ok (.iconst 1, 1) := by decide +kernel
theorem dX12_has_6 : decode cX12_has 6 = .ok (.if_icmp .ne 7, 3) := by decide +kernel
theorem dX12_has_9 : decode cX12_has 9 = .ok (.iconst 1, 1) := by decide +kernel
theorem dX12_has_10 : decode cX12_has 10 = .ok (.goto 4, 3) := by decide +kernel
theorem dX12_has_13 : decode cX12_has 13 = .ok (.iconst 0, 1) := by decide +kernel
theorem dX12_has_14 : decode cX12_has 14 = .ok (.ireturn, 1) := by decide +kernel
theorem dX12_lost_0 : decode cX12_lost 0 = .ok (.aload_n 0, 1) := by decide +kernel
theorem dX12_lost_1 : decode cX12_lost 1 = .ok (.iconst 1, 1) := by decide +kernel
theorem dX12_lost_2 : decode cX12_lost 2 = .ok (.putfield 79, 3) := by decide +kernel
theorem dX12_lost_5 : decode cX12_lost 5 = .ok (.iconst 0, 1) := by decide +kernel
theorem dX12_lost_6 : decode cX12_lost 6 = .ok (.ireturn, 1) := by decide +kernel
theorem dX12_tell_0 : decode cX12_tell 0 = .ok (.aload_n 0, 1) := by decide +kernel
theorem dX12_tell_1 : decode cX12_tell 1 = .ok (.getfield 17, 3) := by decide +kernel
theorem dX12_tell_4 : decode cX12_tell 4 = .ok (.aload_n 0, 1) := by decide +kernel
theorem dX12_tell_5 : decode cX12_tell 5 = .ok (.getfield 83, 3) := by decide +kernel
theorem dX12_tell_8 : decode cX12_tell 8 = .ok (.lload_n 1, 1) := by decide +kernel
theorem dX12_tell_9 : decode cX12_tell 9 = .ok (.lastore, 1) := by decide +kernel
theorem dX12_tell_10 : decode cX12_tell 10 = .ok (.aload_n 0, 1) := by decide +kernel
theorem dX12_tell_11 : decode cX12_tell 11 = .ok (.dup, 1) := by decide +kernel
theorem dX12_tell_12 : decode cX12_tell 12 = .ok (.getfield 83, 3) := by decide +kernel
theorem dX12_tell_15 : decode cX12_tell 15 = .ok (.iconst 1, 1) := by decide +kernel
theorem dX12_tell_16 : decode cX12_tell 16 = .ok (.iadd, 1) := by decide +kernel
theorem dX12_tell_17 : decode cX12_tell 17 = .ok (.putfield 83, 3) := by decide +kernel
theorem dX12_tell_20 : decode cX12_tell 20 = .ok (.return_, 1) := by decide +kernel
theorem dX12_isThere_0 : decode cX12_isThere 0 = .ok (.iload_n 1, 1) := by decide +kernel
theorem dX12_isThere_1 : decode cX12_isThere 1 = .ok (.iconst 0, 1) := by decide +kernel
theorem dX12_isThere_2 : decode cX12_isThere 2 = .ok (.bipush 23, 2) := by decide +kernel
theorem dX12_isThere_4 : decode cX12_isThere 4 = .ok (.invokestatic 86, 3) := by decide +kernel
theorem dX12_isThere_7 : decode cX12_isThere 7 = .ok (.ifCond .eq 14, 3) := by decide +kernel
theorem dX12_isThere_10 : decode cX12_isThere 10 = .ok (.aload_n 0, 1) := by decide +kernel
theorem dX12_isThere_11 : decode cX12_isThere 11 = .ok (.iload_n 1, 1) := by decide +kernel
theorem dX12_isThere_12 : decode cX12_isThere 12 = .ok (.iaload, 1) := by decide +kernel
theorem dX12_isThere_13 : decode cX12_isThere 13 = .ok (.iconst (-1), 1) := by decide +kernel
theorem dX12_isThere_14 : decode cX12_isThere 14 = .ok (.if_icmp .eq 7, 3) := by decide +kernel
theorem dX12_isThere_17 : decode cX12_isThere 17 = .ok (.iconst 1, 1) := by decide +kernel
theorem dX12_isThere_18 : decode cX12_isThere 18 = .ok (.goto 4, 3) := by decide +kernel
theorem dX12_isThere_21 : decode cX12_isThere 21 = .ok (.iconst 0, 1) := by decide +kernel
theorem dX12_isThere_22 : decode cX12_isThere 22 = .ok (.ireturn, 1) := by decide +kernel
theorem dX12_isDir_0 : decode cX12_isDir 0 = .ok (.iload_n 0, 1) := by decide +kernel
theorem dX12_isDir_1 : decode cX12_isDir 1 = .ok (.iconst 0, 1) := by decide +kernel
theorem dX12_isDir_2 : decode cX12_isDir 2 = .ok (.iconst 3, 1) := by decide +kernel
theorem dX12_isDir_3 : decode cX12_isDir 3 = .ok (.invokestatic 86, 3) := by decide +kernel
theorem dX12_isDir_6 : decode cX12_isDir 6 = .ok (.ireturn, 1) := by decide +kernel
theorem dX12_atOf_0 : decode cX12_atOf 0 = .ok (.iconst 1, 1) := by decide +kernel
theorem dX12_atOf_1 : decode cX12_atOf 1 = .ok (.istore_n 3, 1) := by decide +kernel
theorem dX12_atOf_2 : decode cX12_atOf 2 = .ok (.iload_n 3, 1) := by decide +kernel
theorem dX12_atOf_3 : decode cX12_atOf 3 = .ok (.bipush 24, 2) := by decide +kernel
theorem dX12_atOf_5 : decode cX12_atOf 5 = .ok (.if_icmp .ge 28, 3) := by decide +kernel
theorem dX12_atOf_8 : decode cX12_atOf 8 = .ok (.aload_n 0, 1) := by decide +kernel
theorem dX12_atOf_9 : decode cX12_atOf 9 = .ok (.iload_n 3, 1) := by decide +kernel
theorem dX12_atOf_10 : decode cX12_atOf 10 = .ok (.iaload, 1) := by decide +kernel
theorem dX12_atOf_11 : decode cX12_atOf 11 = .ok (.iload_n 1, 1) := by decide +kernel
theorem dX12_atOf_12 : decode cX12_atOf 12 = .ok (.if_icmp .ne 15, 3) := by decide +kernel
theorem dX12_atOf_15 : decode cX12_atOf 15 = .ok (.aload_n 0, 1) := by decide +kernel
theorem dX12_atOf_16 : decode cX12_atOf 16 = .ok (.bipush 24, 2) := by decide +kernel
theorem dX12_atOf_18 : decode cX12_atOf 18 = .ok (.iload_n 3, 1) := by decide +kernel
theorem dX12_atOf_19 : decode cX12_atOf 19 = .ok (.iadd, 1) := by decide +kernel
theorem dX12_atOf_20 : decode cX12_atOf 20 = .ok (.iaload, 1) := by decide +kernel
theorem dX12_atOf_21 : decode cX12_atOf 21 = .ok (.iload_n 2, 1) := by decide +kernel
theorem dX12_atOf_22 : decode cX12_atOf 22 = .ok (.if_icmp .ne 5, 3) := by decide +kernel
theorem dX12_atOf_25 : decode cX12_atOf 25 = .ok (.iload_n 3, 1) := by decide +kernel
theorem dX12_atOf_26 : decode cX12_atOf 26 = .ok (.ireturn, 1) := by decide +kernel
theorem dX12_atOf_27 : decode cX12_atOf 27 = .ok (.iinc 3 1, 3) := by decide +kernel
theorem dX12_atOf_30 : decode cX12_atOf 30 = .ok (.goto (-28), 3) := by decide +kernel
theorem dX12_atOf_33 : decode cX12_atOf 33 = .ok (.bipush 24, 2) := by decide +kernel
theorem dX12_atOf_35 : decode cX12_atOf 35 = .ok (.ireturn, 1) := by decide +kernel
theorem dX12_childrenOf_0 : decode cX12_childrenOf 0 = .ok (.iconst 0, 1) := by decide +kernel
theorem dX12_childrenOf_1 : decode cX12_childrenOf 1 = .ok (.istore_n 2, 1) := by decide +kernel
theorem dX12_childrenOf_2 : decode cX12_childrenOf 2 = .ok (.iconst 1, 1) := by decide +kernel
theorem dX12_childrenOf_3 : decode cX12_childrenOf 3 = .ok (.istore_n 3, 1) := by decide +kernel
theorem dX12_childrenOf_4 : decode cX12_childrenOf 4 = .ok (.iload_n 3, 1) := by decide +kernel
theorem dX12_childrenOf_5 : decode cX12_childrenOf 5 = .ok (.bipush 24, 2) := by decide +kernel
theorem dX12_childrenOf_7 : decode cX12_childrenOf 7 = .ok (.if_icmp .ge 24, 3) := by decide +kernel
theorem dX12_childrenOf_10 : decode cX12_childrenOf 10 = .ok (.iload_n 2, 1) := by decide +kernel
theorem dX12_childrenOf_11 : decode cX12_childrenOf 11 = .ok (.aload_n 0, 1) := by decide +kernel
theorem dX12_childrenOf_12 : decode cX12_childrenOf 12 = .ok (.iload_n 3, 1) := by decide +kernel
theorem dX12_childrenOf_13 : decode cX12_childrenOf 13 = .ok (.iaload, 1) := by decide +kernel
theorem dX12_childrenOf_14 : decode cX12_childrenOf 14 = .ok (.iload_n 1, 1) := by decide +kernel
theorem dX12_childrenOf_15 : decode cX12_childrenOf 15 = .ok (.if_icmp .ne 7, 3) := by decide +kernel
theorem dX12_childrenOf_18 : decode cX12_childrenOf 18 = .ok (.iconst 1, 1) := by decide +kernel
theorem dX12_childrenOf_19 : decode cX12_childrenOf 19 = .ok (.goto 4, 3) := by decide +kernel
theorem dX12_childrenOf_22 : decode cX12_childrenOf 22 = .ok (.iconst 0, 1) := by decide +kernel
theorem dX12_childrenOf_23 : decode cX12_childrenOf 23 = .ok (.iadd, 1) := by decide +kernel
theorem dX12_childrenOf_24 : decode cX12_childrenOf 24 = .ok (.istore_n 2, 1) := by decide +kernel
theorem dX12_childrenOf_25 : decode cX12_childrenOf 25 = .ok (.iinc 3 1, 3) := by decide +kernel
theorem dX12_childrenOf_28 : decode cX12_childrenOf 28 = .ok (.goto (-24), 3) := by decide +kernel
theorem dX12_childrenOf_31 : decode cX12_childrenOf 31 = .ok (.iload_n 2, 1) := by decide +kernel
theorem dX12_childrenOf_32 : decode cX12_childrenOf 32 = .ok (.ireturn, 1) := by decide +kernel
theorem dX12_stepsOf_0 : decode cX12_stepsOf 0 = .ok (.iconst 0, 1) := by decide +kernel
theorem dX12_stepsOf_1 : decode cX12_stepsOf 1 = .ok (.istore_n 2, 1) := by decide +kernel
theorem dX12_stepsOf_2 : decode cX12_stepsOf 2 = .ok (.iload_n 1, 1) := by decide +kernel
theorem dX12_stepsOf_3 : decode cX12_stepsOf 3 = .ok (.istore_n 3, 1) := by decide +kernel
theorem dX12_stepsOf_4 : decode cX12_stepsOf 4 = .ok (.iload_n 3, 1) := by decide +kernel
theorem dX12_stepsOf_5 : decode cX12_stepsOf 5 = .ok (.ifCond .eq 13, 3) := by decide +kernel
theorem dX12_stepsOf_8 : decode cX12_stepsOf 8 = .ok (.iinc 2 1, 3) := by decide +kernel
theorem dX12_stepsOf_11 : decode cX12_stepsOf 11 = .ok (.aload_n 0, 1) := by decide +kernel
theorem dX12_stepsOf_12 : decode cX12_stepsOf 12 = .ok (.iload_n 3, 1) := by decide +kernel
theorem dX12_stepsOf_13 : decode cX12_stepsOf 13 = .ok (.iaload, 1) := by decide +kernel
theorem dX12_stepsOf_14 : decode cX12_stepsOf 14 = .ok (.istore_n 3, 1) := by decide +kernel
theorem dX12_stepsOf_15 : decode cX12_stepsOf 15 = .ok (.goto (-11), 3) := by decide +kernel
theorem dX12_stepsOf_18 : decode cX12_stepsOf 18 = .ok (.iload_n 2, 1) := by decide +kernel
theorem dX12_stepsOf_19 : decode cX12_stepsOf 19 = .ok (.ireturn, 1) := by decide +kernel
theorem dX12_isIn_0 : decode cX12_isIn 0 = .ok (.iload_n 1, 1) := by decide +kernel
theorem dX12_isIn_1 : decode cX12_isIn 1 = .ok (.istore_n 3, 1) := by decide +kernel
theorem dX12_isIn_2 : decode cX12_isIn 2 = .ok (.iload_n 3, 1) := by decide +kernel
theorem dX12_isIn_3 : decode cX12_isIn 3 = .ok (.ifCond .eq 19, 3) := by decide +kernel
theorem dX12_isIn_6 : decode cX12_isIn 6 = .ok (.aload_n 0, 1) := by decide +kernel
theorem dX12_isIn_7 : decode cX12_isIn 7 = .ok (.iload_n 3, 1) := by decide +kernel
theorem dX12_isIn_8 : decode cX12_isIn 8 = .ok (.iaload, 1) := by decide +kernel
theorem dX12_isIn_9 : decode cX12_isIn 9 = .ok (.iload_n 2, 1) := by decide +kernel
theorem dX12_isIn_10 : decode cX12_isIn 10 = .ok (.if_icmp .ne 5, 3) := by decide +kernel
theorem dX12_isIn_13 : decode cX12_isIn 13 = .ok (.iconst 1, 1) := by decide +kernel
theorem dX12_isIn_14 : decode cX12_isIn 14 = .ok (.ireturn, 1) := by decide +kernel
theorem dX12_isIn_15 : decode cX12_isIn 15 = .ok (.aload_n 0, 1) := by decide +kernel
theorem dX12_isIn_16 : decode cX12_isIn 16 = .ok (.iload_n 3, 1) := by decide +kernel
theorem dX12_isIn_17 : decode cX12_isIn 17 = .ok (.iaload, 1) := by decide +kernel
theorem dX12_isIn_18 : decode cX12_isIn 18 = .ok (.istore_n 3, 1) := by decide +kernel
theorem dX12_isIn_19 : decode cX12_isIn 19 = .ok (.goto (-17), 3) := by decide +kernel
theorem dX12_isIn_22 : decode cX12_isIn 22 = .ok (.iconst 0, 1) := by decide +kernel
theorem dX12_isIn_23 : decode cX12_isIn 23 = .ok (.ireturn, 1) := by decide +kernel
theorem dX12_kindOf_0 : decode cX12_kindOf 0 = .ok (.aload_n 0, 1) := by decide +kernel
theorem dX12_kindOf_1 : decode cX12_kindOf 1 = .ok (.bipush 48, 2) := by decide +kernel
theorem dX12_kindOf_3 : decode cX12_kindOf 3 = .ok (.iload_n 1, 1) := by decide +kernel
theorem dX12_kindOf_4 : decode cX12_kindOf 4 = .ok (.iadd, 1) := by decide +kernel
theorem dX12_kindOf_5 : decode cX12_kindOf 5 = .ok (.iaload, 1) := by decide +kernel
theorem dX12_kindOf_6 : decode cX12_kindOf 6 = .ok (.ifCond .eq 7, 3) := by decide +kernel
theorem dX12_kindOf_9 : decode cX12_kindOf 9 = .ok (.iconst 1, 1) := by decide +kernel
theorem dX12_kindOf_10 : decode cX12_kindOf 10 = .ok (.goto 4, 3) := by decide +kernel
theorem dX12_kindOf_13 : decode cX12_kindOf 13 = .ok (.iconst 0, 1) := by decide +kernel
theorem dX12_kindOf_14 : decode cX12_kindOf 14 = .ok (.istore_n 2, 1) := by decide +kernel
theorem dX12_kindOf_15 : decode cX12_kindOf 15 = .ok (.aload_n 0, 1) := by decide +kernel
theorem dX12_kindOf_16 : decode cX12_kindOf 16 = .ok (.bipush 72, 2) := by decide +kernel
theorem dX12_kindOf_18 : decode cX12_kindOf 18 = .ok (.iload_n 1, 1) := by decide +kernel
theorem dX12_kindOf_19 : decode cX12_kindOf 19 = .ok (.iadd, 1) := by decide +kernel
theorem dX12_kindOf_20 : decode cX12_kindOf 20 = .ok (.iaload, 1) := by decide +kernel
theorem dX12_kindOf_21 : decode cX12_kindOf 21 = .ok (.ifCond .eq 7, 3) := by decide +kernel
theorem dX12_kindOf_24 : decode cX12_kindOf 24 = .ok (.iconst 1, 1) := by decide +kernel
theorem dX12_kindOf_25 : decode cX12_kindOf 25 = .ok (.goto 4, 3) := by decide +kernel
theorem dX12_kindOf_28 : decode cX12_kindOf 28 = .ok (.iconst 0, 1) := by decide +kernel
theorem dX12_kindOf_29 : decode cX12_kindOf 29 = .ok (.istore_n 3, 1) := by decide +kernel
theorem dX12_kindOf_30 : decode cX12_kindOf 30 = .ok (.iload_n 2, 1) := by decide +kernel
theorem dX12_kindOf_31 : decode cX12_kindOf 31 = .ok (.ifCond .eq 13, 3) := by decide +kernel
theorem dX12_kindOf_34 : decode cX12_kindOf 34 = .ok (.iload_n 3, 1) := by decide +kernel
theorem dX12_kindOf_35 : decode cX12_kindOf 35 = .ok (.ifCond .eq 7, 3) := by decide +kernel
theorem dX12_kindOf_38 : decode cX12_kindOf 38 = .ok (.iconst 4, 1) := by decide +kernel
theorem dX12_kindOf_39 : decode cX12_kindOf 39 = .ok (.goto 4, 3) := by decide +kernel
theorem dX12_kindOf_42 : decode cX12_kindOf 42 = .ok (.iconst 1, 1) := by decide +kernel
theorem dX12_kindOf_43 : decode cX12_kindOf 43 = .ok (.ireturn, 1) := by decide +kernel
theorem dX12_kindOf_44 : decode cX12_kindOf 44 = .ok (.iload_n 3, 1) := by decide +kernel
theorem dX12_kindOf_45 : decode cX12_kindOf 45 = .ok (.ifCond .eq 7, 3) := by decide +kernel
theorem dX12_kindOf_48 : decode cX12_kindOf 48 = .ok (.iconst 2, 1) := by decide +kernel
theorem dX12_kindOf_49 : decode cX12_kindOf 49 = .ok (.goto 18, 3) := by decide +kernel
theorem dX12_kindOf_52 : decode cX12_kindOf 52 = .ok (.aload_n 0, 1) := by decide +kernel
theorem dX12_kindOf_53 : decode cX12_kindOf 53 = .ok (.bipush 96, 2) := by decide +kernel
theorem dX12_kindOf_55 : decode cX12_kindOf 55 = .ok (.iload_n 1, 1) := by decide +kernel
theorem dX12_kindOf_56 : decode cX12_kindOf 56 = .ok (.iadd, 1) := by decide +kernel
theorem dX12_kindOf_57 : decode cX12_kindOf 57 = .ok (.iaload, 1) := by decide +kernel
theorem dX12_kindOf_58 : decode cX12_kindOf 58 = .ok (.iconst 1, 1) := by decide +kernel
theorem dX12_kindOf_59 : decode cX12_kindOf 59 = .ok (.if_icmp .ne 7, 3) := by decide +kernel
theorem dX12_kindOf_62 : decode cX12_kindOf 62 = .ok (.iconst 3, 1) := by decide +kernel
theorem dX12_kindOf_63 : decode cX12_kindOf 63 = .ok (.goto 4, 3) := by decide +kernel
theorem dX12_kindOf_66 : decode cX12_kindOf 66 = .ok (.iconst 0, 1) := by decide +kernel
theorem dX12_kindOf_67 : decode cX12_kindOf 67 = .ok (.ireturn, 1) := by decide +kernel
theorem dX12_thereOf_0 : decode cX12_thereOf 0 = .ok (.iconst 0, 1) := by decide +kernel
theorem dX12_thereOf_1 : decode cX12_thereOf 1 = .ok (.istore_n 1, 1) := by decide +kernel
theorem dX12_thereOf_2 : decode cX12_thereOf 2 = .ok (.iconst 0, 1) := by decide +kernel
theorem dX12_thereOf_3 : decode cX12_thereOf 3 = .ok (.istore_n 2, 1) := by decide +kernel
theorem dX12_thereOf_4 : decode cX12_thereOf 4 = .ok (.iload_n 2, 1) := by decide +kernel
theorem dX12_thereOf_5 : decode cX12_thereOf 5 = .ok (.bipush 24, 2) := by decide +kernel
theorem dX12_thereOf_7 : decode cX12_thereOf 7 = .ok (.if_icmp .ge 27, 3) := by decide +kernel
theorem dX12_thereOf_10 : decode cX12_thereOf 10 = .ok (.iload_n 1, 1) := by decide +kernel
theorem dX12_thereOf_11 : decode cX12_thereOf 11 = .ok (.aload_n 0, 1) := by decide +kernel
theorem dX12_thereOf_12 : decode cX12_thereOf 12 = .ok (.iload_n 2, 1) := by decide +kernel
theorem dX12_thereOf_13 : decode cX12_thereOf 13 = .ok (.invokestatic 90, 3) := by decide +kernel
theorem dX12_thereOf_16 : decode cX12_thereOf 16 = .ok (.ifCond .eq 9, 3) := by decide +kernel
theorem dX12_thereOf_19 : decode cX12_thereOf 19 = .ok (.iconst 1, 1) := by decide +kernel
theorem dX12_thereOf_20 : decode cX12_thereOf 20 = .ok (.iload_n 2, 1) := by decide +kernel
theorem dX12_thereOf_21 : decode cX12_thereOf 21 = .ok (.ishl, 1) := by decide +kernel
theorem dX12_thereOf_22 : decode cX12_thereOf 22 = .ok (.goto 4, 3) := by decide +kernel
theorem dX12_thereOf_25 : decode cX12_thereOf 25 = .ok (.iconst 0, 1) := by decide +kernel
theorem dX12_thereOf_26 : decode cX12_thereOf 26 = .ok (.ior, 1) := by decide +kernel
theorem dX12_thereOf_27 : decode cX12_thereOf 27 = .ok (.istore_n 1, 1) := by decide +kernel
theorem dX12_thereOf_28 : decode cX12_thereOf 28 = .ok (.iinc 2 1, 3) := by decide +kernel
theorem dX12_thereOf_31 : decode cX12_thereOf 31 = .ok (.goto (-27), 3) := by decide +kernel
theorem dX12_thereOf_34 : decode cX12_thereOf 34 = .ok (.iload_n 1, 1) := by decide +kernel
theorem dX12_thereOf_35 : decode cX12_thereOf 35 = .ok (.ireturn, 1) := by decide +kernel
theorem dX12_inGroup_0 : decode cX12_inGroup 0 = .ok (.iconst 0, 1) := by decide +kernel
theorem dX12_inGroup_1 : decode cX12_inGroup 1 = .ok (.istore_n 2, 1) := by decide +kernel
theorem dX12_inGroup_2 : decode cX12_inGroup 2 = .ok (.iconst 0, 1) := by decide +kernel
theorem dX12_inGroup_3 : decode cX12_inGroup 3 = .ok (.istore_n 3, 1) := by decide +kernel
theorem dX12_inGroup_4 : decode cX12_inGroup 4 = .ok (.iload_n 3, 1) := by decide +kernel
theorem dX12_inGroup_5 : decode cX12_inGroup 5 = .ok (.bipush 24, 2) := by decide +kernel
theorem dX12_inGroup_7 : decode cX12_inGroup 7 = .ok (.if_icmp .ge 37, 3) := by decide +kernel
theorem dX12_inGroup_10 : decode cX12_inGroup 10 = .ok (.iload_n 2, 1) := by decide +kernel
theorem dX12_inGroup_11 : decode cX12_inGroup 11 = .ok (.aload_n 0, 1) := by decide +kernel
theorem dX12_inGroup_12 : decode cX12_inGroup 12 = .ok (.iload_n 3, 1) := by decide +kernel
theorem dX12_inGroup_13 : decode cX12_inGroup 13 = .ok (.invokestatic 90, 3) := by decide +kernel
theorem dX12_inGroup_16 : decode cX12_inGroup 16 = .ok (.ifCond .eq 19, 3) := by decide +kernel
theorem dX12_inGroup_19 : decode cX12_inGroup 19 = .ok (.aload_n 0, 1) := by decide +kernel
theorem dX12_inGroup_20 : decode cX12_inGroup 20 = .ok (.bipush 48, 2) := by decide +kernel
theorem dX12_inGroup_22 : decode cX12_inGroup 22 = .ok (.iload_n 3, 1) := by decide +kernel
theorem dX12_inGroup_23 : decode cX12_inGroup 23 = .ok (.iadd, 1) := by decide +kernel
theorem dX12_inGroup_24 : decode cX12_inGroup 24 = .ok (.iaload, 1) := by decide +kernel
theorem dX12_inGroup_25 : decode cX12_inGroup 25 = .ok (.iload_n 1, 1) := by decide +kernel
theorem dX12_inGroup_26 : decode cX12_inGroup 26 = .ok (.if_icmp .ne 9, 3) := by decide +kernel
theorem dX12_inGroup_29 : decode cX12_inGroup 29 = .ok (.iconst 1, 1) := by decide +kernel
theorem dX12_inGroup_30 : decode cX12_inGroup 30 = .ok (.iload_n 3, 1) := by decide +kernel
theorem dX12_inGroup_31 : decode cX12_inGroup 31 = .ok (.ishl, 1) := by decide +kernel
theorem dX12_inGroup_32 : decode cX12_inGroup 32 = .ok (.goto 4, 3) := by decide +kernel
theorem dX12_inGroup_35 : decode cX12_inGroup 35 = .ok (.iconst 0, 1) := by decide +kernel
theorem dX12_inGroup_36 : decode cX12_inGroup 36 = .ok (.ior, 1) := by decide +kernel
theorem dX12_inGroup_37 : decode cX12_inGroup 37 = .ok (.istore_n 2, 1) := by decide +kernel
theorem dX12_inGroup_38 : decode cX12_inGroup 38 = .ok (.iinc 3 1, 3) := by decide +kernel
theorem dX12_inGroup_41 : decode cX12_inGroup 41 = .ok (.goto (-37), 3) := by decide +kernel
theorem dX12_inGroup_44 : decode cX12_inGroup 44 = .ok (.iload_n 2, 1) := by decide +kernel
theorem dX12_inGroup_45 : decode cX12_inGroup 45 = .ok (.ireturn, 1) := by decide +kernel
theorem dX12_slavesOf_0 : decode cX12_slavesOf 0 = .ok (.iconst 0, 1) := by decide +kernel
theorem dX12_slavesOf_1 : decode cX12_slavesOf 1 = .ok (.istore_n 2, 1) := by decide +kernel
theorem dX12_slavesOf_2 : decode cX12_slavesOf 2 = .ok (.iconst 0, 1) := by decide +kernel
theorem dX12_slavesOf_3 : decode cX12_slavesOf 3 = .ok (.istore_n 3, 1) := by decide +kernel
theorem dX12_slavesOf_4 : decode cX12_slavesOf 4 = .ok (.iload_n 3, 1) := by decide +kernel
theorem dX12_slavesOf_5 : decode cX12_slavesOf 5 = .ok (.bipush 24, 2) := by decide +kernel
theorem dX12_slavesOf_7 : decode cX12_slavesOf 7 = .ok (.if_icmp .ge 37, 3) := by decide +kernel
theorem dX12_slavesOf_10 : decode cX12_slavesOf 10 = .ok (.iload_n 2, 1) := by decide +kernel
theorem dX12_slavesOf_11 : decode cX12_slavesOf 11 = .ok (.aload_n 0, 1) := by decide +kernel
theorem dX12_slavesOf_12 : decode cX12_slavesOf 12 = .ok (.iload_n 3, 1) := by decide +kernel
theorem dX12_slavesOf_13 : decode cX12_slavesOf 13 = .ok (.invokestatic 90, 3) := by decide +kernel
theorem dX12_slavesOf_16 : decode cX12_slavesOf 16 = .ok (.ifCond .eq 19, 3) := by decide +kernel
theorem dX12_slavesOf_19 : decode cX12_slavesOf 19 = .ok (.aload_n 0, 1) := by decide +kernel
theorem dX12_slavesOf_20 : decode cX12_slavesOf 20 = .ok (.bipush 72, 2) := by decide +kernel
theorem dX12_slavesOf_22 : decode cX12_slavesOf 22 = .ok (.iload_n 3, 1) := by decide +kernel
theorem dX12_slavesOf_23 : decode cX12_slavesOf 23 = .ok (.iadd, 1) := by decide +kernel
theorem dX12_slavesOf_24 : decode cX12_slavesOf 24 = .ok (.iaload, 1) := by decide +kernel
theorem dX12_slavesOf_25 : decode cX12_slavesOf 25 = .ok (.iload_n 1, 1) := by decide +kernel
theorem dX12_slavesOf_26 : decode cX12_slavesOf 26 = .ok (.if_icmp .ne 9, 3) := by decide +kernel
theorem dX12_slavesOf_29 : decode cX12_slavesOf 29 = .ok (.iconst 1, 1) := by decide +kernel
theorem dX12_slavesOf_30 : decode cX12_slavesOf 30 = .ok (.iload_n 3, 1) := by decide +kernel
theorem dX12_slavesOf_31 : decode cX12_slavesOf 31 = .ok (.ishl, 1) := by decide +kernel
theorem dX12_slavesOf_32 : decode cX12_slavesOf 32 = .ok (.goto 4, 3) := by decide +kernel
theorem dX12_slavesOf_35 : decode cX12_slavesOf 35 = .ok (.iconst 0, 1) := by decide +kernel
theorem dX12_slavesOf_36 : decode cX12_slavesOf 36 = .ok (.ior, 1) := by decide +kernel
theorem dX12_slavesOf_37 : decode cX12_slavesOf 37 = .ok (.istore_n 2, 1) := by decide +kernel
theorem dX12_slavesOf_38 : decode cX12_slavesOf 38 = .ok (.iinc 3 1, 3) := by decide +kernel
theorem dX12_slavesOf_41 : decode cX12_slavesOf 41 = .ok (.goto (-37), 3) := by decide +kernel
theorem dX12_slavesOf_44 : decode cX12_slavesOf 44 = .ok (.iload_n 2, 1) := by decide +kernel
theorem dX12_slavesOf_45 : decode cX12_slavesOf 45 = .ok (.ireturn, 1) := by decide +kernel
theorem dX12_spreadOf_0 : decode cX12_spreadOf 0 = .ok (.iconst 1, 1) := by decide +kernel
theorem dX12_spreadOf_1 : decode cX12_spreadOf 1 = .ok (.iload_n 1, 1) := by decide +kernel
theorem dX12_spreadOf_2 : decode cX12_spreadOf 2 = .ok (.ishl, 1) := by decide +kernel
theorem dX12_spreadOf_3 : decode cX12_spreadOf 3 = .ok (.istore_n 2, 1) := by decide +kernel
theorem dX12_spreadOf_4 : decode cX12_spreadOf 4 = .ok (.iconst 0, 1) := by decide +kernel
theorem dX12_spreadOf_5 : decode cX12_spreadOf 5 = .ok (.istore_n 3, 1) := by decide +kernel
theorem dX12_spreadOf_6 : decode cX12_spreadOf 6 = .ok (.iload_n 3, 1) := by decide +kernel
theorem dX12_spreadOf_7 : decode cX12_spreadOf 7 = .ok (.iload_n 2, 1) := by decide +kernel
theorem dX12_spreadOf_8 : decode cX12_spreadOf 8 = .ok (.if_icmp .eq 69, 3) := by decide +kernel
theorem dX12_spreadOf_11 : decode cX12_spreadOf 11 = .ok (.iload_n 2, 1) := by decide +kernel
theorem dX12_spreadOf_12 : decode cX12_spreadOf 12 = .ok (.istore_n 3, 1) := by decide +kernel
theorem dX12_spreadOf_13 : decode cX12_spreadOf 13 = .ok (.iconst 0, 1) := by decide +kernel
theorem dX12_spreadOf_14 : decode cX12_spreadOf 14 = .ok (.istore 4, 2) := by decide +kernel
theorem dX12_spreadOf_16 : decode cX12_spreadOf 16 = .ok (.iload 4, 2) := by decide +kernel
theorem dX12_spreadOf_18 : decode cX12_spreadOf 18 = .ok (.bipush 24, 2) := by decide +kernel
theorem dX12_spreadOf_20 : decode cX12_spreadOf 20 = .ok (.if_icmp .ge 54, 3) := by decide +kernel
theorem dX12_spreadOf_23 : decode cX12_spreadOf 23 = .ok (.iload_n 2, 1) := by decide +kernel
theorem dX12_spreadOf_24 : decode cX12_spreadOf 24 = .ok (.iload 4, 2) := by decide +kernel
theorem dX12_spreadOf_26 : decode cX12_spreadOf 26 = .ok (.invokestatic 94, 3) := by decide +kernel
theorem dX12_spreadOf_29 : decode cX12_spreadOf 29 = .ok (.ifCond .eq 39, 3) := by decide +kernel
theorem dX12_spreadOf_32 : decode cX12_spreadOf 32 = .ok (.aload_n 0, 1) := by decide +kernel
theorem dX12_spreadOf_33 : decode cX12_spreadOf 33 = .ok (.bipush 48, 2) := by decide +kernel
theorem dX12_spreadOf_35 : decode cX12_spreadOf 35 = .ok (.iload 4, 2) := by decide +kernel
theorem dX12_spreadOf_37 : decode cX12_spreadOf 37 = .ok (.iadd, 1) := by decide +kernel
theorem dX12_spreadOf_38 : decode cX12_spreadOf 38 = .ok (.iaload, 1) := by decide +kernel
theorem dX12_spreadOf_39 : decode cX12_spreadOf 39 = .ok (.ifCond .eq 29, 3) := by decide +kernel
theorem dX12_spreadOf_42 : decode cX12_spreadOf 42 = .ok (.iload_n 2, 1) := by decide +kernel
theorem dX12_spreadOf_43 : decode cX12_spreadOf 43 = .ok (.aload_n 0, 1) := by decide +kernel
theorem dX12_spreadOf_44 : decode cX12_spreadOf 44 = .ok (.aload_n 0, 1) := by decide +kernel
theorem dX12_spreadOf_45 : decode cX12_spreadOf 45 = .ok (.bipush 48, 2) := by decide +kernel
theorem dX12_spreadOf_47 : decode cX12_spreadOf 47 = .ok (.iload 4, 2) := by decide +kernel
theorem dX12_spreadOf_49 : decode cX12_spreadOf 49 = .ok (.iadd, 1) := by decide +kernel
theorem dX12_spreadOf_50 : decode cX12_spreadOf 50 = .ok (.iaload, 1) := by decide +kernel
theorem dX12_spreadOf_51 : decode cX12_spreadOf 51 = .ok (.invokestatic 98, 3) := by decide +kernel
theorem dX12_spreadOf_54 : decode cX12_spreadOf 54 = .ok (.aload_n 0, 1) := by decide +kernel
theorem dX12_spreadOf_55 : decode cX12_spreadOf 55 = .ok (.aload_n 0, 1) := by decide +kernel
theorem dX12_spreadOf_56 : decode cX12_spreadOf 56 = .ok (.bipush 48, 2) := by decide +kernel
theorem dX12_spreadOf_58 : decode cX12_spreadOf 58 = .ok (.iload 4, 2) := by decide +kernel
theorem dX12_spreadOf_60 : decode cX12_spreadOf 60 = .ok (.iadd, 1) := by decide +kernel
theorem dX12_spreadOf_61 : decode cX12_spreadOf 61 = .ok (.iaload, 1) := by decide +kernel
theorem dX12_spreadOf_62 : decode cX12_spreadOf 62 = .ok (.invokestatic 102, 3) := by decide +kernel
theorem dX12_spreadOf_65 : decode cX12_spreadOf 65 = .ok (.ior, 1) := by decide +kernel
theorem dX12_spreadOf_66 : decode cX12_spreadOf 66 = .ok (.ior, 1) := by decide +kernel
theorem dX12_spreadOf_67 : decode cX12_spreadOf 67 = .ok (.istore_n 2, 1) := by decide +kernel
theorem dX12_spreadOf_68 : decode cX12_spreadOf 68 = .ok (.iinc 4 1, 3) := by decide +kernel
theorem dX12_spreadOf_71 : decode cX12_spreadOf 71 = .ok (.goto (-55), 3) := by decide +kernel
theorem dX12_spreadOf_74 : decode cX12_spreadOf 74 = .ok (.goto (-68), 3) := by decide +kernel
theorem dX12_spreadOf_77 : decode cX12_spreadOf 77 = .ok (.iload_n 2, 1) := by decide +kernel
theorem dX12_spreadOf_78 : decode cX12_spreadOf 78 = .ok (.ireturn, 1) := by decide +kernel
theorem dX12_freeOf_0 : decode cX12_freeOf 0 = .ok (.iconst 0, 1) := by decide +kernel
theorem dX12_freeOf_1 : decode cX12_freeOf 1 = .ok (.istore_n 1, 1) := by decide +kernel
theorem dX12_freeOf_2 : decode cX12_freeOf 2 = .ok (.iload_n 1, 1) := by decide +kernel
theorem dX12_freeOf_3 : decode cX12_freeOf 3 = .ok (.bipush 24, 2) := by decide +kernel
theorem dX12_freeOf_5 : decode cX12_freeOf 5 = .ok (.if_icmp .ge 16, 3) := by decide +kernel
theorem dX12_freeOf_8 : decode cX12_freeOf 8 = .ok (.aload_n 0, 1) := by decide +kernel
theorem dX12_freeOf_9 : decode cX12_freeOf 9 = .ok (.iload_n 1, 1) := by decide +kernel
theorem dX12_freeOf_10 : decode cX12_freeOf 10 = .ok (.iaload, 1) := by decide +kernel
theorem dX12_freeOf_11 : decode cX12_freeOf 11 = .ok (.iconst (-1), 1) := by decide +kernel
theorem dX12_freeOf_12 : decode cX12_freeOf 12 = .ok (.if_icmp .eq 9, 3) := by decide +kernel
theorem dX12_freeOf_15 : decode cX12_freeOf 15 = .ok (.iinc 1 1, 3) := by decide +kernel
theorem dX12_freeOf_18 : decode cX12_freeOf 18 = .ok (.goto (-16), 3) := by decide +kernel
theorem dX12_freeOf_21 : decode cX12_freeOf 21 = .ok (.iload_n 1, 1) := by decide +kernel
theorem dX12_freeOf_22 : decode cX12_freeOf 22 = .ok (.ireturn, 1) := by decide +kernel
theorem dX12_newGroup_0 : decode cX12_newGroup 0 = .ok (.aload_n 0, 1) := by decide +kernel
theorem dX12_newGroup_1 : decode cX12_newGroup 1 = .ok (.bipush 121, 2) := by decide +kernel
theorem dX12_newGroup_3 : decode cX12_newGroup 3 = .ok (.dup2, 1) := by decide +kernel
theorem dX12_newGroup_4 : decode cX12_newGroup 4 = .ok (.iaload, 1) := by decide +kernel
theorem dX12_newGroup_5 : decode cX12_newGroup 5 = .ok (.iconst 1, 1) := by decide +kernel
theorem dX12_newGroup_6 : decode cX12_newGroup 6 = .ok (.iadd, 1) := by decide +kernel
theorem dX12_newGroup_7 : decode cX12_newGroup 7 = .ok (.iastore, 1) := by decide +kernel
theorem dX12_newGroup_8 : decode cX12_newGroup 8 = .ok (.aload_n 0, 1) := by decide +kernel
theorem dX12_newGroup_9 : decode cX12_newGroup 9 = .ok (.bipush 121, 2) := by decide +kernel
theorem dX12_newGroup_11 : decode cX12_newGroup 11 = .ok (.iaload, 1) := by decide +kernel
theorem dX12_newGroup_12 : decode cX12_newGroup 12 = .ok (.iconst 1, 1) := by decide +kernel
theorem dX12_newGroup_13 : decode cX12_newGroup 13 = .ok (.isub, 1) := by decide +kernel
theorem dX12_newGroup_14 : decode cX12_newGroup 14 = .ok (.ireturn, 1) := by decide +kernel
theorem dX12_clear_0 : decode cX12_clear 0 = .ok (.aload_n 0, 1) := by decide +kernel
theorem dX12_clear_1 : decode cX12_clear 1 = .ok (.iload_n 1, 1) := by decide +kernel
theorem dX12_clear_2 : decode cX12_clear 2 = .ok (.iconst (-1), 1) := by decide +kernel
theorem dX12_clear_3 : decode cX12_clear 3 = .ok (.iastore, 1) := by decide +kernel
theorem dX12_clear_4 : decode cX12_clear 4 = .ok (.aload_n 0, 1) := by decide +kernel
theorem dX12_clear_5 : decode cX12_clear 5 = .ok (.bipush 24, 2) := by decide +kernel
theorem dX12_clear_7 : decode cX12_clear 7 = .ok (.iload_n 1, 1) := by decide +kernel
theorem dX12_clear_8 : decode cX12_clear 8 = .ok (.iadd, 1) := by decide +kernel
theorem dX12_clear_9 : decode cX12_clear 9 = .ok (.iconst 0, 1) := by decide +kernel
theorem dX12_clear_10 : decode cX12_clear 10 = .ok (.iastore, 1) := by decide +kernel
theorem dX12_clear_11 : decode cX12_clear 11 = .ok (.aload_n 0, 1) := by decide +kernel
theorem dX12_clear_12 : decode cX12_clear 12 = .ok (.bipush 48, 2) := by decide +kernel
theorem dX12_clear_14 : decode cX12_clear 14 = .ok (.iload_n 1, 1) := by decide +kernel
theorem dX12_clear_15 : decode cX12_clear 15 = .ok (.iadd, 1) := by decide +kernel
theorem dX12_clear_16 : decode cX12_clear 16 = .ok (.iconst 0, 1) := by decide +kernel
theorem dX12_clear_17 : decode cX12_clear 17 = .ok (.iastore, 1) := by decide +kernel
theorem dX12_clear_18 : decode cX12_clear 18 = .ok (.aload_n 0, 1) := by decide +kernel
theorem dX12_clear_19 : decode cX12_clear 19 = .ok (.bipush 72, 2) := by decide +kernel
theorem dX12_clear_21 : decode cX12_clear 21 = .ok (.iload_n 1, 1) := by decide +kernel
theorem dX12_clear_22 : decode cX12_clear 22 = .ok (.iadd, 1) := by decide +kernel
theorem dX12_clear_23 : decode cX12_clear 23 = .ok (.iconst 0, 1) := by decide +kernel
theorem dX12_clear_24 : decode cX12_clear 24 = .ok (.iastore, 1) := by decide +kernel
theorem dX12_clear_25 : decode cX12_clear 25 = .ok (.aload_n 0, 1) := by decide +kernel
theorem dX12_clear_26 : decode cX12_clear 26 = .ok (.bipush 96, 2) := by decide +kernel
theorem dX12_clear_28 : decode cX12_clear 28 = .ok (.iload_n 1, 1) := by decide +kernel
theorem dX12_clear_29 : decode cX12_clear 29 = .ok (.iadd, 1) := by decide +kernel
theorem dX12_clear_30 : decode cX12_clear 30 = .ok (.iconst 0, 1) := by decide +kernel
theorem dX12_clear_31 : decode cX12_clear 31 = .ok (.iastore, 1) := by decide +kernel
theorem dX12_clear_32 : decode cX12_clear 32 = .ok (.return_, 1) := by decide +kernel
theorem dX12_sign_0 : decode cX12_sign 0 = .ok (.aload_n 0, 1) := by decide +kernel
theorem dX12_sign_1 : decode cX12_sign 1 = .ok (.iconst 0, 1) := by decide +kernel
theorem dX12_sign_2 : decode cX12_sign 2 = .ok (.putfield 79, 3) := by decide +kernel
theorem dX12_sign_5 : decode cX12_sign 5 = .ok (.aload_n 0, 1) := by decide +kernel
theorem dX12_sign_6 : decode cX12_sign 6 = .ok (.getfield 105, 3) := by decide +kernel
theorem dX12_sign_9 : decode cX12_sign 9 = .ok (.iconst 4, 1) := by decide +kernel
theorem dX12_sign_10 : decode cX12_sign 10 = .ok (.iadd, 1) := by decide +kernel
theorem dX12_sign_11 : decode cX12_sign 11 = .ok (.bipush 80, 2) := by decide +kernel
theorem dX12_sign_13 : decode cX12_sign 13 = .ok (.if_icmp .le 5, 3) := by decide +kernel
theorem dX12_sign_16 : decode cX12_sign 16 = .ok (.iconst (-1), 1) := by decide +kernel
theorem dX12_sign_17 : decode cX12_sign 17 = .ok (.ireturn, 1) := by decide +kernel
theorem dX12_sign_18 : decode cX12_sign 18 = .ok (.iconst 3, 1) := by decide +kernel
theorem dX12_sign_19 : decode cX12_sign 19 = .ok (.istore_n 2, 1) := by decide +kernel
theorem dX12_sign_20 : decode cX12_sign 20 = .ok (.iload_n 2, 1) := by decide +kernel
theorem dX12_sign_21 : decode cX12_sign 21 = .ok (.ifCond .lt 32, 3) := by decide +kernel
theorem dX12_sign_24 : decode cX12_sign 24 = .ok (.aload_n 0, 1) := by decide +kernel
theorem dX12_sign_25 : decode cX12_sign 25 = .ok (.getfield 13, 3) := by decide +kernel
theorem dX12_sign_28 : decode cX12_sign 28 = .ok (.aload_n 0, 1) := by decide +kernel
theorem dX12_sign_29 : decode cX12_sign 29 = .ok (.dup, 1) := by decide +kernel
theorem dX12_sign_30 : decode cX12_sign 30 = .ok (.getfield 105, 3) := by decide +kernel
theorem dX12_sign_33 : decode cX12_sign 33 = .ok (.dup_x1, 1) := by decide +kernel
theorem dX12_sign_34 : decode cX12_sign 34 = .ok (.iconst 1, 1) := by decide +kernel
theorem dX12_sign_35 : decode cX12_sign 35 = .ok (.iadd, 1) := by decide +kernel
theorem dX12_sign_36 : decode cX12_sign 36 = .ok (.putfield 105, 3) := by decide +kernel
theorem dX12_sign_39 : decode cX12_sign 39 = .ok (.iload_n 1, 1) := by decide +kernel
theorem dX12_sign_40 : decode cX12_sign 40 = .ok (.bipush 8, 2) := by decide +kernel
theorem dX12_sign_42 : decode cX12_sign 42 = .ok (.iload_n 2, 1) := by decide +kernel
theorem dX12_sign_43 : decode cX12_sign 43 = .ok (.imul, 1) := by decide +kernel
theorem dX12_sign_44 : decode cX12_sign 44 = .ok (.ishr, 1) := by decide +kernel
theorem dX12_sign_45 : decode cX12_sign 45 = .ok (.i2b, 1) := by decide +kernel
theorem dX12_sign_46 : decode cX12_sign 46 = .ok (.bastore, 1) := by decide +kernel
theorem dX12_sign_47 : decode cX12_sign 47 = .ok (.iinc 2 (-1), 3) := by decide +kernel
theorem dX12_sign_50 : decode cX12_sign 50 = .ok (.goto (-30), 3) := by decide +kernel
theorem dX12_sign_53 : decode cX12_sign 53 = .ok (.aload_n 0, 1) := by decide +kernel
theorem dX12_sign_54 : decode cX12_sign 54 = .ok (.getfield 105, 3) := by decide +kernel
theorem dX12_sign_57 : decode cX12_sign 57 = .ok (.ireturn, 1) := by decide +kernel
theorem dX12_end_0 : decode cX12_end 0 = .ok (.aload_n 0, 1) := by decide +kernel
theorem dX12_end_1 : decode cX12_end 1 = .ok (.iconst 0, 1) := by decide +kernel
theorem dX12_end_2 : decode cX12_end 2 = .ok (.putfield 79, 3) := by decide +kernel
theorem dX12_end_5 : decode cX12_end 5 = .ok (.iload_n 1, 1) := by decide +kernel
theorem dX12_end_6 : decode cX12_end 6 = .ok (.iconst 0, 1) := by decide +kernel
theorem dX12_end_7 : decode cX12_end 7 = .ok (.aload_n 0, 1) := by decide +kernel
theorem dX12_end_8 : decode cX12_end 8 = .ok (.getfield 105, 3) := by decide +kernel
theorem dX12_end_11 : decode cX12_end 11 = .ok (.invokestatic 86, 3) := by decide +kernel
theorem dX12_end_14 : decode cX12_end 14 = .ok (.ifCond .ne 5, 3) := by decide +kernel
theorem dX12_end_17 : decode cX12_end 17 = .ok (.iconst 0, 1) := by decide +kernel
theorem dX12_end_18 : decode cX12_end 18 = .ok (.ireturn, 1) := by decide +kernel
theorem dX12_end_19 : decode cX12_end 19 = .ok (.aload_n 0, 1) := by decide +kernel
theorem dX12_end_20 : decode cX12_end 20 = .ok (.iload_n 1, 1) := by decide +kernel
theorem dX12_end_21 : decode cX12_end 21 = .ok (.putfield 105, 3) := by decide +kernel
theorem dX12_end_24 : decode cX12_end 24 = .ok (.iconst 1, 1) := by decide +kernel
theorem dX12_end_25 : decode cX12_end 25 = .ok (.ireturn, 1) := by decide +kernel
theorem dX12_begin_0 : decode cX12_begin 0 = .ok (.aload_n 0, 1) := by decide +kernel
theorem dX12_begin_1 : decode cX12_begin 1 = .ok (.aload_n 1, 1) := by decide +kernel
theorem dX12_begin_2 : decode cX12_begin 2 = .ok (.putfield 108, 3) := by decide +kernel
theorem dX12_begin_5 : decode cX12_begin 5 = .ok (.aload_n 0, 1) := by decide +kernel
theorem dX12_begin_6 : decode cX12_begin 6 = .ok (.iload_n 2, 1) := by decide +kernel
theorem dX12_begin_7 : decode cX12_begin 7 = .ok (.putfield 111, 3) := by decide +kernel
theorem dX12_begin_10 : decode cX12_begin 10 = .ok (.aload_n 0, 1) := by decide +kernel
theorem dX12_begin_11 : decode cX12_begin 11 = .ok (.iload_n 3, 1) := by decide +kernel
theorem dX12_begin_12 : decode cX12_begin 12 = .ok (.putfield 114, 3) := by decide +kernel
theorem dX12_begin_15 : decode cX12_begin 15 = .ok (.aload_n 0, 1) := by decide +kernel
theorem dX12_begin_16 : decode cX12_begin 16 = .ok (.iconst 0, 1) := by decide +kernel
theorem dX12_begin_17 : decode cX12_begin 17 = .ok (.putfield 117, 3) := by decide +kernel
theorem dX12_begin_20 : decode cX12_begin 20 = .ok (.aload_n 0, 1) := by decide +kernel
theorem dX12_begin_21 : decode cX12_begin 21 = .ok (.iconst (-1), 1) := by decide +kernel
theorem dX12_begin_22 : decode cX12_begin 22 = .ok (.putfield 120, 3) := by decide +kernel
theorem dX12_begin_25 : decode cX12_begin 25 = .ok (.return_, 1) := by decide +kernel
theorem dX12_beginText_0 : decode cX12_beginText 0 = .ok (.aload_n 0, 1) := by decide +kernel
theorem dX12_beginText_1 : decode cX12_beginText 1 = .ok (.aload_n 0, 1) := by decide +kernel
theorem dX12_beginText_2 : decode cX12_beginText 2 = .ok (.getfield 13, 3) := by decide +kernel
theorem dX12_beginText_5 : decode cX12_beginText 5 = .ok (.aload_n 0, 1) := by decide +kernel
theorem dX12_beginText_6 : decode cX12_beginText 6 = .ok (.getfield 105, 3) := by decide +kernel
theorem dX12_beginText_9 : decode cX12_beginText 9 = .ok (.iload_n 1, 1) := by decide +kernel
theorem dX12_beginText_10 : decode cX12_beginText 10 = .ok (.invokevirtual 123, 3) := by decide +kernel
theorem dX12_beginText_13 : decode cX12_beginText 13 = .ok (.aload_n 0, 1) := by decide +kernel
theorem dX12_beginText_14 : decode cX12_beginText 14 = .ok (.iconst 0, 1) := by decide +kernel
theorem dX12_beginText_15 : decode cX12_beginText 15 = .ok (.putfield 105, 3) := by decide +kernel
theorem dX12_beginText_18 : decode cX12_beginText 18 = .ok (.return_, 1) := by decide +kernel
theorem dX12_here_0 : decode cX12_here 0 = .ok (.aload_n 0, 1) := by decide +kernel
theorem dX12_here_1 : decode cX12_here 1 = .ok (.getfield 117, 3) := by decide +kernel
theorem dX12_here_4 : decode cX12_here 4 = .ok (.aload_n 0, 1) := by decide +kernel
theorem dX12_here_5 : decode cX12_here 5 = .ok (.getfield 111, 3) := by decide +kernel
theorem dX12_here_8 : decode cX12_here 8 = .ok (.if_icmp .ge 30, 3) := by decide +kernel
theorem dX12_here_11 : decode cX12_here 11 = .ok (.aload_n 0, 1) := by decide +kernel
theorem dX12_here_12 : decode cX12_here 12 = .ok (.getfield 117, 3) := by decide +kernel
theorem dX12_here_15 : decode cX12_here 15 = .ok (.aload_n 0, 1) := by decide +kernel
theorem dX12_here_16 : decode cX12_here 16 = .ok (.getfield 114, 3) := by decide +kernel
theorem dX12_here_19 : decode cX12_here 19 = .ok (.if_icmp .ge 19, 3) := by decide +kernel
theorem dX12_here_22 : decode cX12_here 22 = .ok (.aload_n 0, 1) := by decide +kernel
theorem dX12_here_23 : decode cX12_here 23 = .ok (.getfield 108, 3) := by decide +kernel
theorem dX12_here_26 : decode cX12_here 26 = .ok (.aload_n 0, 1) := by decide +kernel
theorem dX12_here_27 : decode cX12_here 27 = .ok (.getfield 117, 3) := by decide +kernel
theorem dX12_here_30 : decode cX12_here 30 = .ok (.baload, 1) := by decide +kernel
theorem dX12_here_31 : decode cX12_here 31 = .ok (.sipush 255, 3) := by decide +kernel
theorem dX12_here_34 : decode cX12_here 34 = .ok (.iand, 1) := by decide +kernel
theorem dX12_here_35 : decode cX12_here 35 = .ok (.goto 4, 3) := by decide +kernel
theorem dX12_here_38 : decode cX12_here 38 = .ok (.iconst (-1), 1) := by decide +kernel
theorem dX12_here_39 : decode cX12_here 39 = .ok (.ireturn, 1) := by decide +kernel
theorem dX12_fine_0 : decode cX12_fine 0 = .ok (.aload_n 0, 1) := by decide +kernel
theorem dX12_fine_1 : decode cX12_fine 1 = .ok (.getfield 120, 3) := by decide +kernel
theorem dX12_fine_4 : decode cX12_fine 4 = .ok (.iconst (-1), 1) := by decide +kernel
theorem dX12_fine_5 : decode cX12_fine 5 = .ok (.if_icmp .ne 7, 3) := by decide +kernel
theorem dX12_fine_8 : decode cX12_fine 8 = .ok (.iconst 1, 1) := by decide +kernel
theorem dX12_fine_9 : decode cX12_fine 9 = .ok (.goto 4, 3) := by decide +kernel
theorem dX12_fine_12 : decode cX12_fine 12 = .ok (.iconst 0, 1) := by decide +kernel
theorem dX12_fine_13 : decode cX12_fine 13 = .ok (.ireturn, 1) := by decide +kernel
theorem dX12_fault_0 : decode cX12_fault 0 = .ok (.aload_n 0, 1) := by decide +kernel
theorem dX12_fault_1 : decode cX12_fault 1 = .ok (.invokevirtual 127, 3) := by decide +kernel
theorem dX12_fault_4 : decode cX12_fault 4 = .ok (.ifCond .eq 8, 3) := by decide +kernel
theorem dX12_fault_7 : decode cX12_fault 7 = .ok (.aload_n 0, 1) := by decide +kernel
theorem dX12_fault_8 : decode cX12_fault 8 = .ok (.iload_n 1, 1) := by decide +kernel
theorem dX12_fault_9 : decode cX12_fault 9 = .ok (.putfield 120, 3) := by decide +kernel
theorem dX12_fault_12 : decode cX12_fault 12 = .ok (.return_, 1) := by decide +kernel
theorem dX12_passes_0 : decode cX12_passes 0 = .ok (.aload_n 0, 1) := by decide +kernel
theorem dX12_passes_1 : decode cX12_passes 1 = .ok (.invokevirtual 127, 3) := by decide +kernel
theorem dX12_passes_4 : decode cX12_passes 4 = .ok (.ifCond .eq 11, 3) := by decide +kernel
theorem dX12_passes_7 : decode cX12_passes 7 = .ok (.aload_n 0, 1) := by decide +kernel
theorem dX12_passes_8 : decode cX12_passes 8 = .ok (.invokevirtual 131, 3) := by decide +kernel
theorem dX12_passes_11 : decode cX12_passes 11 = .ok (.iload_n 1, 1) := by decide +kernel
theorem dX12_passes_12 : decode cX12_passes 12 = .ok (.if_icmp .eq 5, 3) := by decide +kernel
theorem dX12_passes_15 : decode cX12_passes 15 = .ok (.iconst 0, 1) := by decide +kernel
theorem dX12_passes_16 : decode cX12_passes 16 = .ok (.ireturn, 1) := by decide +kernel
theorem dX12_passes_17 : decode cX12_passes 17 = .ok (.aload_n 0, 1) := by decide +kernel
theorem dX12_passes_18 : decode cX12_passes 18 = .ok (.dup, 1) := by decide +kernel
theorem dX12_passes_19 : decode cX12_passes 19 = .ok (.getfield 117, 3) := by decide +kernel
theorem dX12_passes_22 : decode cX12_passes 22 = .ok (.iconst 1, 1) := by decide +kernel
theorem dX12_passes_23 : decode cX12_passes 23 = .ok (.iadd, 1) := by decide +kernel
theorem dX12_passes_24 : decode cX12_passes 24 = .ok (.putfield 117, 3) := by decide +kernel
theorem dX12_passes_27 : decode cX12_passes 27 = .ok (.iconst 1, 1) := by decide +kernel
theorem dX12_passes_28 : decode cX12_passes 28 = .ok (.ireturn, 1) := by decide +kernel
theorem dX12_need_0 : decode cX12_need 0 = .ok (.aload_n 0, 1) := by decide +kernel
theorem dX12_need_1 : decode cX12_need 1 = .ok (.iload_n 1, 1) := by decide +kernel
theorem dX12_need_2 : decode cX12_need 2 = .ok (.invokevirtual 135, 3) := by decide +kernel
theorem dX12_need_5 : decode cX12_need 5 = .ok (.ifCond .ne 11, 3) := by decide +kernel
theorem dX12_need_8 : decode cX12_need 8 = .ok (.aload_n 0, 1) := by decide +kernel
theorem dX12_need_9 : decode cX12_need 9 = .ok (.aload_n 0, 1) := by decide +kernel
theorem dX12_need_10 : decode cX12_need 10 = .ok (.getfield 117, 3) := by decide +kernel
theorem dX12_need_13 : decode cX12_need 13 = .ok (.invokevirtual 139, 3) := by decide +kernel
theorem dX12_need_16 : decode cX12_need 16 = .ok (.return_, 1) := by decide +kernel
theorem dX12_oneOf_0 : decode cX12_oneOf 0 = .ok (.aload_n 0, 1) := by decide +kernel
theorem dX12_oneOf_1 : decode cX12_oneOf 1 = .ok (.invokevirtual 127, 3) := by decide +kernel
theorem dX12_oneOf_4 : decode cX12_oneOf 4 = .ok (.ifCond .ne 5, 3) := by decide +kernel
theorem dX12_oneOf_7 : decode cX12_oneOf 7 = .ok (.iconst 0, 1) := by decide +kernel
theorem dX12_oneOf_8 : decode cX12_oneOf 8 = .ok (.ireturn, 1) := by decide +kernel
theorem dX12_oneOf_9 : decode cX12_oneOf 9 = .ok (.aload_n 0, 1) := by decide +kernel
theorem dX12_oneOf_10 : decode cX12_oneOf 10 = .ok (.invokevirtual 131, 3) := by decide +kernel
theorem dX12_oneOf_13 : decode cX12_oneOf 13 = .ok (.iload_n 1, 1) := by decide +kernel
theorem dX12_oneOf_14 : decode cX12_oneOf 14 = .ok (.iload_n 1, 1) := by decide +kernel
theorem dX12_oneOf_15 : decode cX12_oneOf 15 = .ok (.iload_n 2, 1) := by decide +kernel
theorem dX12_oneOf_16 : decode cX12_oneOf 16 = .ok (.iadd, 1) := by decide +kernel
theorem dX12_oneOf_17 : decode cX12_oneOf 17 = .ok (.iconst 1, 1) := by decide +kernel
theorem dX12_oneOf_18 : decode cX12_oneOf 18 = .ok (.isub, 1) := by decide +kernel
theorem dX12_oneOf_19 : decode cX12_oneOf 19 = .ok (.invokestatic 86, 3) := by decide +kernel
theorem dX12_oneOf_22 : decode cX12_oneOf 22 = .ok (.ifCond .ne 13, 3) := by decide +kernel
theorem dX12_oneOf_25 : decode cX12_oneOf 25 = .ok (.aload_n 0, 1) := by decide +kernel
theorem dX12_oneOf_26 : decode cX12_oneOf 26 = .ok (.aload_n 0, 1) := by decide +kernel
theorem dX12_oneOf_27 : decode cX12_oneOf 27 = .ok (.getfield 117, 3) := by decide +kernel
theorem dX12_oneOf_30 : decode cX12_oneOf 30 = .ok (.invokevirtual 139, 3) := by decide +kernel
theorem dX12_oneOf_33 : decode cX12_oneOf 33 = .ok (.iconst 0, 1) := by decide +kernel
theorem dX12_oneOf_34 : decode cX12_oneOf 34 = .ok (.ireturn, 1) := by decide +kernel
theorem dX12_oneOf_35 : decode cX12_oneOf 35 = .ok (.aload_n 0, 1) := by decide +kernel
theorem dX12_oneOf_36 : decode cX12_oneOf 36 = .ok (.dup, 1) := by decide +kernel
theorem dX12_oneOf_37 : decode cX12_oneOf 37 = .ok (.getfield 117, 3) := by decide +kernel
theorem dX12_oneOf_40 : decode cX12_oneOf 40 = .ok (.iconst 1, 1) := by decide +kernel
theorem dX12_oneOf_41 : decode cX12_oneOf 41 = .ok (.iadd, 1) := by decide +kernel
theorem dX12_oneOf_42 : decode cX12_oneOf 42 = .ok (.putfield 117, 3) := by decide +kernel
theorem dX12_oneOf_45 : decode cX12_oneOf 45 = .ok (.aload_n 0, 1) := by decide +kernel
theorem dX12_oneOf_46 : decode cX12_oneOf 46 = .ok (.getfield 108, 3) := by decide +kernel
theorem dX12_oneOf_49 : decode cX12_oneOf 49 = .ok (.aload_n 0, 1) := by decide +kernel
theorem dX12_oneOf_50 : decode cX12_oneOf 50 = .ok (.getfield 117, 3) := by decide +kernel
theorem dX12_oneOf_53 : decode cX12_oneOf 53 = .ok (.iconst 1, 1) := by decide +kernel
theorem dX12_oneOf_54 : decode cX12_oneOf 54 = .ok (.isub, 1) := by decide +kernel
theorem dX12_oneOf_55 : decode cX12_oneOf 55 = .ok (.baload, 1) := by decide +kernel
theorem dX12_oneOf_56 : decode cX12_oneOf 56 = .ok (.iload_n 1, 1) := by decide +kernel
theorem dX12_oneOf_57 : decode cX12_oneOf 57 = .ok (.isub, 1) := by decide +kernel
theorem dX12_oneOf_58 : decode cX12_oneOf 58 = .ok (.ireturn, 1) := by decide +kernel
theorem dX12_number_0 : decode cX12_number 0 = .ok (.aload_n 0, 1) := by decide +kernel
theorem dX12_number_1 : decode cX12_number 1 = .ok (.bipush 48, 2) := by decide +kernel
theorem dX12_number_3 : decode cX12_number 3 = .ok (.bipush 10, 2) := by decide +kernel
theorem dX12_number_5 : decode cX12_number 5 = .ok (.invokevirtual 143, 3) := by decide +kernel
theorem dX12_number_8 : decode cX12_number 8 = .ok (.istore_n 2, 1) := by decide +kernel
theorem dX12_number_9 : decode cX12_number 9 = .ok (.iconst 1, 1) := by decide +kernel
theorem dX12_number_10 : decode cX12_number 10 = .ok (.istore_n 3, 1) := by decide +kernel
theorem dX12_number_11 : decode cX12_number 11 = .ok (.iload_n 3, 1) := by decide +kernel
theorem dX12_number_12 : decode cX12_number 12 = .ok (.iload_n 1, 1) := by decide +kernel
theorem dX12_number_13 : decode cX12_number 13 = .ok (.if_icmp .ge 44, 3) := by decide +kernel
theorem dX12_number_16 : decode cX12_number 16 = .ok (.aload_n 0, 1) := by decide +kernel
theorem dX12_number_17 : decode cX12_number 17 = .ok (.invokevirtual 127, 3) := by decide +kernel
theorem dX12_number_20 : decode cX12_number 20 = .ok (.ifCond .eq 37, 3) := by decide +kernel
theorem dX12_number_23 : decode cX12_number 23 = .ok (.aload_n 0, 1) := by decide +kernel
theorem dX12_number_24 : decode cX12_number 24 = .ok (.invokevirtual 131, 3) := by decide +kernel
theorem dX12_number_27 : decode cX12_number 27 = .ok (.bipush 48, 2) := by decide +kernel
theorem dX12_number_29 : decode cX12_number 29 = .ok (.bipush 57, 2) := by decide +kernel
theorem dX12_number_31 : decode cX12_number 31 = .ok (.invokestatic 86, 3) := by decide +kernel
theorem dX12_number_34 : decode cX12_number 34 = .ok (.ifCond .eq 23, 3) := by decide +kernel
theorem dX12_number_37 : decode cX12_number 37 = .ok (.bipush 10, 2) := by decide +kernel
theorem dX12_number_39 : decode cX12_number 39 = .ok (.iload_n 2, 1) := by decide +kernel
theorem dX12_number_40 : decode cX12_number 40 = .ok (.imul, 1) := by decide +kernel
theorem dX12_number_41 : decode cX12_number 41 = .ok (.aload_n 0, 1) := by decide +kernel
theorem dX12_number_42 : decode cX12_number 42 = .ok (.bipush 48, 2) := by decide +kernel
theorem dX12_number_44 : decode cX12_number 44 = .ok (.bipush 10, 2) := by decide +kernel
theorem dX12_number_46 : decode cX12_number 46 = .ok (.invokevirtual 143, 3) := by decide +kernel
theorem dX12_number_49 : decode cX12_number 49 = .ok (.iadd, 1) := by decide +kernel
theorem dX12_number_50 : decode cX12_number 50 = .ok (.istore_n 2, 1) := by decide +kernel
theorem dX12_number_51 : decode cX12_number 51 = .ok (.iinc 3 1, 3) := by decide +kernel
theorem dX12_number_54 : decode cX12_number 54 = .ok (.goto (-43), 3) := by decide +kernel
theorem dX12_number_57 : decode cX12_number 57 = .ok (.iload_n 2, 1) := by decide +kernel
theorem dX12_number_58 : decode cX12_number 58 = .ok (.ireturn, 1) := by decide +kernel
theorem dX12_wasRight_0 : decode cX12_wasRight 0 = .ok (.aload_n 0, 1) := by decide +kernel
theorem dX12_wasRight_1 : decode cX12_wasRight 1 = .ok (.getfield 117, 3) := by decide +kernel
theorem dX12_wasRight_4 : decode cX12_wasRight 4 = .ok (.aload_n 0, 1) := by decide +kernel
theorem dX12_wasRight_5 : decode cX12_wasRight 5 = .ok (.getfield 111, 3) := by decide +kernel
theorem dX12_wasRight_8 : decode cX12_wasRight 8 = .ok (.if_icmp .ge 11, 3) := by decide +kernel
theorem dX12_wasRight_11 : decode cX12_wasRight 11 = .ok (.aload_n 0, 1) := by decide +kernel
theorem dX12_wasRight_12 : decode cX12_wasRight 12 = .ok (.aload_n 0, 1) := by decide +kernel
theorem dX12_wasRight_13 : decode cX12_wasRight 13 = .ok (.getfield 117, 3) := by decide +kernel
theorem dX12_wasRight_16 : decode cX12_wasRight 16 = .ok (.invokevirtual 139, 3) := by decide +kernel
theorem dX12_wasRight_19 : decode cX12_wasRight 19 = .ok (.aload_n 0, 1) := by decide +kernel
theorem dX12_wasRight_20 : decode cX12_wasRight 20 = .ok (.invokevirtual 127, 3) := by decide +kernel
theorem dX12_wasRight_23 : decode cX12_wasRight 23 = .ok (.ireturn, 1) := by decide +kernel
theorem dX12_held_0 : decode cX12_held 0 = .ok (.aload_n 0, 1) := by decide +kernel
theorem dX12_held_1 : decode cX12_held 1 = .ok (.iload_n 1, 1) := by decide +kernel
theorem dX12_held_2 : decode cX12_held 2 = .ok (.invokevirtual 147, 3) := by decide +kernel
theorem dX12_held_5 : decode cX12_held 5 = .ok (.istore_n 2, 1) := by decide +kernel
theorem dX12_held_6 : decode cX12_held 6 = .ok (.aload_n 0, 1) := by decide +kernel
theorem dX12_held_7 : decode cX12_held 7 = .ok (.bipush 60, 2) := by decide +kernel
theorem dX12_held_9 : decode cX12_held 9 = .ok (.invokevirtual 135, 3) := by decide +kernel
theorem dX12_held_12 : decode cX12_held 12 = .ok (.ifCond .eq 18, 3) := by decide +kernel
theorem dX12_held_15 : decode cX12_held 15 = .ok (.iload_n 2, 1) := by decide +kernel
theorem dX12_held_16 : decode cX12_held 16 = .ok (.aload_n 0, 1) := by decide +kernel
theorem dX12_held_17 : decode cX12_held 17 = .ok (.iload_n 1, 1) := by decide +kernel
theorem dX12_held_18 : decode cX12_held 18 = .ok (.invokevirtual 147, 3) := by decide +kernel
theorem dX12_held_21 : decode cX12_held 21 = .ok (.if_icmp .ge 7, 3) := by decide +kernel
theorem dX12_held_24 : decode cX12_held 24 = .ok (.iconst 1, 1) := by decide +kernel
theorem dX12_held_25 : decode cX12_held 25 = .ok (.goto 4, 3) := by decide +kernel
theorem dX12_held_28 : decode cX12_held 28 = .ok (.iconst 0, 1) := by decide +kernel
theorem dX12_held_29 : decode cX12_held 29 = .ok (.ireturn, 1) := by decide +kernel
theorem dX12_held_30 : decode cX12_held 30 = .ok (.aload_n 0, 1) := by decide +kernel
theorem dX12_held_31 : decode cX12_held 31 = .ok (.bipush 62, 2) := by decide +kernel
theorem dX12_held_33 : decode cX12_held 33 = .ok (.invokevirtual 135, 3) := by decide +kernel
theorem dX12_held_36 : decode cX12_held 36 = .ok (.ifCond .eq 18, 3) := by decide +kernel
theorem dX12_held_39 : decode cX12_held 39 = .ok (.iload_n 2, 1) := by decide +kernel
theorem dX12_held_40 : decode cX12_held 40 = .ok (.aload_n 0, 1) := by decide +kernel
theorem dX12_held_41 : decode cX12_held 41 = .ok (.iload_n 1, 1) := by decide +kernel
theorem dX12_held_42 : decode cX12_held 42 = .ok (.invokevirtual 147, 3) := by decide +kernel
theorem dX12_held_45 : decode cX12_held 45 = .ok (.if_icmp .le 7, 3) := by decide +kernel
theorem dX12_held_48 : decode cX12_held 48 = .ok (.iconst 1, 1) := by decide +kernel
theorem dX12_held_49 : decode cX12_held 49 = .ok (.goto 4, 3) := by decide +kernel
theorem dX12_held_52 : decode cX12_held 52 = .ok (.iconst 0, 1) := by decide +kernel
theorem dX12_held_53 : decode cX12_held 53 = .ok (.ireturn, 1) := by decide +kernel
theorem dX12_held_54 : decode cX12_held 54 = .ok (.aload_n 0, 1) := by decide +kernel
theorem dX12_held_55 : decode cX12_held 55 = .ok (.bipush 61, 2) := by decide +kernel
theorem dX12_held_57 : decode cX12_held 57 = .ok (.invokevirtual 135, 3) := by decide +kernel
theorem dX12_held_60 : decode cX12_held 60 = .ok (.ifCond .eq 18, 3) := by decide +kernel
theorem dX12_held_63 : decode cX12_held 63 = .ok (.iload_n 2, 1) := by decide +kernel
theorem dX12_held_64 : decode cX12_held 64 = .ok (.aload_n 0, 1) := by decide +kernel
theorem dX12_held_65 : decode cX12_held 65 = .ok (.iload_n 1, 1) := by decide +kernel
theorem dX12_held_66 : decode cX12_held 66 = .ok (.invokevirtual 147, 3) := by decide +kernel
theorem dX12_held_69 : decode cX12_held 69 = .ok (.if_icmp .ne 7, 3) := by decide +kernel
theorem dX12_held_72 : decode cX12_held 72 = .ok (.iconst 1, 1) := by decide +kernel
theorem dX12_held_73 : decode cX12_held 73 = .ok (.goto 4, 3) := by decide +kernel
theorem dX12_held_76 : decode cX12_held 76 = .ok (.iconst 0, 1) := by decide +kernel
theorem dX12_held_77 : decode cX12_held 77 = .ok (.ireturn, 1) := by decide +kernel
theorem dX12_held_78 : decode cX12_held 78 = .ok (.iload_n 2, 1) := by decide +kernel
theorem dX12_held_79 : decode cX12_held 79 = .ok (.ireturn, 1) := by decide +kernel
theorem dX12_sum_0 : decode cX12_sum 0 = .ok (.aload_n 0, 1) := by decide +kernel
theorem dX12_sum_1 : decode cX12_sum 1 = .ok (.iload_n 1, 1) := by decide +kernel
theorem dX12_sum_2 : decode cX12_sum 2 = .ok (.invokevirtual 151, 3) := by decide +kernel
theorem dX12_sum_5 : decode cX12_sum 5 = .ok (.istore_n 2, 1) := by decide +kernel
theorem dX12_sum_6 : decode cX12_sum 6 = .ok (.aload_n 0, 1) := by decide +kernel
theorem dX12_sum_7 : decode cX12_sum 7 = .ok (.invokevirtual 127, 3) := by decide +kernel
theorem dX12_sum_10 : decode cX12_sum 10 = .ok (.ifCond .eq 72, 3) := by decide +kernel
theorem dX12_sum_13 : decode cX12_sum 13 = .ok (.aload_n 0, 1) := by decide +kernel
theorem dX12_sum_14 : decode cX12_sum 14 = .ok (.invokevirtual 131, 3) := by decide +kernel
theorem dX12_sum_17 : decode cX12_sum 17 = .ok (.bipush 43, 2) := by decide +kernel
theorem dX12_sum_19 : decode cX12_sum 19 = .ok (.if_icmp .eq 12, 3) := by decide +kernel
theorem dX12_sum_22 : decode cX12_sum 22 = .ok (.aload_n 0, 1) := by decide +kernel
theorem dX12_sum_23 : decode cX12_sum 23 = .ok (.invokevirtual 131, 3) := by decide +kernel
theorem dX12_sum_26 : decode cX12_sum 26 = .ok (.bipush 45, 2) := by decide +kernel
theorem dX12_sum_28 : decode cX12_sum 28 = .ok (.if_icmp .ne 54, 3) := by decide +kernel
theorem dX12_sum_31 : decode cX12_sum 31 = .ok (.aload_n 0, 1) := by decide +kernel
theorem dX12_sum_32 : decode cX12_sum 32 = .ok (.invokevirtual 131, 3) := by decide +kernel
theorem dX12_sum_35 : decode cX12_sum 35 = .ok (.bipush 43, 2) := by decide +kernel
theorem dX12_sum_37 : decode cX12_sum 37 = .ok (.if_icmp .ne 7, 3) := by decide +kernel
theorem dX12_sum_40 : decode cX12_sum 40 = .ok (.iconst 1, 1) := by decide +kernel
theorem dX12_sum_41 : decode cX12_sum 41 = .ok (.goto 4, 3) := by decide +kernel
theorem dX12_sum_44 : decode cX12_sum 44 = .ok (.iconst 0, 1) := by decide +kernel
theorem dX12_sum_45 : decode cX12_sum 45 = .ok (.istore_n 3, 1) := by decide +kernel
theorem dX12_sum_46 : decode cX12_sum 46 = .ok (.aload_n 0, 1) := by decide +kernel
theorem dX12_sum_47 : decode cX12_sum 47 = .ok (.dup, 1) := by decide +kernel
theorem dX12_sum_48 : decode cX12_sum 48 = .ok (.getfield 117, 3) := by decide +kernel
theorem dX12_sum_51 : decode cX12_sum 51 = .ok (.iconst 1, 1) := by decide +kernel
theorem dX12_sum_52 : decode cX12_sum 52 = .ok (.iadd, 1) := by decide +kernel
theorem dX12_sum_53 : decode cX12_sum 53 = .ok (.putfield 117, 3) := by decide +kernel
theorem dX12_sum_56 : decode cX12_sum 56 = .ok (.aload_n 0, 1) := by decide +kernel
theorem dX12_sum_57 : decode cX12_sum 57 = .ok (.iload_n 1, 1) := by decide +kernel
theorem dX12_sum_58 : decode cX12_sum 58 = .ok (.invokevirtual 151, 3) := by decide +kernel
theorem dX12_sum_61 : decode cX12_sum 61 = .ok (.istore 4, 2) := by decide +kernel
theorem dX12_sum_63 : decode cX12_sum 63 = .ok (.iload_n 3, 1) := by decide +kernel
theorem dX12_sum_64 : decode cX12_sum 64 = .ok (.ifCond .eq 10, 3) := by decide +kernel
theorem dX12_sum_67 : decode cX12_sum 67 = .ok (.iload_n 2, 1) := by decide +kernel
theorem dX12_sum_68 : decode cX12_sum 68 = .ok (.iload 4, 2) := by decide +kernel
theorem dX12_sum_70 : decode cX12_sum 70 = .ok (.iadd, 1) := by decide +kernel
theorem dX12_sum_71 : decode cX12_sum 71 = .ok (.goto 7, 3) := by decide +kernel
theorem dX12_sum_74 : decode cX12_sum 74 = .ok (.iload_n 2, 1) := by decide +kernel
theorem dX12_sum_75 : decode cX12_sum 75 = .ok (.iload 4, 2) := by decide +kernel
theorem dX12_sum_77 : decode cX12_sum 77 = .ok (.isub, 1) := by decide +kernel
theorem dX12_sum_78 : decode cX12_sum 78 = .ok (.istore_n 2, 1) := by decide +kernel
theorem dX12_sum_79 : decode cX12_sum 79 = .ok (.goto (-73), 3) := by decide +kernel
theorem dX12_sum_82 : decode cX12_sum 82 = .ok (.iload_n 2, 1) := by decide +kernel
theorem dX12_sum_83 : decode cX12_sum 83 = .ok (.ireturn, 1) := by decide +kernel
theorem dX12_product_0 : decode cX12_product 0 = .ok (.aload_n 0, 1) := by decide +kernel
theorem dX12_product_1 : decode cX12_product 1 = .ok (.iload_n 1, 1) := by decide +kernel
theorem dX12_product_2 : decode cX12_product 2 = .ok (.invokevirtual 154, 3) := by decide +kernel
theorem dX12_product_5 : decode cX12_product 5 = .ok (.istore_n 2, 1) := by decide +kernel
theorem dX12_product_6 : decode cX12_product 6 = .ok (.aload_n 0, 1) := by decide +kernel
theorem dX12_product_7 : decode cX12_product 7 = .ok (.invokevirtual 127, 3) := by decide +kernel
theorem dX12_product_10 : decode cX12_product 10 = .ok (.ifCond .eq 81, 3) := by decide +kernel
theorem dX12_product_13 : decode cX12_product 13 = .ok (.aload_n 0, 1) := by decide +kernel
theorem dX12_product_14 : decode cX12_product 14 = .ok (.invokevirtual 131, 3) := by decide +kernel
theorem dX12_product_17 : decode cX12_product 17 = .ok (.bipush 42, 2) := by decide +kernel
theorem dX12_product_19 : decode cX12_product 19 = .ok (.if_icmp .eq 12, 3) := by decide +kernel
theorem dX12_product_22 : decode cX12_product 22 = .ok (.aload_n 0, 1) := by decide +kernel
theorem dX12_product_23 : decode cX12_product 23 = .ok (.invokevirtual 131, 3) := by decide +kernel
theorem dX12_product_26 : decode cX12_product 26 = .ok (.bipush 47, 2) := by decide +kernel
theorem dX12_product_28 : decode cX12_product 28 = .ok (.if_icmp .ne 63, 3) := by decide +kernel
theorem dX12_product_31 : decode cX12_product 31 = .ok (.aload_n 0, 1) := by decide +kernel
theorem dX12_product_32 : decode cX12_product 32 = .ok (.invokevirtual 131, 3) := by decide +kernel
theorem dX12_product_35 : decode cX12_product 35 = .ok (.bipush 42, 2) := by decide +kernel
theorem dX12_product_37 : decode cX12_product 37 = .ok (.if_icmp .ne 7, 3) := by decide +kernel
theorem dX12_product_40 : decode cX12_product 40 = .ok (.iconst 1, 1) := by decide +kernel
theorem dX12_product_41 : decode cX12_product 41 = .ok (.goto 4, 3) := by decide +kernel
theorem dX12_product_44 : decode cX12_product 44 = .ok (.iconst 0, 1) := by decide +kernel
theorem dX12_product_45 : decode cX12_product 45 = .ok (.istore_n 3, 1) := by decide +kernel
theorem dX12_product_46 : decode cX12_product 46 = .ok (.aload_n 0, 1) := by decide +kernel
theorem dX12_product_47 : decode cX12_product 47 = .ok (.dup, 1) := by decide +kernel
theorem dX12_product_48 : decode cX12_product 48 = .ok (.getfield 117, 3) := by decide +kernel
theorem dX12_product_51 : decode cX12_product 51 = .ok (.iconst 1, 1) := by decide +kernel
theorem dX12_product_52 : decode cX12_product 52 = .ok (.iadd, 1) := by decide +kernel
theorem dX12_product_53 : decode cX12_product 53 = .ok (.putfield 117, 3) := by decide +kernel
theorem dX12_product_56 : decode cX12_product 56 = .ok (.aload_n 0, 1) := by decide +kernel
theorem dX12_product_57 : decode cX12_product 57 = .ok (.iload_n 1, 1) := by decide +kernel
theorem dX12_product_58 : decode cX12_product 58 = .ok (.invokevirtual 154, 3) := by decide +kernel
theorem dX12_product_61 : decode cX12_product 61 = .ok (.istore 4, 2) := by decide +kernel
theorem dX12_product_63 : decode cX12_product 63 = .ok (.iload_n 3, 1) := by decide +kernel
theorem dX12_product_64 : decode cX12_product 64 = .ok (.ifCond .eq 10, 3) := by decide +kernel
theorem dX12_product_67 : decode cX12_product 67 = .ok (.iload_n 2, 1) := by decide +kernel
theorem dX12_product_68 : decode cX12_product 68 = .ok (.iload 4, 2) := by decide +kernel
theorem dX12_product_70 : decode cX12_product 70 = .ok (.imul, 1) := by decide +kernel
theorem dX12_product_71 : decode cX12_product 71 = .ok (.goto 16, 3) := by decide +kernel
theorem dX12_product_74 : decode cX12_product 74 = .ok (.iload 4, 2) := by decide +kernel
theorem dX12_product_76 : decode cX12_product 76 = .ok (.ifCond .ne 7, 3) := by decide +kernel
theorem dX12_product_79 : decode cX12_product 79 = .ok (.iconst 0, 1) := by decide +kernel
theorem dX12_product_80 : decode cX12_product 80 = .ok (.goto 7, 3) := by decide +kernel
theorem dX12_product_83 : decode cX12_product 83 = .ok (.iload_n 2, 1) := by decide +kernel
theorem dX12_product_84 : decode cX12_product 84 = .ok (.iload 4, 2) := by decide +kernel
theorem dX12_product_86 : decode cX12_product 86 = .ok (.idiv, 1) := by decide +kernel
theorem dX12_product_87 : decode cX12_product 87 = .ok (.istore_n 2, 1) := by decide +kernel
theorem dX12_product_88 : decode cX12_product 88 = .ok (.goto (-82), 3) := by decide +kernel
theorem dX12_product_91 : decode cX12_product 91 = .ok (.iload_n 2, 1) := by decide +kernel
theorem dX12_product_92 : decode cX12_product 92 = .ok (.ireturn, 1) := by decide +kernel
theorem dX12_letterOf_0 : decode cX12_letterOf 0 = .ok (.iload_n 0, 1) := by decide +kernel
theorem dX12_letterOf_1 : decode cX12_letterOf 1 = .ok (.bipush 110, 2) := by decide +kernel
theorem dX12_letterOf_3 : decode cX12_letterOf 3 = .ok (.if_icmp .ne 7, 3) := by decide +kernel
theorem dX12_letterOf_6 : decode cX12_letterOf 6 = .ok (.iconst 0, 1) := by decide +kernel
theorem dX12_letterOf_7 : decode cX12_letterOf 7 = .ok (.goto 65, 3) := by decide +kernel
theorem dX12_letterOf_10 : decode cX12_letterOf 10 = .ok (.iload_n 0, 1) := by decide +kernel
theorem dX12_letterOf_11 : decode cX12_letterOf 11 = .ok (.bipush 107, 2) := by decide +kernel
theorem dX12_letterOf_13 : decode cX12_letterOf 13 = .ok (.if_icmp .ne 7, 3) := by decide +kernel
theorem dX12_letterOf_16 : decode cX12_letterOf 16 = .ok (.iconst 1, 1) := by decide +kernel
theorem dX12_letterOf_17 : decode cX12_letterOf 17 = .ok (.goto 55, 3) := by decide +kernel
theorem dX12_letterOf_20 : decode cX12_letterOf 20 = .ok (.iload_n 0, 1) := by decide +kernel
theorem dX12_letterOf_21 : decode cX12_letterOf 21 = .ok (.bipush 103, 2) := by decide +kernel
theorem dX12_letterOf_23 : decode cX12_letterOf 23 = .ok (.if_icmp .ne 7, 3) := by decide +kernel
theorem dX12_letterOf_26 : decode cX12_letterOf 26 = .ok (.iconst 2, 1) := by decide +kernel
theorem dX12_letterOf_27 : decode cX12_letterOf 27 = .ok (.goto 45, 3) := by decide +kernel
theorem dX12_letterOf_30 : decode cX12_letterOf 30 = .ok (.iload_n 0, 1) := by decide +kernel
theorem dX12_letterOf_31 : decode cX12_letterOf 31 = .ok (.bipush 105, 2) := by decide +kernel
theorem dX12_letterOf_33 : decode cX12_letterOf 33 = .ok (.if_icmp .ne 7, 3) := by decide +kernel
theorem dX12_letterOf_36 : decode cX12_letterOf 36 = .ok (.iconst 3, 1) := by decide +kernel
theorem dX12_letterOf_37 : decode cX12_letterOf 37 = .ok (.goto 35, 3) := by decide +kernel
theorem dX12_letterOf_40 : decode cX12_letterOf 40 = .ok (.iload_n 0, 1) := by decide +kernel
theorem dX12_letterOf_41 : decode cX12_letterOf 41 = .ok (.bipush 100, 2) := by decide +kernel
theorem dX12_letterOf_43 : decode cX12_letterOf 43 = .ok (.if_icmp .ne 7, 3) := by decide +kernel
theorem dX12_letterOf_46 : decode cX12_letterOf 46 = .ok (.iconst 4, 1) := by decide +kernel
theorem dX12_letterOf_47 : decode cX12_letterOf 47 = .ok (.goto 25, 3) := by decide +kernel
theorem dX12_letterOf_50 : decode cX12_letterOf 50 = .ok (.iload_n 0, 1) := by decide +kernel
theorem dX12_letterOf_51 : decode cX12_letterOf 51 = .ok (.bipush 119, 2) := by decide +kernel
theorem dX12_letterOf_53 : decode cX12_letterOf 53 = .ok (.if_icmp .ne 7, 3) := by decide +kernel
theorem dX12_letterOf_56 : decode cX12_letterOf 56 = .ok (.iconst 5, 1) := by decide +kernel
theorem dX12_letterOf_57 : decode cX12_letterOf 57 = .ok (.goto 15, 3) := by decide +kernel
theorem dX12_letterOf_60 : decode cX12_letterOf 60 = .ok (.iload_n 0, 1) := by decide +kernel
theorem dX12_letterOf_61 : decode cX12_letterOf 61 = .ok (.bipush 113, 2) := by decide +kernel
theorem dX12_letterOf_63 : decode cX12_letterOf 63 = .ok (.if_icmp .ne 8, 3) := by decide +kernel
theorem dX12_letterOf_66 : decode cX12_letterOf 66 = .ok (.bipush 6, 2) := by decide +kernel
theorem dX12_letterOf_68 : decode cX12_letterOf 68 = .ok (.goto 4, 3) := by decide +kernel
theorem dX12_letterOf_71 : decode cX12_letterOf 71 = .ok (.iconst (-1), 1) := by decide +kernel
theorem dX12_letterOf_72 : decode cX12_letterOf 72 = .ok (.ireturn, 1) := by decide +kernel
theorem dX12_thing_0 : decode cX12_thing 0 = .ok (.aload_n 0, 1) := by decide +kernel
theorem dX12_thing_1 : decode cX12_thing 1 = .ok (.bipush 45, 2) := by decide +kernel
theorem dX12_thing_3 : decode cX12_thing 3 = .ok (.invokevirtual 135, 3) := by decide +kernel
theorem dX12_thing_6 : decode cX12_thing 6 = .ok (.ifCond .eq 10, 3) := by decide +kernel
theorem dX12_thing_9 : decode cX12_thing 9 = .ok (.aload_n 0, 1) := by decide +kernel
theorem dX12_thing_10 : decode cX12_thing 10 = .ok (.iload_n 1, 1) := by decide +kernel
theorem dX12_thing_11 : decode cX12_thing 11 = .ok (.invokevirtual 154, 3) := by decide +kernel
theorem dX12_thing_14 : decode cX12_thing 14 = .ok (.ineg, 1) := by decide +kernel
theorem dX12_thing_15 : decode cX12_thing 15 = .ok (.ireturn, 1) := by decide +kernel
theorem dX12_thing_16 : decode cX12_thing 16 = .ok (.aload_n 0, 1) := by decide +kernel
theorem dX12_thing_17 : decode cX12_thing 17 = .ok (.invokevirtual 127, 3) := by decide +kernel
theorem dX12_thing_20 : decode cX12_thing 20 = .ok (.ifCond .ne 5, 3) := by decide +kernel
theorem dX12_thing_23 : decode cX12_thing 23 = .ok (.iconst 0, 1) := by decide +kernel
theorem dX12_thing_24 : decode cX12_thing 24 = .ok (.ireturn, 1) := by decide +kernel
theorem dX12_thing_25 : decode cX12_thing 25 = .ok (.aload_n 0, 1) := by decide +kernel
theorem dX12_thing_26 : decode cX12_thing 26 = .ok (.invokevirtual 131, 3) := by decide +kernel
theorem dX12_thing_29 : decode cX12_thing 29 = .ok (.istore_n 2, 1) := by decide +kernel
theorem dX12_thing_30 : decode cX12_thing 30 = .ok (.iload_n 2, 1) := by decide +kernel
theorem dX12_thing_31 : decode cX12_thing 31 = .ok (.bipush 40, 2) := by decide +kernel
theorem dX12_thing_33 : decode cX12_thing 33 = .ok (.if_icmp .ne 34, 3) := by decide +kernel
theorem dX12_thing_36 : decode cX12_thing 36 = .ok (.iload_n 1, 1) := by decide +kernel
theorem dX12_thing_37 : decode cX12_thing 37 = .ok (.iconst 4, 1) := by decide +kernel
theorem dX12_thing_38 : decode cX12_thing 38 = .ok (.if_icmp .ge 29, 3) := by decide +kernel
theorem dX12_thing_41 : decode cX12_thing 41 = .ok (.aload_n 0, 1) := by decide +kernel
theorem dX12_thing_42 : decode cX12_thing 42 = .ok (.dup, 1) := by decide +kernel
theorem dX12_thing_43 : decode cX12_thing 43 = .ok (.getfield 117, 3) := by decide +kernel
theorem dX12_thing_46 : decode cX12_thing 46 = .ok (.iconst 1, 1) := by decide +kernel
theorem dX12_thing_47 : decode cX12_thing 47 = .ok (.iadd, 1) := by decide +kernel
theorem dX12_thing_48 : decode cX12_thing 48 = .ok (.putfield 117, 3) := by decide +kernel
theorem dX12_thing_51 : decode cX12_thing 51 = .ok (.aload_n 0, 1) := by decide +kernel
theorem dX12_thing_52 : decode cX12_thing 52 = .ok (.iload_n 1, 1) := by decide +kernel
theorem dX12_thing_53 : decode cX12_thing 53 = .ok (.iconst 1, 1) := by decide +kernel
theorem dX12_thing_54 : decode cX12_thing 54 = .ok (.iadd, 1) := by decide +kernel
theorem dX12_thing_55 : decode cX12_thing 55 = .ok (.invokevirtual 157, 3) := by decide +kernel
theorem dX12_thing_58 : decode cX12_thing 58 = .ok (.istore_n 3, 1) := by decide +kernel
theorem dX12_thing_59 : decode cX12_thing 59 = .ok (.aload_n 0, 1) := by decide +kernel
theorem dX12_thing_60 : decode cX12_thing 60 = .ok (.bipush 41, 2) := by decide +kernel
theorem dX12_thing_62 : decode cX12_thing 62 = .ok (.invokevirtual 160, 3) := by decide +kernel
theorem dX12_thing_65 : decode cX12_thing 65 = .ok (.iload_n 3, 1) := by decide +kernel
theorem dX12_thing_66 : decode cX12_thing 66 = .ok (.ireturn, 1) := by decide +kernel
theorem dX12_thing_67 : decode cX12_thing 67 = .ok (.iload_n 2, 1) := by decide +kernel
theorem dX12_thing_68 : decode cX12_thing 68 = .ok (.bipush 48, 2) := by decide +kernel
theorem dX12_thing_70 : decode cX12_thing 70 = .ok (.bipush 57, 2) := by decide +kernel
theorem dX12_thing_72 : decode cX12_thing 72 = .ok (.invokestatic 86, 3) := by decide +kernel
theorem dX12_thing_75 : decode cX12_thing 75 = .ok (.ifCond .eq 9, 3) := by decide +kernel
theorem dX12_thing_78 : decode cX12_thing 78 = .ok (.aload_n 0, 1) := by decide +kernel
theorem dX12_thing_79 : decode cX12_thing 79 = .ok (.iconst 3, 1) := by decide +kernel
theorem dX12_thing_80 : decode cX12_thing 80 = .ok (.invokevirtual 164, 3) := by decide +kernel
theorem dX12_thing_83 : decode cX12_thing 83 = .ok (.ireturn, 1) := by decide +kernel
theorem dX12_thing_84 : decode cX12_thing 84 = .ok (.iload_n 2, 1) := by decide +kernel
theorem dX12_thing_85 : decode cX12_thing 85 = .ok (.invokestatic 167, 3) := by decide +kernel
theorem dX12_thing_88 : decode cX12_thing 88 = .ok (.iconst (-1), 1) := by decide +kernel
theorem dX12_thing_89 : decode cX12_thing 89 = .ok (.if_icmp .ne 13, 3) := by decide +kernel
theorem dX12_thing_92 : decode cX12_thing 92 = .ok (.aload_n 0, 1) := by decide +kernel
theorem dX12_thing_93 : decode cX12_thing 93 = .ok (.aload_n 0, 1) := by decide +kernel
theorem dX12_thing_94 : decode cX12_thing 94 = .ok (.getfield 117, 3) := by decide +kernel
theorem dX12_thing_97 : decode cX12_thing 97 = .ok (.invokevirtual 139, 3) := by decide +kernel
theorem dX12_thing_100 : decode cX12_thing 100 = .ok (.iconst 0, 1) := by decide +kernel
theorem dX12_thing_101 : decode cX12_thing 101 = .ok (.ireturn, 1) := by decide +kernel
theorem dX12_thing_102 : decode cX12_thing 102 = .ok (.aload_n 0, 1) := by decide +kernel
theorem dX12_thing_103 : decode cX12_thing 103 = .ok (.dup, 1) := by decide +kernel
theorem dX12_thing_104 : decode cX12_thing 104 = .ok (.getfield 117, 3) := by decide +kernel
theorem dX12_thing_107 : decode cX12_thing 107 = .ok (.iconst 1, 1) := by decide +kernel
theorem dX12_thing_108 : decode cX12_thing 108 = .ok (.iadd, 1) := by decide +kernel
theorem dX12_thing_109 : decode cX12_thing 109 = .ok (.putfield 117, 3) := by decide +kernel
theorem dX12_thing_112 : decode cX12_thing 112 = .ok (.aload_n 0, 1) := by decide +kernel
theorem dX12_thing_113 : decode cX12_thing 113 = .ok (.getfield 170, 3) := by decide +kernel
theorem dX12_thing_116 : decode cX12_thing 116 = .ok (.ifCond .eq 15, 3) := by decide +kernel
theorem dX12_thing_119 : decode cX12_thing 119 = .ok (.aload_n 0, 1) := by decide +kernel
theorem dX12_thing_120 : decode cX12_thing 120 = .ok (.getfield 27, 3) := by decide +kernel
theorem dX12_thing_123 : decode cX12_thing 123 = .ok (.iload_n 2, 1) := by decide +kernel
theorem dX12_thing_124 : decode cX12_thing 124 = .ok (.invokestatic 167, 3) := by decide +kernel
theorem dX12_thing_127 : decode cX12_thing 127 = .ok (.iaload, 1) := by decide +kernel
theorem dX12_thing_128 : decode cX12_thing 128 = .ok (.goto 4, 3) := by decide +kernel
theorem dX12_thing_131 : decode cX12_thing 131 = .ok (.iconst 0, 1) := by decide +kernel
theorem dX12_thing_132 : decode cX12_thing 132 = .ok (.ireturn, 1) := by decide +kernel
theorem dX12_readRule_0 : decode cX12_readRule 0 = .ok (.aload_n 0, 1) := by decide +kernel
theorem dX12_readRule_1 : decode cX12_readRule 1 = .ok (.bipush 40, 2) := by decide +kernel
theorem dX12_readRule_3 : decode cX12_readRule 3 = .ok (.invokevirtual 174, 3) := by decide +kernel
theorem dX12_readRule_6 : decode cX12_readRule 6 = .ok (.aload_n 0, 1) := by decide +kernel
theorem dX12_readRule_7 : decode cX12_readRule 7 = .ok (.iconst 0, 1) := by decide +kernel
theorem dX12_readRule_8 : decode cX12_readRule 8 = .ok (.putfield 170, 3) := by decide +kernel
theorem dX12_readRule_11 : decode cX12_readRule 11 = .ok (.aload_n 0, 1) := by decide +kernel
theorem dX12_readRule_12 : decode cX12_readRule 12 = .ok (.getfield 111, 3) := by decide +kernel
theorem dX12_readRule_15 : decode cX12_readRule 15 = .ok (.ifCond .le 9, 3) := by decide +kernel
theorem dX12_readRule_18 : decode cX12_readRule 18 = .ok (.aload_n 0, 1) := by decide +kernel
theorem dX12_readRule_19 : decode cX12_readRule 19 = .ok (.iconst 0, 1) := by decide +kernel
theorem dX12_readRule_20 : decode cX12_readRule 20 = .ok (.invokevirtual 157, 3) := by decide +kernel
theorem dX12_readRule_23 : decode cX12_readRule 23 = .ok (.pop, 1) := by decide +kernel
theorem dX12_readRule_24 : decode cX12_readRule 24 = .ok (.aload_n 0, 1) := by decide +kernel
theorem dX12_readRule_25 : decode cX12_readRule 25 = .ok (.invokevirtual 177, 3) := by decide +kernel
theorem dX12_readRule_28 : decode cX12_readRule 28 = .ok (.ireturn, 1) := by decide +kernel
theorem dX12_rule_0 : decode cX12_rule 0 = .ok (.aload_n 0, 1) := by decide +kernel
theorem dX12_rule_1 : decode cX12_rule 1 = .ok (.iconst 0, 1) := by decide +kernel
theorem dX12_rule_2 : decode cX12_rule 2 = .ok (.putfield 79, 3) := by decide +kernel
theorem dX12_rule_5 : decode cX12_rule 5 = .ok (.aload_n 0, 1) := by decide +kernel
theorem dX12_rule_6 : decode cX12_rule 6 = .ok (.getfield 105, 3) := by decide +kernel
theorem dX12_rule_9 : decode cX12_rule 9 = .ok (.istore_n 1, 1) := by decide +kernel
theorem dX12_rule_10 : decode cX12_rule 10 = .ok (.aload_n 0, 1) := by decide +kernel
theorem dX12_rule_11 : decode cX12_rule 11 = .ok (.invokevirtual 180, 3) := by decide +kernel
theorem dX12_rule_14 : decode cX12_rule 14 = .ok (.ifCond .ne 10, 3) := by decide +kernel
theorem dX12_rule_17 : decode cX12_rule 17 = .ok (.iconst (-1), 1) := by decide +kernel
theorem dX12_rule_18 : decode cX12_rule 18 = .ok (.aload_n 0, 1) := by decide +kernel
theorem dX12_rule_19 : decode cX12_rule 19 = .ok (.getfield 120, 3) := by decide +kernel
theorem dX12_rule_22 : decode cX12_rule 22 = .ok (.isub, 1) := by decide +kernel
theorem dX12_rule_23 : decode cX12_rule 23 = .ok (.ireturn, 1) := by decide +kernel
theorem dX12_rule_24 : decode cX12_rule 24 = .ok (.iconst 0, 1) := by decide +kernel
theorem dX12_rule_25 : decode cX12_rule 25 = .ok (.istore_n 2, 1) := by decide +kernel
theorem dX12_rule_26 : decode cX12_rule 26 = .ok (.iload_n 2, 1) := by decide +kernel
theorem dX12_rule_27 : decode cX12_rule 27 = .ok (.iload_n 1, 1) := by decide +kernel
theorem dX12_rule_28 : decode cX12_rule 28 = .ok (.if_icmp .ge 21, 3) := by decide +kernel
theorem dX12_rule_31 : decode cX12_rule 31 = .ok (.aload_n 0, 1) := by decide +kernel
theorem dX12_rule_32 : decode cX12_rule 32 = .ok (.getfield 21, 3) := by decide +kernel
theorem dX12_rule_35 : decode cX12_rule 35 = .ok (.iload_n 2, 1) := by decide +kernel
theorem dX12_rule_36 : decode cX12_rule 36 = .ok (.aload_n 0, 1) := by decide +kernel
theorem dX12_rule_37 : decode cX12_rule 37 = .ok (.getfield 13, 3) := by decide +kernel
theorem dX12_rule_40 : decode cX12_rule 40 = .ok (.iload_n 2, 1) := by decide +kernel
theorem dX12_rule_41 : decode cX12_rule 41 = .ok (.baload, 1) := by decide +kernel
theorem dX12_rule_42 : decode cX12_rule 42 = .ok (.bastore, 1) := by decide +kernel
theorem dX12_rule_43 : decode cX12_rule 43 = .ok (.iinc 2 1, 3) := by decide +kernel
theorem dX12_rule_46 : decode cX12_rule 46 = .ok (.goto (-20), 3) := by decide +kernel
theorem dX12_rule_49 : decode cX12_rule 49 = .ok (.aload_n 0, 1) := by decide +kernel
theorem dX12_rule_50 : decode cX12_rule 50 = .ok (.iload_n 1, 1) := by decide +kernel
theorem dX12_rule_51 : decode cX12_rule 51 = .ok (.putfield 183, 3) := by decide +kernel
theorem dX12_rule_54 : decode cX12_rule 54 = .ok (.iconst 0, 1) := by decide +kernel
theorem dX12_rule_55 : decode cX12_rule 55 = .ok (.ireturn, 1) := by decide +kernel
theorem dX12_isLet_0 : decode cX12_isLet 0 = .ok (.aload_n 0, 1) := by decide +kernel
theorem dX12_isLet_1 : decode cX12_isLet 1 = .ok (.getfield 183, 3) := by decide +kernel
theorem dX12_isLet_4 : decode cX12_isLet 4 = .ok (.ifCond .ne 5, 3) := by decide +kernel
theorem dX12_isLet_7 : decode cX12_isLet 7 = .ok (.iconst 1, 1) := by decide +kernel
theorem dX12_isLet_8 : decode cX12_isLet 8 = .ok (.ireturn, 1) := by decide +kernel
theorem dX12_isLet_9 : decode cX12_isLet 9 = .ok (.aload_n 1, 1) := by decide +kernel
theorem dX12_isLet_10 : decode cX12_isLet 10 = .ok (.bipush 48, 2) := by decide +kernel
theorem dX12_isLet_12 : decode cX12_isLet 12 = .ok (.iload_n 2, 1) := by decide +kernel
theorem dX12_isLet_13 : decode cX12_isLet 13 = .ok (.iadd, 1) := by decide +kernel
theorem dX12_isLet_14 : decode cX12_isLet 14 = .ok (.iaload, 1) := by decide +kernel
theorem dX12_isLet_15 : decode cX12_isLet 15 = .ok (.istore 4, 2) := by decide +kernel
theorem dX12_isLet_17 : decode cX12_isLet 17 = .ok (.aload_n 0, 1) := by decide +kernel
theorem dX12_isLet_18 : decode cX12_isLet 18 = .ok (.getfield 27, 3) := by decide +kernel
theorem dX12_isLet_21 : decode cX12_isLet 21 = .ok (.iconst 0, 1) := by decide +kernel
theorem dX12_isLet_22 : decode cX12_isLet 22 = .ok (.aload_n 1, 1) := by decide +kernel
theorem dX12_isLet_23 : decode cX12_isLet 23 = .ok (.iload_n 2, 1) := by decide +kernel
theorem dX12_isLet_24 : decode cX12_isLet 24 = .ok (.invokestatic 186, 3) := by decide +kernel
theorem dX12_isLet_27 : decode cX12_isLet 27 = .ok (.iastore, 1) := by decide +kernel
theorem dX12_isLet_28 : decode cX12_isLet 28 = .ok (.aload_n 0, 1) := by decide +kernel
theorem dX12_isLet_29 : decode cX12_isLet 29 = .ok (.getfield 27, 3) := by decide +kernel
theorem dX12_isLet_32 : decode cX12_isLet 32 = .ok (.iconst 1, 1) := by decide +kernel
theorem dX12_isLet_33 : decode cX12_isLet 33 = .ok (.aload_n 1, 1) := by decide +kernel
theorem dX12_isLet_34 : decode cX12_isLet 34 = .ok (.iload_n 2, 1) := by decide +kernel
theorem dX12_isLet_35 : decode cX12_isLet 35 = .ok (.invokestatic 189, 3) := by decide +kernel
theorem dX12_isLet_38 : decode cX12_isLet 38 = .ok (.iastore, 1) := by decide +kernel
theorem dX12_isLet_39 : decode cX12_isLet 39 = .ok (.aload_n 0, 1) := by decide +kernel
theorem dX12_isLet_40 : decode cX12_isLet 40 = .ok (.getfield 27, 3) := by decide +kernel
theorem dX12_isLet_43 : decode cX12_isLet 43 = .ok (.iconst 2, 1) := by decide +kernel
theorem dX12_isLet_44 : decode cX12_isLet 44 = .ok (.iload 4, 2) := by decide +kernel
theorem dX12_isLet_46 : decode cX12_isLet 46 = .ok (.ifCond .ne 7, 3) := by decide +kernel
theorem dX12_isLet_49 : decode cX12_isLet 49 = .ok (.iconst 0, 1) := by decide +kernel
theorem dX12_isLet_50 : decode cX12_isLet 50 = .ok (.goto 12, 3) := by decide +kernel
theorem dX12_isLet_53 : decode cX12_isLet 53 = .ok (.aload_n 1, 1) := by decide +kernel
theorem dX12_isLet_54 : decode cX12_isLet 54 = .ok (.iload 4, 2) := by decide +kernel
theorem dX12_isLet_56 : decode cX12_isLet 56 = .ok (.invokestatic 98, 3) := by decide +kernel
theorem dX12_isLet_59 : decode cX12_isLet 59 = .ok (.invokestatic 192, 3) := by decide +kernel
theorem dX12_isLet_62 : decode cX12_isLet 62 = .ok (.iastore, 1) := by decide +kernel
theorem dX12_isLet_63 : decode cX12_isLet 63 = .ok (.aload_n 0, 1) := by decide +kernel
theorem dX12_isLet_64 : decode cX12_isLet 64 = .ok (.getfield 27, 3) := by decide +kernel
theorem dX12_isLet_67 : decode cX12_isLet 67 = .ok (.iconst 3, 1) := by decide +kernel
theorem dX12_isLet_68 : decode cX12_isLet 68 = .ok (.iload_n 2, 1) := by decide +kernel
theorem dX12_isLet_69 : decode cX12_isLet 69 = .ok (.iastore, 1) := by decide +kernel
theorem dX12_isLet_70 : decode cX12_isLet 70 = .ok (.aload_n 0, 1) := by decide +kernel
theorem dX12_isLet_71 : decode cX12_isLet 71 = .ok (.getfield 27, 3) := by decide +kernel
theorem dX12_isLet_74 : decode cX12_isLet 74 = .ok (.iconst 4, 1) := by decide +kernel
theorem dX12_isLet_75 : decode cX12_isLet 75 = .ok (.iload_n 3, 1) := by decide +kernel
theorem dX12_isLet_76 : decode cX12_isLet 76 = .ok (.iastore, 1) := by decide +kernel
theorem dX12_isLet_77 : decode cX12_isLet 77 = .ok (.aload_n 0, 1) := by decide +kernel
theorem dX12_isLet_78 : decode cX12_isLet 78 = .ok (.getfield 27, 3) := by decide +kernel
theorem dX12_isLet_81 : decode cX12_isLet 81 = .ok (.iconst 5, 1) := by decide +kernel
theorem dX12_isLet_82 : decode cX12_isLet 82 = .ok (.aload_n 1, 1) := by decide +kernel
theorem dX12_isLet_83 : decode cX12_isLet 83 = .ok (.bipush 120, 2) := by decide +kernel
theorem dX12_isLet_85 : decode cX12_isLet 85 = .ok (.iaload, 1) := by decide +kernel
theorem dX12_isLet_86 : decode cX12_isLet 86 = .ok (.bipush 7, 2) := by decide +kernel
theorem dX12_isLet_88 : decode cX12_isLet 88 = .ok (.irem, 1) := by decide +kernel
theorem dX12_isLet_89 : decode cX12_isLet 89 = .ok (.iastore, 1) := by decide +kernel
theorem dX12_isLet_90 : decode cX12_isLet 90 = .ok (.aload_n 0, 1) := by decide +kernel
theorem dX12_isLet_91 : decode cX12_isLet 91 = .ok (.getfield 27, 3) := by decide +kernel
theorem dX12_isLet_94 : decode cX12_isLet 94 = .ok (.bipush 6, 2) := by decide +kernel
theorem dX12_isLet_96 : decode cX12_isLet 96 = .ok (.aload_n 1, 1) := by decide +kernel
theorem dX12_isLet_97 : decode cX12_isLet 97 = .ok (.iload_n 2, 1) := by decide +kernel
theorem dX12_isLet_98 : decode cX12_isLet 98 = .ok (.invokestatic 197, 3) := by decide +kernel
theorem dX12_isLet_101 : decode cX12_isLet 101 = .ok (.iastore, 1) := by decide +kernel
theorem dX12_isLet_102 : decode cX12_isLet 102 = .ok (.aload_n 0, 1) := by decide +kernel
theorem dX12_isLet_103 : decode cX12_isLet 103 = .ok (.aload_n 0, 1) := by decide +kernel
theorem dX12_isLet_104 : decode cX12_isLet 104 = .ok (.getfield 21, 3) := by decide +kernel
theorem dX12_isLet_107 : decode cX12_isLet 107 = .ok (.aload_n 0, 1) := by decide +kernel
theorem dX12_isLet_108 : decode cX12_isLet 108 = .ok (.getfield 183, 3) := by decide +kernel
theorem dX12_isLet_111 : decode cX12_isLet 111 = .ok (.bipush 40, 2) := by decide +kernel
theorem dX12_isLet_113 : decode cX12_isLet 113 = .ok (.invokevirtual 123, 3) := by decide +kernel
theorem dX12_isLet_116 : decode cX12_isLet 116 = .ok (.aload_n 0, 1) := by decide +kernel
theorem dX12_isLet_117 : decode cX12_isLet 117 = .ok (.iconst 1, 1) := by decide +kernel
theorem dX12_isLet_118 : decode cX12_isLet 118 = .ok (.putfield 170, 3) := by decide +kernel
theorem dX12_isLet_121 : decode cX12_isLet 121 = .ok (.aload_n 0, 1) := by decide +kernel
theorem dX12_isLet_122 : decode cX12_isLet 122 = .ok (.iconst 0, 1) := by decide +kernel
theorem dX12_isLet_123 : decode cX12_isLet 123 = .ok (.invokevirtual 157, 3) := by decide +kernel
theorem dX12_isLet_126 : decode cX12_isLet 126 = .ok (.istore 5, 2) := by decide +kernel
theorem dX12_isLet_128 : decode cX12_isLet 128 = .ok (.aload_n 0, 1) := by decide +kernel
theorem dX12_isLet_129 : decode cX12_isLet 129 = .ok (.iconst 0, 1) := by decide +kernel
theorem dX12_isLet_130 : decode cX12_isLet 130 = .ok (.putfield 170, 3) := by decide +kernel
theorem dX12_isLet_133 : decode cX12_isLet 133 = .ok (.iload 5, 2) := by decide +kernel
theorem dX12_isLet_135 : decode cX12_isLet 135 = .ok (.ifCond .le 7, 3) := by decide +kernel
theorem dX12_isLet_138 : decode cX12_isLet 138 = .ok (.iconst 1, 1) := by decide +kernel
theorem dX12_isLet_139 : decode cX12_isLet 139 = .ok (.goto 4, 3) := by decide +kernel
theorem dX12_isLet_142 : decode cX12_isLet 142 = .ok (.iconst 0, 1) := by decide +kernel
theorem dX12_isLet_143 : decode cX12_isLet 143 = .ok (.ireturn, 1) := by decide +kernel
theorem dX12_readPath_0 : decode cX12_readPath 0 = .ok (.aload_n 0, 1) := by decide +kernel
theorem dX12_readPath_1 : decode cX12_readPath 1 = .ok (.getfield 200, 3) := by decide +kernel
theorem dX12_readPath_4 : decode cX12_readPath 4 = .ok (.istore_n 1, 1) := by decide +kernel
theorem dX12_readPath_5 : decode cX12_readPath 5 = .ok (.iconst 0, 1) := by decide +kernel
theorem dX12_readPath_6 : decode cX12_readPath 6 = .ok (.istore_n 2, 1) := by decide +kernel
theorem dX12_readPath_7 : decode cX12_readPath 7 = .ok (.iload_n 2, 1) := by decide +kernel
theorem dX12_readPath_8 : decode cX12_readPath 8 = .ok (.bipush 12, 2) := by decide +kernel
theorem dX12_readPath_10 : decode cX12_readPath 10 = .ok (.if_icmp .ne 11, 3) := by decide +kernel
theorem dX12_readPath_13 : decode cX12_readPath 13 = .ok (.aload_n 0, 1) := by decide +kernel
theorem dX12_readPath_14 : decode cX12_readPath 14 = .ok (.aload_n 0, 1) := by decide +kernel
theorem dX12_readPath_15 : decode cX12_readPath 15 = .ok (.getfield 117, 3) := by decide +kernel
theorem dX12_readPath_18 : decode cX12_readPath 18 = .ok (.invokevirtual 139, 3) := by decide +kernel
theorem dX12_readPath_21 : decode cX12_readPath 21 = .ok (.aload_n 0, 1) := by decide +kernel
theorem dX12_readPath_22 : decode cX12_readPath 22 = .ok (.getfield 30, 3) := by decide +kernel
theorem dX12_readPath_25 : decode cX12_readPath 25 = .ok (.aload_n 0, 1) := by decide +kernel
theorem dX12_readPath_26 : decode cX12_readPath 26 = .ok (.getfield 200, 3) := by decide +kernel
theorem dX12_readPath_29 : decode cX12_readPath 29 = .ok (.aload_n 0, 1) := by decide +kernel
theorem dX12_readPath_30 : decode cX12_readPath 30 = .ok (.bipush 97, 2) := by decide +kernel
theorem dX12_readPath_32 : decode cX12_readPath 32 = .ok (.iconst 4, 1) := by decide +kernel
theorem dX12_readPath_33 : decode cX12_readPath 33 = .ok (.invokevirtual 143, 3) := by decide +kernel
theorem dX12_readPath_36 : decode cX12_readPath 36 = .ok (.i2b, 1) := by decide +kernel
theorem dX12_readPath_37 : decode cX12_readPath 37 = .ok (.bastore, 1) := by decide +kernel
theorem dX12_readPath_38 : decode cX12_readPath 38 = .ok (.aload_n 0, 1) := by decide +kernel
theorem dX12_readPath_39 : decode cX12_readPath 39 = .ok (.dup, 1) := by decide +kernel
theorem dX12_readPath_40 : decode cX12_readPath 40 = .ok (.getfield 200, 3) := by decide +kernel
theorem dX12_readPath_43 : decode cX12_readPath 43 = .ok (.iconst 1, 1) := by decide +kernel
theorem dX12_readPath_44 : decode cX12_readPath 44 = .ok (.iadd, 1) := by decide +kernel
theorem dX12_readPath_45 : decode cX12_readPath 45 = .ok (.putfield 200, 3) := by decide +kernel
theorem dX12_readPath_48 : decode cX12_readPath 48 = .ok (.iinc 2 1, 3) := by decide +kernel
theorem dX12_readPath_51 : decode cX12_readPath 51 = .ok (.aload_n 0, 1) := by decide +kernel
theorem dX12_readPath_52 : decode cX12_readPath 52 = .ok (.invokevirtual 127, 3) := by decide +kernel
theorem dX12_readPath_55 : decode cX12_readPath 55 = .ok (.ifCond .eq 17, 3) := by decide +kernel
theorem dX12_readPath_58 : decode cX12_readPath 58 = .ok (.aload_n 0, 1) := by decide +kernel
theorem dX12_readPath_59 : decode cX12_readPath 59 = .ok (.invokevirtual 131, 3) := by decide +kernel
theorem dX12_readPath_62 : decode cX12_readPath 62 = .ok (.bipush 97, 2) := by decide +kernel
theorem dX12_readPath_64 : decode cX12_readPath 64 = .ok (.bipush 100, 2) := by decide +kernel
theorem dX12_readPath_66 : decode cX12_readPath 66 = .ok (.invokestatic 86, 3) := by decide +kernel
theorem dX12_readPath_69 : decode cX12_readPath 69 = .ok (.ifCond .ne (-62), 3) := by decide +kernel
theorem dX12_readPath_72 : decode cX12_readPath 72 = .ok (.aload_n 0, 1) := by decide +kernel
theorem dX12_readPath_73 : decode cX12_readPath 73 = .ok (.getfield 30, 3) := by decide +kernel
theorem dX12_readPath_76 : decode cX12_readPath 76 = .ok (.aload_n 0, 1) := by decide +kernel
theorem dX12_readPath_77 : decode cX12_readPath 77 = .ok (.getfield 200, 3) := by decide +kernel
theorem dX12_readPath_80 : decode cX12_readPath 80 = .ok (.iconst 4, 1) := by decide +kernel
theorem dX12_readPath_81 : decode cX12_readPath 81 = .ok (.bastore, 1) := by decide +kernel
theorem dX12_readPath_82 : decode cX12_readPath 82 = .ok (.aload_n 0, 1) := by decide +kernel
theorem dX12_readPath_83 : decode cX12_readPath 83 = .ok (.dup, 1) := by decide +kernel
theorem dX12_readPath_84 : decode cX12_readPath 84 = .ok (.getfield 200, 3) := by decide +kernel
theorem dX12_readPath_87 : decode cX12_readPath 87 = .ok (.iconst 1, 1) := by decide +kernel
theorem dX12_readPath_88 : decode cX12_readPath 88 = .ok (.iadd, 1) := by decide +kernel
theorem dX12_readPath_89 : decode cX12_readPath 89 = .ok (.putfield 200, 3) := by decide +kernel
theorem dX12_readPath_92 : decode cX12_readPath 92 = .ok (.iload_n 1, 1) := by decide +kernel
theorem dX12_readPath_93 : decode cX12_readPath 93 = .ok (.ireturn, 1) := by decide +kernel
theorem dX12_goPath_0 : decode cX12_goPath 0 = .ok (.aload_n 0, 1) := by decide +kernel
theorem dX12_goPath_1 : decode cX12_goPath 1 = .ok (.iconst 0, 1) := by decide +kernel
theorem dX12_goPath_2 : decode cX12_goPath 2 = .ok (.putfield 203, 3) := by decide +kernel
theorem dX12_goPath_5 : decode cX12_goPath 5 = .ok (.aload_n 0, 1) := by decide +kernel
theorem dX12_goPath_6 : decode cX12_goPath 6 = .ok (.aload_n 0, 1) := by decide +kernel
theorem dX12_goPath_7 : decode cX12_goPath 7 = .ok (.getfield 30, 3) := by decide +kernel
theorem dX12_goPath_10 : decode cX12_goPath 10 = .ok (.iload_n 2, 1) := by decide +kernel
theorem dX12_goPath_11 : decode cX12_goPath 11 = .ok (.baload, 1) := by decide +kernel
theorem dX12_goPath_12 : decode cX12_goPath 12 = .ok (.putfield 206, 3) := by decide +kernel
theorem dX12_goPath_15 : decode cX12_goPath 15 = .ok (.aload_n 0, 1) := by decide +kernel
theorem dX12_goPath_16 : decode cX12_goPath 16 = .ok (.iconst 1, 1) := by decide +kernel
theorem dX12_goPath_17 : decode cX12_goPath 17 = .ok (.putfield 209, 3) := by decide +kernel
theorem dX12_goPath_20 : decode cX12_goPath 20 = .ok (.aload_n 0, 1) := by decide +kernel
theorem dX12_goPath_21 : decode cX12_goPath 21 = .ok (.getfield 30, 3) := by decide +kernel
theorem dX12_goPath_24 : decode cX12_goPath 24 = .ok (.iload_n 2, 1) := by decide +kernel
theorem dX12_goPath_25 : decode cX12_goPath 25 = .ok (.aload_n 0, 1) := by decide +kernel
theorem dX12_goPath_26 : decode cX12_goPath 26 = .ok (.getfield 209, 3) := by decide +kernel
theorem dX12_goPath_29 : decode cX12_goPath 29 = .ok (.iadd, 1) := by decide +kernel
theorem dX12_goPath_30 : decode cX12_goPath 30 = .ok (.baload, 1) := by decide +kernel
theorem dX12_goPath_31 : decode cX12_goPath 31 = .ok (.iconst 4, 1) := by decide +kernel
theorem dX12_goPath_32 : decode cX12_goPath 32 = .ok (.if_icmp .eq 57, 3) := by decide +kernel
theorem dX12_goPath_35 : decode cX12_goPath 35 = .ok (.aload_n 1, 1) := by decide +kernel
theorem dX12_goPath_36 : decode cX12_goPath 36 = .ok (.aload_n 0, 1) := by decide +kernel
theorem dX12_goPath_37 : decode cX12_goPath 37 = .ok (.getfield 203, 3) := by decide +kernel
theorem dX12_goPath_40 : decode cX12_goPath 40 = .ok (.aload_n 0, 1) := by decide +kernel
theorem dX12_goPath_41 : decode cX12_goPath 41 = .ok (.getfield 206, 3) := by decide +kernel
theorem dX12_goPath_44 : decode cX12_goPath 44 = .ok (.invokestatic 212, 3) := by decide +kernel
theorem dX12_goPath_47 : decode cX12_goPath 47 = .ok (.istore_n 3, 1) := by decide +kernel
theorem dX12_goPath_48 : decode cX12_goPath 48 = .ok (.iload_n 3, 1) := by decide +kernel
theorem dX12_goPath_49 : decode cX12_goPath 49 = .ok (.bipush 24, 2) := by decide +kernel
theorem dX12_goPath_51 : decode cX12_goPath 51 = .ok (.if_icmp .ne 5, 3) := by decide +kernel
theorem dX12_goPath_54 : decode cX12_goPath 54 = .ok (.iconst 0, 1) := by decide +kernel
theorem dX12_goPath_55 : decode cX12_goPath 55 = .ok (.ireturn, 1) := by decide +kernel
theorem dX12_goPath_56 : decode cX12_goPath 56 = .ok (.aload_n 0, 1) := by decide +kernel
theorem dX12_goPath_57 : decode cX12_goPath 57 = .ok (.iload_n 3, 1) := by decide +kernel
theorem dX12_goPath_58 : decode cX12_goPath 58 = .ok (.putfield 203, 3) := by decide +kernel
theorem dX12_goPath_61 : decode cX12_goPath 61 = .ok (.aload_n 0, 1) := by decide +kernel
theorem dX12_goPath_62 : decode cX12_goPath 62 = .ok (.aload_n 0, 1) := by decide +kernel
theorem dX12_goPath_63 : decode cX12_goPath 63 = .ok (.getfield 30, 3) := by decide +kernel
theorem dX12_goPath_66 : decode cX12_goPath 66 = .ok (.iload_n 2, 1) := by decide +kernel
theorem dX12_goPath_67 : decode cX12_goPath 67 = .ok (.aload_n 0, 1) := by decide +kernel
theorem dX12_goPath_68 : decode cX12_goPath 68 = .ok (.getfield 209, 3) := by decide +kernel
theorem dX12_goPath_71 : decode cX12_goPath 71 = .ok (.iadd, 1) := by decide +kernel
theorem dX12_goPath_72 : decode cX12_goPath 72 = .ok (.baload, 1) := by decide +kernel
theorem dX12_goPath_73 : decode cX12_goPath 73 = .ok (.putfield 206, 3) := by decide +kernel
theorem dX12_goPath_76 : decode cX12_goPath 76 = .ok (.aload_n 0, 1) := by decide +kernel
theorem dX12_goPath_77 : decode cX12_goPath 77 = .ok (.dup, 1) := by decide +kernel
theorem dX12_goPath_78 : decode cX12_goPath 78 = .ok (.getfield 209, 3) := by decide +kernel
theorem dX12_goPath_81 : decode cX12_goPath 81 = .ok (.iconst 1, 1) := by decide +kernel
theorem dX12_goPath_82 : decode cX12_goPath 82 = .ok (.iadd, 1) := by decide +kernel
theorem dX12_goPath_83 : decode cX12_goPath 83 = .ok (.putfield 209, 3) := by decide +kernel
theorem dX12_goPath_86 : decode cX12_goPath 86 = .ok (.goto (-66), 3) := by decide +kernel
theorem dX12_goPath_89 : decode cX12_goPath 89 = .ok (.iconst 1, 1) := by decide +kernel
theorem dX12_goPath_90 : decode cX12_goPath 90 = .ok (.ireturn, 1) := by decide +kernel
theorem dX12_place_0 : decode cX12_place 0 = .ok (.aload_n 0, 1) := by decide +kernel
theorem dX12_place_1 : decode cX12_place 1 = .ok (.iconst 0, 1) := by decide +kernel
theorem dX12_place_2 : decode cX12_place 2 = .ok (.putfield 79, 3) := by decide +kernel
theorem dX12_place_5 : decode cX12_place 5 = .ok (.aload_n 0, 1) := by decide +kernel
theorem dX12_place_6 : decode cX12_place 6 = .ok (.bipush 80, 2) := by decide +kernel
theorem dX12_place_8 : decode cX12_place 8 = .ok (.invokevirtual 174, 3) := by decide +kernel
theorem dX12_place_11 : decode cX12_place 11 = .ok (.aload_n 0, 1) := by decide +kernel
theorem dX12_place_12 : decode cX12_place 12 = .ok (.iconst 0, 1) := by decide +kernel
theorem dX12_place_13 : decode cX12_place 13 = .ok (.putfield 200, 3) := by decide +kernel
theorem dX12_place_16 : decode cX12_place 16 = .ok (.aload_n 0, 1) := by decide +kernel
theorem dX12_place_17 : decode cX12_place 17 = .ok (.invokevirtual 216, 3) := by decide +kernel
theorem dX12_place_20 : decode cX12_place 20 = .ok (.istore_n 1, 1) := by decide +kernel
theorem dX12_place_21 : decode cX12_place 21 = .ok (.aload_n 0, 1) := by decide +kernel
theorem dX12_place_22 : decode cX12_place 22 = .ok (.invokevirtual 177, 3) := by decide +kernel
theorem dX12_place_25 : decode cX12_place 25 = .ok (.istore_n 2, 1) := by decide +kernel
theorem dX12_place_26 : decode cX12_place 26 = .ok (.iload_n 2, 1) := by decide +kernel
theorem dX12_place_27 : decode cX12_place 27 = .ok (.ifCond .ne 20, 3) := by decide +kernel
theorem dX12_place_30 : decode cX12_place 30 = .ok (.aload_n 0, 1) := by decide +kernel
theorem dX12_place_31 : decode cX12_place 31 = .ok (.getfield 30, 3) := by decide +kernel
theorem dX12_place_34 : decode cX12_place 34 = .ok (.iload_n 1, 1) := by decide +kernel
theorem dX12_place_35 : decode cX12_place 35 = .ok (.aload_n 0, 1) := by decide +kernel
theorem dX12_place_36 : decode cX12_place 36 = .ok (.getfield 120, 3) := by decide +kernel
theorem dX12_place_39 : decode cX12_place 39 = .ok (.bipush 12, 2) := by decide +kernel
theorem dX12_place_41 : decode cX12_place 41 = .ok (.invokestatic 219, 3) := by decide +kernel
theorem dX12_place_44 : decode cX12_place 44 = .ok (.iadd, 1) := by decide +kernel
theorem dX12_place_45 : decode cX12_place 45 = .ok (.iconst 4, 1) := by decide +kernel
theorem dX12_place_46 : decode cX12_place 46 = .ok (.bastore, 1) := by decide +kernel
theorem dX12_place_47 : decode cX12_place 47 = .ok (.iload_n 2, 1) := by decide +kernel
theorem dX12_place_48 : decode cX12_place 48 = .ok (.ifCond .ne 12, 3) := by decide +kernel
theorem dX12_place_51 : decode cX12_place 51 = .ok (.aload_n 0, 1) := by decide +kernel
theorem dX12_place_52 : decode cX12_place 52 = .ok (.getfield 120, 3) := by decide +kernel
theorem dX12_place_55 : decode cX12_place 55 = .ok (.ifCond .ne 5, 3) := by decide +kernel
theorem dX12_place_58 : decode cX12_place 58 = .ok (.iconst (-1), 1) := by decide +kernel
theorem dX12_place_59 : decode cX12_place 59 = .ok (.ireturn, 1) := by decide +kernel
theorem dX12_place_60 : decode cX12_place 60 = .ok (.aload_n 0, 1) := by decide +kernel
theorem dX12_place_61 : decode cX12_place 61 = .ok (.aload_n 0, 1) := by decide +kernel
theorem dX12_place_62 : decode cX12_place 62 = .ok (.getfield 9, 3) := by decide +kernel
theorem dX12_place_65 : decode cX12_place 65 = .ok (.iload_n 1, 1) := by decide +kernel
theorem dX12_place_66 : decode cX12_place 66 = .ok (.invokevirtual 225, 3) := by decide +kernel
theorem dX12_place_69 : decode cX12_place 69 = .ok (.ifCond .ne 10, 3) := by decide +kernel
theorem dX12_place_72 : decode cX12_place 72 = .ok (.iconst (-1), 1) := by decide +kernel
theorem dX12_place_73 : decode cX12_place 73 = .ok (.aload_n 0, 1) := by decide +kernel
theorem dX12_place_74 : decode cX12_place 74 = .ok (.getfield 209, 3) := by decide +kernel
theorem dX12_place_77 : decode cX12_place 77 = .ok (.isub, 1) := by decide +kernel
theorem dX12_place_78 : decode cX12_place 78 = .ok (.ireturn, 1) := by decide +kernel
theorem dX12_place_79 : decode cX12_place 79 = .ok (.iload_n 2, 1) := by decide +kernel
theorem dX12_place_80 : decode cX12_place 80 = .ok (.ifCond .ne 10, 3) := by decide +kernel
theorem dX12_place_83 : decode cX12_place 83 = .ok (.iconst (-1), 1) := by decide +kernel
theorem dX12_place_84 : decode cX12_place 84 = .ok (.aload_n 0, 1) := by decide +kernel
theorem dX12_place_85 : decode cX12_place 85 = .ok (.getfield 120, 3) := by decide +kernel
theorem dX12_place_88 : decode cX12_place 88 = .ok (.isub, 1) := by decide +kernel
theorem dX12_place_89 : decode cX12_place 89 = .ok (.ireturn, 1) := by decide +kernel
theorem dX12_place_90 : decode cX12_place 90 = .ok (.aload_n 0, 1) := by decide +kernel
theorem dX12_place_91 : decode cX12_place 91 = .ok (.iconst 0, 1) := by decide +kernel
theorem dX12_place_92 : decode cX12_place 92 = .ok (.putfield 83, 3) := by decide +kernel
theorem dX12_place_95 : decode cX12_place 95 = .ok (.aload_n 0, 1) := by decide +kernel
theorem dX12_place_96 : decode cX12_place 96 = .ok (.aload_n 0, 1) := by decide +kernel
theorem dX12_place_97 : decode cX12_place 97 = .ok (.getfield 9, 3) := by decide +kernel
theorem dX12_place_100 : decode cX12_place 100 = .ok (.aload_n 0, 1) := by decide +kernel
theorem dX12_place_101 : decode cX12_place 101 = .ok (.getfield 203, 3) := by decide +kernel
theorem dX12_place_104 : decode cX12_place 104 = .ok (.aload_n 0, 1) := by decide +kernel
theorem dX12_place_105 : decode cX12_place 105 = .ok (.getfield 206, 3) := by decide +kernel
theorem dX12_place_108 : decode cX12_place 108 = .ok (.invokestatic 212, 3) := by decide +kernel
theorem dX12_place_111 : decode cX12_place 111 = .ok (.i2l, 1) := by decide +kernel
theorem dX12_place_112 : decode cX12_place 112 = .ok (.invokevirtual 228, 3) := by decide +kernel
theorem dX12_place_115 : decode cX12_place 115 = .ok (.bipush 100, 2) := by decide +kernel
theorem dX12_place_117 : decode cX12_place 117 = .ok (.aload_n 0, 1) := by decide +kernel
theorem dX12_place_118 : decode cX12_place 118 = .ok (.getfield 203, 3) := by decide +kernel
theorem dX12_place_121 : decode cX12_place 121 = .ok (.imul, 1) := by decide +kernel
theorem dX12_place_122 : decode cX12_place 122 = .ok (.aload_n 0, 1) := by decide +kernel
theorem dX12_place_123 : decode cX12_place 123 = .ok (.getfield 206, 3) := by decide +kernel
theorem dX12_place_126 : decode cX12_place 126 = .ok (.iadd, 1) := by decide +kernel
theorem dX12_place_127 : decode cX12_place 127 = .ok (.ireturn, 1) := by decide +kernel
theorem dX12_mount_0 : decode cX12_mount 0 = .ok (.aload_n 0, 1) := by decide +kernel
theorem dX12_mount_1 : decode cX12_mount 1 = .ok (.iconst 0, 1) := by decide +kernel
theorem dX12_mount_2 : decode cX12_mount 2 = .ok (.putfield 79, 3) := by decide +kernel
theorem dX12_mount_5 : decode cX12_mount 5 = .ok (.aload_n 0, 1) := by decide +kernel
theorem dX12_mount_6 : decode cX12_mount 6 = .ok (.getfield 9, 3) := by decide +kernel
theorem dX12_mount_9 : decode cX12_mount 9 = .ok (.iload_n 1, 1) := by decide +kernel
theorem dX12_mount_10 : decode cX12_mount 10 = .ok (.invokestatic 90, 3) := by decide +kernel
theorem dX12_mount_13 : decode cX12_mount 13 = .ok (.ifCond .eq 12, 3) := by decide +kernel
theorem dX12_mount_16 : decode cX12_mount 16 = .ok (.iload_n 2, 1) := by decide +kernel
theorem dX12_mount_17 : decode cX12_mount 17 = .ok (.iconst 0, 1) := by decide +kernel
theorem dX12_mount_18 : decode cX12_mount 18 = .ok (.iconst 5, 1) := by decide +kernel
theorem dX12_mount_19 : decode cX12_mount 19 = .ok (.invokestatic 86, 3) := by decide +kernel
theorem dX12_mount_22 : decode cX12_mount 22 = .ok (.ifCond .ne 8, 3) := by decide +kernel
theorem dX12_mount_25 : decode cX12_mount 25 = .ok (.aload_n 0, 1) := by decide +kernel
theorem dX12_mount_26 : decode cX12_mount 26 = .ok (.invokevirtual 232, 3) := by decide +kernel
theorem dX12_mount_29 : decode cX12_mount 29 = .ok (.ireturn, 1) := by decide +kernel
theorem dX12_mount_30 : decode cX12_mount 30 = .ok (.iload_n 2, 1) := by decide +kernel
theorem dX12_mount_31 : decode cX12_mount 31 = .ok (.tableswitch 79 0 4 #[33, 40, 50, 60, 70], 33) := by decide +kernel
theorem dX12_mount_64 : decode cX12_mount 64 = .ok (.aload_n 0, 1) := by decide +kernel
theorem dX12_mount_65 : decode cX12_mount 65 = .ok (.getfield 9, 3) := by decide +kernel
theorem dX12_mount_68 : decode cX12_mount 68 = .ok (.iload_n 1, 1) := by decide +kernel
theorem dX12_mount_69 : decode cX12_mount 69 = .ok (.iaload, 1) := by decide +kernel
theorem dX12_mount_70 : decode cX12_mount 70 = .ok (.ireturn, 1) := by decide +kernel
theorem dX12_mount_71 : decode cX12_mount 71 = .ok (.aload_n 0, 1) := by decide +kernel
theorem dX12_mount_72 : decode cX12_mount 72 = .ok (.getfield 9, 3) := by decide +kernel
theorem dX12_mount_75 : decode cX12_mount 75 = .ok (.bipush 24, 2) := by decide +kernel
theorem dX12_mount_77 : decode cX12_mount 77 = .ok (.iload_n 1, 1) := by decide +kernel
theorem dX12_mount_78 : decode cX12_mount 78 = .ok (.iadd, 1) := by decide +kernel
theorem dX12_mount_79 : decode cX12_mount 79 = .ok (.iaload, 1) := by decide +kernel
theorem dX12_mount_80 : decode cX12_mount 80 = .ok (.ireturn, 1) := by decide +kernel
theorem dX12_mount_81 : decode cX12_mount 81 = .ok (.aload_n 0, 1) := by decide +kernel
theorem dX12_mount_82 : decode cX12_mount 82 = .ok (.getfield 9, 3) := by decide +kernel
theorem dX12_mount_85 : decode cX12_mount 85 = .ok (.bipush 48, 2) := by decide +kernel
theorem dX12_mount_87 : decode cX12_mount 87 = .ok (.iload_n 1, 1) := by decide +kernel
theorem dX12_mount_88 : decode cX12_mount 88 = .ok (.iadd, 1) := by decide +kernel
theorem dX12_mount_89 : decode cX12_mount 89 = .ok (.iaload, 1) := by decide +kernel
theorem dX12_mount_90 : decode cX12_mount 90 = .ok (.ireturn, 1) := by decide +kernel
theorem dX12_mount_91 : decode cX12_mount 91 = .ok (.aload_n 0, 1) := by decide +kernel
theorem dX12_mount_92 : decode cX12_mount 92 = .ok (.getfield 9, 3) := by decide +kernel
theorem dX12_mount_95 : decode cX12_mount 95 = .ok (.bipush 72, 2) := by decide +kernel
theorem dX12_mount_97 : decode cX12_mount 97 = .ok (.iload_n 1, 1) := by decide +kernel
theorem dX12_mount_98 : decode cX12_mount 98 = .ok (.iadd, 1) := by decide +kernel
theorem dX12_mount_99 : decode cX12_mount 99 = .ok (.iaload, 1) := by decide +kernel
theorem dX12_mount_100 : decode cX12_mount 100 = .ok (.ireturn, 1) := by decide +kernel
theorem dX12_mount_101 : decode cX12_mount 101 = .ok (.aload_n 0, 1) := by decide +kernel
theorem dX12_mount_102 : decode cX12_mount 102 = .ok (.getfield 9, 3) := by decide +kernel
theorem dX12_mount_105 : decode cX12_mount 105 = .ok (.iload_n 1, 1) := by decide +kernel
theorem dX12_mount_106 : decode cX12_mount 106 = .ok (.invokestatic 197, 3) := by decide +kernel
theorem dX12_mount_109 : decode cX12_mount 109 = .ok (.ireturn, 1) := by decide +kernel
theorem dX12_mount_110 : decode cX12_mount 110 = .ok (.aload_n 0, 1) := by decide +kernel
theorem dX12_mount_111 : decode cX12_mount 111 = .ok (.getfield 9, 3) := by decide +kernel
theorem dX12_mount_114 : decode cX12_mount 114 = .ok (.iload_n 1, 1) := by decide +kernel
theorem dX12_mount_115 : decode cX12_mount 115 = .ok (.invokestatic 186, 3) := by decide +kernel
theorem dX12_mount_118 : decode cX12_mount 118 = .ok (.ireturn, 1) := by decide +kernel
theorem dX12_at_0 : decode cX12_at 0 = .ok (.aload_n 0, 1) := by decide +kernel
theorem dX12_at_1 : decode cX12_at 1 = .ok (.iconst 0, 1) := by decide +kernel
theorem dX12_at_2 : decode cX12_at 2 = .ok (.putfield 79, 3) := by decide +kernel
theorem dX12_at_5 : decode cX12_at 5 = .ok (.aload_n 0, 1) := by decide +kernel
theorem dX12_at_6 : decode cX12_at 6 = .ok (.getfield 9, 3) := by decide +kernel
theorem dX12_at_9 : decode cX12_at 9 = .ok (.iload_n 1, 1) := by decide +kernel
theorem dX12_at_10 : decode cX12_at 10 = .ok (.invokestatic 90, 3) := by decide +kernel
theorem dX12_at_13 : decode cX12_at 13 = .ok (.ifCond .eq 22, 3) := by decide +kernel
theorem dX12_at_16 : decode cX12_at 16 = .ok (.iload_n 2, 1) := by decide +kernel
theorem dX12_at_17 : decode cX12_at 17 = .ok (.invokestatic 235, 3) := by decide +kernel
theorem dX12_at_20 : decode cX12_at 20 = .ok (.ifCond .eq 15, 3) := by decide +kernel
theorem dX12_at_23 : decode cX12_at 23 = .ok (.aload_n 0, 1) := by decide +kernel
theorem dX12_at_24 : decode cX12_at 24 = .ok (.getfield 9, 3) := by decide +kernel
theorem dX12_at_27 : decode cX12_at 27 = .ok (.iload_n 1, 1) := by decide +kernel
theorem dX12_at_28 : decode cX12_at 28 = .ok (.iload_n 2, 1) := by decide +kernel
theorem dX12_at_29 : decode cX12_at 29 = .ok (.invokestatic 212, 3) := by decide +kernel
theorem dX12_at_32 : decode cX12_at 32 = .ok (.goto 7, 3) := by decide +kernel
theorem dX12_at_35 : decode cX12_at 35 = .ok (.aload_n 0, 1) := by decide +kernel
theorem dX12_at_36 : decode cX12_at 36 = .ok (.invokevirtual 232, 3) := by decide +kernel
theorem dX12_at_39 : decode cX12_at 39 = .ok (.ireturn, 1) := by decide +kernel
theorem dX12_sheet_0 : decode cX12_sheet 0 = .ok (.aload_n 0, 1) := by decide +kernel
theorem dX12_sheet_1 : decode cX12_sheet 1 = .ok (.iconst 0, 1) := by decide +kernel
theorem dX12_sheet_2 : decode cX12_sheet 2 = .ok (.putfield 79, 3) := by decide +kernel
theorem dX12_sheet_5 : decode cX12_sheet 5 = .ok (.iload_n 1, 1) := by decide +kernel
theorem dX12_sheet_6 : decode cX12_sheet 6 = .ok (.iconst 0, 1) := by decide +kernel
theorem dX12_sheet_7 : decode cX12_sheet 7 = .ok (.iconst 3, 1) := by decide +kernel
theorem dX12_sheet_8 : decode cX12_sheet 8 = .ok (.invokestatic 86, 3) := by decide +kernel
theorem dX12_sheet_11 : decode cX12_sheet 11 = .ok (.ifCond .eq 9, 3) := by decide +kernel
theorem dX12_sheet_14 : decode cX12_sheet 14 = .ok (.iload_n 2, 1) := by decide +kernel
theorem dX12_sheet_15 : decode cX12_sheet 15 = .ok (.bipush 24, 2) := by decide +kernel
theorem dX12_sheet_17 : decode cX12_sheet 17 = .ok (.if_icmp .le 5, 3) := by decide +kernel
theorem dX12_sheet_20 : decode cX12_sheet 20 = .ok (.iconst (-1), 1) := by decide +kernel
theorem dX12_sheet_21 : decode cX12_sheet 21 = .ok (.ireturn, 1) := by decide +kernel
theorem dX12_sheet_22 : decode cX12_sheet 22 = .ok (.iload_n 1, 1) := by decide +kernel
theorem dX12_sheet_23 : decode cX12_sheet 23 = .ok (.iconst 3, 1) := by decide +kernel
theorem dX12_sheet_24 : decode cX12_sheet 24 = .ok (.if_icmp .ge 10, 3) := by decide +kernel
theorem dX12_sheet_27 : decode cX12_sheet 27 = .ok (.iload_n 2, 1) := by decide +kernel
theorem dX12_sheet_28 : decode cX12_sheet 28 = .ok (.ifCond .ge 6, 3) := by decide +kernel
theorem dX12_sheet_31 : decode cX12_sheet 31 = .ok (.bipush (-2), 2) := by decide +kernel
theorem dX12_sheet_33 : decode cX12_sheet 33 = .ok (.ireturn, 1) := by decide +kernel
theorem dX12_sheet_34 : decode cX12_sheet 34 = .ok (.iload_n 3, 1) := by decide +kernel
theorem dX12_sheet_35 : decode cX12_sheet 35 = .ok (.istore 5, 2) := by decide +kernel
theorem dX12_sheet_37 : decode cX12_sheet 37 = .ok (.iconst 0, 1) := by decide +kernel
theorem dX12_sheet_38 : decode cX12_sheet 38 = .ok (.istore 6, 2) := by decide +kernel
theorem dX12_sheet_40 : decode cX12_sheet 40 = .ok (.iconst 0, 1) := by decide +kernel
theorem dX12_sheet_41 : decode cX12_sheet 41 = .ok (.istore 7, 2) := by decide +kernel
theorem dX12_sheet_43 : decode cX12_sheet 43 = .ok (.iconst 0, 1) := by decide +kernel
theorem dX12_sheet_44 : decode cX12_sheet 44 = .ok (.istore 8, 2) := by decide +kernel
theorem dX12_sheet_46 : decode cX12_sheet 46 = .ok (.iload 8, 2) := by decide +kernel
theorem dX12_sheet_48 : decode cX12_sheet 48 = .ok (.bipush 24, 2) := by decide +kernel
theorem dX12_sheet_50 : decode cX12_sheet 50 = .ok (.if_icmp .ge 131, 3) := by decide +kernel
theorem dX12_sheet_53 : decode cX12_sheet 53 = .ok (.aload_n 0, 1) := by decide +kernel
theorem dX12_sheet_54 : decode cX12_sheet 54 = .ok (.getfield 9, 3) := by decide +kernel
theorem dX12_sheet_57 : decode cX12_sheet 57 = .ok (.iload 8, 2) := by decide +kernel
theorem dX12_sheet_59 : decode cX12_sheet 59 = .ok (.invokestatic 90, 3) := by decide +kernel
theorem dX12_sheet_62 : decode cX12_sheet 62 = .ok (.ifCond .ne 6, 3) := by decide +kernel
theorem dX12_sheet_65 : decode cX12_sheet 65 = .ok (.goto 110, 3) := by decide +kernel
theorem dX12_sheet_68 : decode cX12_sheet 68 = .ok (.iload_n 1, 1) := by decide +kernel
theorem dX12_sheet_69 : decode cX12_sheet 69 = .ok (.ifCond .ne 9, 3) := by decide +kernel
theorem dX12_sheet_72 : decode cX12_sheet 72 = .ok (.iload 5, 2) := by decide +kernel
theorem dX12_sheet_74 : decode cX12_sheet 74 = .ok (.i2b, 1) := by decide +kernel
theorem dX12_sheet_75 : decode cX12_sheet 75 = .ok (.goto 16, 3) := by decide +kernel
theorem dX12_sheet_78 : decode cX12_sheet 78 = .ok (.iload_n 1, 1) := by decide +kernel
theorem dX12_sheet_79 : decode cX12_sheet 79 = .ok (.iconst 1, 1) := by decide +kernel
theorem dX12_sheet_80 : decode cX12_sheet 80 = .ok (.if_icmp .ne 9, 3) := by decide +kernel
theorem dX12_sheet_83 : decode cX12_sheet 83 = .ok (.iload 5, 2) := by decide +kernel
theorem dX12_sheet_85 : decode cX12_sheet 85 = .ok (.i2s, 1) := by decide +kernel
theorem dX12_sheet_86 : decode cX12_sheet 86 = .ok (.goto 5, 3) := by decide +kernel
theorem dX12_sheet_89 : decode cX12_sheet 89 = .ok (.iload 5, 2) := by decide +kernel
theorem dX12_sheet_91 : decode cX12_sheet 91 = .ok (.istore 9, 2) := by decide +kernel
theorem dX12_sheet_93 : decode cX12_sheet 93 = .ok (.aload_n 0, 1) := by decide +kernel
theorem dX12_sheet_94 : decode cX12_sheet 94 = .ok (.getfield 9, 3) := by decide +kernel
theorem dX12_sheet_97 : decode cX12_sheet 97 = .ok (.bipush 48, 2) := by decide +kernel
theorem dX12_sheet_99 : decode cX12_sheet 99 = .ok (.iload 8, 2) := by decide +kernel
theorem dX12_sheet_101 : decode cX12_sheet 101 = .ok (.iadd, 1) := by decide +kernel
theorem dX12_sheet_102 : decode cX12_sheet 102 = .ok (.iaload, 1) := by decide +kernel
theorem dX12_sheet_103 : decode cX12_sheet 103 = .ok (.ifCond .ne 47, 3) := by decide +kernel
theorem dX12_sheet_106 : decode cX12_sheet 106 = .ok (.aload_n 0, 1) := by decide +kernel
theorem dX12_sheet_107 : decode cX12_sheet 107 = .ok (.getfield 9, 3) := by decide +kernel
theorem dX12_sheet_110 : decode cX12_sheet 110 = .ok (.bipush 72, 2) := by decide +kernel
theorem dX12_sheet_112 : decode cX12_sheet 112 = .ok (.iload 8, 2) := by decide +kernel
theorem dX12_sheet_114 : decode cX12_sheet 114 = .ok (.iadd, 1) := by decide +kernel
theorem dX12_sheet_115 : decode cX12_sheet 115 = .ok (.iaload, 1) := by decide +kernel
theorem dX12_sheet_116 : decode cX12_sheet 116 = .ok (.ifCond .ne 34, 3) := by decide +kernel
theorem dX12_sheet_119 : decode cX12_sheet 119 = .ok (.aload_n 0, 1) := by decide +kernel
theorem dX12_sheet_120 : decode cX12_sheet 120 = .ok (.getfield 9, 3) := by decide +kernel
theorem dX12_sheet_123 : decode cX12_sheet 123 = .ok (.bipush 96, 2) := by decide +kernel
theorem dX12_sheet_125 : decode cX12_sheet 125 = .ok (.iload 8, 2) := by decide +kernel
theorem dX12_sheet_127 : decode cX12_sheet 127 = .ok (.iadd, 1) := by decide +kernel
theorem dX12_sheet_128 : decode cX12_sheet 128 = .ok (.iload_n 1, 1) := by decide +kernel
theorem dX12_sheet_129 : decode cX12_sheet 129 = .ok (.iconst 3, 1) := by decide +kernel
theorem dX12_sheet_130 : decode cX12_sheet 130 = .ok (.if_icmp .ge 18, 3) := by decide +kernel
theorem dX12_sheet_133 : decode cX12_sheet 133 = .ok (.iload 6, 2) := by decide +kernel
theorem dX12_sheet_135 : decode cX12_sheet 135 = .ok (.iload_n 2, 1) := by decide +kernel
theorem dX12_sheet_136 : decode cX12_sheet 136 = .ok (.if_icmp .ge 12, 3) := by decide +kernel
theorem dX12_sheet_139 : decode cX12_sheet 139 = .ok (.iload 9, 2) := by decide +kernel
theorem dX12_sheet_141 : decode cX12_sheet 141 = .ok (.ifCond .le 7, 3) := by decide +kernel
theorem dX12_sheet_144 : decode cX12_sheet 144 = .ok (.iconst 1, 1) := by decide +kernel
theorem dX12_sheet_145 : decode cX12_sheet 145 = .ok (.goto 4, 3) := by decide +kernel
theorem dX12_sheet_148 : decode cX12_sheet 148 = .ok (.iconst 0, 1) := by decide +kernel
theorem dX12_sheet_149 : decode cX12_sheet 149 = .ok (.iastore, 1) := by decide +kernel
theorem dX12_sheet_150 : decode cX12_sheet 150 = .ok (.iload 7, 2) := by decide +kernel
theorem dX12_sheet_152 : decode cX12_sheet 152 = .ok (.aload_n 0, 1) := by decide +kernel
theorem dX12_sheet_153 : decode cX12_sheet 153 = .ok (.getfield 9, 3) := by decide +kernel
theorem dX12_sheet_156 : decode cX12_sheet 156 = .ok (.bipush 96, 2) := by decide +kernel
theorem dX12_sheet_158 : decode cX12_sheet 158 = .ok (.iload 8, 2) := by decide +kernel
theorem dX12_sheet_160 : decode cX12_sheet 160 = .ok (.iadd, 1) := by decide +kernel
theorem dX12_sheet_161 : decode cX12_sheet 161 = .ok (.iaload, 1) := by decide +kernel
theorem dX12_sheet_162 : decode cX12_sheet 162 = .ok (.iadd, 1) := by decide +kernel
theorem dX12_sheet_163 : decode cX12_sheet 163 = .ok (.istore 7, 2) := by decide +kernel
theorem dX12_sheet_165 : decode cX12_sheet 165 = .ok (.iload 5, 2) := by decide +kernel
theorem dX12_sheet_167 : decode cX12_sheet 167 = .ok (.iload 4, 2) := by decide +kernel
theorem dX12_sheet_169 : decode cX12_sheet 169 = .ok (.iadd, 1) := by decide +kernel
theorem dX12_sheet_170 : decode cX12_sheet 170 = .ok (.istore 5, 2) := by decide +kernel
theorem dX12_sheet_172 : decode cX12_sheet 172 = .ok (.iinc 6 1, 3) := by decide +kernel
theorem dX12_sheet_175 : decode cX12_sheet 175 = .ok (.iinc 8 1, 3) := by decide +kernel
theorem dX12_sheet_178 : decode cX12_sheet 178 = .ok (.goto (-132), 3) := by decide +kernel
theorem dX12_sheet_181 : decode cX12_sheet 181 = .ok (.iload_n 1, 1) := by decide +kernel
theorem dX12_sheet_182 : decode cX12_sheet 182 = .ok (.iconst 3, 1) := by decide +kernel
theorem dX12_sheet_183 : decode cX12_sheet 183 = .ok (.if_icmp .ne 8, 3) := by decide +kernel
theorem dX12_sheet_186 : decode cX12_sheet 186 = .ok (.bipush (-3), 2) := by decide +kernel
theorem dX12_sheet_188 : decode cX12_sheet 188 = .ok (.goto 5, 3) := by decide +kernel
theorem dX12_sheet_191 : decode cX12_sheet 191 = .ok (.iload 7, 2) := by decide +kernel
theorem dX12_sheet_193 : decode cX12_sheet 193 = .ok (.ireturn, 1) := by decide +kernel
theorem dX12_lay_0 : decode cX12_lay 0 = .ok (.iconst 0, 1) := by decide +kernel
theorem dX12_lay_1 : decode cX12_lay 1 = .ok (.istore_n 3, 1) := by decide +kernel
theorem dX12_lay_2 : decode cX12_lay 2 = .ok (.iload_n 3, 1) := by decide +kernel
theorem dX12_lay_3 : decode cX12_lay 3 = .ok (.bipush 122, 2) := by decide +kernel
theorem dX12_lay_5 : decode cX12_lay 5 = .ok (.if_icmp .ge 17, 3) := by decide +kernel
theorem dX12_lay_8 : decode cX12_lay 8 = .ok (.aload_n 1, 1) := by decide +kernel
theorem dX12_lay_9 : decode cX12_lay 9 = .ok (.iload_n 2, 1) := by decide +kernel
theorem dX12_lay_10 : decode cX12_lay 10 = .ok (.iload_n 3, 1) := by decide +kernel
theorem dX12_lay_11 : decode cX12_lay 11 = .ok (.iadd, 1) := by decide +kernel
theorem dX12_lay_12 : decode cX12_lay 12 = .ok (.aload_n 0, 1) := by decide +kernel
theorem dX12_lay_13 : decode cX12_lay 13 = .ok (.iload_n 3, 1) := by decide +kernel
theorem dX12_lay_14 : decode cX12_lay 14 = .ok (.iaload, 1) := by decide +kernel
theorem dX12_lay_15 : decode cX12_lay 15 = .ok (.iastore, 1) := by decide +kernel
theorem dX12_lay_16 : decode cX12_lay 16 = .ok (.iinc 3 1, 3) := by decide +kernel
theorem dX12_lay_19 : decode cX12_lay 19 = .ok (.goto (-17), 3) := by decide +kernel
theorem dX12_lay_22 : decode cX12_lay 22 = .ok (.return_, 1) := by decide +kernel
theorem dX12_remember_0 : decode cX12_remember 0 = .ok (.aload_n 0, 1) := by decide +kernel
theorem dX12_remember_1 : decode cX12_remember 1 = .ok (.getfield 239, 3) := by decide +kernel
theorem dX12_remember_4 : decode cX12_remember 4 = .ok (.bipush 12, 2) := by decide +kernel
theorem dX12_remember_6 : decode cX12_remember 6 = .ok (.if_icmp .ne 43, 3) := by decide +kernel
theorem dX12_remember_9 : decode cX12_remember 9 = .ok (.iconst 0, 1) := by decide +kernel
theorem dX12_remember_10 : decode cX12_remember 10 = .ok (.istore_n 2, 1) := by decide +kernel
theorem dX12_remember_11 : decode cX12_remember 11 = .ok (.iload_n 2, 1) := by decide +kernel
theorem dX12_remember_12 : decode cX12_remember 12 = .ok (.sipush 1342, 3) := by decide +kernel
theorem dX12_remember_15 : decode cX12_remember 15 = .ok (.if_icmp .ge 24, 3) := by decide +kernel
theorem dX12_remember_18 : decode cX12_remember 18 = .ok (.aload_n 0, 1) := by decide +kernel
theorem dX12_remember_19 : decode cX12_remember 19 = .ok (.getfield 33, 3) := by decide +kernel
theorem dX12_remember_22 : decode cX12_remember 22 = .ok (.iload_n 2, 1) := by decide +kernel
theorem dX12_remember_23 : decode cX12_remember 23 = .ok (.aload_n 0, 1) := by decide +kernel
theorem dX12_remember_24 : decode cX12_remember 24 = .ok (.getfield 33, 3) := by decide +kernel
theorem dX12_remember_27 : decode cX12_remember 27 = .ok (.iload_n 2, 1) := by decide +kernel
theorem dX12_remember_28 : decode cX12_remember 28 = .ok (.bipush 122, 2) := by decide +kernel
theorem dX12_remember_30 : decode cX12_remember 30 = .ok (.iadd, 1) := by decide +kernel
theorem dX12_remember_31 : decode cX12_remember 31 = .ok (.iaload, 1) := by decide +kernel
theorem dX12_remember_32 : decode cX12_remember 32 = .ok (.iastore, 1) := by decide +kernel
theorem dX12_remember_33 : decode cX12_remember 33 = .ok (.iinc 2 1, 3) := by decide +kernel
theorem dX12_remember_36 : decode cX12_remember 36 = .ok (.goto (-25), 3) := by decide +kernel
theorem dX12_remember_39 : decode cX12_remember 39 = .ok (.aload_n 0, 1) := by decide +kernel
theorem dX12_remember_40 : decode cX12_remember 40 = .ok (.dup, 1) := by decide +kernel
theorem dX12_remember_41 : decode cX12_remember 41 = .ok (.getfield 239, 3) := by decide +kernel
theorem dX12_remember_44 : decode cX12_remember 44 = .ok (.iconst 1, 1) := by decide +kernel
theorem dX12_remember_45 : decode cX12_remember 45 = .ok (.isub, 1) := by decide +kernel
theorem dX12_remember_46 : decode cX12_remember 46 = .ok (.putfield 239, 3) := by decide +kernel
theorem dX12_remember_49 : decode cX12_remember 49 = .ok (.aload_n 1, 1) := by decide +kernel
theorem dX12_remember_50 : decode cX12_remember 50 = .ok (.aload_n 0, 1) := by decide +kernel
theorem dX12_remember_51 : decode cX12_remember 51 = .ok (.getfield 33, 3) := by decide +kernel
theorem dX12_remember_54 : decode cX12_remember 54 = .ok (.bipush 122, 2) := by decide +kernel
theorem dX12_remember_56 : decode cX12_remember 56 = .ok (.aload_n 0, 1) := by decide +kernel
theorem dX12_remember_57 : decode cX12_remember 57 = .ok (.getfield 239, 3) := by decide +kernel
theorem dX12_remember_60 : decode cX12_remember 60 = .ok (.imul, 1) := by decide +kernel
theorem dX12_remember_61 : decode cX12_remember 61 = .ok (.invokestatic 242, 3) := by decide +kernel
theorem dX12_remember_64 : decode cX12_remember 64 = .ok (.aload_n 0, 1) := by decide +kernel
theorem dX12_remember_65 : decode cX12_remember 65 = .ok (.dup, 1) := by decide +kernel
theorem dX12_remember_66 : decode cX12_remember 66 = .ok (.getfield 239, 3) := by decide +kernel
theorem dX12_remember_69 : decode cX12_remember 69 = .ok (.iconst 1, 1) := by decide +kernel
theorem dX12_remember_70 : decode cX12_remember 70 = .ok (.iadd, 1) := by decide +kernel
theorem dX12_remember_71 : decode cX12_remember 71 = .ok (.putfield 239, 3) := by decide +kernel
theorem dX12_remember_74 : decode cX12_remember 74 = .ok (.return_, 1) := by decide +kernel
theorem dX12_hitsOf_0 : decode cX12_hitsOf 0 = .ok (.aload_n 1, 1) := by decide +kernel
theorem dX12_hitsOf_1 : decode cX12_hitsOf 1 = .ok (.iload_n 2, 1) := by decide +kernel
theorem dX12_hitsOf_2 : decode cX12_hitsOf 2 = .ok (.invokestatic 246, 3) := by decide +kernel
theorem dX12_hitsOf_5 : decode cX12_hitsOf 5 = .ok (.istore 4, 2) := by decide +kernel
theorem dX12_hitsOf_7 : decode cX12_hitsOf 7 = .ok (.iconst 0, 1) := by decide +kernel
theorem dX12_hitsOf_8 : decode cX12_hitsOf 8 = .ok (.istore 5, 2) := by decide +kernel
theorem dX12_hitsOf_10 : decode cX12_hitsOf 10 = .ok (.iconst 0, 1) := by decide +kernel
theorem dX12_hitsOf_11 : decode cX12_hitsOf 11 = .ok (.istore 6, 2) := by decide +kernel
theorem dX12_hitsOf_13 : decode cX12_hitsOf 13 = .ok (.iload 6, 2) := by decide +kernel
theorem dX12_hitsOf_15 : decode cX12_hitsOf 15 = .ok (.bipush 24, 2) := by decide +kernel
theorem dX12_hitsOf_17 : decode cX12_hitsOf 17 = .ok (.if_icmp .ge 61, 3) := by decide +kernel
theorem dX12_hitsOf_20 : decode cX12_hitsOf 20 = .ok (.iload 5, 2) := by decide +kernel
theorem dX12_hitsOf_22 : decode cX12_hitsOf 22 = .ok (.iload 6, 2) := by decide +kernel
theorem dX12_hitsOf_24 : decode cX12_hitsOf 24 = .ok (.iload_n 2, 1) := by decide +kernel
theorem dX12_hitsOf_25 : decode cX12_hitsOf 25 = .ok (.if_icmp .eq 43, 3) := by decide +kernel
theorem dX12_hitsOf_28 : decode cX12_hitsOf 28 = .ok (.iload 4, 2) := by decide +kernel
theorem dX12_hitsOf_30 : decode cX12_hitsOf 30 = .ok (.iload 6, 2) := by decide +kernel
theorem dX12_hitsOf_32 : decode cX12_hitsOf 32 = .ok (.invokestatic 94, 3) := by decide +kernel
theorem dX12_hitsOf_35 : decode cX12_hitsOf 35 = .ok (.ifCond .eq 33, 3) := by decide +kernel
theorem dX12_hitsOf_38 : decode cX12_hitsOf 38 = .ok (.aload_n 1, 1) := by decide +kernel
theorem dX12_hitsOf_39 : decode cX12_hitsOf 39 = .ok (.iload 6, 2) := by decide +kernel
theorem dX12_hitsOf_41 : decode cX12_hitsOf 41 = .ok (.iload_n 3, 1) := by decide +kernel
theorem dX12_hitsOf_42 : decode cX12_hitsOf 42 = .ok (.invokestatic 212, 3) := by decide +kernel
theorem dX12_hitsOf_45 : decode cX12_hitsOf 45 = .ok (.bipush 24, 2) := by decide +kernel
theorem dX12_hitsOf_47 : decode cX12_hitsOf 47 = .ok (.if_icmp .ne 21, 3) := by decide +kernel
theorem dX12_hitsOf_50 : decode cX12_hitsOf 50 = .ok (.aload_n 0, 1) := by decide +kernel
theorem dX12_hitsOf_51 : decode cX12_hitsOf 51 = .ok (.aload_n 1, 1) := by decide +kernel
theorem dX12_hitsOf_52 : decode cX12_hitsOf 52 = .ok (.iload 6, 2) := by decide +kernel
theorem dX12_hitsOf_54 : decode cX12_hitsOf 54 = .ok (.iload_n 3, 1) := by decide +kernel
theorem dX12_hitsOf_55 : decode cX12_hitsOf 55 = .ok (.invokevirtual 249, 3) := by decide +kernel
theorem dX12_hitsOf_58 : decode cX12_hitsOf 58 = .ok (.ifCond .eq 10, 3) := by decide +kernel
theorem dX12_hitsOf_61 : decode cX12_hitsOf 61 = .ok (.iconst 1, 1) := by decide +kernel
theorem dX12_hitsOf_62 : decode cX12_hitsOf 62 = .ok (.iload 6, 2) := by decide +kernel
theorem dX12_hitsOf_64 : decode cX12_hitsOf 64 = .ok (.ishl, 1) := by decide +kernel
theorem dX12_hitsOf_65 : decode cX12_hitsOf 65 = .ok (.goto 4, 3) := by decide +kernel
theorem dX12_hitsOf_68 : decode cX12_hitsOf 68 = .ok (.iconst 0, 1) := by decide +kernel
theorem dX12_hitsOf_69 : decode cX12_hitsOf 69 = .ok (.ior, 1) := by decide +kernel
theorem dX12_hitsOf_70 : decode cX12_hitsOf 70 = .ok (.istore 5, 2) := by decide +kernel
theorem dX12_hitsOf_72 : decode cX12_hitsOf 72 = .ok (.iinc 6 1, 3) := by decide +kernel
theorem dX12_hitsOf_75 : decode cX12_hitsOf 75 = .ok (.goto (-62), 3) := by decide +kernel
theorem dX12_hitsOf_78 : decode cX12_hitsOf 78 = .ok (.iload 5, 2) := by decide +kernel
theorem dX12_hitsOf_80 : decode cX12_hitsOf 80 = .ok (.ireturn, 1) := by decide +kernel
theorem dX12_comes_0 : decode cX12_comes 0 = .ok (.aload_n 0, 1) := by decide +kernel
theorem dX12_comes_1 : decode cX12_comes 1 = .ok (.invokestatic 253, 3) := by decide +kernel
theorem dX12_comes_4 : decode cX12_comes 4 = .ok (.istore 5, 2) := by decide +kernel
theorem dX12_comes_6 : decode cX12_comes 6 = .ok (.aload_n 0, 1) := by decide +kernel
theorem dX12_comes_7 : decode cX12_comes 7 = .ok (.iload 5, 2) := by decide +kernel
theorem dX12_comes_9 : decode cX12_comes 9 = .ok (.iload_n 1, 1) := by decide +kernel
theorem dX12_comes_10 : decode cX12_comes 10 = .ok (.iastore, 1) := by decide +kernel
theorem dX12_comes_11 : decode cX12_comes 11 = .ok (.aload_n 0, 1) := by decide +kernel
theorem dX12_comes_12 : decode cX12_comes 12 = .ok (.bipush 24, 2) := by decide +kernel
theorem dX12_comes_14 : decode cX12_comes 14 = .ok (.iload 5, 2) := by decide +kernel
theorem dX12_comes_16 : decode cX12_comes 16 = .ok (.iadd, 1) := by decide +kernel
theorem dX12_comes_17 : decode cX12_comes 17 = .ok (.iload_n 2, 1) := by decide +kernel
theorem dX12_comes_18 : decode cX12_comes 18 = .ok (.iastore, 1) := by decide +kernel
theorem dX12_comes_19 : decode cX12_comes 19 = .ok (.aload_n 0, 1) := by decide +kernel
theorem dX12_comes_20 : decode cX12_comes 20 = .ok (.bipush 48, 2) := by decide +kernel
theorem dX12_comes_22 : decode cX12_comes 22 = .ok (.iload 5, 2) := by decide +kernel
theorem dX12_comes_24 : decode cX12_comes 24 = .ok (.iadd, 1) := by decide +kernel
theorem dX12_comes_25 : decode cX12_comes 25 = .ok (.iload_n 3, 1) := by decide +kernel
theorem dX12_comes_26 : decode cX12_comes 26 = .ok (.iastore, 1) := by decide +kernel
theorem dX12_comes_27 : decode cX12_comes 27 = .ok (.aload_n 0, 1) := by decide +kernel
theorem dX12_comes_28 : decode cX12_comes 28 = .ok (.bipush 72, 2) := by decide +kernel
theorem dX12_comes_30 : decode cX12_comes 30 = .ok (.iload 5, 2) := by decide +kernel
theorem dX12_comes_32 : decode cX12_comes 32 = .ok (.iadd, 1) := by decide +kernel
theorem dX12_comes_33 : decode cX12_comes 33 = .ok (.iload 4, 2) := by decide +kernel
theorem dX12_comes_35 : decode cX12_comes 35 = .ok (.iastore, 1) := by decide +kernel
theorem dX12_comes_36 : decode cX12_comes 36 = .ok (.aload_n 0, 1) := by decide +kernel
theorem dX12_comes_37 : decode cX12_comes 37 = .ok (.bipush 96, 2) := by decide +kernel
theorem dX12_comes_39 : decode cX12_comes 39 = .ok (.iload 5, 2) := by decide +kernel
theorem dX12_comes_41 : decode cX12_comes 41 = .ok (.iadd, 1) := by decide +kernel
theorem dX12_comes_42 : decode cX12_comes 42 = .ok (.iconst 0, 1) := by decide +kernel
theorem dX12_comes_43 : decode cX12_comes 43 = .ok (.iastore, 1) := by decide +kernel
theorem dX12_comes_44 : decode cX12_comes 44 = .ok (.iload 5, 2) := by decide +kernel
theorem dX12_comes_46 : decode cX12_comes 46 = .ok (.ireturn, 1) := by decide +kernel
theorem dX12_newOf_0 : decode cX12_newOf 0 = .ok (.iconst 0, 1) := by decide +kernel
theorem dX12_newOf_1 : decode cX12_newOf 1 = .ok (.istore_n 2, 1) := by decide +kernel
theorem dX12_newOf_2 : decode cX12_newOf 2 = .ok (.iload_n 2, 1) := by decide +kernel
theorem dX12_newOf_3 : decode cX12_newOf 3 = .ok (.aload_n 0, 1) := by decide +kernel
theorem dX12_newOf_4 : decode cX12_newOf 4 = .ok (.getfield 257, 3) := by decide +kernel
theorem dX12_newOf_7 : decode cX12_newOf 7 = .ok (.if_icmp .ge 30, 3) := by decide +kernel
theorem dX12_newOf_10 : decode cX12_newOf 10 = .ok (.iload_n 1, 1) := by decide +kernel
theorem dX12_newOf_11 : decode cX12_newOf 11 = .ok (.ifCond .eq 20, 3) := by decide +kernel
theorem dX12_newOf_14 : decode cX12_newOf 14 = .ok (.aload_n 0, 1) := by decide +kernel
theorem dX12_newOf_15 : decode cX12_newOf 15 = .ok (.getfield 42, 3) := by decide +kernel
theorem dX12_newOf_18 : decode cX12_newOf 18 = .ok (.iload_n 2, 1) := by decide +kernel
theorem dX12_newOf_19 : decode cX12_newOf 19 = .ok (.iaload, 1) := by decide +kernel
theorem dX12_newOf_20 : decode cX12_newOf 20 = .ok (.iload_n 1, 1) := by decide +kernel
theorem dX12_newOf_21 : decode cX12_newOf 21 = .ok (.if_icmp .ne 10, 3) := by decide +kernel
theorem dX12_newOf_24 : decode cX12_newOf 24 = .ok (.aload_n 0, 1) := by decide +kernel
theorem dX12_newOf_25 : decode cX12_newOf 25 = .ok (.getfield 45, 3) := by decide +kernel
theorem dX12_newOf_28 : decode cX12_newOf 28 = .ok (.iload_n 2, 1) := by decide +kernel
theorem dX12_newOf_29 : decode cX12_newOf 29 = .ok (.iaload, 1) := by decide +kernel
theorem dX12_newOf_30 : decode cX12_newOf 30 = .ok (.ireturn, 1) := by decide +kernel
theorem dX12_newOf_31 : decode cX12_newOf 31 = .ok (.iinc 2 1, 3) := by decide +kernel
theorem dX12_newOf_34 : decode cX12_newOf 34 = .ok (.goto (-32), 3) := by decide +kernel
theorem dX12_newOf_37 : decode cX12_newOf 37 = .ok (.iconst 0, 1) := by decide +kernel
theorem dX12_newOf_38 : decode cX12_newOf 38 = .ok (.ireturn, 1) := by decide +kernel
theorem dX12_layNew_0 : decode cX12_layNew 0 = .ok (.aload_n 0, 1) := by decide +kernel
theorem dX12_layNew_1 : decode cX12_layNew 1 = .ok (.getfield 42, 3) := by decide +kernel
theorem dX12_layNew_4 : decode cX12_layNew 4 = .ok (.aload_n 0, 1) := by decide +kernel
theorem dX12_layNew_5 : decode cX12_layNew 5 = .ok (.getfield 257, 3) := by decide +kernel
theorem dX12_layNew_8 : decode cX12_layNew 8 = .ok (.iload_n 1, 1) := by decide +kernel
theorem dX12_layNew_9 : decode cX12_layNew 9 = .ok (.iastore, 1) := by decide +kernel
theorem dX12_layNew_10 : decode cX12_layNew 10 = .ok (.aload_n 0, 1) := by decide +kernel
theorem dX12_layNew_11 : decode cX12_layNew 11 = .ok (.getfield 45, 3) := by decide +kernel
theorem dX12_layNew_14 : decode cX12_layNew 14 = .ok (.aload_n 0, 1) := by decide +kernel
theorem dX12_layNew_15 : decode cX12_layNew 15 = .ok (.getfield 257, 3) := by decide +kernel
theorem dX12_layNew_18 : decode cX12_layNew 18 = .ok (.iload_n 2, 1) := by decide +kernel
theorem dX12_layNew_19 : decode cX12_layNew 19 = .ok (.iastore, 1) := by decide +kernel
theorem dX12_layNew_20 : decode cX12_layNew 20 = .ok (.aload_n 0, 1) := by decide +kernel
theorem dX12_layNew_21 : decode cX12_layNew 21 = .ok (.dup, 1) := by decide +kernel
theorem dX12_layNew_22 : decode cX12_layNew 22 = .ok (.getfield 257, 3) := by decide +kernel
theorem dX12_layNew_25 : decode cX12_layNew 25 = .ok (.iconst 1, 1) := by decide +kernel
theorem dX12_layNew_26 : decode cX12_layNew 26 = .ok (.iadd, 1) := by decide +kernel
theorem dX12_layNew_27 : decode cX12_layNew 27 = .ok (.putfield 257, 3) := by decide +kernel
theorem dX12_layNew_30 : decode cX12_layNew 30 = .ok (.return_, 1) := by decide +kernel
theorem dX12_goClone_0 : decode cX12_goClone 0 = .ok (.aload_n 1, 1) := by decide +kernel
theorem dX12_goClone_1 : decode cX12_goClone 1 = .ok (.iload_n 3, 1) := by decide +kernel
theorem dX12_goClone_2 : decode cX12_goClone 2 = .ok (.invokestatic 246, 3) := by decide +kernel
theorem dX12_goClone_5 : decode cX12_goClone 5 = .ok (.istore 5, 2) := by decide +kernel
theorem dX12_goClone_7 : decode cX12_goClone 7 = .ok (.aload_n 0, 1) := by decide +kernel
theorem dX12_goClone_8 : decode cX12_goClone 8 = .ok (.aload_n 1, 1) := by decide +kernel
theorem dX12_goClone_9 : decode cX12_goClone 9 = .ok (.iload_n 3, 1) := by decide +kernel
theorem dX12_goClone_10 : decode cX12_goClone 10 = .ok (.iload 4, 2) := by decide +kernel
theorem dX12_goClone_12 : decode cX12_goClone 12 = .ok (.invokevirtual 260, 3) := by decide +kernel
theorem dX12_goClone_15 : decode cX12_goClone 15 = .ok (.istore 6, 2) := by decide +kernel
theorem dX12_goClone_17 : decode cX12_goClone 17 = .ok (.iload_n 2, 1) := by decide +kernel
theorem dX12_goClone_18 : decode cX12_goClone 18 = .ok (.bipush 24, 2) := by decide +kernel
theorem dX12_goClone_20 : decode cX12_goClone 20 = .ok (.if_icmp .ne 7, 3) := by decide +kernel
theorem dX12_goClone_23 : decode cX12_goClone 23 = .ok (.iconst 0, 1) := by decide +kernel
theorem dX12_goClone_24 : decode cX12_goClone 24 = .ok (.goto 9, 3) := by decide +kernel
theorem dX12_goClone_27 : decode cX12_goClone 27 = .ok (.aload_n 1, 1) := by decide +kernel
theorem dX12_goClone_28 : decode cX12_goClone 28 = .ok (.bipush 48, 2) := by decide +kernel
theorem dX12_goClone_30 : decode cX12_goClone 30 = .ok (.iload_n 2, 1) := by decide +kernel
theorem dX12_goClone_31 : decode cX12_goClone 31 = .ok (.iadd, 1) := by decide +kernel
theorem dX12_goClone_32 : decode cX12_goClone 32 = .ok (.iaload, 1) := by decide +kernel
theorem dX12_goClone_33 : decode cX12_goClone 33 = .ok (.istore 7, 2) := by decide +kernel
theorem dX12_goClone_35 : decode cX12_goClone 35 = .ok (.iload_n 2, 1) := by decide +kernel
theorem dX12_goClone_36 : decode cX12_goClone 36 = .ok (.bipush 24, 2) := by decide +kernel
theorem dX12_goClone_38 : decode cX12_goClone 38 = .ok (.if_icmp .ne 7, 3) := by decide +kernel
theorem dX12_goClone_41 : decode cX12_goClone 41 = .ok (.iconst 0, 1) := by decide +kernel
theorem dX12_goClone_42 : decode cX12_goClone 42 = .ok (.goto 9, 3) := by decide +kernel
theorem dX12_goClone_45 : decode cX12_goClone 45 = .ok (.aload_n 1, 1) := by decide +kernel
theorem dX12_goClone_46 : decode cX12_goClone 46 = .ok (.bipush 72, 2) := by decide +kernel
theorem dX12_goClone_48 : decode cX12_goClone 48 = .ok (.iload_n 2, 1) := by decide +kernel
theorem dX12_goClone_49 : decode cX12_goClone 49 = .ok (.iadd, 1) := by decide +kernel
theorem dX12_goClone_50 : decode cX12_goClone 50 = .ok (.iaload, 1) := by decide +kernel
theorem dX12_goClone_51 : decode cX12_goClone 51 = .ok (.istore 8, 2) := by decide +kernel
theorem dX12_goClone_53 : decode cX12_goClone 53 = .ok (.aload_n 1, 1) := by decide +kernel
theorem dX12_goClone_54 : decode cX12_goClone 54 = .ok (.bipush 48, 2) := by decide +kernel
theorem dX12_goClone_56 : decode cX12_goClone 56 = .ok (.iload_n 3, 1) := by decide +kernel
theorem dX12_goClone_57 : decode cX12_goClone 57 = .ok (.iadd, 1) := by decide +kernel
theorem dX12_goClone_58 : decode cX12_goClone 58 = .ok (.iaload, 1) := by decide +kernel
theorem dX12_goClone_59 : decode cX12_goClone 59 = .ok (.ifCond .eq 14, 3) := by decide +kernel
theorem dX12_goClone_62 : decode cX12_goClone 62 = .ok (.iload 7, 2) := by decide +kernel
theorem dX12_goClone_64 : decode cX12_goClone 64 = .ok (.ifCond .ne 9, 3) := by decide +kernel
theorem dX12_goClone_67 : decode cX12_goClone 67 = .ok (.aload_n 1, 1) := by decide +kernel
theorem dX12_goClone_68 : decode cX12_goClone 68 = .ok (.invokestatic 263, 3) := by decide +kernel
theorem dX12_goClone_71 : decode cX12_goClone 71 = .ok (.istore 7, 2) := by decide +kernel
theorem dX12_goClone_73 : decode cX12_goClone 73 = .ok (.aload_n 0, 1) := by decide +kernel
theorem dX12_goClone_74 : decode cX12_goClone 74 = .ok (.iconst 0, 1) := by decide +kernel
theorem dX12_goClone_75 : decode cX12_goClone 75 = .ok (.putfield 257, 3) := by decide +kernel
theorem dX12_goClone_78 : decode cX12_goClone 78 = .ok (.aload_n 1, 1) := by decide +kernel
theorem dX12_goClone_79 : decode cX12_goClone 79 = .ok (.bipush 48, 2) := by decide +kernel
theorem dX12_goClone_81 : decode cX12_goClone 81 = .ok (.iload_n 3, 1) := by decide +kernel
theorem dX12_goClone_82 : decode cX12_goClone 82 = .ok (.iadd, 1) := by decide +kernel
theorem dX12_goClone_83 : decode cX12_goClone 83 = .ok (.iaload, 1) := by decide +kernel
theorem dX12_goClone_84 : decode cX12_goClone 84 = .ok (.ifCond .eq 15, 3) := by decide +kernel
theorem dX12_goClone_87 : decode cX12_goClone 87 = .ok (.aload_n 0, 1) := by decide +kernel
theorem dX12_goClone_88 : decode cX12_goClone 88 = .ok (.aload_n 1, 1) := by decide +kernel
theorem dX12_goClone_89 : decode cX12_goClone 89 = .ok (.bipush 48, 2) := by decide +kernel
theorem dX12_goClone_91 : decode cX12_goClone 91 = .ok (.iload_n 3, 1) := by decide +kernel
theorem dX12_goClone_92 : decode cX12_goClone 92 = .ok (.iadd, 1) := by decide +kernel
theorem dX12_goClone_93 : decode cX12_goClone 93 = .ok (.iaload, 1) := by decide +kernel
theorem dX12_goClone_94 : decode cX12_goClone 94 = .ok (.iload 7, 2) := by decide +kernel
theorem dX12_goClone_96 : decode cX12_goClone 96 = .ok (.invokevirtual 266, 3) := by decide +kernel
theorem dX12_goClone_99 : decode cX12_goClone 99 = .ok (.iconst 0, 1) := by decide +kernel
theorem dX12_goClone_100 : decode cX12_goClone 100 = .ok (.istore 9, 2) := by decide +kernel
theorem dX12_goClone_102 : decode cX12_goClone 102 = .ok (.iload 9, 2) := by decide +kernel
theorem dX12_goClone_104 : decode cX12_goClone 104 = .ok (.bipush 24, 2) := by decide +kernel
theorem dX12_goClone_106 : decode cX12_goClone 106 = .ok (.if_icmp .ge 52, 3) := by decide +kernel
theorem dX12_goClone_109 : decode cX12_goClone 109 = .ok (.aload_n 1, 1) := by decide +kernel
theorem dX12_goClone_110 : decode cX12_goClone 110 = .ok (.bipush 48, 2) := by decide +kernel
theorem dX12_goClone_112 : decode cX12_goClone 112 = .ok (.iload 9, 2) := by decide +kernel
theorem dX12_goClone_114 : decode cX12_goClone 114 = .ok (.iadd, 1) := by decide +kernel
theorem dX12_goClone_115 : decode cX12_goClone 115 = .ok (.iaload, 1) := by decide +kernel
theorem dX12_goClone_116 : decode cX12_goClone 116 = .ok (.istore 10, 2) := by decide +kernel
theorem dX12_goClone_118 : decode cX12_goClone 118 = .ok (.iload 5, 2) := by decide +kernel
theorem dX12_goClone_120 : decode cX12_goClone 120 = .ok (.iload 9, 2) := by decide +kernel
theorem dX12_goClone_122 : decode cX12_goClone 122 = .ok (.invokestatic 94, 3) := by decide +kernel
theorem dX12_goClone_125 : decode cX12_goClone 125 = .ok (.ifCond .eq 27, 3) := by decide +kernel
theorem dX12_goClone_128 : decode cX12_goClone 128 = .ok (.iload 10, 2) := by decide +kernel
theorem dX12_goClone_130 : decode cX12_goClone 130 = .ok (.ifCond .eq 22, 3) := by decide +kernel
theorem dX12_goClone_133 : decode cX12_goClone 133 = .ok (.aload_n 0, 1) := by decide +kernel
theorem dX12_goClone_134 : decode cX12_goClone 134 = .ok (.iload 10, 2) := by decide +kernel
theorem dX12_goClone_136 : decode cX12_goClone 136 = .ok (.invokevirtual 270, 3) := by decide +kernel
theorem dX12_goClone_139 : decode cX12_goClone 139 = .ok (.ifCond .ne 13, 3) := by decide +kernel
theorem dX12_goClone_142 : decode cX12_goClone 142 = .ok (.aload_n 0, 1) := by decide +kernel
theorem dX12_goClone_143 : decode cX12_goClone 143 = .ok (.iload 10, 2) := by decide +kernel
theorem dX12_goClone_145 : decode cX12_goClone 145 = .ok (.aload_n 1, 1) := by decide +kernel
theorem dX12_goClone_146 : decode cX12_goClone 146 = .ok (.invokestatic 263, 3) := by decide +kernel
theorem dX12_goClone_149 : decode cX12_goClone 149 = .ok (.invokevirtual 266, 3) := by decide +kernel
theorem dX12_goClone_152 : decode cX12_goClone 152 = .ok (.iinc 9 1, 3) := by decide +kernel
theorem dX12_goClone_155 : decode cX12_goClone 155 = .ok (.goto (-53), 3) := by decide +kernel
theorem dX12_goClone_158 : decode cX12_goClone 158 = .ok (.aload_n 1, 1) := by decide +kernel
theorem dX12_goClone_159 : decode cX12_goClone 159 = .ok (.iload_n 3, 1) := by decide +kernel
theorem dX12_goClone_160 : decode cX12_goClone 160 = .ok (.iload 4, 2) := by decide +kernel
theorem dX12_goClone_162 : decode cX12_goClone 162 = .ok (.iload 7, 2) := by decide +kernel
theorem dX12_goClone_164 : decode cX12_goClone 164 = .ok (.iload 8, 2) := by decide +kernel
theorem dX12_goClone_166 : decode cX12_goClone 166 = .ok (.invokestatic 273, 3) := by decide +kernel
theorem dX12_goClone_169 : decode cX12_goClone 169 = .ok (.istore 9, 2) := by decide +kernel
theorem dX12_goClone_171 : decode cX12_goClone 171 = .ok (.aload_n 0, 1) := by decide +kernel
theorem dX12_goClone_172 : decode cX12_goClone 172 = .ok (.iconst 1, 1) := by decide +kernel
theorem dX12_goClone_173 : decode cX12_goClone 173 = .ok (.iload 9, 2) := by decide +kernel
theorem dX12_goClone_175 : decode cX12_goClone 175 = .ok (.ishl, 1) := by decide +kernel
theorem dX12_goClone_176 : decode cX12_goClone 176 = .ok (.putfield 277, 3) := by decide +kernel
theorem dX12_goClone_179 : decode cX12_goClone 179 = .ok (.iconst 0, 1) := by decide +kernel
theorem dX12_goClone_180 : decode cX12_goClone 180 = .ok (.istore 10, 2) := by decide +kernel
theorem dX12_goClone_182 : decode cX12_goClone 182 = .ok (.iload 10, 2) := by decide +kernel
theorem dX12_goClone_184 : decode cX12_goClone 184 = .ok (.bipush 24, 2) := by decide +kernel
theorem dX12_goClone_186 : decode cX12_goClone 186 = .ok (.if_icmp .ge 106, 3) := by decide +kernel
theorem dX12_goClone_189 : decode cX12_goClone 189 = .ok (.iload 6, 2) := by decide +kernel
theorem dX12_goClone_191 : decode cX12_goClone 191 = .ok (.iload 10, 2) := by decide +kernel
theorem dX12_goClone_193 : decode cX12_goClone 193 = .ok (.invokestatic 94, 3) := by decide +kernel
theorem dX12_goClone_196 : decode cX12_goClone 196 = .ok (.ifCond .ne 6, 3) := by decide +kernel
theorem dX12_goClone_199 : decode cX12_goClone 199 = .ok (.goto 87, 3) := by decide +kernel
theorem dX12_goClone_202 : decode cX12_goClone 202 = .ok (.aload_n 1, 1) := by decide +kernel
theorem dX12_goClone_203 : decode cX12_goClone 203 = .ok (.bipush 48, 2) := by decide +kernel
theorem dX12_goClone_205 : decode cX12_goClone 205 = .ok (.iload 10, 2) := by decide +kernel
theorem dX12_goClone_207 : decode cX12_goClone 207 = .ok (.iadd, 1) := by decide +kernel
theorem dX12_goClone_208 : decode cX12_goClone 208 = .ok (.iaload, 1) := by decide +kernel
theorem dX12_goClone_209 : decode cX12_goClone 209 = .ok (.aload_n 1, 1) := by decide +kernel
theorem dX12_goClone_210 : decode cX12_goClone 210 = .ok (.bipush 48, 2) := by decide +kernel
theorem dX12_goClone_212 : decode cX12_goClone 212 = .ok (.iload_n 3, 1) := by decide +kernel
theorem dX12_goClone_213 : decode cX12_goClone 213 = .ok (.iadd, 1) := by decide +kernel
theorem dX12_goClone_214 : decode cX12_goClone 214 = .ok (.iaload, 1) := by decide +kernel
theorem dX12_goClone_215 : decode cX12_goClone 215 = .ok (.if_icmp .ne 7, 3) := by decide +kernel
theorem dX12_goClone_218 : decode cX12_goClone 218 = .ok (.iconst 1, 1) := by decide +kernel
theorem dX12_goClone_219 : decode cX12_goClone 219 = .ok (.goto 4, 3) := by decide +kernel
theorem dX12_goClone_222 : decode cX12_goClone 222 = .ok (.iconst 0, 1) := by decide +kernel
theorem dX12_goClone_223 : decode cX12_goClone 223 = .ok (.istore 11, 2) := by decide +kernel
theorem dX12_goClone_225 : decode cX12_goClone 225 = .ok (.aload_n 0, 1) := by decide +kernel
theorem dX12_goClone_226 : decode cX12_goClone 226 = .ok (.dup, 1) := by decide +kernel
theorem dX12_goClone_227 : decode cX12_goClone 227 = .ok (.getfield 277, 3) := by decide +kernel
theorem dX12_goClone_230 : decode cX12_goClone 230 = .ok (.iconst 1, 1) := by decide +kernel
theorem dX12_goClone_231 : decode cX12_goClone 231 = .ok (.aload_n 1, 1) := by decide +kernel
theorem dX12_goClone_232 : decode cX12_goClone 232 = .ok (.iload 10, 2) := by decide +kernel
theorem dX12_goClone_234 : decode cX12_goClone 234 = .ok (.iload 4, 2) := by decide +kernel
theorem dX12_goClone_236 : decode cX12_goClone 236 = .ok (.iload 11, 2) := by decide +kernel
theorem dX12_goClone_238 : decode cX12_goClone 238 = .ok (.ifCond .eq 8, 3) := by decide +kernel
theorem dX12_goClone_241 : decode cX12_goClone 241 = .ok (.iload 7, 2) := by decide +kernel
theorem dX12_goClone_243 : decode cX12_goClone 243 = .ok (.goto 14, 3) := by decide +kernel
theorem dX12_goClone_246 : decode cX12_goClone 246 = .ok (.aload_n 0, 1) := by decide +kernel
theorem dX12_goClone_247 : decode cX12_goClone 247 = .ok (.aload_n 1, 1) := by decide +kernel
theorem dX12_goClone_248 : decode cX12_goClone 248 = .ok (.bipush 48, 2) := by decide +kernel
theorem dX12_goClone_250 : decode cX12_goClone 250 = .ok (.iload 10, 2) := by decide +kernel
theorem dX12_goClone_252 : decode cX12_goClone 252 = .ok (.iadd, 1) := by decide +kernel
theorem dX12_goClone_253 : decode cX12_goClone 253 = .ok (.iaload, 1) := by decide +kernel
theorem dX12_goClone_254 : decode cX12_goClone 254 = .ok (.invokevirtual 270, 3) := by decide +kernel
theorem dX12_goClone_257 : decode cX12_goClone 257 = .ok (.iload 11, 2) := by decide +kernel
theorem dX12_goClone_259 : decode cX12_goClone 259 = .ok (.ifCond .eq 8, 3) := by decide +kernel
theorem dX12_goClone_262 : decode cX12_goClone 262 = .ok (.iload 8, 2) := by decide +kernel
theorem dX12_goClone_264 : decode cX12_goClone 264 = .ok (.goto 14, 3) := by decide +kernel
theorem dX12_goClone_267 : decode cX12_goClone 267 = .ok (.aload_n 0, 1) := by decide +kernel
theorem dX12_goClone_268 : decode cX12_goClone 268 = .ok (.aload_n 1, 1) := by decide +kernel
theorem dX12_goClone_269 : decode cX12_goClone 269 = .ok (.bipush 72, 2) := by decide +kernel
theorem dX12_goClone_271 : decode cX12_goClone 271 = .ok (.iload 10, 2) := by decide +kernel
theorem dX12_goClone_273 : decode cX12_goClone 273 = .ok (.iadd, 1) := by decide +kernel
theorem dX12_goClone_274 : decode cX12_goClone 274 = .ok (.iaload, 1) := by decide +kernel
theorem dX12_goClone_275 : decode cX12_goClone 275 = .ok (.invokevirtual 270, 3) := by decide +kernel
theorem dX12_goClone_278 : decode cX12_goClone 278 = .ok (.invokestatic 273, 3) := by decide +kernel
theorem dX12_goClone_281 : decode cX12_goClone 281 = .ok (.ishl, 1) := by decide +kernel
theorem dX12_goClone_282 : decode cX12_goClone 282 = .ok (.ior, 1) := by decide +kernel
theorem dX12_goClone_283 : decode cX12_goClone 283 = .ok (.putfield 277, 3) := by decide +kernel
theorem dX12_goClone_286 : decode cX12_goClone 286 = .ok (.iinc 10 1, 3) := by decide +kernel
theorem dX12_goClone_289 : decode cX12_goClone 289 = .ok (.goto (-107), 3) := by decide +kernel
theorem dX12_goClone_292 : decode cX12_goClone 292 = .ok (.aload_n 1, 1) := by decide +kernel
theorem dX12_goClone_293 : decode cX12_goClone 293 = .ok (.bipush 120, 2) := by decide +kernel
theorem dX12_goClone_295 : decode cX12_goClone 295 = .ok (.dup2, 1) := by decide +kernel
theorem dX12_goClone_296 : decode cX12_goClone 296 = .ok (.iaload, 1) := by decide +kernel
theorem dX12_goClone_297 : decode cX12_goClone 297 = .ok (.iconst 1, 1) := by decide +kernel
theorem dX12_goClone_298 : decode cX12_goClone 298 = .ok (.iadd, 1) := by decide +kernel
theorem dX12_goClone_299 : decode cX12_goClone 299 = .ok (.iastore, 1) := by decide +kernel
theorem dX12_goClone_300 : decode cX12_goClone 300 = .ok (.iload 9, 2) := by decide +kernel
theorem dX12_goClone_302 : decode cX12_goClone 302 = .ok (.ireturn, 1) := by decide +kernel
theorem dX12_refusesComing_0 : decode cX12_refusesComing 0 = .ok (.aload_n 1, 1) := by decide +kernel
theorem dX12_refusesComing_1 : decode cX12_refusesComing 1 = .ok (.iload_n 2, 1) := by decide +kernel
theorem dX12_refusesComing_2 : decode cX12_refusesComing 2 = .ok (.invokestatic 90, 3) := by decide +kernel
theorem dX12_refusesComing_5 : decode cX12_refusesComing 5 = .ok (.ifCond .eq 10, 3) := by decide +kernel
theorem dX12_refusesComing_8 : decode cX12_refusesComing 8 = .ok (.iload_n 3, 1) := by decide +kernel
theorem dX12_refusesComing_9 : decode cX12_refusesComing 9 = .ok (.invokestatic 235, 3) := by decide +kernel
theorem dX12_refusesComing_12 : decode cX12_refusesComing 12 = .ok (.ifCond .ne 5, 3) := by decide +kernel
theorem dX12_refusesComing_15 : decode cX12_refusesComing 15 = .ok (.iconst (-1), 1) := by decide +kernel
theorem dX12_refusesComing_16 : decode cX12_refusesComing 16 = .ok (.ireturn, 1) := by decide +kernel
theorem dX12_refusesComing_17 : decode cX12_refusesComing 17 = .ok (.aload_n 1, 1) := by decide +kernel
theorem dX12_refusesComing_18 : decode cX12_refusesComing 18 = .ok (.iload_n 2, 1) := by decide +kernel
theorem dX12_refusesComing_19 : decode cX12_refusesComing 19 = .ok (.iload_n 3, 1) := by decide +kernel
theorem dX12_refusesComing_20 : decode cX12_refusesComing 20 = .ok (.invokestatic 212, 3) := by decide +kernel
theorem dX12_refusesComing_23 : decode cX12_refusesComing 23 = .ok (.bipush 24, 2) := by decide +kernel
theorem dX12_refusesComing_25 : decode cX12_refusesComing 25 = .ok (.if_icmp .eq 6, 3) := by decide +kernel
theorem dX12_refusesComing_28 : decode cX12_refusesComing 28 = .ok (.bipush (-2), 2) := by decide +kernel
theorem dX12_refusesComing_30 : decode cX12_refusesComing 30 = .ok (.ireturn, 1) := by decide +kernel
theorem dX12_refusesComing_31 : decode cX12_refusesComing 31 = .ok (.aload_n 1, 1) := by decide +kernel
theorem dX12_refusesComing_32 : decode cX12_refusesComing 32 = .ok (.invokestatic 280, 3) := by decide +kernel
theorem dX12_refusesComing_35 : decode cX12_refusesComing 35 = .ok (.invokestatic 192, 3) := by decide +kernel
theorem dX12_refusesComing_38 : decode cX12_refusesComing 38 = .ok (.iconst 1, 1) := by decide +kernel
theorem dX12_refusesComing_39 : decode cX12_refusesComing 39 = .ok (.iadd, 1) := by decide +kernel
theorem dX12_refusesComing_40 : decode cX12_refusesComing 40 = .ok (.aload_n 0, 1) := by decide +kernel
theorem dX12_refusesComing_41 : decode cX12_refusesComing 41 = .ok (.aload_n 1, 1) := by decide +kernel
theorem dX12_refusesComing_42 : decode cX12_refusesComing 42 = .ok (.iload_n 2, 1) := by decide +kernel
theorem dX12_refusesComing_43 : decode cX12_refusesComing 43 = .ok (.iload_n 3, 1) := by decide +kernel
theorem dX12_refusesComing_44 : decode cX12_refusesComing 44 = .ok (.invokevirtual 260, 3) := by decide +kernel
theorem dX12_refusesComing_47 : decode cX12_refusesComing 47 = .ok (.invokestatic 192, 3) := by decide +kernel
theorem dX12_refusesComing_50 : decode cX12_refusesComing 50 = .ok (.iadd, 1) := by decide +kernel
theorem dX12_refusesComing_51 : decode cX12_refusesComing 51 = .ok (.bipush 24, 2) := by decide +kernel
theorem dX12_refusesComing_53 : decode cX12_refusesComing 53 = .ok (.if_icmp .le 8, 3) := by decide +kernel
theorem dX12_refusesComing_56 : decode cX12_refusesComing 56 = .ok (.bipush (-9), 2) := by decide +kernel
theorem dX12_refusesComing_58 : decode cX12_refusesComing 58 = .ok (.goto 4, 3) := by decide +kernel
theorem dX12_refusesComing_61 : decode cX12_refusesComing 61 = .ok (.iconst 0, 1) := by decide +kernel
theorem dX12_refusesComing_62 : decode cX12_refusesComing 62 = .ok (.ireturn, 1) := by decide +kernel
theorem dX12_refusesBind_0 : decode cX12_refusesBind 0 = .ok (.aload_n 1, 1) := by decide +kernel
theorem dX12_refusesBind_1 : decode cX12_refusesBind 1 = .ok (.iload_n 2, 1) := by decide +kernel
theorem dX12_refusesBind_2 : decode cX12_refusesBind 2 = .ok (.invokestatic 90, 3) := by decide +kernel
theorem dX12_refusesBind_5 : decode cX12_refusesBind 5 = .ok (.ifCond .ne 5, 3) := by decide +kernel
theorem dX12_refusesBind_8 : decode cX12_refusesBind 8 = .ok (.iconst (-1), 1) := by decide +kernel
theorem dX12_refusesBind_9 : decode cX12_refusesBind 9 = .ok (.ireturn, 1) := by decide +kernel
theorem dX12_refusesBind_10 : decode cX12_refusesBind 10 = .ok (.aload_n 0, 1) := by decide +kernel
theorem dX12_refusesBind_11 : decode cX12_refusesBind 11 = .ok (.aload_n 1, 1) := by decide +kernel
theorem dX12_refusesBind_12 : decode cX12_refusesBind 12 = .ok (.iload_n 3, 1) := by decide +kernel
theorem dX12_refusesBind_13 : decode cX12_refusesBind 13 = .ok (.iload 4, 2) := by decide +kernel
theorem dX12_refusesBind_15 : decode cX12_refusesBind 15 = .ok (.invokevirtual 283, 3) := by decide +kernel
theorem dX12_refusesBind_18 : decode cX12_refusesBind 18 = .ok (.istore 5, 2) := by decide +kernel
theorem dX12_refusesBind_20 : decode cX12_refusesBind 20 = .ok (.iload 5, 2) := by decide +kernel
theorem dX12_refusesBind_22 : decode cX12_refusesBind 22 = .ok (.iconst (-1), 1) := by decide +kernel
theorem dX12_refusesBind_23 : decode cX12_refusesBind 23 = .ok (.if_icmp .eq 10, 3) := by decide +kernel
theorem dX12_refusesBind_26 : decode cX12_refusesBind 26 = .ok (.iload 5, 2) := by decide +kernel
theorem dX12_refusesBind_28 : decode cX12_refusesBind 28 = .ok (.bipush (-2), 2) := by decide +kernel
theorem dX12_refusesBind_30 : decode cX12_refusesBind 30 = .ok (.if_icmp .ne 8, 3) := by decide +kernel
theorem dX12_refusesBind_33 : decode cX12_refusesBind 33 = .ok (.iload 5, 2) := by decide +kernel
theorem dX12_refusesBind_35 : decode cX12_refusesBind 35 = .ok (.goto 20, 3) := by decide +kernel
theorem dX12_refusesBind_38 : decode cX12_refusesBind 38 = .ok (.aload_n 1, 1) := by decide +kernel
theorem dX12_refusesBind_39 : decode cX12_refusesBind 39 = .ok (.bipush 96, 2) := by decide +kernel
theorem dX12_refusesBind_41 : decode cX12_refusesBind 41 = .ok (.iload_n 2, 1) := by decide +kernel
theorem dX12_refusesBind_42 : decode cX12_refusesBind 42 = .ok (.iadd, 1) := by decide +kernel
theorem dX12_refusesBind_43 : decode cX12_refusesBind 43 = .ok (.iaload, 1) := by decide +kernel
theorem dX12_refusesBind_44 : decode cX12_refusesBind 44 = .ok (.iconst 1, 1) := by decide +kernel
theorem dX12_refusesBind_45 : decode cX12_refusesBind 45 = .ok (.if_icmp .ne 8, 3) := by decide +kernel
theorem dX12_refusesBind_48 : decode cX12_refusesBind 48 = .ok (.bipush (-3), 2) := by decide +kernel
theorem dX12_refusesBind_50 : decode cX12_refusesBind 50 = .ok (.goto 5, 3) := by decide +kernel
theorem dX12_refusesBind_53 : decode cX12_refusesBind 53 = .ok (.iload 5, 2) := by decide +kernel
theorem dX12_refusesBind_55 : decode cX12_refusesBind 55 = .ok (.ireturn, 1) := by decide +kernel
theorem dX12_tellCame_0 : decode cX12_tellCame 0 = .ok (.aload_n 0, 1) := by decide +kernel
theorem dX12_tellCame_1 : decode cX12_tellCame 1 = .ok (.iconst 0, 1) := by decide +kernel
theorem dX12_tellCame_2 : decode cX12_tellCame 2 = .ok (.putfield 83, 3) := by decide +kernel
theorem dX12_tellCame_5 : decode cX12_tellCame 5 = .ok (.aload_n 0, 1) := by decide +kernel
theorem dX12_tellCame_6 : decode cX12_tellCame 6 = .ok (.aload_n 0, 1) := by decide +kernel
theorem dX12_tellCame_7 : decode cX12_tellCame 7 = .ok (.getfield 277, 3) := by decide +kernel
theorem dX12_tellCame_10 : decode cX12_tellCame 10 = .ok (.invokestatic 192, 3) := by decide +kernel
theorem dX12_tellCame_13 : decode cX12_tellCame 13 = .ok (.i2l, 1) := by decide +kernel
theorem dX12_tellCame_14 : decode cX12_tellCame 14 = .ok (.invokevirtual 228, 3) := by decide +kernel
theorem dX12_tellCame_17 : decode cX12_tellCame 17 = .ok (.aload_n 0, 1) := by decide +kernel
theorem dX12_tellCame_18 : decode cX12_tellCame 18 = .ok (.aload_n 0, 1) := by decide +kernel
theorem dX12_tellCame_19 : decode cX12_tellCame 19 = .ok (.getfield 277, 3) := by decide +kernel
theorem dX12_tellCame_22 : decode cX12_tellCame 22 = .ok (.i2l, 1) := by decide +kernel
theorem dX12_tellCame_23 : decode cX12_tellCame 23 = .ok (.invokevirtual 228, 3) := by decide +kernel
theorem dX12_tellCame_26 : decode cX12_tellCame 26 = .ok (.iload_n 1, 1) := by decide +kernel
theorem dX12_tellCame_27 : decode cX12_tellCame 27 = .ok (.ireturn, 1) := by decide +kernel
theorem dX12_mounts_0 : decode cX12_mounts 0 = .ok (.aload_n 0, 1) := by decide +kernel
theorem dX12_mounts_1 : decode cX12_mounts 1 = .ok (.iconst 0, 1) := by decide +kernel
theorem dX12_mounts_2 : decode cX12_mounts 2 = .ok (.putfield 79, 3) := by decide +kernel
theorem dX12_mounts_5 : decode cX12_mounts 5 = .ok (.aload_n 0, 1) := by decide +kernel
theorem dX12_mounts_6 : decode cX12_mounts 6 = .ok (.aload_n 0, 1) := by decide +kernel
theorem dX12_mounts_7 : decode cX12_mounts 7 = .ok (.getfield 9, 3) := by decide +kernel
theorem dX12_mounts_10 : decode cX12_mounts 10 = .ok (.iload_n 1, 1) := by decide +kernel
theorem dX12_mounts_11 : decode cX12_mounts 11 = .ok (.iload_n 2, 1) := by decide +kernel
theorem dX12_mounts_12 : decode cX12_mounts 12 = .ok (.invokevirtual 283, 3) := by decide +kernel
theorem dX12_mounts_15 : decode cX12_mounts 15 = .ok (.istore_n 3, 1) := by decide +kernel
theorem dX12_mounts_16 : decode cX12_mounts 16 = .ok (.iload_n 3, 1) := by decide +kernel
theorem dX12_mounts_17 : decode cX12_mounts 17 = .ok (.ifCond .ge 5, 3) := by decide +kernel
theorem dX12_mounts_20 : decode cX12_mounts 20 = .ok (.iload_n 3, 1) := by decide +kernel
theorem dX12_mounts_21 : decode cX12_mounts 21 = .ok (.ireturn, 1) := by decide +kernel
theorem dX12_mounts_22 : decode cX12_mounts 22 = .ok (.aload_n 0, 1) := by decide +kernel
theorem dX12_mounts_23 : decode cX12_mounts 23 = .ok (.aload_n 0, 1) := by decide +kernel
theorem dX12_mounts_24 : decode cX12_mounts 24 = .ok (.getfield 9, 3) := by decide +kernel
theorem dX12_mounts_27 : decode cX12_mounts 27 = .ok (.invokevirtual 286, 3) := by decide +kernel
theorem dX12_mounts_30 : decode cX12_mounts 30 = .ok (.aload_n 0, 1) := by decide +kernel
theorem dX12_mounts_31 : decode cX12_mounts 31 = .ok (.aload_n 0, 1) := by decide +kernel
theorem dX12_mounts_32 : decode cX12_mounts 32 = .ok (.aload_n 0, 1) := by decide +kernel
theorem dX12_mounts_33 : decode cX12_mounts 33 = .ok (.getfield 9, 3) := by decide +kernel
theorem dX12_mounts_36 : decode cX12_mounts 36 = .ok (.bipush 24, 2) := by decide +kernel
theorem dX12_mounts_38 : decode cX12_mounts 38 = .ok (.iload_n 1, 1) := by decide +kernel
theorem dX12_mounts_39 : decode cX12_mounts 39 = .ok (.iload_n 2, 1) := by decide +kernel
theorem dX12_mounts_40 : decode cX12_mounts 40 = .ok (.invokevirtual 290, 3) := by decide +kernel
theorem dX12_mounts_43 : decode cX12_mounts 43 = .ok (.invokevirtual 294, 3) := by decide +kernel
theorem dX12_mounts_46 : decode cX12_mounts 46 = .ok (.ireturn, 1) := by decide +kernel
theorem dX12_binds_0 : decode cX12_binds 0 = .ok (.aload_n 0, 1) := by decide +kernel
theorem dX12_binds_1 : decode cX12_binds 1 = .ok (.iconst 0, 1) := by decide +kernel
theorem dX12_binds_2 : decode cX12_binds 2 = .ok (.putfield 79, 3) := by decide +kernel
theorem dX12_binds_5 : decode cX12_binds 5 = .ok (.aload_n 0, 1) := by decide +kernel
theorem dX12_binds_6 : decode cX12_binds 6 = .ok (.aload_n 0, 1) := by decide +kernel
theorem dX12_binds_7 : decode cX12_binds 7 = .ok (.getfield 9, 3) := by decide +kernel
theorem dX12_binds_10 : decode cX12_binds 10 = .ok (.iload_n 1, 1) := by decide +kernel
theorem dX12_binds_11 : decode cX12_binds 11 = .ok (.iload_n 2, 1) := by decide +kernel
theorem dX12_binds_12 : decode cX12_binds 12 = .ok (.iload_n 3, 1) := by decide +kernel
theorem dX12_binds_13 : decode cX12_binds 13 = .ok (.invokevirtual 297, 3) := by decide +kernel
theorem dX12_binds_16 : decode cX12_binds 16 = .ok (.istore 4, 2) := by decide +kernel
theorem dX12_binds_18 : decode cX12_binds 18 = .ok (.iload 4, 2) := by decide +kernel
theorem dX12_binds_20 : decode cX12_binds 20 = .ok (.ifCond .ge 6, 3) := by decide +kernel
theorem dX12_binds_23 : decode cX12_binds 23 = .ok (.iload 4, 2) := by decide +kernel
theorem dX12_binds_25 : decode cX12_binds 25 = .ok (.ireturn, 1) := by decide +kernel
theorem dX12_binds_26 : decode cX12_binds 26 = .ok (.aload_n 0, 1) := by decide +kernel
theorem dX12_binds_27 : decode cX12_binds 27 = .ok (.aload_n 0, 1) := by decide +kernel
theorem dX12_binds_28 : decode cX12_binds 28 = .ok (.getfield 9, 3) := by decide +kernel
theorem dX12_binds_31 : decode cX12_binds 31 = .ok (.invokevirtual 286, 3) := by decide +kernel
theorem dX12_binds_34 : decode cX12_binds 34 = .ok (.aload_n 0, 1) := by decide +kernel
theorem dX12_binds_35 : decode cX12_binds 35 = .ok (.aload_n 0, 1) := by decide +kernel
theorem dX12_binds_36 : decode cX12_binds 36 = .ok (.aload_n 0, 1) := by decide +kernel
theorem dX12_binds_37 : decode cX12_binds 37 = .ok (.getfield 9, 3) := by decide +kernel
theorem dX12_binds_40 : decode cX12_binds 40 = .ok (.iload_n 1, 1) := by decide +kernel
theorem dX12_binds_41 : decode cX12_binds 41 = .ok (.iload_n 2, 1) := by decide +kernel
theorem dX12_binds_42 : decode cX12_binds 42 = .ok (.iload_n 3, 1) := by decide +kernel
theorem dX12_binds_43 : decode cX12_binds 43 = .ok (.invokevirtual 290, 3) := by decide +kernel
theorem dX12_binds_46 : decode cX12_binds 46 = .ok (.invokevirtual 294, 3) := by decide +kernel
theorem dX12_binds_49 : decode cX12_binds 49 = .ok (.ireturn, 1) := by decide +kernel
theorem dX12_treeOf_0 : decode cX12_treeOf 0 = .ok (.iconst 1, 1) := by decide +kernel
theorem dX12_treeOf_1 : decode cX12_treeOf 1 = .ok (.istore_n 2, 1) := by decide +kernel
theorem dX12_treeOf_2 : decode cX12_treeOf 2 = .ok (.iconst 0, 1) := by decide +kernel
theorem dX12_treeOf_3 : decode cX12_treeOf 3 = .ok (.istore_n 3, 1) := by decide +kernel
theorem dX12_treeOf_4 : decode cX12_treeOf 4 = .ok (.iload_n 3, 1) := by decide +kernel
theorem dX12_treeOf_5 : decode cX12_treeOf 5 = .ok (.iconst 4, 1) := by decide +kernel
theorem dX12_treeOf_6 : decode cX12_treeOf 6 = .ok (.if_icmp .ge 43, 3) := by decide +kernel
theorem dX12_treeOf_9 : decode cX12_treeOf 9 = .ok (.aload_n 0, 1) := by decide +kernel
theorem dX12_treeOf_10 : decode cX12_treeOf 10 = .ok (.iload_n 1, 1) := by decide +kernel
theorem dX12_treeOf_11 : decode cX12_treeOf 11 = .ok (.iload_n 3, 1) := by decide +kernel
theorem dX12_treeOf_12 : decode cX12_treeOf 12 = .ok (.invokestatic 212, 3) := by decide +kernel
theorem dX12_treeOf_15 : decode cX12_treeOf 15 = .ok (.istore 4, 2) := by decide +kernel
theorem dX12_treeOf_17 : decode cX12_treeOf 17 = .ok (.iload 4, 2) := by decide +kernel
theorem dX12_treeOf_19 : decode cX12_treeOf 19 = .ok (.bipush 24, 2) := by decide +kernel
theorem dX12_treeOf_21 : decode cX12_treeOf 21 = .ok (.if_icmp .eq 22, 3) := by decide +kernel
theorem dX12_treeOf_24 : decode cX12_treeOf 24 = .ok (.aload_n 0, 1) := by decide +kernel
theorem dX12_treeOf_25 : decode cX12_treeOf 25 = .ok (.bipush 96, 2) := by decide +kernel
theorem dX12_treeOf_27 : decode cX12_treeOf 27 = .ok (.iload 4, 2) := by decide +kernel
theorem dX12_treeOf_29 : decode cX12_treeOf 29 = .ok (.iadd, 1) := by decide +kernel
theorem dX12_treeOf_30 : decode cX12_treeOf 30 = .ok (.iaload, 1) := by decide +kernel
theorem dX12_treeOf_31 : decode cX12_treeOf 31 = .ok (.ifCond .ne 12, 3) := by decide +kernel
theorem dX12_treeOf_34 : decode cX12_treeOf 34 = .ok (.iload_n 2, 1) := by decide +kernel
theorem dX12_treeOf_35 : decode cX12_treeOf 35 = .ok (.aload_n 0, 1) := by decide +kernel
theorem dX12_treeOf_36 : decode cX12_treeOf 36 = .ok (.iload 4, 2) := by decide +kernel
theorem dX12_treeOf_38 : decode cX12_treeOf 38 = .ok (.invokestatic 300, 3) := by decide +kernel
theorem dX12_treeOf_41 : decode cX12_treeOf 41 = .ok (.iadd, 1) := by decide +kernel
theorem dX12_treeOf_42 : decode cX12_treeOf 42 = .ok (.istore_n 2, 1) := by decide +kernel
theorem dX12_treeOf_43 : decode cX12_treeOf 43 = .ok (.iinc 3 1, 3) := by decide +kernel
theorem dX12_treeOf_46 : decode cX12_treeOf 46 = .ok (.goto (-42), 3) := by decide +kernel
theorem dX12_treeOf_49 : decode cX12_treeOf 49 = .ok (.iload_n 2, 1) := by decide +kernel
theorem dX12_treeOf_50 : decode cX12_treeOf 50 = .ok (.ireturn, 1) := by decide +kernel
theorem dX12_refusesTree_0 : decode cX12_refusesTree 0 = .ok (.aload_n 1, 1) := by decide +kernel
theorem dX12_refusesTree_1 : decode cX12_refusesTree 1 = .ok (.iload_n 2, 1) := by decide +kernel
theorem dX12_refusesTree_2 : decode cX12_refusesTree 2 = .ok (.invokestatic 90, 3) := by decide +kernel
theorem dX12_refusesTree_5 : decode cX12_refusesTree 5 = .ok (.ifCond .eq 19, 3) := by decide +kernel
theorem dX12_refusesTree_8 : decode cX12_refusesTree 8 = .ok (.aload_n 1, 1) := by decide +kernel
theorem dX12_refusesTree_9 : decode cX12_refusesTree 9 = .ok (.iload_n 3, 1) := by decide +kernel
theorem dX12_refusesTree_10 : decode cX12_refusesTree 10 = .ok (.invokestatic 90, 3) := by decide +kernel
theorem dX12_refusesTree_13 : decode cX12_refusesTree 13 = .ok (.ifCond .eq 11, 3) := by decide +kernel
theorem dX12_refusesTree_16 : decode cX12_refusesTree 16 = .ok (.iload 4, 2) := by decide +kernel
theorem dX12_refusesTree_18 : decode cX12_refusesTree 18 = .ok (.invokestatic 235, 3) := by decide +kernel
theorem dX12_refusesTree_21 : decode cX12_refusesTree 21 = .ok (.ifCond .ne 5, 3) := by decide +kernel
theorem dX12_refusesTree_24 : decode cX12_refusesTree 24 = .ok (.iconst (-1), 1) := by decide +kernel
theorem dX12_refusesTree_25 : decode cX12_refusesTree 25 = .ok (.ireturn, 1) := by decide +kernel
theorem dX12_refusesTree_26 : decode cX12_refusesTree 26 = .ok (.aload_n 1, 1) := by decide +kernel
theorem dX12_refusesTree_27 : decode cX12_refusesTree 27 = .ok (.iload_n 3, 1) := by decide +kernel
theorem dX12_refusesTree_28 : decode cX12_refusesTree 28 = .ok (.iload 4, 2) := by decide +kernel
theorem dX12_refusesTree_30 : decode cX12_refusesTree 30 = .ok (.invokestatic 212, 3) := by decide +kernel
theorem dX12_refusesTree_33 : decode cX12_refusesTree 33 = .ok (.bipush 24, 2) := by decide +kernel
theorem dX12_refusesTree_35 : decode cX12_refusesTree 35 = .ok (.if_icmp .eq 6, 3) := by decide +kernel
theorem dX12_refusesTree_38 : decode cX12_refusesTree 38 = .ok (.bipush (-2), 2) := by decide +kernel
theorem dX12_refusesTree_40 : decode cX12_refusesTree 40 = .ok (.ireturn, 1) := by decide +kernel
theorem dX12_refusesTree_41 : decode cX12_refusesTree 41 = .ok (.aload_n 1, 1) := by decide +kernel
theorem dX12_refusesTree_42 : decode cX12_refusesTree 42 = .ok (.bipush 96, 2) := by decide +kernel
theorem dX12_refusesTree_44 : decode cX12_refusesTree 44 = .ok (.iload_n 2, 1) := by decide +kernel
theorem dX12_refusesTree_45 : decode cX12_refusesTree 45 = .ok (.iadd, 1) := by decide +kernel
theorem dX12_refusesTree_46 : decode cX12_refusesTree 46 = .ok (.iaload, 1) := by decide +kernel
theorem dX12_refusesTree_47 : decode cX12_refusesTree 47 = .ok (.iconst 1, 1) := by decide +kernel
theorem dX12_refusesTree_48 : decode cX12_refusesTree 48 = .ok (.if_icmp .ne 6, 3) := by decide +kernel
theorem dX12_refusesTree_51 : decode cX12_refusesTree 51 = .ok (.bipush (-3), 2) := by decide +kernel
theorem dX12_refusesTree_53 : decode cX12_refusesTree 53 = .ok (.ireturn, 1) := by decide +kernel
theorem dX12_refusesTree_54 : decode cX12_refusesTree 54 = .ok (.aload_n 1, 1) := by decide +kernel
theorem dX12_refusesTree_55 : decode cX12_refusesTree 55 = .ok (.bipush 48, 2) := by decide +kernel
theorem dX12_refusesTree_57 : decode cX12_refusesTree 57 = .ok (.iload_n 3, 1) := by decide +kernel
theorem dX12_refusesTree_58 : decode cX12_refusesTree 58 = .ok (.iadd, 1) := by decide +kernel
theorem dX12_refusesTree_59 : decode cX12_refusesTree 59 = .ok (.iaload, 1) := by decide +kernel
theorem dX12_refusesTree_60 : decode cX12_refusesTree 60 = .ok (.ifCond .eq 6, 3) := by decide +kernel
theorem dX12_refusesTree_63 : decode cX12_refusesTree 63 = .ok (.bipush (-4), 2) := by decide +kernel
theorem dX12_refusesTree_65 : decode cX12_refusesTree 65 = .ok (.ireturn, 1) := by decide +kernel
theorem dX12_refusesTree_66 : decode cX12_refusesTree 66 = .ok (.aload_n 1, 1) := by decide +kernel
theorem dX12_refusesTree_67 : decode cX12_refusesTree 67 = .ok (.invokestatic 280, 3) := by decide +kernel
theorem dX12_refusesTree_70 : decode cX12_refusesTree 70 = .ok (.invokestatic 192, 3) := by decide +kernel
theorem dX12_refusesTree_73 : decode cX12_refusesTree 73 = .ok (.aload_n 1, 1) := by decide +kernel
theorem dX12_refusesTree_74 : decode cX12_refusesTree 74 = .ok (.iload_n 2, 1) := by decide +kernel
theorem dX12_refusesTree_75 : decode cX12_refusesTree 75 = .ok (.invokestatic 300, 3) := by decide +kernel
theorem dX12_refusesTree_78 : decode cX12_refusesTree 78 = .ok (.iadd, 1) := by decide +kernel
theorem dX12_refusesTree_79 : decode cX12_refusesTree 79 = .ok (.bipush 24, 2) := by decide +kernel
theorem dX12_refusesTree_81 : decode cX12_refusesTree 81 = .ok (.if_icmp .le 8, 3) := by decide +kernel
theorem dX12_refusesTree_84 : decode cX12_refusesTree 84 = .ok (.bipush (-9), 2) := by decide +kernel
theorem dX12_refusesTree_86 : decode cX12_refusesTree 86 = .ok (.goto 4, 3) := by decide +kernel
theorem dX12_refusesTree_89 : decode cX12_refusesTree 89 = .ok (.iconst 0, 1) := by decide +kernel
theorem dX12_refusesTree_90 : decode cX12_refusesTree 90 = .ok (.ireturn, 1) := by decide +kernel
theorem dX12_goInside_0 : decode cX12_goInside 0 = .ok (.iconst 0, 1) := by decide +kernel
theorem dX12_goInside_1 : decode cX12_goInside 1 = .ok (.istore 4, 2) := by decide +kernel
theorem dX12_goInside_3 : decode cX12_goInside 3 = .ok (.iload 4, 2) := by decide +kernel
theorem dX12_goInside_5 : decode cX12_goInside 5 = .ok (.iconst 4, 1) := by decide +kernel
theorem dX12_goInside_6 : decode cX12_goInside 6 = .ok (.if_icmp .ge 96, 3) := by decide +kernel
theorem dX12_goInside_9 : decode cX12_goInside 9 = .ok (.aload_n 0, 1) := by decide +kernel
theorem dX12_goInside_10 : decode cX12_goInside 10 = .ok (.getfield 48, 3) := by decide +kernel
theorem dX12_goInside_13 : decode cX12_goInside 13 = .ok (.iload_n 2, 1) := by decide +kernel
theorem dX12_goInside_14 : decode cX12_goInside 14 = .ok (.iload 4, 2) := by decide +kernel
theorem dX12_goInside_16 : decode cX12_goInside 16 = .ok (.invokestatic 212, 3) := by decide +kernel
theorem dX12_goInside_19 : decode cX12_goInside 19 = .ok (.istore 5, 2) := by decide +kernel
theorem dX12_goInside_21 : decode cX12_goInside 21 = .ok (.iload 5, 2) := by decide +kernel
theorem dX12_goInside_23 : decode cX12_goInside 23 = .ok (.bipush 24, 2) := by decide +kernel
theorem dX12_goInside_25 : decode cX12_goInside 25 = .ok (.if_icmp .eq 71, 3) := by decide +kernel
theorem dX12_goInside_28 : decode cX12_goInside 28 = .ok (.aload_n 0, 1) := by decide +kernel
theorem dX12_goInside_29 : decode cX12_goInside 29 = .ok (.getfield 48, 3) := by decide +kernel
theorem dX12_goInside_32 : decode cX12_goInside 32 = .ok (.bipush 96, 2) := by decide +kernel
theorem dX12_goInside_34 : decode cX12_goInside 34 = .ok (.iload 5, 2) := by decide +kernel
theorem dX12_goInside_36 : decode cX12_goInside 36 = .ok (.iadd, 1) := by decide +kernel
theorem dX12_goInside_37 : decode cX12_goInside 37 = .ok (.iaload, 1) := by decide +kernel
theorem dX12_goInside_38 : decode cX12_goInside 38 = .ok (.iconst 1, 1) := by decide +kernel
theorem dX12_goInside_39 : decode cX12_goInside 39 = .ok (.if_icmp .ne 6, 3) := by decide +kernel
theorem dX12_goInside_42 : decode cX12_goInside 42 = .ok (.goto 54, 3) := by decide +kernel
theorem dX12_goInside_45 : decode cX12_goInside 45 = .ok (.aload_n 1, 1) := by decide +kernel
theorem dX12_goInside_46 : decode cX12_goInside 46 = .ok (.iload_n 3, 1) := by decide +kernel
theorem dX12_goInside_47 : decode cX12_goInside 47 = .ok (.iload 4, 2) := by decide +kernel
theorem dX12_goInside_49 : decode cX12_goInside 49 = .ok (.aload_n 0, 1) := by decide +kernel
theorem dX12_goInside_50 : decode cX12_goInside 50 = .ok (.getfield 48, 3) := by decide +kernel
theorem dX12_goInside_53 : decode cX12_goInside 53 = .ok (.bipush 48, 2) := by decide +kernel
theorem dX12_goInside_55 : decode cX12_goInside 55 = .ok (.iload 5, 2) := by decide +kernel
theorem dX12_goInside_57 : decode cX12_goInside 57 = .ok (.iadd, 1) := by decide +kernel
theorem dX12_goInside_58 : decode cX12_goInside 58 = .ok (.iaload, 1) := by decide +kernel
theorem dX12_goInside_59 : decode cX12_goInside 59 = .ok (.aload_n 0, 1) := by decide +kernel
theorem dX12_goInside_60 : decode cX12_goInside 60 = .ok (.getfield 48, 3) := by decide +kernel
theorem dX12_goInside_63 : decode cX12_goInside 63 = .ok (.bipush 72, 2) := by decide +kernel
theorem dX12_goInside_65 : decode cX12_goInside 65 = .ok (.iload 5, 2) := by decide +kernel
theorem dX12_goInside_67 : decode cX12_goInside 67 = .ok (.iadd, 1) := by decide +kernel
theorem dX12_goInside_68 : decode cX12_goInside 68 = .ok (.iaload, 1) := by decide +kernel
theorem dX12_goInside_69 : decode cX12_goInside 69 = .ok (.invokestatic 273, 3) := by decide +kernel
theorem dX12_goInside_72 : decode cX12_goInside 72 = .ok (.istore 6, 2) := by decide +kernel
theorem dX12_goInside_74 : decode cX12_goInside 74 = .ok (.aload_n 0, 1) := by decide +kernel
theorem dX12_goInside_75 : decode cX12_goInside 75 = .ok (.dup, 1) := by decide +kernel
theorem dX12_goInside_76 : decode cX12_goInside 76 = .ok (.getfield 277, 3) := by decide +kernel
theorem dX12_goInside_79 : decode cX12_goInside 79 = .ok (.iconst 1, 1) := by decide +kernel
theorem dX12_goInside_80 : decode cX12_goInside 80 = .ok (.iload 6, 2) := by decide +kernel
theorem dX12_goInside_82 : decode cX12_goInside 82 = .ok (.ishl, 1) := by decide +kernel
theorem dX12_goInside_83 : decode cX12_goInside 83 = .ok (.ior, 1) := by decide +kernel
theorem dX12_goInside_84 : decode cX12_goInside 84 = .ok (.putfield 277, 3) := by decide +kernel
theorem dX12_goInside_87 : decode cX12_goInside 87 = .ok (.aload_n 0, 1) := by decide +kernel
theorem dX12_goInside_88 : decode cX12_goInside 88 = .ok (.aload_n 1, 1) := by decide +kernel
theorem dX12_goInside_89 : decode cX12_goInside 89 = .ok (.iload 5, 2) := by decide +kernel
theorem dX12_goInside_91 : decode cX12_goInside 91 = .ok (.iload 6, 2) := by decide +kernel
theorem dX12_goInside_93 : decode cX12_goInside 93 = .ok (.invokevirtual 303, 3) := by decide +kernel
theorem dX12_goInside_96 : decode cX12_goInside 96 = .ok (.iinc 4 1, 3) := by decide +kernel
theorem dX12_goInside_99 : decode cX12_goInside 99 = .ok (.goto (-96), 3) := by decide +kernel
theorem dX12_goInside_102 : decode cX12_goInside 102 = .ok (.return_, 1) := by decide +kernel
theorem dX12_goTree_0 : decode cX12_goTree 0 = .ok (.aload_n 1, 1) := by decide +kernel
theorem dX12_goTree_1 : decode cX12_goTree 1 = .ok (.aload_n 0, 1) := by decide +kernel
theorem dX12_goTree_2 : decode cX12_goTree 2 = .ok (.getfield 48, 3) := by decide +kernel
theorem dX12_goTree_5 : decode cX12_goTree 5 = .ok (.iconst 0, 1) := by decide +kernel
theorem dX12_goTree_6 : decode cX12_goTree 6 = .ok (.invokestatic 242, 3) := by decide +kernel
theorem dX12_goTree_9 : decode cX12_goTree 9 = .ok (.aload_n 0, 1) := by decide +kernel
theorem dX12_goTree_10 : decode cX12_goTree 10 = .ok (.aload_n 1, 1) := by decide +kernel
theorem dX12_goTree_11 : decode cX12_goTree 11 = .ok (.iload_n 2, 1) := by decide +kernel
theorem dX12_goTree_12 : decode cX12_goTree 12 = .ok (.iload_n 3, 1) := by decide +kernel
theorem dX12_goTree_13 : decode cX12_goTree 13 = .ok (.iload 4, 2) := by decide +kernel
theorem dX12_goTree_15 : decode cX12_goTree 15 = .ok (.invokevirtual 290, 3) := by decide +kernel
theorem dX12_goTree_18 : decode cX12_goTree 18 = .ok (.istore 5, 2) := by decide +kernel
theorem dX12_goTree_20 : decode cX12_goTree 20 = .ok (.aload_n 0, 1) := by decide +kernel
theorem dX12_goTree_21 : decode cX12_goTree 21 = .ok (.aload_n 1, 1) := by decide +kernel
theorem dX12_goTree_22 : decode cX12_goTree 22 = .ok (.iload_n 2, 1) := by decide +kernel
theorem dX12_goTree_23 : decode cX12_goTree 23 = .ok (.iload 5, 2) := by decide +kernel
theorem dX12_goTree_25 : decode cX12_goTree 25 = .ok (.invokevirtual 303, 3) := by decide +kernel
theorem dX12_goTree_28 : decode cX12_goTree 28 = .ok (.iload 5, 2) := by decide +kernel
theorem dX12_goTree_30 : decode cX12_goTree 30 = .ok (.ireturn, 1) := by decide +kernel
theorem dX12_trees_0 : decode cX12_trees 0 = .ok (.aload_n 0, 1) := by decide +kernel
theorem dX12_trees_1 : decode cX12_trees 1 = .ok (.iconst 0, 1) := by decide +kernel
theorem dX12_trees_2 : decode cX12_trees 2 = .ok (.putfield 79, 3) := by decide +kernel
theorem dX12_trees_5 : decode cX12_trees 5 = .ok (.aload_n 0, 1) := by decide +kernel
theorem dX12_trees_6 : decode cX12_trees 6 = .ok (.aload_n 0, 1) := by decide +kernel
theorem dX12_trees_7 : decode cX12_trees 7 = .ok (.getfield 9, 3) := by decide +kernel
theorem dX12_trees_10 : decode cX12_trees 10 = .ok (.iload_n 1, 1) := by decide +kernel
theorem dX12_trees_11 : decode cX12_trees 11 = .ok (.iload_n 2, 1) := by decide +kernel
theorem dX12_trees_12 : decode cX12_trees 12 = .ok (.iload_n 3, 1) := by decide +kernel
theorem dX12_trees_13 : decode cX12_trees 13 = .ok (.invokevirtual 307, 3) := by decide +kernel
theorem dX12_trees_16 : decode cX12_trees 16 = .ok (.istore 4, 2) := by decide +kernel
theorem dX12_trees_18 : decode cX12_trees 18 = .ok (.iload 4, 2) := by decide +kernel
theorem dX12_trees_20 : decode cX12_trees 20 = .ok (.ifCond .ge 6, 3) := by decide +kernel
theorem dX12_trees_23 : decode cX12_trees 23 = .ok (.iload 4, 2) := by decide +kernel
theorem dX12_trees_25 : decode cX12_trees 25 = .ok (.ireturn, 1) := by decide +kernel
theorem dX12_trees_26 : decode cX12_trees 26 = .ok (.aload_n 0, 1) := by decide +kernel
theorem dX12_trees_27 : decode cX12_trees 27 = .ok (.aload_n 0, 1) := by decide +kernel
theorem dX12_trees_28 : decode cX12_trees 28 = .ok (.getfield 9, 3) := by decide +kernel
theorem dX12_trees_31 : decode cX12_trees 31 = .ok (.invokevirtual 286, 3) := by decide +kernel
theorem dX12_trees_34 : decode cX12_trees 34 = .ok (.aload_n 0, 1) := by decide +kernel
theorem dX12_trees_35 : decode cX12_trees 35 = .ok (.aload_n 0, 1) := by decide +kernel
theorem dX12_trees_36 : decode cX12_trees 36 = .ok (.aload_n 0, 1) := by decide +kernel
theorem dX12_trees_37 : decode cX12_trees 37 = .ok (.getfield 9, 3) := by decide +kernel
theorem dX12_trees_40 : decode cX12_trees 40 = .ok (.iload_n 1, 1) := by decide +kernel
theorem dX12_trees_41 : decode cX12_trees 41 = .ok (.iload_n 2, 1) := by decide +kernel
theorem dX12_trees_42 : decode cX12_trees 42 = .ok (.iload_n 3, 1) := by decide +kernel
theorem dX12_trees_43 : decode cX12_trees 43 = .ok (.invokevirtual 310, 3) := by decide +kernel
theorem dX12_trees_46 : decode cX12_trees 46 = .ok (.invokevirtual 294, 3) := by decide +kernel
theorem dX12_trees_49 : decode cX12_trees 49 = .ok (.ireturn, 1) := by decide +kernel
theorem dX12_goOut_0 : decode cX12_goOut 0 = .ok (.aload_n 0, 1) := by decide +kernel
theorem dX12_goOut_1 : decode cX12_goOut 1 = .ok (.bipush 48, 2) := by decide +kernel
theorem dX12_goOut_3 : decode cX12_goOut 3 = .ok (.iload_n 1, 1) := by decide +kernel
theorem dX12_goOut_4 : decode cX12_goOut 4 = .ok (.iadd, 1) := by decide +kernel
theorem dX12_goOut_5 : decode cX12_goOut 5 = .ok (.iaload, 1) := by decide +kernel
theorem dX12_goOut_6 : decode cX12_goOut 6 = .ok (.istore_n 2, 1) := by decide +kernel
theorem dX12_goOut_7 : decode cX12_goOut 7 = .ok (.iload_n 2, 1) := by decide +kernel
theorem dX12_goOut_8 : decode cX12_goOut 8 = .ok (.ifCond .ne 4, 3) := by decide +kernel
theorem dX12_goOut_11 : decode cX12_goOut 11 = .ok (.return_, 1) := by decide +kernel
theorem dX12_goOut_12 : decode cX12_goOut 12 = .ok (.aload_n 0, 1) := by decide +kernel
theorem dX12_goOut_13 : decode cX12_goOut 13 = .ok (.bipush 48, 2) := by decide +kernel
theorem dX12_goOut_15 : decode cX12_goOut 15 = .ok (.iload_n 1, 1) := by decide +kernel
theorem dX12_goOut_16 : decode cX12_goOut 16 = .ok (.iadd, 1) := by decide +kernel
theorem dX12_goOut_17 : decode cX12_goOut 17 = .ok (.iconst 0, 1) := by decide +kernel
theorem dX12_goOut_18 : decode cX12_goOut 18 = .ok (.iastore, 1) := by decide +kernel
theorem dX12_goOut_19 : decode cX12_goOut 19 = .ok (.aload_n 0, 1) := by decide +kernel
theorem dX12_goOut_20 : decode cX12_goOut 20 = .ok (.iload_n 2, 1) := by decide +kernel
theorem dX12_goOut_21 : decode cX12_goOut 21 = .ok (.invokestatic 98, 3) := by decide +kernel
theorem dX12_goOut_24 : decode cX12_goOut 24 = .ok (.ifCond .eq 4, 3) := by decide +kernel
theorem dX12_goOut_27 : decode cX12_goOut 27 = .ok (.return_, 1) := by decide +kernel
theorem dX12_goOut_28 : decode cX12_goOut 28 = .ok (.iconst 0, 1) := by decide +kernel
theorem dX12_goOut_29 : decode cX12_goOut 29 = .ok (.istore_n 3, 1) := by decide +kernel
theorem dX12_goOut_30 : decode cX12_goOut 30 = .ok (.iload_n 3, 1) := by decide +kernel
theorem dX12_goOut_31 : decode cX12_goOut 31 = .ok (.bipush 24, 2) := by decide +kernel
theorem dX12_goOut_33 : decode cX12_goOut 33 = .ok (.if_icmp .ge 39, 3) := by decide +kernel
theorem dX12_goOut_36 : decode cX12_goOut 36 = .ok (.aload_n 0, 1) := by decide +kernel
theorem dX12_goOut_37 : decode cX12_goOut 37 = .ok (.iload_n 3, 1) := by decide +kernel
theorem dX12_goOut_38 : decode cX12_goOut 38 = .ok (.invokestatic 90, 3) := by decide +kernel
theorem dX12_goOut_41 : decode cX12_goOut 41 = .ok (.ifCond .eq 25, 3) := by decide +kernel
theorem dX12_goOut_44 : decode cX12_goOut 44 = .ok (.aload_n 0, 1) := by decide +kernel
theorem dX12_goOut_45 : decode cX12_goOut 45 = .ok (.bipush 72, 2) := by decide +kernel
theorem dX12_goOut_47 : decode cX12_goOut 47 = .ok (.iload_n 3, 1) := by decide +kernel
theorem dX12_goOut_48 : decode cX12_goOut 48 = .ok (.iadd, 1) := by decide +kernel
theorem dX12_goOut_49 : decode cX12_goOut 49 = .ok (.iaload, 1) := by decide +kernel
theorem dX12_goOut_50 : decode cX12_goOut 50 = .ok (.iload_n 2, 1) := by decide +kernel
theorem dX12_goOut_51 : decode cX12_goOut 51 = .ok (.if_icmp .ne 15, 3) := by decide +kernel
theorem dX12_goOut_54 : decode cX12_goOut 54 = .ok (.aload_n 0, 1) := by decide +kernel
theorem dX12_goOut_55 : decode cX12_goOut 55 = .ok (.bipush 72, 2) := by decide +kernel
theorem dX12_goOut_57 : decode cX12_goOut 57 = .ok (.iload_n 3, 1) := by decide +kernel
theorem dX12_goOut_58 : decode cX12_goOut 58 = .ok (.iadd, 1) := by decide +kernel
theorem dX12_goOut_59 : decode cX12_goOut 59 = .ok (.aload_n 0, 1) := by decide +kernel
theorem dX12_goOut_60 : decode cX12_goOut 60 = .ok (.bipush 72, 2) := by decide +kernel
theorem dX12_goOut_62 : decode cX12_goOut 62 = .ok (.iload_n 1, 1) := by decide +kernel
theorem dX12_goOut_63 : decode cX12_goOut 63 = .ok (.iadd, 1) := by decide +kernel
theorem dX12_goOut_64 : decode cX12_goOut 64 = .ok (.iaload, 1) := by decide +kernel
theorem dX12_goOut_65 : decode cX12_goOut 65 = .ok (.iastore, 1) := by decide +kernel
theorem dX12_goOut_66 : decode cX12_goOut 66 = .ok (.iinc 3 1, 3) := by decide +kernel
theorem dX12_goOut_69 : decode cX12_goOut 69 = .ok (.goto (-39), 3) := by decide +kernel
theorem dX12_goOut_72 : decode cX12_goOut 72 = .ok (.return_, 1) := by decide +kernel
theorem dX12_refusesMaking_0 : decode cX12_refusesMaking 0 = .ok (.aload_n 0, 1) := by decide +kernel
theorem dX12_refusesMaking_1 : decode cX12_refusesMaking 1 = .ok (.iload_n 1, 1) := by decide +kernel
theorem dX12_refusesMaking_2 : decode cX12_refusesMaking 2 = .ok (.invokestatic 90, 3) := by decide +kernel
theorem dX12_refusesMaking_5 : decode cX12_refusesMaking 5 = .ok (.ifCond .eq 12, 3) := by decide +kernel
theorem dX12_refusesMaking_8 : decode cX12_refusesMaking 8 = .ok (.iload_n 2, 1) := by decide +kernel
theorem dX12_refusesMaking_9 : decode cX12_refusesMaking 9 = .ok (.iconst 0, 1) := by decide +kernel
theorem dX12_refusesMaking_10 : decode cX12_refusesMaking 10 = .ok (.iconst 3, 1) := by decide +kernel
theorem dX12_refusesMaking_11 : decode cX12_refusesMaking 11 = .ok (.invokestatic 86, 3) := by decide +kernel
theorem dX12_refusesMaking_14 : decode cX12_refusesMaking 14 = .ok (.ifCond .ne 5, 3) := by decide +kernel
theorem dX12_refusesMaking_17 : decode cX12_refusesMaking 17 = .ok (.iconst (-1), 1) := by decide +kernel
theorem dX12_refusesMaking_18 : decode cX12_refusesMaking 18 = .ok (.ireturn, 1) := by decide +kernel
theorem dX12_refusesMaking_19 : decode cX12_refusesMaking 19 = .ok (.iload_n 2, 1) := by decide +kernel
theorem dX12_refusesMaking_20 : decode cX12_refusesMaking 20 = .ok (.iconst 2, 1) := by decide +kernel
theorem dX12_refusesMaking_21 : decode cX12_refusesMaking 21 = .ok (.if_icmp .ne 17, 3) := by decide +kernel
theorem dX12_refusesMaking_24 : decode cX12_refusesMaking 24 = .ok (.aload_n 0, 1) := by decide +kernel
theorem dX12_refusesMaking_25 : decode cX12_refusesMaking 25 = .ok (.bipush 48, 2) := by decide +kernel
theorem dX12_refusesMaking_27 : decode cX12_refusesMaking 27 = .ok (.iload_n 1, 1) := by decide +kernel
theorem dX12_refusesMaking_28 : decode cX12_refusesMaking 28 = .ok (.iadd, 1) := by decide +kernel
theorem dX12_refusesMaking_29 : decode cX12_refusesMaking 29 = .ok (.iaload, 1) := by decide +kernel
theorem dX12_refusesMaking_30 : decode cX12_refusesMaking 30 = .ok (.ifCond .ne 8, 3) := by decide +kernel
theorem dX12_refusesMaking_33 : decode cX12_refusesMaking 33 = .ok (.bipush (-2), 2) := by decide +kernel
theorem dX12_refusesMaking_35 : decode cX12_refusesMaking 35 = .ok (.goto 4, 3) := by decide +kernel
theorem dX12_refusesMaking_38 : decode cX12_refusesMaking 38 = .ok (.iconst 0, 1) := by decide +kernel
theorem dX12_refusesMaking_39 : decode cX12_refusesMaking 39 = .ok (.ireturn, 1) := by decide +kernel
theorem dX12_goMake_0 : decode cX12_goMake 0 = .ok (.iload_n 2, 1) := by decide +kernel
theorem dX12_goMake_1 : decode cX12_goMake 1 = .ok (.lookupswitch 93 #[(1, 27), (2, 56)], 27) := by decide +kernel
theorem dX12_goMake_28 : decode cX12_goMake 28 = .ok (.aload_n 0, 1) := by decide +kernel
theorem dX12_goMake_29 : decode cX12_goMake 29 = .ok (.bipush 96, 2) := by decide +kernel
theorem dX12_goMake_31 : decode cX12_goMake 31 = .ok (.iload_n 1, 1) := by decide +kernel
theorem dX12_goMake_32 : decode cX12_goMake 32 = .ok (.iadd, 1) := by decide +kernel
theorem dX12_goMake_33 : decode cX12_goMake 33 = .ok (.iconst 0, 1) := by decide +kernel
theorem dX12_goMake_34 : decode cX12_goMake 34 = .ok (.iastore, 1) := by decide +kernel
theorem dX12_goMake_35 : decode cX12_goMake 35 = .ok (.aload_n 0, 1) := by decide +kernel
theorem dX12_goMake_36 : decode cX12_goMake 36 = .ok (.bipush 48, 2) := by decide +kernel
theorem dX12_goMake_38 : decode cX12_goMake 38 = .ok (.iload_n 1, 1) := by decide +kernel
theorem dX12_goMake_39 : decode cX12_goMake 39 = .ok (.iadd, 1) := by decide +kernel
theorem dX12_goMake_40 : decode cX12_goMake 40 = .ok (.iaload, 1) := by decide +kernel
theorem dX12_goMake_41 : decode cX12_goMake 41 = .ok (.ifCond .ne 81, 3) := by decide +kernel
theorem dX12_goMake_44 : decode cX12_goMake 44 = .ok (.aload_n 0, 1) := by decide +kernel
theorem dX12_goMake_45 : decode cX12_goMake 45 = .ok (.bipush 48, 2) := by decide +kernel
theorem dX12_goMake_47 : decode cX12_goMake 47 = .ok (.iload_n 1, 1) := by decide +kernel
theorem dX12_goMake_48 : decode cX12_goMake 48 = .ok (.iadd, 1) := by decide +kernel
theorem dX12_goMake_49 : decode cX12_goMake 49 = .ok (.aload_n 0, 1) := by decide +kernel
theorem dX12_goMake_50 : decode cX12_goMake 50 = .ok (.invokestatic 263, 3) := by decide +kernel
theorem dX12_goMake_53 : decode cX12_goMake 53 = .ok (.iastore, 1) := by decide +kernel
theorem dX12_goMake_54 : decode cX12_goMake 54 = .ok (.goto 68, 3) := by decide +kernel
theorem dX12_goMake_57 : decode cX12_goMake 57 = .ok (.aload_n 0, 1) := by decide +kernel
theorem dX12_goMake_58 : decode cX12_goMake 58 = .ok (.aload_n 0, 1) := by decide +kernel
theorem dX12_goMake_59 : decode cX12_goMake 59 = .ok (.bipush 48, 2) := by decide +kernel
theorem dX12_goMake_61 : decode cX12_goMake 61 = .ok (.iload_n 1, 1) := by decide +kernel
theorem dX12_goMake_62 : decode cX12_goMake 62 = .ok (.iadd, 1) := by decide +kernel
theorem dX12_goMake_63 : decode cX12_goMake 63 = .ok (.iaload, 1) := by decide +kernel
theorem dX12_goMake_64 : decode cX12_goMake 64 = .ok (.invokestatic 98, 3) := by decide +kernel
theorem dX12_goMake_67 : decode cX12_goMake 67 = .ok (.invokestatic 192, 3) := by decide +kernel
theorem dX12_goMake_70 : decode cX12_goMake 70 = .ok (.iconst 1, 1) := by decide +kernel
theorem dX12_goMake_71 : decode cX12_goMake 71 = .ok (.if_icmp .le 15, 3) := by decide +kernel
theorem dX12_goMake_74 : decode cX12_goMake 74 = .ok (.aload_n 0, 1) := by decide +kernel
theorem dX12_goMake_75 : decode cX12_goMake 75 = .ok (.bipush 72, 2) := by decide +kernel
theorem dX12_goMake_77 : decode cX12_goMake 77 = .ok (.iload_n 1, 1) := by decide +kernel
theorem dX12_goMake_78 : decode cX12_goMake 78 = .ok (.iadd, 1) := by decide +kernel
theorem dX12_goMake_79 : decode cX12_goMake 79 = .ok (.aload_n 0, 1) := by decide +kernel
theorem dX12_goMake_80 : decode cX12_goMake 80 = .ok (.bipush 48, 2) := by decide +kernel
theorem dX12_goMake_82 : decode cX12_goMake 82 = .ok (.iload_n 1, 1) := by decide +kernel
theorem dX12_goMake_83 : decode cX12_goMake 83 = .ok (.iadd, 1) := by decide +kernel
theorem dX12_goMake_84 : decode cX12_goMake 84 = .ok (.iaload, 1) := by decide +kernel
theorem dX12_goMake_85 : decode cX12_goMake 85 = .ok (.iastore, 1) := by decide +kernel
theorem dX12_goMake_86 : decode cX12_goMake 86 = .ok (.aload_n 0, 1) := by decide +kernel
theorem dX12_goMake_87 : decode cX12_goMake 87 = .ok (.iload_n 1, 1) := by decide +kernel
theorem dX12_goMake_88 : decode cX12_goMake 88 = .ok (.invokestatic 313, 3) := by decide +kernel
theorem dX12_goMake_91 : decode cX12_goMake 91 = .ok (.goto 31, 3) := by decide +kernel
theorem dX12_goMake_94 : decode cX12_goMake 94 = .ok (.aload_n 0, 1) := by decide +kernel
theorem dX12_goMake_95 : decode cX12_goMake 95 = .ok (.iload_n 1, 1) := by decide +kernel
theorem dX12_goMake_96 : decode cX12_goMake 96 = .ok (.invokestatic 313, 3) := by decide +kernel
theorem dX12_goMake_99 : decode cX12_goMake 99 = .ok (.aload_n 0, 1) := by decide +kernel
theorem dX12_goMake_100 : decode cX12_goMake 100 = .ok (.bipush 72, 2) := by decide +kernel
theorem dX12_goMake_102 : decode cX12_goMake 102 = .ok (.iload_n 1, 1) := by decide +kernel
theorem dX12_goMake_103 : decode cX12_goMake 103 = .ok (.iadd, 1) := by decide +kernel
theorem dX12_goMake_104 : decode cX12_goMake 104 = .ok (.iconst 0, 1) := by decide +kernel
theorem dX12_goMake_105 : decode cX12_goMake 105 = .ok (.iastore, 1) := by decide +kernel
theorem dX12_goMake_106 : decode cX12_goMake 106 = .ok (.aload_n 0, 1) := by decide +kernel
theorem dX12_goMake_107 : decode cX12_goMake 107 = .ok (.bipush 96, 2) := by decide +kernel
theorem dX12_goMake_109 : decode cX12_goMake 109 = .ok (.iload_n 1, 1) := by decide +kernel
theorem dX12_goMake_110 : decode cX12_goMake 110 = .ok (.iadd, 1) := by decide +kernel
theorem dX12_goMake_111 : decode cX12_goMake 111 = .ok (.iload_n 2, 1) := by decide +kernel
theorem dX12_goMake_112 : decode cX12_goMake 112 = .ok (.iconst 3, 1) := by decide +kernel
theorem dX12_goMake_113 : decode cX12_goMake 113 = .ok (.if_icmp .ne 7, 3) := by decide +kernel
theorem dX12_goMake_116 : decode cX12_goMake 116 = .ok (.iconst 1, 1) := by decide +kernel
theorem dX12_goMake_117 : decode cX12_goMake 117 = .ok (.goto 4, 3) := by decide +kernel
theorem dX12_goMake_120 : decode cX12_goMake 120 = .ok (.iconst 0, 1) := by decide +kernel
theorem dX12_goMake_121 : decode cX12_goMake 121 = .ok (.iastore, 1) := by decide +kernel
theorem dX12_goMake_122 : decode cX12_goMake 122 = .ok (.aload_n 0, 1) := by decide +kernel
theorem dX12_goMake_123 : decode cX12_goMake 123 = .ok (.bipush 120, 2) := by decide +kernel
theorem dX12_goMake_125 : decode cX12_goMake 125 = .ok (.dup2, 1) := by decide +kernel
theorem dX12_goMake_126 : decode cX12_goMake 126 = .ok (.iaload, 1) := by decide +kernel
theorem dX12_goMake_127 : decode cX12_goMake 127 = .ok (.iconst 1, 1) := by decide +kernel
theorem dX12_goMake_128 : decode cX12_goMake 128 = .ok (.iadd, 1) := by decide +kernel
theorem dX12_goMake_129 : decode cX12_goMake 129 = .ok (.iastore, 1) := by decide +kernel
theorem dX12_goMake_130 : decode cX12_goMake 130 = .ok (.return_, 1) := by decide +kernel
theorem dX12_makes_0 : decode cX12_makes 0 = .ok (.aload_n 0, 1) := by decide +kernel
theorem dX12_makes_1 : decode cX12_makes 1 = .ok (.iconst 0, 1) := by decide +kernel
theorem dX12_makes_2 : decode cX12_makes 2 = .ok (.putfield 79, 3) := by decide +kernel
theorem dX12_makes_5 : decode cX12_makes 5 = .ok (.aload_n 0, 1) := by decide +kernel
theorem dX12_makes_6 : decode cX12_makes 6 = .ok (.getfield 9, 3) := by decide +kernel
theorem dX12_makes_9 : decode cX12_makes 9 = .ok (.iload_n 1, 1) := by decide +kernel
theorem dX12_makes_10 : decode cX12_makes 10 = .ok (.iload_n 2, 1) := by decide +kernel
theorem dX12_makes_11 : decode cX12_makes 11 = .ok (.invokestatic 317, 3) := by decide +kernel
theorem dX12_makes_14 : decode cX12_makes 14 = .ok (.istore_n 3, 1) := by decide +kernel
theorem dX12_makes_15 : decode cX12_makes 15 = .ok (.iload_n 3, 1) := by decide +kernel
theorem dX12_makes_16 : decode cX12_makes 16 = .ok (.ifCond .ge 5, 3) := by decide +kernel
theorem dX12_makes_19 : decode cX12_makes 19 = .ok (.iload_n 3, 1) := by decide +kernel
theorem dX12_makes_20 : decode cX12_makes 20 = .ok (.ireturn, 1) := by decide +kernel
theorem dX12_makes_21 : decode cX12_makes 21 = .ok (.aload_n 0, 1) := by decide +kernel
theorem dX12_makes_22 : decode cX12_makes 22 = .ok (.aload_n 0, 1) := by decide +kernel
theorem dX12_makes_23 : decode cX12_makes 23 = .ok (.getfield 9, 3) := by decide +kernel
theorem dX12_makes_26 : decode cX12_makes 26 = .ok (.invokevirtual 286, 3) := by decide +kernel
theorem dX12_makes_29 : decode cX12_makes 29 = .ok (.aload_n 0, 1) := by decide +kernel
theorem dX12_makes_30 : decode cX12_makes 30 = .ok (.getfield 9, 3) := by decide +kernel
theorem dX12_makes_33 : decode cX12_makes 33 = .ok (.iload_n 1, 1) := by decide +kernel
theorem dX12_makes_34 : decode cX12_makes 34 = .ok (.invokestatic 197, 3) := by decide +kernel
theorem dX12_makes_37 : decode cX12_makes 37 = .ok (.istore 4, 2) := by decide +kernel
theorem dX12_makes_39 : decode cX12_makes 39 = .ok (.aload_n 0, 1) := by decide +kernel
theorem dX12_makes_40 : decode cX12_makes 40 = .ok (.getfield 9, 3) := by decide +kernel
theorem dX12_makes_43 : decode cX12_makes 43 = .ok (.iload_n 1, 1) := by decide +kernel
theorem dX12_makes_44 : decode cX12_makes 44 = .ok (.iload_n 2, 1) := by decide +kernel
theorem dX12_makes_45 : decode cX12_makes 45 = .ok (.invokestatic 320, 3) := by decide +kernel
theorem dX12_makes_48 : decode cX12_makes 48 = .ok (.bipush 10, 2) := by decide +kernel
theorem dX12_makes_50 : decode cX12_makes 50 = .ok (.iload 4, 2) := by decide +kernel
theorem dX12_makes_52 : decode cX12_makes 52 = .ok (.imul, 1) := by decide +kernel
theorem dX12_makes_53 : decode cX12_makes 53 = .ok (.aload_n 0, 1) := by decide +kernel
theorem dX12_makes_54 : decode cX12_makes 54 = .ok (.getfield 9, 3) := by decide +kernel
theorem dX12_makes_57 : decode cX12_makes 57 = .ok (.iload_n 1, 1) := by decide +kernel
theorem dX12_makes_58 : decode cX12_makes 58 = .ok (.invokestatic 197, 3) := by decide +kernel
theorem dX12_makes_61 : decode cX12_makes 61 = .ok (.iadd, 1) := by decide +kernel
theorem dX12_makes_62 : decode cX12_makes 62 = .ok (.ireturn, 1) := by decide +kernel
theorem dX12_refusesUnmount_0 : decode cX12_refusesUnmount 0 = .ok (.aload_n 0, 1) := by decide +kernel
theorem dX12_refusesUnmount_1 : decode cX12_refusesUnmount 1 = .ok (.iload_n 1, 1) := by decide +kernel
theorem dX12_refusesUnmount_2 : decode cX12_refusesUnmount 2 = .ok (.invokestatic 90, 3) := by decide +kernel
theorem dX12_refusesUnmount_5 : decode cX12_refusesUnmount 5 = .ok (.ifCond .eq 10, 3) := by decide +kernel
theorem dX12_refusesUnmount_8 : decode cX12_refusesUnmount 8 = .ok (.iload_n 2, 1) := by decide +kernel
theorem dX12_refusesUnmount_9 : decode cX12_refusesUnmount 9 = .ok (.invokestatic 235, 3) := by decide +kernel
theorem dX12_refusesUnmount_12 : decode cX12_refusesUnmount 12 = .ok (.ifCond .ne 5, 3) := by decide +kernel
theorem dX12_refusesUnmount_15 : decode cX12_refusesUnmount 15 = .ok (.iconst (-1), 1) := by decide +kernel
theorem dX12_refusesUnmount_16 : decode cX12_refusesUnmount 16 = .ok (.ireturn, 1) := by decide +kernel
theorem dX12_refusesUnmount_17 : decode cX12_refusesUnmount 17 = .ok (.aload_n 0, 1) := by decide +kernel
theorem dX12_refusesUnmount_18 : decode cX12_refusesUnmount 18 = .ok (.iload_n 1, 1) := by decide +kernel
theorem dX12_refusesUnmount_19 : decode cX12_refusesUnmount 19 = .ok (.iload_n 2, 1) := by decide +kernel
theorem dX12_refusesUnmount_20 : decode cX12_refusesUnmount 20 = .ok (.invokestatic 212, 3) := by decide +kernel
theorem dX12_refusesUnmount_23 : decode cX12_refusesUnmount 23 = .ok (.istore_n 3, 1) := by decide +kernel
theorem dX12_refusesUnmount_24 : decode cX12_refusesUnmount 24 = .ok (.iload_n 3, 1) := by decide +kernel
theorem dX12_refusesUnmount_25 : decode cX12_refusesUnmount 25 = .ok (.bipush 24, 2) := by decide +kernel
theorem dX12_refusesUnmount_27 : decode cX12_refusesUnmount 27 = .ok (.if_icmp .ne 6, 3) := by decide +kernel
theorem dX12_refusesUnmount_30 : decode cX12_refusesUnmount 30 = .ok (.bipush (-2), 2) := by decide +kernel
theorem dX12_refusesUnmount_32 : decode cX12_refusesUnmount 32 = .ok (.ireturn, 1) := by decide +kernel
theorem dX12_refusesUnmount_33 : decode cX12_refusesUnmount 33 = .ok (.aload_n 0, 1) := by decide +kernel
theorem dX12_refusesUnmount_34 : decode cX12_refusesUnmount 34 = .ok (.iload_n 3, 1) := by decide +kernel
theorem dX12_refusesUnmount_35 : decode cX12_refusesUnmount 35 = .ok (.invokestatic 189, 3) := by decide +kernel
theorem dX12_refusesUnmount_38 : decode cX12_refusesUnmount 38 = .ok (.ifCond .le 8, 3) := by decide +kernel
theorem dX12_refusesUnmount_41 : decode cX12_refusesUnmount 41 = .ok (.bipush (-3), 2) := by decide +kernel
theorem dX12_refusesUnmount_43 : decode cX12_refusesUnmount 43 = .ok (.goto 4, 3) := by decide +kernel
theorem dX12_refusesUnmount_46 : decode cX12_refusesUnmount 46 = .ok (.iconst 0, 1) := by decide +kernel
theorem dX12_refusesUnmount_47 : decode cX12_refusesUnmount 47 = .ok (.ireturn, 1) := by decide +kernel
theorem dX12_goersOf_0 : decode cX12_goersOf 0 = .ok (.aload_n 1, 1) := by decide +kernel
theorem dX12_goersOf_1 : decode cX12_goersOf 1 = .ok (.iload_n 2, 1) := by decide +kernel
theorem dX12_goersOf_2 : decode cX12_goersOf 2 = .ok (.invokestatic 246, 3) := by decide +kernel
theorem dX12_goersOf_5 : decode cX12_goersOf 5 = .ok (.istore 4, 2) := by decide +kernel
theorem dX12_goersOf_7 : decode cX12_goersOf 7 = .ok (.iconst 0, 1) := by decide +kernel
theorem dX12_goersOf_8 : decode cX12_goersOf 8 = .ok (.istore 5, 2) := by decide +kernel
theorem dX12_goersOf_10 : decode cX12_goersOf 10 = .ok (.iconst 0, 1) := by decide +kernel
theorem dX12_goersOf_11 : decode cX12_goersOf 11 = .ok (.istore 6, 2) := by decide +kernel
theorem dX12_goersOf_13 : decode cX12_goersOf 13 = .ok (.iload 6, 2) := by decide +kernel
theorem dX12_goersOf_15 : decode cX12_goersOf 15 = .ok (.bipush 24, 2) := by decide +kernel
theorem dX12_goersOf_17 : decode cX12_goersOf 17 = .ok (.if_icmp .ge 73, 3) := by decide +kernel
theorem dX12_goersOf_20 : decode cX12_goersOf 20 = .ok (.iload 4, 2) := by decide +kernel
theorem dX12_goersOf_22 : decode cX12_goersOf 22 = .ok (.iload 6, 2) := by decide +kernel
theorem dX12_goersOf_24 : decode cX12_goersOf 24 = .ok (.invokestatic 94, 3) := by decide +kernel
theorem dX12_goersOf_27 : decode cX12_goersOf 27 = .ok (.ifCond .ne 6, 3) := by decide +kernel
theorem dX12_goersOf_30 : decode cX12_goersOf 30 = .ok (.goto 54, 3) := by decide +kernel
theorem dX12_goersOf_33 : decode cX12_goersOf 33 = .ok (.aload_n 1, 1) := by decide +kernel
theorem dX12_goersOf_34 : decode cX12_goersOf 34 = .ok (.iload 6, 2) := by decide +kernel
theorem dX12_goersOf_36 : decode cX12_goersOf 36 = .ok (.iload_n 3, 1) := by decide +kernel
theorem dX12_goersOf_37 : decode cX12_goersOf 37 = .ok (.invokestatic 212, 3) := by decide +kernel
theorem dX12_goersOf_40 : decode cX12_goersOf 40 = .ok (.istore 7, 2) := by decide +kernel
theorem dX12_goersOf_42 : decode cX12_goersOf 42 = .ok (.iload 7, 2) := by decide +kernel
theorem dX12_goersOf_44 : decode cX12_goersOf 44 = .ok (.bipush 24, 2) := by decide +kernel
theorem dX12_goersOf_46 : decode cX12_goersOf 46 = .ok (.if_icmp .eq 38, 3) := by decide +kernel
theorem dX12_goersOf_49 : decode cX12_goersOf 49 = .ok (.aload_n 1, 1) := by decide +kernel
theorem dX12_goersOf_50 : decode cX12_goersOf 50 = .ok (.iload 7, 2) := by decide +kernel
theorem dX12_goersOf_52 : decode cX12_goersOf 52 = .ok (.invokestatic 189, 3) := by decide +kernel
theorem dX12_goersOf_55 : decode cX12_goersOf 55 = .ok (.ifCond .ne 29, 3) := by decide +kernel
theorem dX12_goersOf_58 : decode cX12_goersOf 58 = .ok (.iload 6, 2) := by decide +kernel
theorem dX12_goersOf_60 : decode cX12_goersOf 60 = .ok (.iload_n 2, 1) := by decide +kernel
theorem dX12_goersOf_61 : decode cX12_goersOf 61 = .ok (.if_icmp .eq 14, 3) := by decide +kernel
theorem dX12_goersOf_64 : decode cX12_goersOf 64 = .ok (.aload_n 0, 1) := by decide +kernel
theorem dX12_goersOf_65 : decode cX12_goersOf 65 = .ok (.aload_n 1, 1) := by decide +kernel
theorem dX12_goersOf_66 : decode cX12_goersOf 66 = .ok (.iload 6, 2) := by decide +kernel
theorem dX12_goersOf_68 : decode cX12_goersOf 68 = .ok (.iload_n 3, 1) := by decide +kernel
theorem dX12_goersOf_69 : decode cX12_goersOf 69 = .ok (.invokevirtual 249, 3) := by decide +kernel
theorem dX12_goersOf_72 : decode cX12_goersOf 72 = .ok (.ifCond .eq 12, 3) := by decide +kernel
theorem dX12_goersOf_75 : decode cX12_goersOf 75 = .ok (.iload 5, 2) := by decide +kernel
theorem dX12_goersOf_77 : decode cX12_goersOf 77 = .ok (.iconst 1, 1) := by decide +kernel
theorem dX12_goersOf_78 : decode cX12_goersOf 78 = .ok (.iload 7, 2) := by decide +kernel
theorem dX12_goersOf_80 : decode cX12_goersOf 80 = .ok (.ishl, 1) := by decide +kernel
theorem dX12_goersOf_81 : decode cX12_goersOf 81 = .ok (.ior, 1) := by decide +kernel
theorem dX12_goersOf_82 : decode cX12_goersOf 82 = .ok (.istore 5, 2) := by decide +kernel
theorem dX12_goersOf_84 : decode cX12_goersOf 84 = .ok (.iinc 6 1, 3) := by decide +kernel
theorem dX12_goersOf_87 : decode cX12_goersOf 87 = .ok (.goto (-74), 3) := by decide +kernel
theorem dX12_goersOf_90 : decode cX12_goersOf 90 = .ok (.iload 5, 2) := by decide +kernel
theorem dX12_goersOf_92 : decode cX12_goersOf 92 = .ok (.ireturn, 1) := by decide +kernel
theorem dX12_goUnmount_0 : decode cX12_goUnmount 0 = .ok (.aload_n 0, 1) := by decide +kernel
theorem dX12_goUnmount_1 : decode cX12_goUnmount 1 = .ok (.aload_n 1, 1) := by decide +kernel
theorem dX12_goUnmount_2 : decode cX12_goUnmount 2 = .ok (.iload_n 2, 1) := by decide +kernel
theorem dX12_goUnmount_3 : decode cX12_goUnmount 3 = .ok (.iload_n 3, 1) := by decide +kernel
theorem dX12_goUnmount_4 : decode cX12_goUnmount 4 = .ok (.invokevirtual 323, 3) := by decide +kernel
theorem dX12_goUnmount_7 : decode cX12_goUnmount 7 = .ok (.istore 4, 2) := by decide +kernel
theorem dX12_goUnmount_9 : decode cX12_goUnmount 9 = .ok (.iconst 0, 1) := by decide +kernel
theorem dX12_goUnmount_10 : decode cX12_goUnmount 10 = .ok (.istore 5, 2) := by decide +kernel
theorem dX12_goUnmount_12 : decode cX12_goUnmount 12 = .ok (.iload 5, 2) := by decide +kernel
theorem dX12_goUnmount_14 : decode cX12_goUnmount 14 = .ok (.bipush 24, 2) := by decide +kernel
theorem dX12_goUnmount_16 : decode cX12_goUnmount 16 = .ok (.if_icmp .ge 64, 3) := by decide +kernel
theorem dX12_goUnmount_19 : decode cX12_goUnmount 19 = .ok (.aload_n 1, 1) := by decide +kernel
theorem dX12_goUnmount_20 : decode cX12_goUnmount 20 = .ok (.iload 5, 2) := by decide +kernel
theorem dX12_goUnmount_22 : decode cX12_goUnmount 22 = .ok (.invokestatic 90, 3) := by decide +kernel
theorem dX12_goUnmount_25 : decode cX12_goUnmount 25 = .ok (.ifCond .eq 13, 3) := by decide +kernel
theorem dX12_goUnmount_28 : decode cX12_goUnmount 28 = .ok (.aload_n 1, 1) := by decide +kernel
theorem dX12_goUnmount_29 : decode cX12_goUnmount 29 = .ok (.iload 5, 2) := by decide +kernel
theorem dX12_goUnmount_31 : decode cX12_goUnmount 31 = .ok (.iload_n 3, 1) := by decide +kernel
theorem dX12_goUnmount_32 : decode cX12_goUnmount 32 = .ok (.invokestatic 212, 3) := by decide +kernel
theorem dX12_goUnmount_35 : decode cX12_goUnmount 35 = .ok (.goto 5, 3) := by decide +kernel
theorem dX12_goUnmount_38 : decode cX12_goUnmount 38 = .ok (.bipush 24, 2) := by decide +kernel
theorem dX12_goUnmount_40 : decode cX12_goUnmount 40 = .ok (.istore 6, 2) := by decide +kernel
theorem dX12_goUnmount_42 : decode cX12_goUnmount 42 = .ok (.iload 6, 2) := by decide +kernel
theorem dX12_goUnmount_44 : decode cX12_goUnmount 44 = .ok (.bipush 24, 2) := by decide +kernel
theorem dX12_goUnmount_46 : decode cX12_goUnmount 46 = .ok (.if_icmp .eq 28, 3) := by decide +kernel
theorem dX12_goUnmount_49 : decode cX12_goUnmount 49 = .ok (.iload 4, 2) := by decide +kernel
theorem dX12_goUnmount_51 : decode cX12_goUnmount 51 = .ok (.iload 6, 2) := by decide +kernel
theorem dX12_goUnmount_53 : decode cX12_goUnmount 53 = .ok (.invokestatic 94, 3) := by decide +kernel
theorem dX12_goUnmount_56 : decode cX12_goUnmount 56 = .ok (.ifCond .ne 6, 3) := by decide +kernel
theorem dX12_goUnmount_59 : decode cX12_goUnmount 59 = .ok (.goto 15, 3) := by decide +kernel
theorem dX12_goUnmount_62 : decode cX12_goUnmount 62 = .ok (.aload_n 1, 1) := by decide +kernel
theorem dX12_goUnmount_63 : decode cX12_goUnmount 63 = .ok (.iload 6, 2) := by decide +kernel
theorem dX12_goUnmount_65 : decode cX12_goUnmount 65 = .ok (.invokestatic 313, 3) := by decide +kernel
theorem dX12_goUnmount_68 : decode cX12_goUnmount 68 = .ok (.aload_n 1, 1) := by decide +kernel
theorem dX12_goUnmount_69 : decode cX12_goUnmount 69 = .ok (.iload 6, 2) := by decide +kernel
theorem dX12_goUnmount_71 : decode cX12_goUnmount 71 = .ok (.invokestatic 326, 3) := by decide +kernel
theorem dX12_goUnmount_74 : decode cX12_goUnmount 74 = .ok (.iinc 5 1, 3) := by decide +kernel
theorem dX12_goUnmount_77 : decode cX12_goUnmount 77 = .ok (.goto (-65), 3) := by decide +kernel
theorem dX12_goUnmount_80 : decode cX12_goUnmount 80 = .ok (.aload_n 1, 1) := by decide +kernel
theorem dX12_goUnmount_81 : decode cX12_goUnmount 81 = .ok (.bipush 120, 2) := by decide +kernel
theorem dX12_goUnmount_83 : decode cX12_goUnmount 83 = .ok (.dup2, 1) := by decide +kernel
theorem dX12_goUnmount_84 : decode cX12_goUnmount 84 = .ok (.iaload, 1) := by decide +kernel
theorem dX12_goUnmount_85 : decode cX12_goUnmount 85 = .ok (.iconst 1, 1) := by decide +kernel
theorem dX12_goUnmount_86 : decode cX12_goUnmount 86 = .ok (.iadd, 1) := by decide +kernel
theorem dX12_goUnmount_87 : decode cX12_goUnmount 87 = .ok (.iastore, 1) := by decide +kernel
theorem dX12_goUnmount_88 : decode cX12_goUnmount 88 = .ok (.iload 4, 2) := by decide +kernel
theorem dX12_goUnmount_90 : decode cX12_goUnmount 90 = .ok (.ireturn, 1) := by decide +kernel
theorem dX12_tellBits_0 : decode cX12_tellBits 0 = .ok (.aload_n 0, 1) := by decide +kernel
theorem dX12_tellBits_1 : decode cX12_tellBits 1 = .ok (.iconst 0, 1) := by decide +kernel
theorem dX12_tellBits_2 : decode cX12_tellBits 2 = .ok (.putfield 83, 3) := by decide +kernel
theorem dX12_tellBits_5 : decode cX12_tellBits 5 = .ok (.aload_n 0, 1) := by decide +kernel
theorem dX12_tellBits_6 : decode cX12_tellBits 6 = .ok (.iload_n 1, 1) := by decide +kernel
theorem dX12_tellBits_7 : decode cX12_tellBits 7 = .ok (.invokestatic 192, 3) := by decide +kernel
theorem dX12_tellBits_10 : decode cX12_tellBits 10 = .ok (.i2l, 1) := by decide +kernel
theorem dX12_tellBits_11 : decode cX12_tellBits 11 = .ok (.invokevirtual 228, 3) := by decide +kernel
theorem dX12_tellBits_14 : decode cX12_tellBits 14 = .ok (.iload_n 1, 1) := by decide +kernel
theorem dX12_tellBits_15 : decode cX12_tellBits 15 = .ok (.ireturn, 1) := by decide +kernel
theorem dX12_unmounts_0 : decode cX12_unmounts 0 = .ok (.aload_n 0, 1) := by decide +kernel
theorem dX12_unmounts_1 : decode cX12_unmounts 1 = .ok (.iconst 0, 1) := by decide +kernel
theorem dX12_unmounts_2 : decode cX12_unmounts 2 = .ok (.putfield 79, 3) := by decide +kernel
theorem dX12_unmounts_5 : decode cX12_unmounts 5 = .ok (.aload_n 0, 1) := by decide +kernel
theorem dX12_unmounts_6 : decode cX12_unmounts 6 = .ok (.getfield 9, 3) := by decide +kernel
theorem dX12_unmounts_9 : decode cX12_unmounts 9 = .ok (.iload_n 1, 1) := by decide +kernel
theorem dX12_unmounts_10 : decode cX12_unmounts 10 = .ok (.iload_n 2, 1) := by decide +kernel
theorem dX12_unmounts_11 : decode cX12_unmounts 11 = .ok (.invokestatic 329, 3) := by decide +kernel
theorem dX12_unmounts_14 : decode cX12_unmounts 14 = .ok (.istore_n 3, 1) := by decide +kernel
theorem dX12_unmounts_15 : decode cX12_unmounts 15 = .ok (.iload_n 3, 1) := by decide +kernel
theorem dX12_unmounts_16 : decode cX12_unmounts 16 = .ok (.ifCond .ge 5, 3) := by decide +kernel
theorem dX12_unmounts_19 : decode cX12_unmounts 19 = .ok (.iload_n 3, 1) := by decide +kernel
theorem dX12_unmounts_20 : decode cX12_unmounts 20 = .ok (.ireturn, 1) := by decide +kernel
theorem dX12_unmounts_21 : decode cX12_unmounts 21 = .ok (.aload_n 0, 1) := by decide +kernel
theorem dX12_unmounts_22 : decode cX12_unmounts 22 = .ok (.aload_n 0, 1) := by decide +kernel
theorem dX12_unmounts_23 : decode cX12_unmounts 23 = .ok (.getfield 9, 3) := by decide +kernel
theorem dX12_unmounts_26 : decode cX12_unmounts 26 = .ok (.invokevirtual 286, 3) := by decide +kernel
theorem dX12_unmounts_29 : decode cX12_unmounts 29 = .ok (.aload_n 0, 1) := by decide +kernel
theorem dX12_unmounts_30 : decode cX12_unmounts 30 = .ok (.aload_n 0, 1) := by decide +kernel
theorem dX12_unmounts_31 : decode cX12_unmounts 31 = .ok (.getfield 9, 3) := by decide +kernel
theorem dX12_unmounts_34 : decode cX12_unmounts 34 = .ok (.iload_n 1, 1) := by decide +kernel
theorem dX12_unmounts_35 : decode cX12_unmounts 35 = .ok (.iload_n 2, 1) := by decide +kernel
theorem dX12_unmounts_36 : decode cX12_unmounts 36 = .ok (.invokevirtual 332, 3) := by decide +kernel
theorem dX12_unmounts_39 : decode cX12_unmounts 39 = .ok (.istore 4, 2) := by decide +kernel
theorem dX12_unmounts_41 : decode cX12_unmounts 41 = .ok (.aload_n 0, 1) := by decide +kernel
theorem dX12_unmounts_42 : decode cX12_unmounts 42 = .ok (.iconst 0, 1) := by decide +kernel
theorem dX12_unmounts_43 : decode cX12_unmounts 43 = .ok (.putfield 83, 3) := by decide +kernel
theorem dX12_unmounts_46 : decode cX12_unmounts 46 = .ok (.aload_n 0, 1) := by decide +kernel
theorem dX12_unmounts_47 : decode cX12_unmounts 47 = .ok (.iload 4, 2) := by decide +kernel
theorem dX12_unmounts_49 : decode cX12_unmounts 49 = .ok (.i2l, 1) := by decide +kernel
theorem dX12_unmounts_50 : decode cX12_unmounts 50 = .ok (.invokevirtual 228, 3) := by decide +kernel
theorem dX12_unmounts_53 : decode cX12_unmounts 53 = .ok (.iload 4, 2) := by decide +kernel
theorem dX12_unmounts_55 : decode cX12_unmounts 55 = .ok (.invokestatic 192, 3) := by decide +kernel
theorem dX12_unmounts_58 : decode cX12_unmounts 58 = .ok (.ireturn, 1) := by decide +kernel
theorem dX12_refusesMove_0 : decode cX12_refusesMove 0 = .ok (.aload_n 0, 1) := by decide +kernel
theorem dX12_refusesMove_1 : decode cX12_refusesMove 1 = .ok (.iload_n 1, 1) := by decide +kernel
theorem dX12_refusesMove_2 : decode cX12_refusesMove 2 = .ok (.invokestatic 90, 3) := by decide +kernel
theorem dX12_refusesMove_5 : decode cX12_refusesMove 5 = .ok (.ifCond .eq 18, 3) := by decide +kernel
theorem dX12_refusesMove_8 : decode cX12_refusesMove 8 = .ok (.aload_n 0, 1) := by decide +kernel
theorem dX12_refusesMove_9 : decode cX12_refusesMove 9 = .ok (.iload_n 2, 1) := by decide +kernel
theorem dX12_refusesMove_10 : decode cX12_refusesMove 10 = .ok (.invokestatic 90, 3) := by decide +kernel
theorem dX12_refusesMove_13 : decode cX12_refusesMove 13 = .ok (.ifCond .eq 10, 3) := by decide +kernel
theorem dX12_refusesMove_16 : decode cX12_refusesMove 16 = .ok (.iload_n 3, 1) := by decide +kernel
theorem dX12_refusesMove_17 : decode cX12_refusesMove 17 = .ok (.invokestatic 235, 3) := by decide +kernel
theorem dX12_refusesMove_20 : decode cX12_refusesMove 20 = .ok (.ifCond .ne 5, 3) := by decide +kernel
theorem dX12_refusesMove_23 : decode cX12_refusesMove 23 = .ok (.iconst (-1), 1) := by decide +kernel
theorem dX12_refusesMove_24 : decode cX12_refusesMove 24 = .ok (.ireturn, 1) := by decide +kernel
theorem dX12_refusesMove_25 : decode cX12_refusesMove 25 = .ok (.aload_n 0, 1) := by decide +kernel
theorem dX12_refusesMove_26 : decode cX12_refusesMove 26 = .ok (.iload_n 2, 1) := by decide +kernel
theorem dX12_refusesMove_27 : decode cX12_refusesMove 27 = .ok (.iload_n 3, 1) := by decide +kernel
theorem dX12_refusesMove_28 : decode cX12_refusesMove 28 = .ok (.invokestatic 212, 3) := by decide +kernel
theorem dX12_refusesMove_31 : decode cX12_refusesMove 31 = .ok (.bipush 24, 2) := by decide +kernel
theorem dX12_refusesMove_33 : decode cX12_refusesMove 33 = .ok (.if_icmp .eq 6, 3) := by decide +kernel
theorem dX12_refusesMove_36 : decode cX12_refusesMove 36 = .ok (.bipush (-2), 2) := by decide +kernel
theorem dX12_refusesMove_38 : decode cX12_refusesMove 38 = .ok (.ireturn, 1) := by decide +kernel
theorem dX12_refusesMove_39 : decode cX12_refusesMove 39 = .ok (.iload_n 1, 1) := by decide +kernel
theorem dX12_refusesMove_40 : decode cX12_refusesMove 40 = .ok (.ifCond .eq 17, 3) := by decide +kernel
theorem dX12_refusesMove_43 : decode cX12_refusesMove 43 = .ok (.iload_n 2, 1) := by decide +kernel
theorem dX12_refusesMove_44 : decode cX12_refusesMove 44 = .ok (.iload_n 1, 1) := by decide +kernel
theorem dX12_refusesMove_45 : decode cX12_refusesMove 45 = .ok (.if_icmp .eq 12, 3) := by decide +kernel
theorem dX12_refusesMove_48 : decode cX12_refusesMove 48 = .ok (.aload_n 0, 1) := by decide +kernel
theorem dX12_refusesMove_49 : decode cX12_refusesMove 49 = .ok (.iload_n 2, 1) := by decide +kernel
theorem dX12_refusesMove_50 : decode cX12_refusesMove 50 = .ok (.iload_n 1, 1) := by decide +kernel
theorem dX12_refusesMove_51 : decode cX12_refusesMove 51 = .ok (.invokestatic 335, 3) := by decide +kernel
theorem dX12_refusesMove_54 : decode cX12_refusesMove 54 = .ok (.ifCond .eq 6, 3) := by decide +kernel
theorem dX12_refusesMove_57 : decode cX12_refusesMove 57 = .ok (.bipush (-3), 2) := by decide +kernel
theorem dX12_refusesMove_59 : decode cX12_refusesMove 59 = .ok (.ireturn, 1) := by decide +kernel
theorem dX12_refusesMove_60 : decode cX12_refusesMove 60 = .ok (.aload_n 0, 1) := by decide +kernel
theorem dX12_refusesMove_61 : decode cX12_refusesMove 61 = .ok (.bipush 48, 2) := by decide +kernel
theorem dX12_refusesMove_63 : decode cX12_refusesMove 63 = .ok (.aload_n 0, 1) := by decide +kernel
theorem dX12_refusesMove_64 : decode cX12_refusesMove 64 = .ok (.iload_n 1, 1) := by decide +kernel
theorem dX12_refusesMove_65 : decode cX12_refusesMove 65 = .ok (.iaload, 1) := by decide +kernel
theorem dX12_refusesMove_66 : decode cX12_refusesMove 66 = .ok (.iadd, 1) := by decide +kernel
theorem dX12_refusesMove_67 : decode cX12_refusesMove 67 = .ok (.iaload, 1) := by decide +kernel
theorem dX12_refusesMove_68 : decode cX12_refusesMove 68 = .ok (.ifCond .eq 6, 3) := by decide +kernel
theorem dX12_refusesMove_71 : decode cX12_refusesMove 71 = .ok (.bipush (-5), 2) := by decide +kernel
theorem dX12_refusesMove_73 : decode cX12_refusesMove 73 = .ok (.ireturn, 1) := by decide +kernel
theorem dX12_refusesMove_74 : decode cX12_refusesMove 74 = .ok (.aload_n 0, 1) := by decide +kernel
theorem dX12_refusesMove_75 : decode cX12_refusesMove 75 = .ok (.bipush 48, 2) := by decide +kernel
theorem dX12_refusesMove_77 : decode cX12_refusesMove 77 = .ok (.iload_n 2, 1) := by decide +kernel
theorem dX12_refusesMove_78 : decode cX12_refusesMove 78 = .ok (.iadd, 1) := by decide +kernel
theorem dX12_refusesMove_79 : decode cX12_refusesMove 79 = .ok (.iaload, 1) := by decide +kernel
theorem dX12_refusesMove_80 : decode cX12_refusesMove 80 = .ok (.ifCond .eq 8, 3) := by decide +kernel
theorem dX12_refusesMove_83 : decode cX12_refusesMove 83 = .ok (.bipush (-6), 2) := by decide +kernel
theorem dX12_refusesMove_85 : decode cX12_refusesMove 85 = .ok (.goto 4, 3) := by decide +kernel
theorem dX12_refusesMove_88 : decode cX12_refusesMove 88 = .ok (.iconst 0, 1) := by decide +kernel
theorem dX12_refusesMove_89 : decode cX12_refusesMove 89 = .ok (.ireturn, 1) := by decide +kernel
theorem dX12_goMove_0 : decode cX12_goMove 0 = .ok (.aload_n 0, 1) := by decide +kernel
theorem dX12_goMove_1 : decode cX12_goMove 1 = .ok (.iload_n 1, 1) := by decide +kernel
theorem dX12_goMove_2 : decode cX12_goMove 2 = .ok (.iload_n 2, 1) := by decide +kernel
theorem dX12_goMove_3 : decode cX12_goMove 3 = .ok (.iastore, 1) := by decide +kernel
theorem dX12_goMove_4 : decode cX12_goMove 4 = .ok (.aload_n 0, 1) := by decide +kernel
theorem dX12_goMove_5 : decode cX12_goMove 5 = .ok (.bipush 24, 2) := by decide +kernel
theorem dX12_goMove_7 : decode cX12_goMove 7 = .ok (.iload_n 1, 1) := by decide +kernel
theorem dX12_goMove_8 : decode cX12_goMove 8 = .ok (.iadd, 1) := by decide +kernel
theorem dX12_goMove_9 : decode cX12_goMove 9 = .ok (.iload_n 3, 1) := by decide +kernel
theorem dX12_goMove_10 : decode cX12_goMove 10 = .ok (.iastore, 1) := by decide +kernel
theorem dX12_goMove_11 : decode cX12_goMove 11 = .ok (.aload_n 0, 1) := by decide +kernel
theorem dX12_goMove_12 : decode cX12_goMove 12 = .ok (.bipush 120, 2) := by decide +kernel
theorem dX12_goMove_14 : decode cX12_goMove 14 = .ok (.dup2, 1) := by decide +kernel
theorem dX12_goMove_15 : decode cX12_goMove 15 = .ok (.iaload, 1) := by decide +kernel
theorem dX12_goMove_16 : decode cX12_goMove 16 = .ok (.iconst 1, 1) := by decide +kernel
theorem dX12_goMove_17 : decode cX12_goMove 17 = .ok (.iadd, 1) := by decide +kernel
theorem dX12_goMove_18 : decode cX12_goMove 18 = .ok (.iastore, 1) := by decide +kernel
theorem dX12_goMove_19 : decode cX12_goMove 19 = .ok (.return_, 1) := by decide +kernel
theorem dX12_moves_0 : decode cX12_moves 0 = .ok (.aload_n 0, 1) := by decide +kernel
theorem dX12_moves_1 : decode cX12_moves 1 = .ok (.iconst 0, 1) := by decide +kernel
theorem dX12_moves_2 : decode cX12_moves 2 = .ok (.putfield 79, 3) := by decide +kernel
theorem dX12_moves_5 : decode cX12_moves 5 = .ok (.aload_n 0, 1) := by decide +kernel
theorem dX12_moves_6 : decode cX12_moves 6 = .ok (.getfield 9, 3) := by decide +kernel
theorem dX12_moves_9 : decode cX12_moves 9 = .ok (.iload_n 1, 1) := by decide +kernel
theorem dX12_moves_10 : decode cX12_moves 10 = .ok (.iload_n 2, 1) := by decide +kernel
theorem dX12_moves_11 : decode cX12_moves 11 = .ok (.iload_n 3, 1) := by decide +kernel
theorem dX12_moves_12 : decode cX12_moves 12 = .ok (.invokestatic 338, 3) := by decide +kernel
theorem dX12_moves_15 : decode cX12_moves 15 = .ok (.istore 4, 2) := by decide +kernel
theorem dX12_moves_17 : decode cX12_moves 17 = .ok (.iload 4, 2) := by decide +kernel
theorem dX12_moves_19 : decode cX12_moves 19 = .ok (.ifCond .ge 6, 3) := by decide +kernel
theorem dX12_moves_22 : decode cX12_moves 22 = .ok (.iload 4, 2) := by decide +kernel
theorem dX12_moves_24 : decode cX12_moves 24 = .ok (.ireturn, 1) := by decide +kernel
theorem dX12_moves_25 : decode cX12_moves 25 = .ok (.aload_n 0, 1) := by decide +kernel
theorem dX12_moves_26 : decode cX12_moves 26 = .ok (.aload_n 0, 1) := by decide +kernel
theorem dX12_moves_27 : decode cX12_moves 27 = .ok (.getfield 9, 3) := by decide +kernel
theorem dX12_moves_30 : decode cX12_moves 30 = .ok (.invokevirtual 286, 3) := by decide +kernel
theorem dX12_moves_33 : decode cX12_moves 33 = .ok (.bipush 100, 2) := by decide +kernel
theorem dX12_moves_35 : decode cX12_moves 35 = .ok (.aload_n 0, 1) := by decide +kernel
theorem dX12_moves_36 : decode cX12_moves 36 = .ok (.getfield 9, 3) := by decide +kernel
theorem dX12_moves_39 : decode cX12_moves 39 = .ok (.iload_n 1, 1) := by decide +kernel
theorem dX12_moves_40 : decode cX12_moves 40 = .ok (.iaload, 1) := by decide +kernel
theorem dX12_moves_41 : decode cX12_moves 41 = .ok (.imul, 1) := by decide +kernel
theorem dX12_moves_42 : decode cX12_moves 42 = .ok (.aload_n 0, 1) := by decide +kernel
theorem dX12_moves_43 : decode cX12_moves 43 = .ok (.getfield 9, 3) := by decide +kernel
theorem dX12_moves_46 : decode cX12_moves 46 = .ok (.bipush 24, 2) := by decide +kernel
theorem dX12_moves_48 : decode cX12_moves 48 = .ok (.iload_n 1, 1) := by decide +kernel
theorem dX12_moves_49 : decode cX12_moves 49 = .ok (.iadd, 1) := by decide +kernel
theorem dX12_moves_50 : decode cX12_moves 50 = .ok (.iaload, 1) := by decide +kernel
theorem dX12_moves_51 : decode cX12_moves 51 = .ok (.iadd, 1) := by decide +kernel
theorem dX12_moves_52 : decode cX12_moves 52 = .ok (.istore 5, 2) := by decide +kernel
theorem dX12_moves_54 : decode cX12_moves 54 = .ok (.aload_n 0, 1) := by decide +kernel
theorem dX12_moves_55 : decode cX12_moves 55 = .ok (.getfield 9, 3) := by decide +kernel
theorem dX12_moves_58 : decode cX12_moves 58 = .ok (.iload_n 1, 1) := by decide +kernel
theorem dX12_moves_59 : decode cX12_moves 59 = .ok (.iload_n 2, 1) := by decide +kernel
theorem dX12_moves_60 : decode cX12_moves 60 = .ok (.iload_n 3, 1) := by decide +kernel
theorem dX12_moves_61 : decode cX12_moves 61 = .ok (.invokestatic 341, 3) := by decide +kernel
theorem dX12_moves_64 : decode cX12_moves 64 = .ok (.iload 5, 2) := by decide +kernel
theorem dX12_moves_66 : decode cX12_moves 66 = .ok (.ireturn, 1) := by decide +kernel
theorem dX12_day_0 : decode cX12_day 0 = .ok (.aload_n 0, 1) := by decide +kernel
theorem dX12_day_1 : decode cX12_day 1 = .ok (.iconst 0, 1) := by decide +kernel
theorem dX12_day_2 : decode cX12_day 2 = .ok (.putfield 79, 3) := by decide +kernel
theorem dX12_day_5 : decode cX12_day 5 = .ok (.aload_n 0, 1) := by decide +kernel
theorem dX12_day_6 : decode cX12_day 6 = .ok (.bipush 72, 2) := by decide +kernel
theorem dX12_day_8 : decode cX12_day 8 = .ok (.invokevirtual 174, 3) := by decide +kernel
theorem dX12_day_11 : decode cX12_day 11 = .ok (.aload_n 0, 1) := by decide +kernel
theorem dX12_day_12 : decode cX12_day 12 = .ok (.iconst 0, 1) := by decide +kernel
theorem dX12_day_13 : decode cX12_day 13 = .ok (.putfield 200, 3) := by decide +kernel
theorem dX12_day_16 : decode cX12_day 16 = .ok (.iconst 0, 1) := by decide +kernel
theorem dX12_day_17 : decode cX12_day 17 = .ok (.istore_n 1, 1) := by decide +kernel
theorem dX12_day_18 : decode cX12_day 18 = .ok (.aload_n 0, 1) := by decide +kernel
theorem dX12_day_19 : decode cX12_day 19 = .ok (.invokevirtual 127, 3) := by decide +kernel
theorem dX12_day_22 : decode cX12_day 22 = .ok (.ifCond .eq 27, 3) := by decide +kernel
theorem dX12_day_25 : decode cX12_day 25 = .ok (.aload_n 0, 1) := by decide +kernel
theorem dX12_day_26 : decode cX12_day 26 = .ok (.getfield 117, 3) := by decide +kernel
theorem dX12_day_29 : decode cX12_day 29 = .ok (.aload_n 0, 1) := by decide +kernel
theorem dX12_day_30 : decode cX12_day 30 = .ok (.getfield 111, 3) := by decide +kernel
theorem dX12_day_33 : decode cX12_day 33 = .ok (.if_icmp .ge 16, 3) := by decide +kernel
theorem dX12_day_36 : decode cX12_day 36 = .ok (.aload_n 0, 1) := by decide +kernel
theorem dX12_day_37 : decode cX12_day 37 = .ok (.iconst 4, 1) := by decide +kernel
theorem dX12_day_38 : decode cX12_day 38 = .ok (.iload_n 1, 1) := by decide +kernel
theorem dX12_day_39 : decode cX12_day 39 = .ok (.imul, 1) := by decide +kernel
theorem dX12_day_40 : decode cX12_day 40 = .ok (.invokevirtual 345, 3) := by decide +kernel
theorem dX12_day_43 : decode cX12_day 43 = .ok (.iinc 1 1, 3) := by decide +kernel
theorem dX12_day_46 : decode cX12_day 46 = .ok (.goto (-28), 3) := by decide +kernel
theorem dX12_day_49 : decode cX12_day 49 = .ok (.aload_n 0, 1) := by decide +kernel
theorem dX12_day_50 : decode cX12_day 50 = .ok (.invokevirtual 177, 3) := by decide +kernel
theorem dX12_day_53 : decode cX12_day 53 = .ok (.ifCond .ne 10, 3) := by decide +kernel
theorem dX12_day_56 : decode cX12_day 56 = .ok (.iconst (-1), 1) := by decide +kernel
theorem dX12_day_57 : decode cX12_day 57 = .ok (.aload_n 0, 1) := by decide +kernel
theorem dX12_day_58 : decode cX12_day 58 = .ok (.getfield 120, 3) := by decide +kernel
theorem dX12_day_61 : decode cX12_day 61 = .ok (.isub, 1) := by decide +kernel
theorem dX12_day_62 : decode cX12_day 62 = .ok (.ireturn, 1) := by decide +kernel
theorem dX12_day_63 : decode cX12_day 63 = .ok (.aload_n 0, 1) := by decide +kernel
theorem dX12_day_64 : decode cX12_day 64 = .ok (.getfield 9, 3) := by decide +kernel
theorem dX12_day_67 : decode cX12_day 67 = .ok (.aload_n 0, 1) := by decide +kernel
theorem dX12_day_68 : decode cX12_day 68 = .ok (.getfield 36, 3) := by decide +kernel
theorem dX12_day_71 : decode cX12_day 71 = .ok (.iconst 0, 1) := by decide +kernel
theorem dX12_day_72 : decode cX12_day 72 = .ok (.invokestatic 242, 3) := by decide +kernel
theorem dX12_day_75 : decode cX12_day 75 = .ok (.iconst 0, 1) := by decide +kernel
theorem dX12_day_76 : decode cX12_day 76 = .ok (.istore_n 2, 1) := by decide +kernel
theorem dX12_day_77 : decode cX12_day 77 = .ok (.iload_n 2, 1) := by decide +kernel
theorem dX12_day_78 : decode cX12_day 78 = .ok (.iload_n 1, 1) := by decide +kernel
theorem dX12_day_79 : decode cX12_day 79 = .ok (.if_icmp .ge 19, 3) := by decide +kernel
theorem dX12_day_82 : decode cX12_day 82 = .ok (.aload_n 0, 1) := by decide +kernel
theorem dX12_day_83 : decode cX12_day 83 = .ok (.iconst 4, 1) := by decide +kernel
theorem dX12_day_84 : decode cX12_day 84 = .ok (.iload_n 2, 1) := by decide +kernel
theorem dX12_day_85 : decode cX12_day 85 = .ok (.imul, 1) := by decide +kernel
theorem dX12_day_86 : decode cX12_day 86 = .ok (.invokevirtual 348, 3) := by decide +kernel
theorem dX12_day_89 : decode cX12_day 89 = .ok (.ifCond .eq 9, 3) := by decide +kernel
theorem dX12_day_92 : decode cX12_day 92 = .ok (.iinc 2 1, 3) := by decide +kernel
theorem dX12_day_95 : decode cX12_day 95 = .ok (.goto (-18), 3) := by decide +kernel
theorem dX12_day_98 : decode cX12_day 98 = .ok (.iload_n 2, 1) := by decide +kernel
theorem dX12_day_99 : decode cX12_day 99 = .ok (.ifCond .le 11, 3) := by decide +kernel
theorem dX12_day_102 : decode cX12_day 102 = .ok (.aload_n 0, 1) := by decide +kernel
theorem dX12_day_103 : decode cX12_day 103 = .ok (.aload_n 0, 1) := by decide +kernel
theorem dX12_day_104 : decode cX12_day 104 = .ok (.getfield 36, 3) := by decide +kernel
theorem dX12_day_107 : decode cX12_day 107 = .ok (.invokevirtual 286, 3) := by decide +kernel
theorem dX12_day_110 : decode cX12_day 110 = .ok (.aload_n 0, 1) := by decide +kernel
theorem dX12_day_111 : decode cX12_day 111 = .ok (.iconst 0, 1) := by decide +kernel
theorem dX12_day_112 : decode cX12_day 112 = .ok (.putfield 83, 3) := by decide +kernel
theorem dX12_day_115 : decode cX12_day 115 = .ok (.aload_n 0, 1) := by decide +kernel
theorem dX12_day_116 : decode cX12_day 116 = .ok (.iload_n 2, 1) := by decide +kernel
theorem dX12_day_117 : decode cX12_day 117 = .ok (.iload_n 1, 1) := by decide +kernel
theorem dX12_day_118 : decode cX12_day 118 = .ok (.if_icmp .ge 7, 3) := by decide +kernel
theorem dX12_day_121 : decode cX12_day 121 = .ok (.lconst 1, 1) := by decide +kernel
theorem dX12_day_122 : decode cX12_day 122 = .ok (.goto 4, 3) := by decide +kernel
theorem dX12_day_125 : decode cX12_day 125 = .ok (.lconst 0, 1) := by decide +kernel
theorem dX12_day_126 : decode cX12_day 126 = .ok (.invokevirtual 228, 3) := by decide +kernel
theorem dX12_day_129 : decode cX12_day 129 = .ok (.aload_n 0, 1) := by decide +kernel
theorem dX12_day_130 : decode cX12_day 130 = .ok (.aload_n 0, 1) := by decide +kernel
theorem dX12_day_131 : decode cX12_day 131 = .ok (.getfield 9, 3) := by decide +kernel
theorem dX12_day_134 : decode cX12_day 134 = .ok (.invokestatic 280, 3) := by decide +kernel
theorem dX12_day_137 : decode cX12_day 137 = .ok (.invokestatic 192, 3) := by decide +kernel
theorem dX12_day_140 : decode cX12_day 140 = .ok (.i2l, 1) := by decide +kernel
theorem dX12_day_141 : decode cX12_day 141 = .ok (.invokevirtual 228, 3) := by decide +kernel
theorem dX12_day_144 : decode cX12_day 144 = .ok (.iload_n 2, 1) := by decide +kernel
theorem dX12_day_145 : decode cX12_day 145 = .ok (.ireturn, 1) := by decide +kernel
theorem dX12_readAct_0 : decode cX12_readAct 0 = .ok (.aload_n 0, 1) := by decide +kernel
theorem dX12_readAct_1 : decode cX12_readAct 1 = .ok (.invokevirtual 131, 3) := by decide +kernel
theorem dX12_readAct_4 : decode cX12_readAct 4 = .ok (.istore_n 2, 1) := by decide +kernel
theorem dX12_readAct_5 : decode cX12_readAct 5 = .ok (.iload_n 2, 1) := by decide +kernel
theorem dX12_readAct_6 : decode cX12_readAct 6 = .ok (.bipush 109, 2) := by decide +kernel
theorem dX12_readAct_8 : decode cX12_readAct 8 = .ok (.if_icmp .eq 42, 3) := by decide +kernel
theorem dX12_readAct_11 : decode cX12_readAct 11 = .ok (.iload_n 2, 1) := by decide +kernel
theorem dX12_readAct_12 : decode cX12_readAct 12 = .ok (.bipush 98, 2) := by decide +kernel
theorem dX12_readAct_14 : decode cX12_readAct 14 = .ok (.if_icmp .eq 36, 3) := by decide +kernel
theorem dX12_readAct_17 : decode cX12_readAct 17 = .ok (.iload_n 2, 1) := by decide +kernel
theorem dX12_readAct_18 : decode cX12_readAct 18 = .ok (.bipush 114, 2) := by decide +kernel
theorem dX12_readAct_20 : decode cX12_readAct 20 = .ok (.if_icmp .eq 30, 3) := by decide +kernel
theorem dX12_readAct_23 : decode cX12_readAct 23 = .ok (.iload_n 2, 1) := by decide +kernel
theorem dX12_readAct_24 : decode cX12_readAct 24 = .ok (.bipush 117, 2) := by decide +kernel
theorem dX12_readAct_26 : decode cX12_readAct 26 = .ok (.if_icmp .eq 24, 3) := by decide +kernel
theorem dX12_readAct_29 : decode cX12_readAct 29 = .ok (.iload_n 2, 1) := by decide +kernel
theorem dX12_readAct_30 : decode cX12_readAct 30 = .ok (.bipush 118, 2) := by decide +kernel
theorem dX12_readAct_32 : decode cX12_readAct 32 = .ok (.if_icmp .eq 18, 3) := by decide +kernel
theorem dX12_readAct_35 : decode cX12_readAct 35 = .ok (.iload_n 2, 1) := by decide +kernel
theorem dX12_readAct_36 : decode cX12_readAct 36 = .ok (.bipush 107, 2) := by decide +kernel
theorem dX12_readAct_38 : decode cX12_readAct 38 = .ok (.if_icmp .eq 12, 3) := by decide +kernel
theorem dX12_readAct_41 : decode cX12_readAct 41 = .ok (.aload_n 0, 1) := by decide +kernel
theorem dX12_readAct_42 : decode cX12_readAct 42 = .ok (.aload_n 0, 1) := by decide +kernel
theorem dX12_readAct_43 : decode cX12_readAct 43 = .ok (.getfield 117, 3) := by decide +kernel
theorem dX12_readAct_46 : decode cX12_readAct 46 = .ok (.invokevirtual 139, 3) := by decide +kernel
theorem dX12_readAct_49 : decode cX12_readAct 49 = .ok (.return_, 1) := by decide +kernel
theorem dX12_readAct_50 : decode cX12_readAct 50 = .ok (.aload_n 0, 1) := by decide +kernel
theorem dX12_readAct_51 : decode cX12_readAct 51 = .ok (.dup, 1) := by decide +kernel
theorem dX12_readAct_52 : decode cX12_readAct 52 = .ok (.getfield 117, 3) := by decide +kernel
theorem dX12_readAct_55 : decode cX12_readAct 55 = .ok (.iconst 1, 1) := by decide +kernel
theorem dX12_readAct_56 : decode cX12_readAct 56 = .ok (.iadd, 1) := by decide +kernel
theorem dX12_readAct_57 : decode cX12_readAct 57 = .ok (.putfield 117, 3) := by decide +kernel
theorem dX12_readAct_60 : decode cX12_readAct 60 = .ok (.aload_n 0, 1) := by decide +kernel
theorem dX12_readAct_61 : decode cX12_readAct 61 = .ok (.getfield 51, 3) := by decide +kernel
theorem dX12_readAct_64 : decode cX12_readAct 64 = .ok (.iload_n 1, 1) := by decide +kernel
theorem dX12_readAct_65 : decode cX12_readAct 65 = .ok (.iload_n 2, 1) := by decide +kernel
theorem dX12_readAct_66 : decode cX12_readAct 66 = .ok (.iastore, 1) := by decide +kernel
theorem dX12_readAct_67 : decode cX12_readAct 67 = .ok (.iload_n 2, 1) := by decide +kernel
theorem dX12_readAct_68 : decode cX12_readAct 68 = .ok (.bipush 107, 2) := by decide +kernel
theorem dX12_readAct_70 : decode cX12_readAct 70 = .ok (.if_icmp .ne 18, 3) := by decide +kernel
theorem dX12_readAct_73 : decode cX12_readAct 73 = .ok (.aload_n 0, 1) := by decide +kernel
theorem dX12_readAct_74 : decode cX12_readAct 74 = .ok (.getfield 51, 3) := by decide +kernel
theorem dX12_readAct_77 : decode cX12_readAct 77 = .ok (.iload_n 1, 1) := by decide +kernel
theorem dX12_readAct_78 : decode cX12_readAct 78 = .ok (.iconst 3, 1) := by decide +kernel
theorem dX12_readAct_79 : decode cX12_readAct 79 = .ok (.iadd, 1) := by decide +kernel
theorem dX12_readAct_80 : decode cX12_readAct 80 = .ok (.aload_n 0, 1) := by decide +kernel
theorem dX12_readAct_81 : decode cX12_readAct 81 = .ok (.bipush 48, 2) := by decide +kernel
theorem dX12_readAct_83 : decode cX12_readAct 83 = .ok (.iconst 4, 1) := by decide +kernel
theorem dX12_readAct_84 : decode cX12_readAct 84 = .ok (.invokevirtual 143, 3) := by decide +kernel
theorem dX12_readAct_87 : decode cX12_readAct 87 = .ok (.iastore, 1) := by decide +kernel
theorem dX12_readAct_88 : decode cX12_readAct 88 = .ok (.aload_n 0, 1) := by decide +kernel
theorem dX12_readAct_89 : decode cX12_readAct 89 = .ok (.invokevirtual 127, 3) := by decide +kernel
theorem dX12_readAct_92 : decode cX12_readAct 92 = .ok (.ifCond .ne 4, 3) := by decide +kernel
theorem dX12_readAct_95 : decode cX12_readAct 95 = .ok (.return_, 1) := by decide +kernel
theorem dX12_readAct_96 : decode cX12_readAct 96 = .ok (.aload_n 0, 1) := by decide +kernel
theorem dX12_readAct_97 : decode cX12_readAct 97 = .ok (.getfield 51, 3) := by decide +kernel
theorem dX12_readAct_100 : decode cX12_readAct 100 = .ok (.iload_n 1, 1) := by decide +kernel
theorem dX12_readAct_101 : decode cX12_readAct 101 = .ok (.iconst 1, 1) := by decide +kernel
theorem dX12_readAct_102 : decode cX12_readAct 102 = .ok (.iadd, 1) := by decide +kernel
theorem dX12_readAct_103 : decode cX12_readAct 103 = .ok (.aload_n 0, 1) := by decide +kernel
theorem dX12_readAct_104 : decode cX12_readAct 104 = .ok (.invokevirtual 216, 3) := by decide +kernel
theorem dX12_readAct_107 : decode cX12_readAct 107 = .ok (.iastore, 1) := by decide +kernel
theorem dX12_readAct_108 : decode cX12_readAct 108 = .ok (.aload_n 0, 1) := by decide +kernel
theorem dX12_readAct_109 : decode cX12_readAct 109 = .ok (.invokevirtual 127, 3) := by decide +kernel
theorem dX12_readAct_112 : decode cX12_readAct 112 = .ok (.ifCond .eq 58, 3) := by decide +kernel
theorem dX12_readAct_115 : decode cX12_readAct 115 = .ok (.iload_n 2, 1) := by decide +kernel
theorem dX12_readAct_116 : decode cX12_readAct 116 = .ok (.bipush 98, 2) := by decide +kernel
theorem dX12_readAct_118 : decode cX12_readAct 118 = .ok (.if_icmp .eq 15, 3) := by decide +kernel
theorem dX12_readAct_121 : decode cX12_readAct 121 = .ok (.iload_n 2, 1) := by decide +kernel
theorem dX12_readAct_122 : decode cX12_readAct 122 = .ok (.bipush 114, 2) := by decide +kernel
theorem dX12_readAct_124 : decode cX12_readAct 124 = .ok (.if_icmp .eq 9, 3) := by decide +kernel
theorem dX12_readAct_127 : decode cX12_readAct 127 = .ok (.iload_n 2, 1) := by decide +kernel
theorem dX12_readAct_128 : decode cX12_readAct 128 = .ok (.bipush 118, 2) := by decide +kernel
theorem dX12_readAct_130 : decode cX12_readAct 130 = .ok (.if_icmp .ne 40, 3) := by decide +kernel
theorem dX12_readAct_133 : decode cX12_readAct 133 = .ok (.aload_n 0, 1) := by decide +kernel
theorem dX12_readAct_134 : decode cX12_readAct 134 = .ok (.bipush 58, 2) := by decide +kernel
theorem dX12_readAct_136 : decode cX12_readAct 136 = .ok (.invokevirtual 135, 3) := by decide +kernel
theorem dX12_readAct_139 : decode cX12_readAct 139 = .ok (.ifCond .ne 11, 3) := by decide +kernel
theorem dX12_readAct_142 : decode cX12_readAct 142 = .ok (.aload_n 0, 1) := by decide +kernel
theorem dX12_readAct_143 : decode cX12_readAct 143 = .ok (.aload_n 0, 1) := by decide +kernel
theorem dX12_readAct_144 : decode cX12_readAct 144 = .ok (.getfield 117, 3) := by decide +kernel
theorem dX12_readAct_147 : decode cX12_readAct 147 = .ok (.invokevirtual 139, 3) := by decide +kernel
theorem dX12_readAct_150 : decode cX12_readAct 150 = .ok (.aload_n 0, 1) := by decide +kernel
theorem dX12_readAct_151 : decode cX12_readAct 151 = .ok (.invokevirtual 127, 3) := by decide +kernel
theorem dX12_readAct_154 : decode cX12_readAct 154 = .ok (.ifCond .ne 4, 3) := by decide +kernel
theorem dX12_readAct_157 : decode cX12_readAct 157 = .ok (.return_, 1) := by decide +kernel
theorem dX12_readAct_158 : decode cX12_readAct 158 = .ok (.aload_n 0, 1) := by decide +kernel
theorem dX12_readAct_159 : decode cX12_readAct 159 = .ok (.getfield 51, 3) := by decide +kernel
theorem dX12_readAct_162 : decode cX12_readAct 162 = .ok (.iload_n 1, 1) := by decide +kernel
theorem dX12_readAct_163 : decode cX12_readAct 163 = .ok (.iconst 2, 1) := by decide +kernel
theorem dX12_readAct_164 : decode cX12_readAct 164 = .ok (.iadd, 1) := by decide +kernel
theorem dX12_readAct_165 : decode cX12_readAct 165 = .ok (.aload_n 0, 1) := by decide +kernel
theorem dX12_readAct_166 : decode cX12_readAct 166 = .ok (.invokevirtual 216, 3) := by decide +kernel
theorem dX12_readAct_169 : decode cX12_readAct 169 = .ok (.iastore, 1) := by decide +kernel
theorem dX12_readAct_170 : decode cX12_readAct 170 = .ok (.aload_n 0, 1) := by decide +kernel
theorem dX12_readAct_171 : decode cX12_readAct 171 = .ok (.invokevirtual 127, 3) := by decide +kernel
theorem dX12_readAct_174 : decode cX12_readAct 174 = .ok (.ifCond .eq 20, 3) := by decide +kernel
theorem dX12_readAct_177 : decode cX12_readAct 177 = .ok (.aload_n 0, 1) := by decide +kernel
theorem dX12_readAct_178 : decode cX12_readAct 178 = .ok (.bipush 46, 2) := by decide +kernel
theorem dX12_readAct_180 : decode cX12_readAct 180 = .ok (.invokevirtual 135, 3) := by decide +kernel
theorem dX12_readAct_183 : decode cX12_readAct 183 = .ok (.ifCond .ne 11, 3) := by decide +kernel
