theorem dX0_init_0 : decode cX0_init 0 = .ok (.aload_n 0, 1) := by decide +kernel
theorem dX0_init_1 : decode cX0_init 1 = .ok (.invokespecial 3, 3) := by decide +kernel
theorem dX0_init_4 : decode cX0_init 4 = .ok (.aload_n 0, 1) := by decide +kernel
theorem dX0_init_5 : decode cX0_init 5 = .ok (.bipush 24, 2) := by decide +kernel
theorem dX0_init_7 : decode cX0_init 7 = .ok (.newarray .int, 2) := by decide +kernel
theorem dX0_init_9 : decode cX0_init 9 = .ok (.putfield 9, 3) := by decide +kernel
theorem dX0_init_12 : decode cX0_init 12 = .ok (.aload_n 0, 1) := by decide +kernel
theorem dX0_init_13 : decode cX0_init 13 = .ok (.aload_n 1, 1) := by decide +kernel
theorem dX0_init_14 : decode cX0_init 14 = .ok (.putfield 15, 3) := by decide +kernel
theorem dX0_init_17 : decode cX0_init 17 = .ok (.aload_n 0, 1) := by decide +kernel
theorem dX0_init_18 : decode cX0_init 18 = .ok (.aload_n 2, 1) := by decide +kernel
theorem dX0_init_19 : decode cX0_init 19 = .ok (.putfield 19, 3) := by decide +kernel
theorem dX0_init_22 : decode cX0_init 22 = .ok (.return_, 1) := by decide +kernel
theorem dX0_parentsBy_0 : decode cX0_parentsBy 0 = .ok (.aload_n 0, 1) := by decide +kernel
theorem dX0_parentsBy_1 : decode cX0_parentsBy 1 = .ok (.getfield 15, 3) := by decide +kernel
theorem dX0_parentsBy_4 : decode cX0_parentsBy 4 = .ok (.iload_n 2, 1) := by decide +kernel
theorem dX0_parentsBy_5 : decode cX0_parentsBy 5 = .ok (.iload_n 3, 1) := by decide +kernel
theorem dX0_parentsBy_6 : decode cX0_parentsBy 6 = .ok (.invokevirtual 23, 3) := by decide +kernel
theorem dX0_parentsBy_9 : decode cX0_parentsBy 9 = .ok (.ifCond .ne 5, 3) := by decide +kernel
theorem dX0_parentsBy_12 : decode cX0_parentsBy 12 = .ok (.iconst (-1), 1) := by decide +kernel
theorem dX0_parentsBy_13 : decode cX0_parentsBy 13 = .ok (.ireturn, 1) := by decide +kernel
theorem dX0_parentsBy_14 : decode cX0_parentsBy 14 = .ok (.aload_n 0, 1) := by decide +kernel
theorem dX0_parentsBy_15 : decode cX0_parentsBy 15 = .ok (.getfield 15, 3) := by decide +kernel
theorem dX0_parentsBy_18 : decode cX0_parentsBy 18 = .ok (.iload_n 3, 1) := by decide +kernel
theorem dX0_parentsBy_19 : decode cX0_parentsBy 19 = .ok (.invokevirtual 29, 3) := by decide +kernel
theorem dX0_parentsBy_22 : decode cX0_parentsBy 22 = .ok (.istore 4, 2) := by decide +kernel
theorem dX0_parentsBy_24 : decode cX0_parentsBy 24 = .ok (.iload 4, 2) := by decide +kernel
theorem dX0_parentsBy_26 : decode cX0_parentsBy 26 = .ok (.iconst 1, 1) := by decide +kernel
theorem dX0_parentsBy_27 : decode cX0_parentsBy 27 = .ok (.iload_n 2, 1) := by decide +kernel
theorem dX0_parentsBy_28 : decode cX0_parentsBy 28 = .ok (.ishl, 1) := by decide +kernel
theorem dX0_parentsBy_29 : decode cX0_parentsBy 29 = .ok (.iand, 1) := by decide +kernel
theorem dX0_parentsBy_30 : decode cX0_parentsBy 30 = .ok (.ifCond .eq 6, 3) := by decide +kernel
theorem dX0_parentsBy_33 : decode cX0_parentsBy 33 = .ok (.bipush (-2), 2) := by decide +kernel
theorem dX0_parentsBy_35 : decode cX0_parentsBy 35 = .ok (.ireturn, 1) := by decide +kernel
theorem dX0_parentsBy_36 : decode cX0_parentsBy 36 = .ok (.aload_n 0, 1) := by decide +kernel
theorem dX0_parentsBy_37 : decode cX0_parentsBy 37 = .ok (.getfield 15, 3) := by decide +kernel
theorem dX0_parentsBy_40 : decode cX0_parentsBy 40 = .ok (.iload_n 2, 1) := by decide +kernel
theorem dX0_parentsBy_41 : decode cX0_parentsBy 41 = .ok (.invokevirtual 33, 3) := by decide +kernel
theorem dX0_parentsBy_44 : decode cX0_parentsBy 44 = .ok (.aload_n 1, 1) := by decide +kernel
theorem dX0_parentsBy_45 : decode cX0_parentsBy 45 = .ok (.aload_n 0, 1) := by decide +kernel
theorem dX0_parentsBy_46 : decode cX0_parentsBy 46 = .ok (.getfield 15, 3) := by decide +kernel
theorem dX0_parentsBy_49 : decode cX0_parentsBy 49 = .ok (.iload_n 3, 1) := by decide +kernel
theorem dX0_parentsBy_50 : decode cX0_parentsBy 50 = .ok (.invokevirtual 36, 3) := by decide +kernel
theorem dX0_parentsBy_53 : decode cX0_parentsBy 53 = .ok (.iand, 1) := by decide +kernel
theorem dX0_parentsBy_54 : decode cX0_parentsBy 54 = .ok (.iload 4, 2) := by decide +kernel
theorem dX0_parentsBy_56 : decode cX0_parentsBy 56 = .ok (.iconst (-1), 1) := by decide +kernel
theorem dX0_parentsBy_57 : decode cX0_parentsBy 57 = .ok (.ixor, 1) := by decide +kernel
theorem dX0_parentsBy_58 : decode cX0_parentsBy 58 = .ok (.iand, 1) := by decide +kernel
theorem dX0_parentsBy_59 : decode cX0_parentsBy 59 = .ok (.iconst 1, 1) := by decide +kernel
theorem dX0_parentsBy_60 : decode cX0_parentsBy 60 = .ok (.iload_n 2, 1) := by decide +kernel
theorem dX0_parentsBy_61 : decode cX0_parentsBy 61 = .ok (.ishl, 1) := by decide +kernel
theorem dX0_parentsBy_62 : decode cX0_parentsBy 62 = .ok (.ior, 1) := by decide +kernel
theorem dX0_parentsBy_63 : decode cX0_parentsBy 63 = .ok (.istore 5, 2) := by decide +kernel
theorem dX0_parentsBy_65 : decode cX0_parentsBy 65 = .ok (.aload_n 0, 1) := by decide +kernel
theorem dX0_parentsBy_66 : decode cX0_parentsBy 66 = .ok (.getfield 15, 3) := by decide +kernel
theorem dX0_parentsBy_69 : decode cX0_parentsBy 69 = .ok (.invokevirtual 42, 3) := by decide +kernel
theorem dX0_parentsBy_72 : decode cX0_parentsBy 72 = .ok (.iload 5, 2) := by decide +kernel
theorem dX0_parentsBy_74 : decode cX0_parentsBy 74 = .ok (.invokestatic 46, 3) := by decide +kernel
theorem dX0_parentsBy_77 : decode cX0_parentsBy 77 = .ok (.iadd, 1) := by decide +kernel
theorem dX0_parentsBy_78 : decode cX0_parentsBy 78 = .ok (.bipush 24, 2) := by decide +kernel
theorem dX0_parentsBy_80 : decode cX0_parentsBy 80 = .ok (.if_icmp .le 8, 3) := by decide +kernel
theorem dX0_parentsBy_83 : decode cX0_parentsBy 83 = .ok (.bipush (-9), 2) := by decide +kernel
theorem dX0_parentsBy_85 : decode cX0_parentsBy 85 = .ok (.goto 5, 3) := by decide +kernel
theorem dX0_parentsBy_88 : decode cX0_parentsBy 88 = .ok (.iload 5, 2) := by decide +kernel
theorem dX0_parentsBy_90 : decode cX0_parentsBy 90 = .ok (.ireturn, 1) := by decide +kernel
theorem dX0_mountNew_0 : decode cX0_mountNew 0 = .ok (.aload_n 0, 1) := by decide +kernel
theorem dX0_mountNew_1 : decode cX0_mountNew 1 = .ok (.aload_n 0, 1) := by decide +kernel
theorem dX0_mountNew_2 : decode cX0_mountNew 2 = .ok (.getfield 19, 3) := by decide +kernel
theorem dX0_mountNew_5 : decode cX0_mountNew 5 = .ok (.iload_n 1, 1) := by decide +kernel
theorem dX0_mountNew_6 : decode cX0_mountNew 6 = .ok (.iload_n 2, 1) := by decide +kernel
theorem dX0_mountNew_7 : decode cX0_mountNew 7 = .ok (.invokevirtual 51, 3) := by decide +kernel
theorem dX0_mountNew_10 : decode cX0_mountNew 10 = .ok (.istore_n 3, 1) := by decide +kernel
theorem dX0_mountNew_11 : decode cX0_mountNew 11 = .ok (.iload_n 3, 1) := by decide +kernel
theorem dX0_mountNew_12 : decode cX0_mountNew 12 = .ok (.ifCond .ge 7, 3) := by decide +kernel
theorem dX0_mountNew_15 : decode cX0_mountNew 15 = .ok (.iload_n 3, 1) := by decide +kernel
theorem dX0_mountNew_16 : decode cX0_mountNew 16 = .ok (.goto 12, 3) := by decide +kernel
theorem dX0_mountNew_19 : decode cX0_mountNew 19 = .ok (.aload_n 0, 1) := by decide +kernel
theorem dX0_mountNew_20 : decode cX0_mountNew 20 = .ok (.bipush 24, 2) := by decide +kernel
theorem dX0_mountNew_22 : decode cX0_mountNew 22 = .ok (.iload_n 1, 1) := by decide +kernel
theorem dX0_mountNew_23 : decode cX0_mountNew 23 = .ok (.iload_n 2, 1) := by decide +kernel
theorem dX0_mountNew_24 : decode cX0_mountNew 24 = .ok (.iload_n 3, 1) := by decide +kernel
theorem dX0_mountNew_25 : decode cX0_mountNew 25 = .ok (.invokevirtual 55, 3) := by decide +kernel
theorem dX0_mountNew_28 : decode cX0_mountNew 28 = .ok (.ireturn, 1) := by decide +kernel
theorem dX0_bindOne_0 : decode cX0_bindOne 0 = .ok (.aload_n 0, 1) := by decide +kernel
theorem dX0_bindOne_1 : decode cX0_bindOne 1 = .ok (.getfield 15, 3) := by decide +kernel
theorem dX0_bindOne_4 : decode cX0_bindOne 4 = .ok (.iload_n 1, 1) := by decide +kernel
theorem dX0_bindOne_5 : decode cX0_bindOne 5 = .ok (.invokevirtual 59, 3) := by decide +kernel
theorem dX0_bindOne_8 : decode cX0_bindOne 8 = .ok (.ifCond .ne 5, 3) := by decide +kernel
theorem dX0_bindOne_11 : decode cX0_bindOne 11 = .ok (.iconst (-1), 1) := by decide +kernel
theorem dX0_bindOne_12 : decode cX0_bindOne 12 = .ok (.ireturn, 1) := by decide +kernel
theorem dX0_bindOne_13 : decode cX0_bindOne 13 = .ok (.aload_n 0, 1) := by decide +kernel
theorem dX0_bindOne_14 : decode cX0_bindOne 14 = .ok (.aload_n 0, 1) := by decide +kernel
theorem dX0_bindOne_15 : decode cX0_bindOne 15 = .ok (.getfield 19, 3) := by decide +kernel
theorem dX0_bindOne_18 : decode cX0_bindOne 18 = .ok (.iload_n 2, 1) := by decide +kernel
theorem dX0_bindOne_19 : decode cX0_bindOne 19 = .ok (.iload_n 3, 1) := by decide +kernel
theorem dX0_bindOne_20 : decode cX0_bindOne 20 = .ok (.invokevirtual 51, 3) := by decide +kernel
theorem dX0_bindOne_23 : decode cX0_bindOne 23 = .ok (.istore 4, 2) := by decide +kernel
theorem dX0_bindOne_25 : decode cX0_bindOne 25 = .ok (.iload 4, 2) := by decide +kernel
theorem dX0_bindOne_27 : decode cX0_bindOne 27 = .ok (.iconst (-1), 1) := by decide +kernel
theorem dX0_bindOne_28 : decode cX0_bindOne 28 = .ok (.if_icmp .eq 10, 3) := by decide +kernel
theorem dX0_bindOne_31 : decode cX0_bindOne 31 = .ok (.iload 4, 2) := by decide +kernel
theorem dX0_bindOne_33 : decode cX0_bindOne 33 = .ok (.bipush (-2), 2) := by decide +kernel
theorem dX0_bindOne_35 : decode cX0_bindOne 35 = .ok (.if_icmp .ne 6, 3) := by decide +kernel
theorem dX0_bindOne_38 : decode cX0_bindOne 38 = .ok (.iload 4, 2) := by decide +kernel
theorem dX0_bindOne_40 : decode cX0_bindOne 40 = .ok (.ireturn, 1) := by decide +kernel
theorem dX0_bindOne_41 : decode cX0_bindOne 41 = .ok (.aload_n 0, 1) := by decide +kernel
theorem dX0_bindOne_42 : decode cX0_bindOne 42 = .ok (.getfield 15, 3) := by decide +kernel
theorem dX0_bindOne_45 : decode cX0_bindOne 45 = .ok (.iload_n 1, 1) := by decide +kernel
theorem dX0_bindOne_46 : decode cX0_bindOne 46 = .ok (.invokevirtual 63, 3) := by decide +kernel
theorem dX0_bindOne_49 : decode cX0_bindOne 49 = .ok (.ifCond .eq 6, 3) := by decide +kernel
theorem dX0_bindOne_52 : decode cX0_bindOne 52 = .ok (.bipush (-3), 2) := by decide +kernel
theorem dX0_bindOne_54 : decode cX0_bindOne 54 = .ok (.ireturn, 1) := by decide +kernel
theorem dX0_bindOne_55 : decode cX0_bindOne 55 = .ok (.iload 4, 2) := by decide +kernel
theorem dX0_bindOne_57 : decode cX0_bindOne 57 = .ok (.ifCond .ge 8, 3) := by decide +kernel
theorem dX0_bindOne_60 : decode cX0_bindOne 60 = .ok (.iload 4, 2) := by decide +kernel
theorem dX0_bindOne_62 : decode cX0_bindOne 62 = .ok (.goto 12, 3) := by decide +kernel
theorem dX0_bindOne_65 : decode cX0_bindOne 65 = .ok (.aload_n 0, 1) := by decide +kernel
theorem dX0_bindOne_66 : decode cX0_bindOne 66 = .ok (.iload_n 1, 1) := by decide +kernel
theorem dX0_bindOne_67 : decode cX0_bindOne 67 = .ok (.iload_n 2, 1) := by decide +kernel
theorem dX0_bindOne_68 : decode cX0_bindOne 68 = .ok (.iload_n 3, 1) := by decide +kernel
theorem dX0_bindOne_69 : decode cX0_bindOne 69 = .ok (.iload 4, 2) := by decide +kernel
theorem dX0_bindOne_71 : decode cX0_bindOne 71 = .ok (.invokevirtual 55, 3) := by decide +kernel
theorem dX0_bindOne_74 : decode cX0_bindOne 74 = .ok (.ireturn, 1) := by decide +kernel
theorem dX0_bring_0 : decode cX0_bring 0 = .ok (.aload_n 0, 1) := by decide +kernel
theorem dX0_bring_1 : decode cX0_bring 1 = .ok (.getfield 15, 3) := by decide +kernel
theorem dX0_bring_4 : decode cX0_bring 4 = .ok (.iload_n 2, 1) := by decide +kernel
theorem dX0_bring_5 : decode cX0_bring 5 = .ok (.invokevirtual 33, 3) := by decide +kernel
theorem dX0_bring_8 : decode cX0_bring 8 = .ok (.istore 5, 2) := by decide +kernel
theorem dX0_bring_10 : decode cX0_bring 10 = .ok (.aload_n 0, 1) := by decide +kernel
theorem dX0_bring_11 : decode cX0_bring 11 = .ok (.getfield 15, 3) := by decide +kernel
theorem dX0_bring_14 : decode cX0_bring 14 = .ok (.iload_n 2, 1) := by decide +kernel
theorem dX0_bring_15 : decode cX0_bring 15 = .ok (.invokevirtual 66, 3) := by decide +kernel
theorem dX0_bring_18 : decode cX0_bring 18 = .ok (.istore 6, 2) := by decide +kernel
theorem dX0_bring_20 : decode cX0_bring 20 = .ok (.aload_n 0, 1) := by decide +kernel
theorem dX0_bring_21 : decode cX0_bring 21 = .ok (.getfield 15, 3) := by decide +kernel
theorem dX0_bring_24 : decode cX0_bring 24 = .ok (.iload_n 1, 1) := by decide +kernel
theorem dX0_bring_25 : decode cX0_bring 25 = .ok (.invokevirtual 69, 3) := by decide +kernel
theorem dX0_bring_28 : decode cX0_bring 28 = .ok (.istore 7, 2) := by decide +kernel
theorem dX0_bring_30 : decode cX0_bring 30 = .ok (.aload_n 0, 1) := by decide +kernel
theorem dX0_bring_31 : decode cX0_bring 31 = .ok (.getfield 15, 3) := by decide +kernel
theorem dX0_bring_34 : decode cX0_bring 34 = .ok (.iload_n 1, 1) := by decide +kernel
theorem dX0_bring_35 : decode cX0_bring 35 = .ok (.invokevirtual 66, 3) := by decide +kernel
theorem dX0_bring_38 : decode cX0_bring 38 = .ok (.istore 8, 2) := by decide +kernel
theorem dX0_bring_40 : decode cX0_bring 40 = .ok (.iload 8, 2) := by decide +kernel
theorem dX0_bring_42 : decode cX0_bring 42 = .ok (.ifCond .ne 17, 3) := by decide +kernel
theorem dX0_bring_45 : decode cX0_bring 45 = .ok (.iload 6, 2) := by decide +kernel
theorem dX0_bring_47 : decode cX0_bring 47 = .ok (.ifCond .eq 12, 3) := by decide +kernel
theorem dX0_bring_50 : decode cX0_bring 50 = .ok (.aload_n 0, 1) := by decide +kernel
theorem dX0_bring_51 : decode cX0_bring 51 = .ok (.getfield 15, 3) := by decide +kernel
theorem dX0_bring_54 : decode cX0_bring 54 = .ok (.invokevirtual 72, 3) := by decide +kernel
theorem dX0_bring_57 : decode cX0_bring 57 = .ok (.istore 8, 2) := by decide +kernel
theorem dX0_bring_59 : decode cX0_bring 59 = .ok (.aload_n 0, 1) := by decide +kernel
theorem dX0_bring_60 : decode cX0_bring 60 = .ok (.iload 5, 2) := by decide +kernel
theorem dX0_bring_62 : decode cX0_bring 62 = .ok (.iload 6, 2) := by decide +kernel
theorem dX0_bring_64 : decode cX0_bring 64 = .ok (.iload 8, 2) := by decide +kernel
theorem dX0_bring_66 : decode cX0_bring 66 = .ok (.invokevirtual 75, 3) := by decide +kernel
theorem dX0_bring_69 : decode cX0_bring 69 = .ok (.aload_n 0, 1) := by decide +kernel
theorem dX0_bring_70 : decode cX0_bring 70 = .ok (.getfield 15, 3) := by decide +kernel
theorem dX0_bring_73 : decode cX0_bring 73 = .ok (.iload_n 2, 1) := by decide +kernel
theorem dX0_bring_74 : decode cX0_bring 74 = .ok (.iload_n 3, 1) := by decide +kernel
theorem dX0_bring_75 : decode cX0_bring 75 = .ok (.iload 8, 2) := by decide +kernel
theorem dX0_bring_77 : decode cX0_bring 77 = .ok (.iload 7, 2) := by decide +kernel
theorem dX0_bring_79 : decode cX0_bring 79 = .ok (.invokevirtual 79, 3) := by decide +kernel
theorem dX0_bring_82 : decode cX0_bring 82 = .ok (.istore 9, 2) := by decide +kernel
theorem dX0_bring_84 : decode cX0_bring 84 = .ok (.iconst 0, 1) := by decide +kernel
theorem dX0_bring_85 : decode cX0_bring 85 = .ok (.istore 10, 2) := by decide +kernel
theorem dX0_bring_87 : decode cX0_bring 87 = .ok (.iload 10, 2) := by decide +kernel
theorem dX0_bring_89 : decode cX0_bring 89 = .ok (.bipush 24, 2) := by decide +kernel
theorem dX0_bring_91 : decode cX0_bring 91 = .ok (.if_icmp .ge 90, 3) := by decide +kernel
theorem dX0_bring_94 : decode cX0_bring 94 = .ok (.iload 10, 2) := by decide +kernel
theorem dX0_bring_96 : decode cX0_bring 96 = .ok (.iload_n 2, 1) := by decide +kernel
theorem dX0_bring_97 : decode cX0_bring 97 = .ok (.if_icmp .eq 78, 3) := by decide +kernel
theorem dX0_bring_100 : decode cX0_bring 100 = .ok (.iload 4, 2) := by decide +kernel
theorem dX0_bring_102 : decode cX0_bring 102 = .ok (.iconst 1, 1) := by decide +kernel
theorem dX0_bring_103 : decode cX0_bring 103 = .ok (.iload 10, 2) := by decide +kernel
theorem dX0_bring_105 : decode cX0_bring 105 = .ok (.ishl, 1) := by decide +kernel
theorem dX0_bring_106 : decode cX0_bring 106 = .ok (.iand, 1) := by decide +kernel
theorem dX0_bring_107 : decode cX0_bring 107 = .ok (.ifCond .eq 68, 3) := by decide +kernel
theorem dX0_bring_110 : decode cX0_bring 110 = .ok (.aload_n 0, 1) := by decide +kernel
theorem dX0_bring_111 : decode cX0_bring 111 = .ok (.getfield 15, 3) := by decide +kernel
theorem dX0_bring_114 : decode cX0_bring 114 = .ok (.iload 10, 2) := by decide +kernel
theorem dX0_bring_116 : decode cX0_bring 116 = .ok (.invokevirtual 66, 3) := by decide +kernel
theorem dX0_bring_119 : decode cX0_bring 119 = .ok (.iload 6, 2) := by decide +kernel
theorem dX0_bring_121 : decode cX0_bring 121 = .ok (.if_icmp .ne 21, 3) := by decide +kernel
theorem dX0_bring_124 : decode cX0_bring 124 = .ok (.aload_n 0, 1) := by decide +kernel
theorem dX0_bring_125 : decode cX0_bring 125 = .ok (.getfield 15, 3) := by decide +kernel
theorem dX0_bring_128 : decode cX0_bring 128 = .ok (.iload 10, 2) := by decide +kernel
theorem dX0_bring_130 : decode cX0_bring 130 = .ok (.iload_n 3, 1) := by decide +kernel
theorem dX0_bring_131 : decode cX0_bring 131 = .ok (.iload 8, 2) := by decide +kernel
theorem dX0_bring_133 : decode cX0_bring 133 = .ok (.iload 7, 2) := by decide +kernel
theorem dX0_bring_135 : decode cX0_bring 135 = .ok (.invokevirtual 79, 3) := by decide +kernel
theorem dX0_bring_138 : decode cX0_bring 138 = .ok (.pop, 1) := by decide +kernel
theorem dX0_bring_139 : decode cX0_bring 139 = .ok (.goto 36, 3) := by decide +kernel
theorem dX0_bring_142 : decode cX0_bring 142 = .ok (.aload_n 0, 1) := by decide +kernel
theorem dX0_bring_143 : decode cX0_bring 143 = .ok (.getfield 15, 3) := by decide +kernel
theorem dX0_bring_146 : decode cX0_bring 146 = .ok (.iload 10, 2) := by decide +kernel
theorem dX0_bring_148 : decode cX0_bring 148 = .ok (.iload_n 3, 1) := by decide +kernel
theorem dX0_bring_149 : decode cX0_bring 149 = .ok (.aload_n 0, 1) := by decide +kernel
theorem dX0_bring_150 : decode cX0_bring 150 = .ok (.getfield 9, 3) := by decide +kernel
theorem dX0_bring_153 : decode cX0_bring 153 = .ok (.iload 10, 2) := by decide +kernel
theorem dX0_bring_155 : decode cX0_bring 155 = .ok (.iaload, 1) := by decide +kernel
theorem dX0_bring_156 : decode cX0_bring 156 = .ok (.aload_n 0, 1) := by decide +kernel
theorem dX0_bring_157 : decode cX0_bring 157 = .ok (.iload 5, 2) := by decide +kernel
theorem dX0_bring_159 : decode cX0_bring 159 = .ok (.aload_n 0, 1) := by decide +kernel
theorem dX0_bring_160 : decode cX0_bring 160 = .ok (.getfield 15, 3) := by decide +kernel
theorem dX0_bring_163 : decode cX0_bring 163 = .ok (.iload 10, 2) := by decide +kernel
theorem dX0_bring_165 : decode cX0_bring 165 = .ok (.invokevirtual 69, 3) := by decide +kernel
theorem dX0_bring_168 : decode cX0_bring 168 = .ok (.invokevirtual 82, 3) := by decide +kernel
theorem dX0_bring_171 : decode cX0_bring 171 = .ok (.invokevirtual 79, 3) := by decide +kernel
theorem dX0_bring_174 : decode cX0_bring 174 = .ok (.pop, 1) := by decide +kernel
theorem dX0_bring_175 : decode cX0_bring 175 = .ok (.iinc 10 1, 3) := by decide +kernel
theorem dX0_bring_178 : decode cX0_bring 178 = .ok (.goto (-91), 3) := by decide +kernel
theorem dX0_bring_181 : decode cX0_bring 181 = .ok (.aload_n 0, 1) := by decide +kernel
theorem dX0_bring_182 : decode cX0_bring 182 = .ok (.getfield 15, 3) := by decide +kernel
theorem dX0_bring_185 : decode cX0_bring 185 = .ok (.dup, 1) := by decide +kernel
theorem dX0_bring_186 : decode cX0_bring 186 = .ok (.getfield 86, 3) := by decide +kernel
theorem dX0_bring_189 : decode cX0_bring 189 = .ok (.iconst 1, 1) := by decide +kernel
theorem dX0_bring_190 : decode cX0_bring 190 = .ok (.iadd, 1) := by decide +kernel
theorem dX0_bring_191 : decode cX0_bring 191 = .ok (.putfield 86, 3) := by decide +kernel
theorem dX0_bring_194 : decode cX0_bring 194 = .ok (.iload 9, 2) := by decide +kernel
theorem dX0_bring_196 : decode cX0_bring 196 = .ok (.ireturn, 1) := by decide +kernel
theorem dX0_nameHeirs_0 : decode cX0_nameHeirs 0 = .ok (.iconst 0, 1) := by decide +kernel
theorem dX0_nameHeirs_1 : decode cX0_nameHeirs 1 = .ok (.istore 4, 2) := by decide +kernel
theorem dX0_nameHeirs_3 : decode cX0_nameHeirs 3 = .ok (.iload 4, 2) := by decide +kernel
theorem dX0_nameHeirs_5 : decode cX0_nameHeirs 5 = .ok (.bipush 24, 2) := by decide +kernel
theorem dX0_nameHeirs_7 : decode cX0_nameHeirs 7 = .ok (.if_icmp .ge 92, 3) := by decide +kernel
theorem dX0_nameHeirs_10 : decode cX0_nameHeirs 10 = .ok (.aload_n 0, 1) := by decide +kernel
theorem dX0_nameHeirs_11 : decode cX0_nameHeirs 11 = .ok (.getfield 9, 3) := by decide +kernel
theorem dX0_nameHeirs_14 : decode cX0_nameHeirs 14 = .ok (.iload 4, 2) := by decide +kernel
theorem dX0_nameHeirs_16 : decode cX0_nameHeirs 16 = .ok (.iconst 0, 1) := by decide +kernel
theorem dX0_nameHeirs_17 : decode cX0_nameHeirs 17 = .ok (.iastore, 1) := by decide +kernel
theorem dX0_nameHeirs_18 : decode cX0_nameHeirs 18 = .ok (.aload_n 0, 1) := by decide +kernel
theorem dX0_nameHeirs_19 : decode cX0_nameHeirs 19 = .ok (.getfield 15, 3) := by decide +kernel
theorem dX0_nameHeirs_22 : decode cX0_nameHeirs 22 = .ok (.iload 4, 2) := by decide +kernel
theorem dX0_nameHeirs_24 : decode cX0_nameHeirs 24 = .ok (.invokevirtual 66, 3) := by decide +kernel
theorem dX0_nameHeirs_27 : decode cX0_nameHeirs 27 = .ok (.istore 5, 2) := by decide +kernel
theorem dX0_nameHeirs_29 : decode cX0_nameHeirs 29 = .ok (.iload_n 1, 1) := by decide +kernel
theorem dX0_nameHeirs_30 : decode cX0_nameHeirs 30 = .ok (.iconst 1, 1) := by decide +kernel
theorem dX0_nameHeirs_31 : decode cX0_nameHeirs 31 = .ok (.iload 4, 2) := by decide +kernel
theorem dX0_nameHeirs_33 : decode cX0_nameHeirs 33 = .ok (.ishl, 1) := by decide +kernel
theorem dX0_nameHeirs_34 : decode cX0_nameHeirs 34 = .ok (.iand, 1) := by decide +kernel
theorem dX0_nameHeirs_35 : decode cX0_nameHeirs 35 = .ok (.ifCond .eq 58, 3) := by decide +kernel
theorem dX0_nameHeirs_38 : decode cX0_nameHeirs 38 = .ok (.iload 5, 2) := by decide +kernel
theorem dX0_nameHeirs_40 : decode cX0_nameHeirs 40 = .ok (.ifCond .eq 53, 3) := by decide +kernel
theorem dX0_nameHeirs_43 : decode cX0_nameHeirs 43 = .ok (.iload 5, 2) := by decide +kernel
theorem dX0_nameHeirs_45 : decode cX0_nameHeirs 45 = .ok (.iload_n 2, 1) := by decide +kernel
theorem dX0_nameHeirs_46 : decode cX0_nameHeirs 46 = .ok (.if_icmp .ne 7, 3) := by decide +kernel
theorem dX0_nameHeirs_49 : decode cX0_nameHeirs 49 = .ok (.iload_n 3, 1) := by decide +kernel
theorem dX0_nameHeirs_50 : decode cX0_nameHeirs 50 = .ok (.goto 17, 3) := by decide +kernel
theorem dX0_nameHeirs_53 : decode cX0_nameHeirs 53 = .ok (.aload_n 0, 1) := by decide +kernel
theorem dX0_nameHeirs_54 : decode cX0_nameHeirs 54 = .ok (.iload_n 1, 1) := by decide +kernel
theorem dX0_nameHeirs_55 : decode cX0_nameHeirs 55 = .ok (.iconst 1, 1) := by decide +kernel
theorem dX0_nameHeirs_56 : decode cX0_nameHeirs 56 = .ok (.iload 4, 2) := by decide +kernel
theorem dX0_nameHeirs_58 : decode cX0_nameHeirs 58 = .ok (.ishl, 1) := by decide +kernel
theorem dX0_nameHeirs_59 : decode cX0_nameHeirs 59 = .ok (.iconst 1, 1) := by decide +kernel
theorem dX0_nameHeirs_60 : decode cX0_nameHeirs 60 = .ok (.isub, 1) := by decide +kernel
theorem dX0_nameHeirs_61 : decode cX0_nameHeirs 61 = .ok (.iand, 1) := by decide +kernel
theorem dX0_nameHeirs_62 : decode cX0_nameHeirs 62 = .ok (.iload 5, 2) := by decide +kernel
theorem dX0_nameHeirs_64 : decode cX0_nameHeirs 64 = .ok (.invokevirtual 82, 3) := by decide +kernel
theorem dX0_nameHeirs_67 : decode cX0_nameHeirs 67 = .ok (.istore 6, 2) := by decide +kernel
theorem dX0_nameHeirs_69 : decode cX0_nameHeirs 69 = .ok (.aload_n 0, 1) := by decide +kernel
theorem dX0_nameHeirs_70 : decode cX0_nameHeirs 70 = .ok (.getfield 9, 3) := by decide +kernel
theorem dX0_nameHeirs_73 : decode cX0_nameHeirs 73 = .ok (.iload 4, 2) := by decide +kernel
theorem dX0_nameHeirs_75 : decode cX0_nameHeirs 75 = .ok (.iload 6, 2) := by decide +kernel
theorem dX0_nameHeirs_77 : decode cX0_nameHeirs 77 = .ok (.ifCond .eq 8, 3) := by decide +kernel
theorem dX0_nameHeirs_80 : decode cX0_nameHeirs 80 = .ok (.iload 6, 2) := by decide +kernel
theorem dX0_nameHeirs_82 : decode cX0_nameHeirs 82 = .ok (.goto 10, 3) := by decide +kernel
theorem dX0_nameHeirs_85 : decode cX0_nameHeirs 85 = .ok (.aload_n 0, 1) := by decide +kernel
theorem dX0_nameHeirs_86 : decode cX0_nameHeirs 86 = .ok (.getfield 15, 3) := by decide +kernel
theorem dX0_nameHeirs_89 : decode cX0_nameHeirs 89 = .ok (.invokevirtual 72, 3) := by decide +kernel
theorem dX0_nameHeirs_92 : decode cX0_nameHeirs 92 = .ok (.iastore, 1) := by decide +kernel
theorem dX0_nameHeirs_93 : decode cX0_nameHeirs 93 = .ok (.iinc 4 1, 3) := by decide +kernel
theorem dX0_nameHeirs_96 : decode cX0_nameHeirs 96 = .ok (.goto (-93), 3) := by decide +kernel
theorem dX0_nameHeirs_99 : decode cX0_nameHeirs 99 = .ok (.return_, 1) := by decide +kernel
theorem dX0_heirOf_0 : decode cX0_heirOf 0 = .ok (.aload_n 0, 1) := by decide +kernel
theorem dX0_heirOf_1 : decode cX0_heirOf 1 = .ok (.getfield 15, 3) := by decide +kernel
theorem dX0_heirOf_4 : decode cX0_heirOf 4 = .ok (.iload_n 1, 1) := by decide +kernel
theorem dX0_heirOf_5 : decode cX0_heirOf 5 = .ok (.aload_n 0, 1) := by decide +kernel
theorem dX0_heirOf_6 : decode cX0_heirOf 6 = .ok (.getfield 15, 3) := by decide +kernel
theorem dX0_heirOf_9 : decode cX0_heirOf 9 = .ok (.iload_n 2, 1) := by decide +kernel
theorem dX0_heirOf_10 : decode cX0_heirOf 10 = .ok (.invokevirtual 90, 3) := by decide +kernel
theorem dX0_heirOf_13 : decode cX0_heirOf 13 = .ok (.iand, 1) := by decide +kernel
theorem dX0_heirOf_14 : decode cX0_heirOf 14 = .ok (.invokevirtual 93, 3) := by decide +kernel
theorem dX0_heirOf_17 : decode cX0_heirOf 17 = .ok (.istore_n 3, 1) := by decide +kernel
theorem dX0_heirOf_18 : decode cX0_heirOf 18 = .ok (.iload_n 3, 1) := by decide +kernel
theorem dX0_heirOf_19 : decode cX0_heirOf 19 = .ok (.bipush 24, 2) := by decide +kernel
theorem dX0_heirOf_21 : decode cX0_heirOf 21 = .ok (.if_icmp .ge 12, 3) := by decide +kernel
theorem dX0_heirOf_24 : decode cX0_heirOf 24 = .ok (.aload_n 0, 1) := by decide +kernel
theorem dX0_heirOf_25 : decode cX0_heirOf 25 = .ok (.getfield 9, 3) := by decide +kernel
theorem dX0_heirOf_28 : decode cX0_heirOf 28 = .ok (.iload_n 3, 1) := by decide +kernel
theorem dX0_heirOf_29 : decode cX0_heirOf 29 = .ok (.iaload, 1) := by decide +kernel
theorem dX0_heirOf_30 : decode cX0_heirOf 30 = .ok (.goto 4, 3) := by decide +kernel
theorem dX0_heirOf_33 : decode cX0_heirOf 33 = .ok (.iconst 0, 1) := by decide +kernel
theorem dX0_heirOf_34 : decode cX0_heirOf 34 = .ok (.ireturn, 1) := by decide +kernel
theorem dX0_bindTree_0 : decode cX0_bindTree 0 = .ok (.aload_n 0, 1) := by decide +kernel
theorem dX0_bindTree_1 : decode cX0_bindTree 1 = .ok (.getfield 15, 3) := by decide +kernel
theorem dX0_bindTree_4 : decode cX0_bindTree 4 = .ok (.iload_n 1, 1) := by decide +kernel
theorem dX0_bindTree_5 : decode cX0_bindTree 5 = .ok (.invokevirtual 59, 3) := by decide +kernel
theorem dX0_bindTree_8 : decode cX0_bindTree 8 = .ok (.ifCond .eq 15, 3) := by decide +kernel
theorem dX0_bindTree_11 : decode cX0_bindTree 11 = .ok (.aload_n 0, 1) := by decide +kernel
theorem dX0_bindTree_12 : decode cX0_bindTree 12 = .ok (.getfield 15, 3) := by decide +kernel
theorem dX0_bindTree_15 : decode cX0_bindTree 15 = .ok (.iload_n 2, 1) := by decide +kernel
theorem dX0_bindTree_16 : decode cX0_bindTree 16 = .ok (.iload_n 3, 1) := by decide +kernel
theorem dX0_bindTree_17 : decode cX0_bindTree 17 = .ok (.invokevirtual 23, 3) := by decide +kernel
theorem dX0_bindTree_20 : decode cX0_bindTree 20 = .ok (.ifCond .ne 5, 3) := by decide +kernel
theorem dX0_bindTree_23 : decode cX0_bindTree 23 = .ok (.iconst (-1), 1) := by decide +kernel
theorem dX0_bindTree_24 : decode cX0_bindTree 24 = .ok (.ireturn, 1) := by decide +kernel
theorem dX0_bindTree_25 : decode cX0_bindTree 25 = .ok (.aload_n 0, 1) := by decide +kernel
theorem dX0_bindTree_26 : decode cX0_bindTree 26 = .ok (.getfield 15, 3) := by decide +kernel
theorem dX0_bindTree_29 : decode cX0_bindTree 29 = .ok (.iload_n 2, 1) := by decide +kernel
theorem dX0_bindTree_30 : decode cX0_bindTree 30 = .ok (.iload_n 3, 1) := by decide +kernel
theorem dX0_bindTree_31 : decode cX0_bindTree 31 = .ok (.invokevirtual 96, 3) := by decide +kernel
theorem dX0_bindTree_34 : decode cX0_bindTree 34 = .ok (.bipush 24, 2) := by decide +kernel
theorem dX0_bindTree_36 : decode cX0_bindTree 36 = .ok (.if_icmp .eq 6, 3) := by decide +kernel
theorem dX0_bindTree_39 : decode cX0_bindTree 39 = .ok (.bipush (-2), 2) := by decide +kernel
theorem dX0_bindTree_41 : decode cX0_bindTree 41 = .ok (.ireturn, 1) := by decide +kernel
theorem dX0_bindTree_42 : decode cX0_bindTree 42 = .ok (.aload_n 0, 1) := by decide +kernel
theorem dX0_bindTree_43 : decode cX0_bindTree 43 = .ok (.getfield 15, 3) := by decide +kernel
theorem dX0_bindTree_46 : decode cX0_bindTree 46 = .ok (.iload_n 1, 1) := by decide +kernel
theorem dX0_bindTree_47 : decode cX0_bindTree 47 = .ok (.invokevirtual 63, 3) := by decide +kernel
theorem dX0_bindTree_50 : decode cX0_bindTree 50 = .ok (.ifCond .eq 6, 3) := by decide +kernel
theorem dX0_bindTree_53 : decode cX0_bindTree 53 = .ok (.bipush (-3), 2) := by decide +kernel
theorem dX0_bindTree_55 : decode cX0_bindTree 55 = .ok (.ireturn, 1) := by decide +kernel
theorem dX0_bindTree_56 : decode cX0_bindTree 56 = .ok (.aload_n 0, 1) := by decide +kernel
theorem dX0_bindTree_57 : decode cX0_bindTree 57 = .ok (.getfield 15, 3) := by decide +kernel
theorem dX0_bindTree_60 : decode cX0_bindTree 60 = .ok (.iload_n 2, 1) := by decide +kernel
theorem dX0_bindTree_61 : decode cX0_bindTree 61 = .ok (.invokevirtual 66, 3) := by decide +kernel
theorem dX0_bindTree_64 : decode cX0_bindTree 64 = .ok (.ifCond .eq 6, 3) := by decide +kernel
theorem dX0_bindTree_67 : decode cX0_bindTree 67 = .ok (.bipush (-4), 2) := by decide +kernel
theorem dX0_bindTree_69 : decode cX0_bindTree 69 = .ok (.ireturn, 1) := by decide +kernel
theorem dX0_bindTree_70 : decode cX0_bindTree 70 = .ok (.aload_n 0, 1) := by decide +kernel
theorem dX0_bindTree_71 : decode cX0_bindTree 71 = .ok (.iload_n 1, 1) := by decide +kernel
theorem dX0_bindTree_72 : decode cX0_bindTree 72 = .ok (.invokevirtual 99, 3) := by decide +kernel
theorem dX0_bindTree_75 : decode cX0_bindTree 75 = .ok (.istore 4, 2) := by decide +kernel
theorem dX0_bindTree_77 : decode cX0_bindTree 77 = .ok (.aload_n 0, 1) := by decide +kernel
theorem dX0_bindTree_78 : decode cX0_bindTree 78 = .ok (.getfield 15, 3) := by decide +kernel
theorem dX0_bindTree_81 : decode cX0_bindTree 81 = .ok (.invokevirtual 42, 3) := by decide +kernel
theorem dX0_bindTree_84 : decode cX0_bindTree 84 = .ok (.iload 4, 2) := by decide +kernel
theorem dX0_bindTree_86 : decode cX0_bindTree 86 = .ok (.invokestatic 46, 3) := by decide +kernel
theorem dX0_bindTree_89 : decode cX0_bindTree 89 = .ok (.iadd, 1) := by decide +kernel
theorem dX0_bindTree_90 : decode cX0_bindTree 90 = .ok (.bipush 24, 2) := by decide +kernel
theorem dX0_bindTree_92 : decode cX0_bindTree 92 = .ok (.if_icmp .le 6, 3) := by decide +kernel
theorem dX0_bindTree_95 : decode cX0_bindTree 95 = .ok (.bipush (-9), 2) := by decide +kernel
theorem dX0_bindTree_97 : decode cX0_bindTree 97 = .ok (.ireturn, 1) := by decide +kernel
theorem dX0_bindTree_98 : decode cX0_bindTree 98 = .ok (.aload_n 0, 1) := by decide +kernel
theorem dX0_bindTree_99 : decode cX0_bindTree 99 = .ok (.getfield 15, 3) := by decide +kernel
theorem dX0_bindTree_102 : decode cX0_bindTree 102 = .ok (.dup, 1) := by decide +kernel
theorem dX0_bindTree_103 : decode cX0_bindTree 103 = .ok (.getfield 86, 3) := by decide +kernel
theorem dX0_bindTree_106 : decode cX0_bindTree 106 = .ok (.iconst 1, 1) := by decide +kernel
theorem dX0_bindTree_107 : decode cX0_bindTree 107 = .ok (.iadd, 1) := by decide +kernel
theorem dX0_bindTree_108 : decode cX0_bindTree 108 = .ok (.putfield 86, 3) := by decide +kernel
theorem dX0_bindTree_111 : decode cX0_bindTree 111 = .ok (.aload_n 0, 1) := by decide +kernel
theorem dX0_bindTree_112 : decode cX0_bindTree 112 = .ok (.iload_n 1, 1) := by decide +kernel
theorem dX0_bindTree_113 : decode cX0_bindTree 113 = .ok (.iload_n 2, 1) := by decide +kernel
theorem dX0_bindTree_114 : decode cX0_bindTree 114 = .ok (.iload_n 3, 1) := by decide +kernel
theorem dX0_bindTree_115 : decode cX0_bindTree 115 = .ok (.iload 4, 2) := by decide +kernel
theorem dX0_bindTree_117 : decode cX0_bindTree 117 = .ok (.iconst 0, 1) := by decide +kernel
theorem dX0_bindTree_118 : decode cX0_bindTree 118 = .ok (.invokevirtual 102, 3) := by decide +kernel
theorem dX0_bindTree_121 : decode cX0_bindTree 121 = .ok (.ireturn, 1) := by decide +kernel
theorem dX0_bindableTree_0 : decode cX0_bindableTree 0 = .ok (.iconst 1, 1) := by decide +kernel
theorem dX0_bindableTree_1 : decode cX0_bindableTree 1 = .ok (.iload_n 1, 1) := by decide +kernel
theorem dX0_bindableTree_2 : decode cX0_bindableTree 2 = .ok (.ishl, 1) := by decide +kernel
theorem dX0_bindableTree_3 : decode cX0_bindableTree 3 = .ok (.istore_n 2, 1) := by decide +kernel
theorem dX0_bindableTree_4 : decode cX0_bindableTree 4 = .ok (.iconst 0, 1) := by decide +kernel
theorem dX0_bindableTree_5 : decode cX0_bindableTree 5 = .ok (.istore_n 3, 1) := by decide +kernel
theorem dX0_bindableTree_6 : decode cX0_bindableTree 6 = .ok (.iconst 0, 1) := by decide +kernel
theorem dX0_bindableTree_7 : decode cX0_bindableTree 7 = .ok (.istore 4, 2) := by decide +kernel
theorem dX0_bindableTree_9 : decode cX0_bindableTree 9 = .ok (.iload 4, 2) := by decide +kernel
theorem dX0_bindableTree_11 : decode cX0_bindableTree 11 = .ok (.bipush 24, 2) := by decide +kernel
theorem dX0_bindableTree_13 : decode cX0_bindableTree 13 = .ok (.if_icmp .ge 84, 3) := by decide +kernel
theorem dX0_bindableTree_16 : decode cX0_bindableTree 16 = .ok (.iload_n 2, 1) := by decide +kernel
theorem dX0_bindableTree_17 : decode cX0_bindableTree 17 = .ok (.invokestatic 46, 3) := by decide +kernel
theorem dX0_bindableTree_20 : decode cX0_bindableTree 20 = .ok (.iload_n 3, 1) := by decide +kernel
theorem dX0_bindableTree_21 : decode cX0_bindableTree 21 = .ok (.if_icmp .le 76, 3) := by decide +kernel
theorem dX0_bindableTree_24 : decode cX0_bindableTree 24 = .ok (.iload_n 2, 1) := by decide +kernel
theorem dX0_bindableTree_25 : decode cX0_bindableTree 25 = .ok (.invokestatic 46, 3) := by decide +kernel
theorem dX0_bindableTree_28 : decode cX0_bindableTree 28 = .ok (.istore_n 3, 1) := by decide +kernel
theorem dX0_bindableTree_29 : decode cX0_bindableTree 29 = .ok (.iconst 0, 1) := by decide +kernel
theorem dX0_bindableTree_30 : decode cX0_bindableTree 30 = .ok (.istore 5, 2) := by decide +kernel
theorem dX0_bindableTree_32 : decode cX0_bindableTree 32 = .ok (.iload 5, 2) := by decide +kernel
theorem dX0_bindableTree_34 : decode cX0_bindableTree 34 = .ok (.bipush 24, 2) := by decide +kernel
theorem dX0_bindableTree_36 : decode cX0_bindableTree 36 = .ok (.if_icmp .ge 55, 3) := by decide +kernel
theorem dX0_bindableTree_39 : decode cX0_bindableTree 39 = .ok (.aload_n 0, 1) := by decide +kernel
theorem dX0_bindableTree_40 : decode cX0_bindableTree 40 = .ok (.getfield 15, 3) := by decide +kernel
theorem dX0_bindableTree_43 : decode cX0_bindableTree 43 = .ok (.iload 5, 2) := by decide +kernel
theorem dX0_bindableTree_45 : decode cX0_bindableTree 45 = .ok (.invokevirtual 106, 3) := by decide +kernel
theorem dX0_bindableTree_48 : decode cX0_bindableTree 48 = .ok (.istore 6, 2) := by decide +kernel
theorem dX0_bindableTree_50 : decode cX0_bindableTree 50 = .ok (.iload 6, 2) := by decide +kernel
theorem dX0_bindableTree_52 : decode cX0_bindableTree 52 = .ok (.bipush 24, 2) := by decide +kernel
theorem dX0_bindableTree_54 : decode cX0_bindableTree 54 = .ok (.if_icmp .eq 31, 3) := by decide +kernel
theorem dX0_bindableTree_57 : decode cX0_bindableTree 57 = .ok (.iload_n 2, 1) := by decide +kernel
theorem dX0_bindableTree_58 : decode cX0_bindableTree 58 = .ok (.iconst 1, 1) := by decide +kernel
theorem dX0_bindableTree_59 : decode cX0_bindableTree 59 = .ok (.iload 6, 2) := by decide +kernel
theorem dX0_bindableTree_61 : decode cX0_bindableTree 61 = .ok (.ishl, 1) := by decide +kernel
theorem dX0_bindableTree_62 : decode cX0_bindableTree 62 = .ok (.iand, 1) := by decide +kernel
theorem dX0_bindableTree_63 : decode cX0_bindableTree 63 = .ok (.ifCond .eq 22, 3) := by decide +kernel
theorem dX0_bindableTree_66 : decode cX0_bindableTree 66 = .ok (.aload_n 0, 1) := by decide +kernel
theorem dX0_bindableTree_67 : decode cX0_bindableTree 67 = .ok (.getfield 15, 3) := by decide +kernel
theorem dX0_bindableTree_70 : decode cX0_bindableTree 70 = .ok (.iload 5, 2) := by decide +kernel
theorem dX0_bindableTree_72 : decode cX0_bindableTree 72 = .ok (.invokevirtual 63, 3) := by decide +kernel
theorem dX0_bindableTree_75 : decode cX0_bindableTree 75 = .ok (.ifCond .ne 10, 3) := by decide +kernel
theorem dX0_bindableTree_78 : decode cX0_bindableTree 78 = .ok (.iload_n 2, 1) := by decide +kernel
theorem dX0_bindableTree_79 : decode cX0_bindableTree 79 = .ok (.iconst 1, 1) := by decide +kernel
theorem dX0_bindableTree_80 : decode cX0_bindableTree 80 = .ok (.iload 5, 2) := by decide +kernel
theorem dX0_bindableTree_82 : decode cX0_bindableTree 82 = .ok (.ishl, 1) := by decide +kernel
theorem dX0_bindableTree_83 : decode cX0_bindableTree 83 = .ok (.ior, 1) := by decide +kernel
theorem dX0_bindableTree_84 : decode cX0_bindableTree 84 = .ok (.istore_n 2, 1) := by decide +kernel
theorem dX0_bindableTree_85 : decode cX0_bindableTree 85 = .ok (.iinc 5 1, 3) := by decide +kernel
theorem dX0_bindableTree_88 : decode cX0_bindableTree 88 = .ok (.goto (-56), 3) := by decide +kernel
theorem dX0_bindableTree_91 : decode cX0_bindableTree 91 = .ok (.iinc 4 1, 3) := by decide +kernel
theorem dX0_bindableTree_94 : decode cX0_bindableTree 94 = .ok (.goto (-85), 3) := by decide +kernel
theorem dX0_bindableTree_97 : decode cX0_bindableTree 97 = .ok (.iload_n 2, 1) := by decide +kernel
theorem dX0_bindableTree_98 : decode cX0_bindableTree 98 = .ok (.ireturn, 1) := by decide +kernel
theorem dX0_copyTree_0 : decode cX0_copyTree 0 = .ok (.aload_n 0, 1) := by decide +kernel
theorem dX0_copyTree_1 : decode cX0_copyTree 1 = .ok (.getfield 15, 3) := by decide +kernel
theorem dX0_copyTree_4 : decode cX0_copyTree 4 = .ok (.iload_n 2, 1) := by decide +kernel
theorem dX0_copyTree_5 : decode cX0_copyTree 5 = .ok (.iload_n 3, 1) := by decide +kernel
theorem dX0_copyTree_6 : decode cX0_copyTree 6 = .ok (.aload_n 0, 1) := by decide +kernel
theorem dX0_copyTree_7 : decode cX0_copyTree 7 = .ok (.getfield 15, 3) := by decide +kernel
theorem dX0_copyTree_10 : decode cX0_copyTree 10 = .ok (.iload_n 1, 1) := by decide +kernel
theorem dX0_copyTree_11 : decode cX0_copyTree 11 = .ok (.invokevirtual 66, 3) := by decide +kernel
theorem dX0_copyTree_14 : decode cX0_copyTree 14 = .ok (.aload_n 0, 1) := by decide +kernel
theorem dX0_copyTree_15 : decode cX0_copyTree 15 = .ok (.getfield 15, 3) := by decide +kernel
theorem dX0_copyTree_18 : decode cX0_copyTree 18 = .ok (.iload_n 1, 1) := by decide +kernel
theorem dX0_copyTree_19 : decode cX0_copyTree 19 = .ok (.invokevirtual 69, 3) := by decide +kernel
theorem dX0_copyTree_22 : decode cX0_copyTree 22 = .ok (.invokevirtual 79, 3) := by decide +kernel
theorem dX0_copyTree_25 : decode cX0_copyTree 25 = .ok (.istore 6, 2) := by decide +kernel
theorem dX0_copyTree_27 : decode cX0_copyTree 27 = .ok (.iconst 0, 1) := by decide +kernel
theorem dX0_copyTree_28 : decode cX0_copyTree 28 = .ok (.istore 7, 2) := by decide +kernel
theorem dX0_copyTree_30 : decode cX0_copyTree 30 = .ok (.iload 7, 2) := by decide +kernel
theorem dX0_copyTree_32 : decode cX0_copyTree 32 = .ok (.iconst 4, 1) := by decide +kernel
theorem dX0_copyTree_33 : decode cX0_copyTree 33 = .ok (.if_icmp .ge 62, 3) := by decide +kernel
theorem dX0_copyTree_36 : decode cX0_copyTree 36 = .ok (.iload 5, 2) := by decide +kernel
theorem dX0_copyTree_38 : decode cX0_copyTree 38 = .ok (.bipush 24, 2) := by decide +kernel
theorem dX0_copyTree_40 : decode cX0_copyTree 40 = .ok (.if_icmp .ge 55, 3) := by decide +kernel
theorem dX0_copyTree_43 : decode cX0_copyTree 43 = .ok (.aload_n 0, 1) := by decide +kernel
theorem dX0_copyTree_44 : decode cX0_copyTree 44 = .ok (.getfield 15, 3) := by decide +kernel
theorem dX0_copyTree_47 : decode cX0_copyTree 47 = .ok (.iload_n 1, 1) := by decide +kernel
theorem dX0_copyTree_48 : decode cX0_copyTree 48 = .ok (.iload 7, 2) := by decide +kernel
theorem dX0_copyTree_50 : decode cX0_copyTree 50 = .ok (.invokevirtual 96, 3) := by decide +kernel
theorem dX0_copyTree_53 : decode cX0_copyTree 53 = .ok (.istore 8, 2) := by decide +kernel
theorem dX0_copyTree_55 : decode cX0_copyTree 55 = .ok (.iload 8, 2) := by decide +kernel
theorem dX0_copyTree_57 : decode cX0_copyTree 57 = .ok (.bipush 24, 2) := by decide +kernel
theorem dX0_copyTree_59 : decode cX0_copyTree 59 = .ok (.if_icmp .eq 30, 3) := by decide +kernel
theorem dX0_copyTree_62 : decode cX0_copyTree 62 = .ok (.iload 4, 2) := by decide +kernel
theorem dX0_copyTree_64 : decode cX0_copyTree 64 = .ok (.iconst 1, 1) := by decide +kernel
theorem dX0_copyTree_65 : decode cX0_copyTree 65 = .ok (.iload 8, 2) := by decide +kernel
theorem dX0_copyTree_67 : decode cX0_copyTree 67 = .ok (.ishl, 1) := by decide +kernel
theorem dX0_copyTree_68 : decode cX0_copyTree 68 = .ok (.iand, 1) := by decide +kernel
theorem dX0_copyTree_69 : decode cX0_copyTree 69 = .ok (.ifCond .eq 20, 3) := by decide +kernel
theorem dX0_copyTree_72 : decode cX0_copyTree 72 = .ok (.aload_n 0, 1) := by decide +kernel
theorem dX0_copyTree_73 : decode cX0_copyTree 73 = .ok (.iload 8, 2) := by decide +kernel
theorem dX0_copyTree_75 : decode cX0_copyTree 75 = .ok (.iload 6, 2) := by decide +kernel
theorem dX0_copyTree_77 : decode cX0_copyTree 77 = .ok (.iload 7, 2) := by decide +kernel
theorem dX0_copyTree_79 : decode cX0_copyTree 79 = .ok (.iload 4, 2) := by decide +kernel
theorem dX0_copyTree_81 : decode cX0_copyTree 81 = .ok (.iload 5, 2) := by decide +kernel
theorem dX0_copyTree_83 : decode cX0_copyTree 83 = .ok (.iconst 1, 1) := by decide +kernel
theorem dX0_copyTree_84 : decode cX0_copyTree 84 = .ok (.iadd, 1) := by decide +kernel
theorem dX0_copyTree_85 : decode cX0_copyTree 85 = .ok (.invokevirtual 102, 3) := by decide +kernel
theorem dX0_copyTree_88 : decode cX0_copyTree 88 = .ok (.pop, 1) := by decide +kernel
theorem dX0_copyTree_89 : decode cX0_copyTree 89 = .ok (.iinc 7 1, 3) := by decide +kernel
theorem dX0_copyTree_92 : decode cX0_copyTree 92 = .ok (.goto (-62), 3) := by decide +kernel
theorem dX0_copyTree_95 : decode cX0_copyTree 95 = .ok (.iload 6, 2) := by decide +kernel
theorem dX0_copyTree_97 : decode cX0_copyTree 97 = .ok (.ireturn, 1) := by decide +kernel
theorem dX0_makeKind_0 : decode cX0_makeKind 0 = .ok (.aload_n 0, 1) := by decide +kernel
theorem dX0_makeKind_1 : decode cX0_makeKind 1 = .ok (.getfield 15, 3) := by decide +kernel
theorem dX0_makeKind_4 : decode cX0_makeKind 4 = .ok (.iload_n 1, 1) := by decide +kernel
theorem dX0_makeKind_5 : decode cX0_makeKind 5 = .ok (.invokevirtual 59, 3) := by decide +kernel
theorem dX0_makeKind_8 : decode cX0_makeKind 8 = .ok (.ifCond .eq 12, 3) := by decide +kernel
theorem dX0_makeKind_11 : decode cX0_makeKind 11 = .ok (.iload_n 2, 1) := by decide +kernel
theorem dX0_makeKind_12 : decode cX0_makeKind 12 = .ok (.ifCond .lt 8, 3) := by decide +kernel
theorem dX0_makeKind_15 : decode cX0_makeKind 15 = .ok (.iload_n 2, 1) := by decide +kernel
theorem dX0_makeKind_16 : decode cX0_makeKind 16 = .ok (.iconst 3, 1) := by decide +kernel
theorem dX0_makeKind_17 : decode cX0_makeKind 17 = .ok (.if_icmp .le 5, 3) := by decide +kernel
theorem dX0_makeKind_20 : decode cX0_makeKind 20 = .ok (.iconst (-1), 1) := by decide +kernel
theorem dX0_makeKind_21 : decode cX0_makeKind 21 = .ok (.ireturn, 1) := by decide +kernel
theorem dX0_makeKind_22 : decode cX0_makeKind 22 = .ok (.iload_n 2, 1) := by decide +kernel
theorem dX0_makeKind_23 : decode cX0_makeKind 23 = .ok (.iconst 2, 1) := by decide +kernel
theorem dX0_makeKind_24 : decode cX0_makeKind 24 = .ok (.if_icmp .ne 17, 3) := by decide +kernel
theorem dX0_makeKind_27 : decode cX0_makeKind 27 = .ok (.aload_n 0, 1) := by decide +kernel
theorem dX0_makeKind_28 : decode cX0_makeKind 28 = .ok (.getfield 15, 3) := by decide +kernel
theorem dX0_makeKind_31 : decode cX0_makeKind 31 = .ok (.iload_n 1, 1) := by decide +kernel
theorem dX0_makeKind_32 : decode cX0_makeKind 32 = .ok (.invokevirtual 66, 3) := by decide +kernel
theorem dX0_makeKind_35 : decode cX0_makeKind 35 = .ok (.ifCond .ne 6, 3) := by decide +kernel
theorem dX0_makeKind_38 : decode cX0_makeKind 38 = .ok (.bipush (-2), 2) := by decide +kernel
theorem dX0_makeKind_40 : decode cX0_makeKind 40 = .ok (.ireturn, 1) := by decide +kernel
theorem dX0_makeKind_41 : decode cX0_makeKind 41 = .ok (.aload_n 0, 1) := by decide +kernel
theorem dX0_makeKind_42 : decode cX0_makeKind 42 = .ok (.getfield 15, 3) := by decide +kernel
theorem dX0_makeKind_45 : decode cX0_makeKind 45 = .ok (.iload_n 1, 1) := by decide +kernel
theorem dX0_makeKind_46 : decode cX0_makeKind 46 = .ok (.invokevirtual 109, 3) := by decide +kernel
theorem dX0_makeKind_49 : decode cX0_makeKind 49 = .ok (.istore_n 3, 1) := by decide +kernel
theorem dX0_makeKind_50 : decode cX0_makeKind 50 = .ok (.iload_n 2, 1) := by decide +kernel
theorem dX0_makeKind_51 : decode cX0_makeKind 51 = .ok (.tableswitch 58 0 2 #[25, 36, 47], 25) := by decide +kernel
theorem dX0_makeKind_76 : decode cX0_makeKind 76 = .ok (.aload_n 0, 1) := by decide +kernel
theorem dX0_makeKind_77 : decode cX0_makeKind 77 = .ok (.getfield 15, 3) := by decide +kernel
theorem dX0_makeKind_80 : decode cX0_makeKind 80 = .ok (.iload_n 1, 1) := by decide +kernel
theorem dX0_makeKind_81 : decode cX0_makeKind 81 = .ok (.invokevirtual 112, 3) := by decide +kernel
theorem dX0_makeKind_84 : decode cX0_makeKind 84 = .ok (.goto 33, 3) := by decide +kernel
theorem dX0_makeKind_87 : decode cX0_makeKind 87 = .ok (.aload_n 0, 1) := by decide +kernel
theorem dX0_makeKind_88 : decode cX0_makeKind 88 = .ok (.getfield 15, 3) := by decide +kernel
theorem dX0_makeKind_91 : decode cX0_makeKind 91 = .ok (.iload_n 1, 1) := by decide +kernel
theorem dX0_makeKind_92 : decode cX0_makeKind 92 = .ok (.invokevirtual 116, 3) := by decide +kernel
theorem dX0_makeKind_95 : decode cX0_makeKind 95 = .ok (.goto 22, 3) := by decide +kernel
theorem dX0_makeKind_98 : decode cX0_makeKind 98 = .ok (.aload_n 0, 1) := by decide +kernel
theorem dX0_makeKind_99 : decode cX0_makeKind 99 = .ok (.getfield 15, 3) := by decide +kernel
theorem dX0_makeKind_102 : decode cX0_makeKind 102 = .ok (.iload_n 1, 1) := by decide +kernel
theorem dX0_makeKind_103 : decode cX0_makeKind 103 = .ok (.invokevirtual 119, 3) := by decide +kernel
theorem dX0_makeKind_106 : decode cX0_makeKind 106 = .ok (.goto 11, 3) := by decide +kernel
theorem dX0_makeKind_109 : decode cX0_makeKind 109 = .ok (.aload_n 0, 1) := by decide +kernel
theorem dX0_makeKind_110 : decode cX0_makeKind 110 = .ok (.getfield 15, 3) := by decide +kernel
theorem dX0_makeKind_113 : decode cX0_makeKind 113 = .ok (.iload_n 1, 1) := by decide +kernel
theorem dX0_makeKind_114 : decode cX0_makeKind 114 = .ok (.invokevirtual 122, 3) := by decide +kernel
theorem dX0_makeKind_117 : decode cX0_makeKind 117 = .ok (.aload_n 0, 1) := by decide +kernel
theorem dX0_makeKind_118 : decode cX0_makeKind 118 = .ok (.getfield 15, 3) := by decide +kernel
theorem dX0_makeKind_121 : decode cX0_makeKind 121 = .ok (.dup, 1) := by decide +kernel
theorem dX0_makeKind_122 : decode cX0_makeKind 122 = .ok (.getfield 86, 3) := by decide +kernel
theorem dX0_makeKind_125 : decode cX0_makeKind 125 = .ok (.iconst 1, 1) := by decide +kernel
theorem dX0_makeKind_126 : decode cX0_makeKind 126 = .ok (.iadd, 1) := by decide +kernel
theorem dX0_makeKind_127 : decode cX0_makeKind 127 = .ok (.putfield 86, 3) := by decide +kernel
theorem dX0_makeKind_130 : decode cX0_makeKind 130 = .ok (.bipush 10, 2) := by decide +kernel
theorem dX0_makeKind_132 : decode cX0_makeKind 132 = .ok (.iload_n 3, 1) := by decide +kernel
theorem dX0_makeKind_133 : decode cX0_makeKind 133 = .ok (.imul, 1) := by decide +kernel
theorem dX0_makeKind_134 : decode cX0_makeKind 134 = .ok (.aload_n 0, 1) := by decide +kernel
theorem dX0_makeKind_135 : decode cX0_makeKind 135 = .ok (.getfield 15, 3) := by decide +kernel
theorem dX0_makeKind_138 : decode cX0_makeKind 138 = .ok (.iload_n 1, 1) := by decide +kernel
theorem dX0_makeKind_139 : decode cX0_makeKind 139 = .ok (.invokevirtual 109, 3) := by decide +kernel
theorem dX0_makeKind_142 : decode cX0_makeKind 142 = .ok (.iadd, 1) := by decide +kernel
theorem dX0_makeKind_143 : decode cX0_makeKind 143 = .ok (.ireturn, 1) := by decide +kernel
theorem dX0_goers_0 : decode cX0_goers 0 = .ok (.aload_n 0, 1) := by decide +kernel
theorem dX0_goers_1 : decode cX0_goers 1 = .ok (.getfield 15, 3) := by decide +kernel
theorem dX0_goers_4 : decode cX0_goers 4 = .ok (.iload_n 1, 1) := by decide +kernel
theorem dX0_goers_5 : decode cX0_goers 5 = .ok (.iload_n 2, 1) := by decide +kernel
theorem dX0_goers_6 : decode cX0_goers 6 = .ok (.invokevirtual 23, 3) := by decide +kernel
theorem dX0_goers_9 : decode cX0_goers 9 = .ok (.ifCond .ne 5, 3) := by decide +kernel
theorem dX0_goers_12 : decode cX0_goers 12 = .ok (.iconst (-1), 1) := by decide +kernel
theorem dX0_goers_13 : decode cX0_goers 13 = .ok (.ireturn, 1) := by decide +kernel
theorem dX0_goers_14 : decode cX0_goers 14 = .ok (.aload_n 0, 1) := by decide +kernel
theorem dX0_goers_15 : decode cX0_goers 15 = .ok (.getfield 15, 3) := by decide +kernel
theorem dX0_goers_18 : decode cX0_goers 18 = .ok (.iload_n 1, 1) := by decide +kernel
theorem dX0_goers_19 : decode cX0_goers 19 = .ok (.iload_n 2, 1) := by decide +kernel
theorem dX0_goers_20 : decode cX0_goers 20 = .ok (.invokevirtual 96, 3) := by decide +kernel
theorem dX0_goers_23 : decode cX0_goers 23 = .ok (.istore_n 3, 1) := by decide +kernel
theorem dX0_goers_24 : decode cX0_goers 24 = .ok (.iload_n 3, 1) := by decide +kernel
theorem dX0_goers_25 : decode cX0_goers 25 = .ok (.bipush 24, 2) := by decide +kernel
theorem dX0_goers_27 : decode cX0_goers 27 = .ok (.if_icmp .ne 6, 3) := by decide +kernel
theorem dX0_goers_30 : decode cX0_goers 30 = .ok (.bipush (-2), 2) := by decide +kernel
theorem dX0_goers_32 : decode cX0_goers 32 = .ok (.ireturn, 1) := by decide +kernel
theorem dX0_goers_33 : decode cX0_goers 33 = .ok (.aload_n 0, 1) := by decide +kernel
theorem dX0_goers_34 : decode cX0_goers 34 = .ok (.getfield 15, 3) := by decide +kernel
theorem dX0_goers_37 : decode cX0_goers 37 = .ok (.iload_n 3, 1) := by decide +kernel
theorem dX0_goers_38 : decode cX0_goers 38 = .ok (.invokevirtual 125, 3) := by decide +kernel
theorem dX0_goers_41 : decode cX0_goers 41 = .ok (.ifCond .eq 6, 3) := by decide +kernel
theorem dX0_goers_44 : decode cX0_goers 44 = .ok (.bipush (-3), 2) := by decide +kernel
theorem dX0_goers_46 : decode cX0_goers 46 = .ok (.ireturn, 1) := by decide +kernel
theorem dX0_goers_47 : decode cX0_goers 47 = .ok (.iconst 1, 1) := by decide +kernel
theorem dX0_goers_48 : decode cX0_goers 48 = .ok (.iload_n 3, 1) := by decide +kernel
theorem dX0_goers_49 : decode cX0_goers 49 = .ok (.ishl, 1) := by decide +kernel
theorem dX0_goers_50 : decode cX0_goers 50 = .ok (.istore 4, 2) := by decide +kernel
theorem dX0_goers_52 : decode cX0_goers 52 = .ok (.aload_n 0, 1) := by decide +kernel
theorem dX0_goers_53 : decode cX0_goers 53 = .ok (.getfield 15, 3) := by decide +kernel
theorem dX0_goers_56 : decode cX0_goers 56 = .ok (.iload_n 1, 1) := by decide +kernel
theorem dX0_goers_57 : decode cX0_goers 57 = .ok (.invokevirtual 33, 3) := by decide +kernel
theorem dX0_goers_60 : decode cX0_goers 60 = .ok (.aload_n 0, 1) := by decide +kernel
theorem dX0_goers_61 : decode cX0_goers 61 = .ok (.getfield 19, 3) := by decide +kernel
theorem dX0_goers_64 : decode cX0_goers 64 = .ok (.aload_n 0, 1) := by decide +kernel
theorem dX0_goers_65 : decode cX0_goers 65 = .ok (.getfield 15, 3) := by decide +kernel
theorem dX0_goers_68 : decode cX0_goers 68 = .ok (.iload_n 2, 1) := by decide +kernel
theorem dX0_goers_69 : decode cX0_goers 69 = .ok (.invokevirtual 36, 3) := by decide +kernel
theorem dX0_goers_72 : decode cX0_goers 72 = .ok (.iand, 1) := by decide +kernel
theorem dX0_goers_73 : decode cX0_goers 73 = .ok (.istore 5, 2) := by decide +kernel
theorem dX0_goers_75 : decode cX0_goers 75 = .ok (.iconst 0, 1) := by decide +kernel
theorem dX0_goers_76 : decode cX0_goers 76 = .ok (.istore 6, 2) := by decide +kernel
theorem dX0_goers_78 : decode cX0_goers 78 = .ok (.iload 6, 2) := by decide +kernel
theorem dX0_goers_80 : decode cX0_goers 80 = .ok (.bipush 24, 2) := by decide +kernel
theorem dX0_goers_82 : decode cX0_goers 82 = .ok (.if_icmp .ge 59, 3) := by decide +kernel
theorem dX0_goers_85 : decode cX0_goers 85 = .ok (.iload 5, 2) := by decide +kernel
theorem dX0_goers_87 : decode cX0_goers 87 = .ok (.iconst 1, 1) := by decide +kernel
theorem dX0_goers_88 : decode cX0_goers 88 = .ok (.iload 6, 2) := by decide +kernel
theorem dX0_goers_90 : decode cX0_goers 90 = .ok (.ishl, 1) := by decide +kernel
theorem dX0_goers_91 : decode cX0_goers 91 = .ok (.iand, 1) := by decide +kernel
theorem dX0_goers_92 : decode cX0_goers 92 = .ok (.ifCond .eq 43, 3) := by decide +kernel
theorem dX0_goers_95 : decode cX0_goers 95 = .ok (.aload_n 0, 1) := by decide +kernel
theorem dX0_goers_96 : decode cX0_goers 96 = .ok (.getfield 15, 3) := by decide +kernel
theorem dX0_goers_99 : decode cX0_goers 99 = .ok (.iload 6, 2) := by decide +kernel
theorem dX0_goers_101 : decode cX0_goers 101 = .ok (.iload_n 2, 1) := by decide +kernel
theorem dX0_goers_102 : decode cX0_goers 102 = .ok (.invokevirtual 96, 3) := by decide +kernel
theorem dX0_goers_105 : decode cX0_goers 105 = .ok (.istore 7, 2) := by decide +kernel
theorem dX0_goers_107 : decode cX0_goers 107 = .ok (.iload 7, 2) := by decide +kernel
theorem dX0_goers_109 : decode cX0_goers 109 = .ok (.bipush 24, 2) := by decide +kernel
theorem dX0_goers_111 : decode cX0_goers 111 = .ok (.if_icmp .eq 24, 3) := by decide +kernel
theorem dX0_goers_114 : decode cX0_goers 114 = .ok (.aload_n 0, 1) := by decide +kernel
theorem dX0_goers_115 : decode cX0_goers 115 = .ok (.getfield 15, 3) := by decide +kernel
theorem dX0_goers_118 : decode cX0_goers 118 = .ok (.iload 7, 2) := by decide +kernel
theorem dX0_goers_120 : decode cX0_goers 120 = .ok (.invokevirtual 125, 3) := by decide +kernel
theorem dX0_goers_123 : decode cX0_goers 123 = .ok (.ifCond .ne 12, 3) := by decide +kernel
theorem dX0_goers_126 : decode cX0_goers 126 = .ok (.iload 4, 2) := by decide +kernel
theorem dX0_goers_128 : decode cX0_goers 128 = .ok (.iconst 1, 1) := by decide +kernel
theorem dX0_goers_129 : decode cX0_goers 129 = .ok (.iload 7, 2) := by decide +kernel
theorem dX0_goers_131 : decode cX0_goers 131 = .ok (.ishl, 1) := by decide +kernel
theorem dX0_goers_132 : decode cX0_goers 132 = .ok (.ior, 1) := by decide +kernel
theorem dX0_goers_133 : decode cX0_goers 133 = .ok (.istore 4, 2) := by decide +kernel
theorem dX0_goers_135 : decode cX0_goers 135 = .ok (.iinc 6 1, 3) := by decide +kernel
theorem dX0_goers_138 : decode cX0_goers 138 = .ok (.goto (-60), 3) := by decide +kernel
theorem dX0_goers_141 : decode cX0_goers 141 = .ok (.iload 4, 2) := by decide +kernel
theorem dX0_goers_143 : decode cX0_goers 143 = .ok (.ireturn, 1) := by decide +kernel
theorem dX0_unmount_0 : decode cX0_unmount 0 = .ok (.aload_n 0, 1) := by decide +kernel
theorem dX0_unmount_1 : decode cX0_unmount 1 = .ok (.iload_n 1, 1) := by decide +kernel
theorem dX0_unmount_2 : decode cX0_unmount 2 = .ok (.iload_n 2, 1) := by decide +kernel
theorem dX0_unmount_3 : decode cX0_unmount 3 = .ok (.invokevirtual 128, 3) := by decide +kernel
theorem dX0_unmount_6 : decode cX0_unmount 6 = .ok (.istore_n 3, 1) := by decide +kernel
theorem dX0_unmount_7 : decode cX0_unmount 7 = .ok (.iload_n 3, 1) := by decide +kernel
theorem dX0_unmount_8 : decode cX0_unmount 8 = .ok (.ifCond .ge 5, 3) := by decide +kernel
theorem dX0_unmount_11 : decode cX0_unmount 11 = .ok (.iload_n 3, 1) := by decide +kernel
theorem dX0_unmount_12 : decode cX0_unmount 12 = .ok (.ireturn, 1) := by decide +kernel
theorem dX0_unmount_13 : decode cX0_unmount 13 = .ok (.iconst 0, 1) := by decide +kernel
theorem dX0_unmount_14 : decode cX0_unmount 14 = .ok (.istore 4, 2) := by decide +kernel
theorem dX0_unmount_16 : decode cX0_unmount 16 = .ok (.iload 4, 2) := by decide +kernel
theorem dX0_unmount_18 : decode cX0_unmount 18 = .ok (.bipush 24, 2) := by decide +kernel
theorem dX0_unmount_20 : decode cX0_unmount 20 = .ok (.if_icmp .ge 46, 3) := by decide +kernel
theorem dX0_unmount_23 : decode cX0_unmount 23 = .ok (.aload_n 0, 1) := by decide +kernel
theorem dX0_unmount_24 : decode cX0_unmount 24 = .ok (.getfield 15, 3) := by decide +kernel
theorem dX0_unmount_27 : decode cX0_unmount 27 = .ok (.iload 4, 2) := by decide +kernel
theorem dX0_unmount_29 : decode cX0_unmount 29 = .ok (.iload_n 2, 1) := by decide +kernel
theorem dX0_unmount_30 : decode cX0_unmount 30 = .ok (.invokevirtual 96, 3) := by decide +kernel
theorem dX0_unmount_33 : decode cX0_unmount 33 = .ok (.istore 5, 2) := by decide +kernel
theorem dX0_unmount_35 : decode cX0_unmount 35 = .ok (.iload 5, 2) := by decide +kernel
theorem dX0_unmount_37 : decode cX0_unmount 37 = .ok (.bipush 24, 2) := by decide +kernel
theorem dX0_unmount_39 : decode cX0_unmount 39 = .ok (.if_icmp .eq 21, 3) := by decide +kernel
theorem dX0_unmount_42 : decode cX0_unmount 42 = .ok (.iload_n 3, 1) := by decide +kernel
theorem dX0_unmount_43 : decode cX0_unmount 43 = .ok (.iconst 1, 1) := by decide +kernel
theorem dX0_unmount_44 : decode cX0_unmount 44 = .ok (.iload 5, 2) := by decide +kernel
theorem dX0_unmount_46 : decode cX0_unmount 46 = .ok (.ishl, 1) := by decide +kernel
theorem dX0_unmount_47 : decode cX0_unmount 47 = .ok (.iand, 1) := by decide +kernel
theorem dX0_unmount_48 : decode cX0_unmount 48 = .ok (.ifCond .eq 12, 3) := by decide +kernel
theorem dX0_unmount_51 : decode cX0_unmount 51 = .ok (.aload_n 0, 1) := by decide +kernel
theorem dX0_unmount_52 : decode cX0_unmount 52 = .ok (.getfield 15, 3) := by decide +kernel
theorem dX0_unmount_55 : decode cX0_unmount 55 = .ok (.iload 5, 2) := by decide +kernel
theorem dX0_unmount_57 : decode cX0_unmount 57 = .ok (.invokevirtual 131, 3) := by decide +kernel
theorem dX0_unmount_60 : decode cX0_unmount 60 = .ok (.iinc 4 1, 3) := by decide +kernel
theorem dX0_unmount_63 : decode cX0_unmount 63 = .ok (.goto (-47), 3) := by decide +kernel
theorem dX0_unmount_66 : decode cX0_unmount 66 = .ok (.aload_n 0, 1) := by decide +kernel
theorem dX0_unmount_67 : decode cX0_unmount 67 = .ok (.getfield 15, 3) := by decide +kernel
theorem dX0_unmount_70 : decode cX0_unmount 70 = .ok (.dup, 1) := by decide +kernel
theorem dX0_unmount_71 : decode cX0_unmount 71 = .ok (.getfield 86, 3) := by decide +kernel
theorem dX0_unmount_74 : decode cX0_unmount 74 = .ok (.iconst 1, 1) := by decide +kernel
theorem dX0_unmount_75 : decode cX0_unmount 75 = .ok (.iadd, 1) := by decide +kernel
theorem dX0_unmount_76 : decode cX0_unmount 76 = .ok (.putfield 86, 3) := by decide +kernel
theorem dX0_unmount_79 : decode cX0_unmount 79 = .ok (.iload_n 3, 1) := by decide +kernel
theorem dX0_unmount_80 : decode cX0_unmount 80 = .ok (.invokestatic 46, 3) := by decide +kernel
theorem dX0_unmount_83 : decode cX0_unmount 83 = .ok (.ireturn, 1) := by decide +kernel
theorem dX0_move_0 : decode cX0_move 0 = .ok (.aload_n 0, 1) := by decide +kernel
theorem dX0_move_1 : decode cX0_move 1 = .ok (.getfield 15, 3) := by decide +kernel
theorem dX0_move_4 : decode cX0_move 4 = .ok (.iload_n 1, 1) := by decide +kernel
theorem dX0_move_5 : decode cX0_move 5 = .ok (.invokevirtual 59, 3) := by decide +kernel
theorem dX0_move_8 : decode cX0_move 8 = .ok (.ifCond .eq 15, 3) := by decide +kernel
theorem dX0_move_11 : decode cX0_move 11 = .ok (.aload_n 0, 1) := by decide +kernel
theorem dX0_move_12 : decode cX0_move 12 = .ok (.getfield 15, 3) := by decide +kernel
theorem dX0_move_15 : decode cX0_move 15 = .ok (.iload_n 2, 1) := by decide +kernel
theorem dX0_move_16 : decode cX0_move 16 = .ok (.iload_n 3, 1) := by decide +kernel
theorem dX0_move_17 : decode cX0_move 17 = .ok (.invokevirtual 23, 3) := by decide +kernel
theorem dX0_move_20 : decode cX0_move 20 = .ok (.ifCond .ne 5, 3) := by decide +kernel
theorem dX0_move_23 : decode cX0_move 23 = .ok (.iconst (-1), 1) := by decide +kernel
theorem dX0_move_24 : decode cX0_move 24 = .ok (.ireturn, 1) := by decide +kernel
theorem dX0_move_25 : decode cX0_move 25 = .ok (.aload_n 0, 1) := by decide +kernel
theorem dX0_move_26 : decode cX0_move 26 = .ok (.getfield 15, 3) := by decide +kernel
theorem dX0_move_29 : decode cX0_move 29 = .ok (.iload_n 2, 1) := by decide +kernel
theorem dX0_move_30 : decode cX0_move 30 = .ok (.iload_n 3, 1) := by decide +kernel
theorem dX0_move_31 : decode cX0_move 31 = .ok (.invokevirtual 96, 3) := by decide +kernel
theorem dX0_move_34 : decode cX0_move 34 = .ok (.bipush 24, 2) := by decide +kernel
theorem dX0_move_36 : decode cX0_move 36 = .ok (.if_icmp .eq 6, 3) := by decide +kernel
theorem dX0_move_39 : decode cX0_move 39 = .ok (.bipush (-2), 2) := by decide +kernel
theorem dX0_move_41 : decode cX0_move 41 = .ok (.ireturn, 1) := by decide +kernel
theorem dX0_move_42 : decode cX0_move 42 = .ok (.iload_n 1, 1) := by decide +kernel
theorem dX0_move_43 : decode cX0_move 43 = .ok (.ifCond .eq 20, 3) := by decide +kernel
theorem dX0_move_46 : decode cX0_move 46 = .ok (.iload_n 1, 1) := by decide +kernel
theorem dX0_move_47 : decode cX0_move 47 = .ok (.iload_n 2, 1) := by decide +kernel
theorem dX0_move_48 : decode cX0_move 48 = .ok (.if_icmp .eq 15, 3) := by decide +kernel
theorem dX0_move_51 : decode cX0_move 51 = .ok (.aload_n 0, 1) := by decide +kernel
theorem dX0_move_52 : decode cX0_move 52 = .ok (.getfield 15, 3) := by decide +kernel
theorem dX0_move_55 : decode cX0_move 55 = .ok (.iload_n 2, 1) := by decide +kernel
theorem dX0_move_56 : decode cX0_move 56 = .ok (.iload_n 1, 1) := by decide +kernel
theorem dX0_move_57 : decode cX0_move 57 = .ok (.invokevirtual 134, 3) := by decide +kernel
theorem dX0_move_60 : decode cX0_move 60 = .ok (.ifCond .eq 6, 3) := by decide +kernel
theorem dX0_move_63 : decode cX0_move 63 = .ok (.bipush (-3), 2) := by decide +kernel
theorem dX0_move_65 : decode cX0_move 65 = .ok (.ireturn, 1) := by decide +kernel
theorem dX0_move_66 : decode cX0_move 66 = .ok (.aload_n 0, 1) := by decide +kernel
theorem dX0_move_67 : decode cX0_move 67 = .ok (.getfield 15, 3) := by decide +kernel
theorem dX0_move_70 : decode cX0_move 70 = .ok (.iload_n 1, 1) := by decide +kernel
theorem dX0_move_71 : decode cX0_move 71 = .ok (.invokevirtual 106, 3) := by decide +kernel
theorem dX0_move_74 : decode cX0_move 74 = .ok (.istore 4, 2) := by decide +kernel
theorem dX0_move_76 : decode cX0_move 76 = .ok (.aload_n 0, 1) := by decide +kernel
theorem dX0_move_77 : decode cX0_move 77 = .ok (.getfield 15, 3) := by decide +kernel
theorem dX0_move_80 : decode cX0_move 80 = .ok (.iload 4, 2) := by decide +kernel
theorem dX0_move_82 : decode cX0_move 82 = .ok (.invokevirtual 66, 3) := by decide +kernel
theorem dX0_move_85 : decode cX0_move 85 = .ok (.ifCond .eq 6, 3) := by decide +kernel
theorem dX0_move_88 : decode cX0_move 88 = .ok (.bipush (-5), 2) := by decide +kernel
theorem dX0_move_90 : decode cX0_move 90 = .ok (.ireturn, 1) := by decide +kernel
theorem dX0_move_91 : decode cX0_move 91 = .ok (.aload_n 0, 1) := by decide +kernel
theorem dX0_move_92 : decode cX0_move 92 = .ok (.getfield 15, 3) := by decide +kernel
theorem dX0_move_95 : decode cX0_move 95 = .ok (.iload_n 2, 1) := by decide +kernel
theorem dX0_move_96 : decode cX0_move 96 = .ok (.invokevirtual 66, 3) := by decide +kernel
theorem dX0_move_99 : decode cX0_move 99 = .ok (.ifCond .eq 6, 3) := by decide +kernel
theorem dX0_move_102 : decode cX0_move 102 = .ok (.bipush (-6), 2) := by decide +kernel
theorem dX0_move_104 : decode cX0_move 104 = .ok (.ireturn, 1) := by decide +kernel
theorem dX0_move_105 : decode cX0_move 105 = .ok (.bipush 100, 2) := by decide +kernel
theorem dX0_move_107 : decode cX0_move 107 = .ok (.iload 4, 2) := by decide +kernel
theorem dX0_move_109 : decode cX0_move 109 = .ok (.imul, 1) := by decide +kernel
theorem dX0_move_110 : decode cX0_move 110 = .ok (.aload_n 0, 1) := by decide +kernel
theorem dX0_move_111 : decode cX0_move 111 = .ok (.getfield 15, 3) := by decide +kernel
theorem dX0_move_114 : decode cX0_move 114 = .ok (.iload_n 1, 1) := by decide +kernel
theorem dX0_move_115 : decode cX0_move 115 = .ok (.invokevirtual 137, 3) := by decide +kernel
theorem dX0_move_118 : decode cX0_move 118 = .ok (.iadd, 1) := by decide +kernel
theorem dX0_move_119 : decode cX0_move 119 = .ok (.istore 5, 2) := by decide +kernel
theorem dX0_move_121 : decode cX0_move 121 = .ok (.aload_n 0, 1) := by decide +kernel
theorem dX0_move_122 : decode cX0_move 122 = .ok (.getfield 15, 3) := by decide +kernel
theorem dX0_move_125 : decode cX0_move 125 = .ok (.iload_n 1, 1) := by decide +kernel
theorem dX0_move_126 : decode cX0_move 126 = .ok (.iload_n 2, 1) := by decide +kernel
theorem dX0_move_127 : decode cX0_move 127 = .ok (.iload_n 3, 1) := by decide +kernel
theorem dX0_move_128 : decode cX0_move 128 = .ok (.invokevirtual 140, 3) := by decide +kernel
theorem dX0_move_131 : decode cX0_move 131 = .ok (.aload_n 0, 1) := by decide +kernel
theorem dX0_move_132 : decode cX0_move 132 = .ok (.getfield 15, 3) := by decide +kernel
theorem dX0_move_135 : decode cX0_move 135 = .ok (.dup, 1) := by decide +kernel
theorem dX0_move_136 : decode cX0_move 136 = .ok (.getfield 86, 3) := by decide +kernel
theorem dX0_move_139 : decode cX0_move 139 = .ok (.iconst 1, 1) := by decide +kernel
theorem dX0_move_140 : decode cX0_move 140 = .ok (.iadd, 1) := by decide +kernel
theorem dX0_move_141 : decode cX0_move 141 = .ok (.putfield 86, 3) := by decide +kernel
theorem dX0_move_144 : decode cX0_move 144 = .ok (.iload 5, 2) := by decide +kernel
theorem dX0_move_146 : decode cX0_move 146 = .ok (.ireturn, 1) := by decide +kernel
theorem dX1_init_0 : decode cX1_init 0 = .ok (.aload_n 0, 1) := by decide +kernel
theorem dX1_init_1 : decode cX1_init 1 = .ok (.invokespecial 1, 3) := by decide +kernel
theorem dX1_init_4 : decode cX1_init 4 = .ok (.aload_n 0, 1) := by decide +kernel
theorem dX1_init_5 : decode cX1_init 5 = .ok (.bipush 17, 2) := by decide +kernel
theorem dX1_init_7 : decode cX1_init 7 = .ok (.newarray .long, 2) := by decide +kernel
theorem dX1_init_9 : decode cX1_init 9 = .ok (.putfield 9, 3) := by decide +kernel
theorem dX1_init_12 : decode cX1_init 12 = .ok (.return_, 1) := by decide +kernel
theorem dX1_reckon_0 : decode cX1_reckon 0 = .ok (.aload_n 0, 1) := by decide +kernel
theorem dX1_reckon_1 : decode cX1_reckon 1 = .ok (.iload_n 1, 1) := by decide +kernel
theorem dX1_reckon_2 : decode cX1_reckon 2 = .ok (.iload_n 3, 1) := by decide +kernel
theorem dX1_reckon_3 : decode cX1_reckon 3 = .ok (.invokevirtual 13, 3) := by decide +kernel
theorem dX1_reckon_6 : decode cX1_reckon 6 = .ok (.aload_n 0, 1) := by decide +kernel
theorem dX1_reckon_7 : decode cX1_reckon 7 = .ok (.lconst 0, 1) := by decide +kernel
theorem dX1_reckon_8 : decode cX1_reckon 8 = .ok (.putfield 17, 3) := by decide +kernel
theorem dX1_reckon_11 : decode cX1_reckon 11 = .ok (.iload_n 2, 1) := by decide +kernel
theorem dX1_reckon_12 : decode cX1_reckon 12 = .ok (.iconst 0, 1) := by decide +kernel
theorem dX1_reckon_13 : decode cX1_reckon 13 = .ok (.invokestatic 21, 3) := by decide +kernel
theorem dX1_reckon_16 : decode cX1_reckon 16 = .ok (.istore 4, 2) := by decide +kernel
theorem dX1_reckon_18 : decode cX1_reckon 18 = .ok (.iload 4, 2) := by decide +kernel
theorem dX1_reckon_20 : decode cX1_reckon 20 = .ok (.iload_n 1, 1) := by decide +kernel
theorem dX1_reckon_21 : decode cX1_reckon 21 = .ok (.if_icmp .gt 32, 3) := by decide +kernel
theorem dX1_reckon_24 : decode cX1_reckon 24 = .ok (.iload 4, 2) := by decide +kernel
theorem dX1_reckon_26 : decode cX1_reckon 26 = .ok (.bipush 16, 2) := by decide +kernel
theorem dX1_reckon_28 : decode cX1_reckon 28 = .ok (.if_icmp .gt 25, 3) := by decide +kernel
theorem dX1_reckon_31 : decode cX1_reckon 31 = .ok (.aload_n 0, 1) := by decide +kernel
theorem dX1_reckon_32 : decode cX1_reckon 32 = .ok (.dup, 1) := by decide +kernel
theorem dX1_reckon_33 : decode cX1_reckon 33 = .ok (.getfield 17, 3) := by decide +kernel
theorem dX1_reckon_36 : decode cX1_reckon 36 = .ok (.aload_n 0, 1) := by decide +kernel
theorem dX1_reckon_37 : decode cX1_reckon 37 = .ok (.getfield 9, 3) := by decide +kernel
theorem dX1_reckon_40 : decode cX1_reckon 40 = .ok (.iload 4, 2) := by decide +kernel
theorem dX1_reckon_42 : decode cX1_reckon 42 = .ok (.laload, 1) := by decide +kernel
theorem dX1_reckon_43 : decode cX1_reckon 43 = .ok (.ladd, 1) := by decide +kernel
theorem dX1_reckon_44 : decode cX1_reckon 44 = .ok (.putfield 17, 3) := by decide +kernel
theorem dX1_reckon_47 : decode cX1_reckon 47 = .ok (.iinc 4 1, 3) := by decide +kernel
theorem dX1_reckon_50 : decode cX1_reckon 50 = .ok (.goto (-32), 3) := by decide +kernel
theorem dX1_reckon_53 : decode cX1_reckon 53 = .ok (.aload_n 0, 1) := by decide +kernel
theorem dX1_reckon_54 : decode cX1_reckon 54 = .ok (.getfield 17, 3) := by decide +kernel
theorem dX1_reckon_57 : decode cX1_reckon 57 = .ok (.aload_n 0, 1) := by decide +kernel
theorem dX1_reckon_58 : decode cX1_reckon 58 = .ok (.getfield 27, 3) := by decide +kernel
theorem dX1_reckon_61 : decode cX1_reckon 61 = .ok (.invokestatic 30, 3) := by decide +kernel
theorem dX1_reckon_64 : decode cX1_reckon 64 = .ok (.lstore 4, 2) := by decide +kernel
theorem dX1_reckon_66 : decode cX1_reckon 66 = .ok (.lload 4, 2) := by decide +kernel
theorem dX1_reckon_68 : decode cX1_reckon 68 = .ok (.lconst 0, 1) := by decide +kernel
theorem dX1_reckon_69 : decode cX1_reckon 69 = .ok (.lcmp, 1) := by decide +kernel
theorem dX1_reckon_70 : decode cX1_reckon 70 = .ok (.ifCond .le 25, 3) := by decide +kernel
theorem dX1_reckon_73 : decode cX1_reckon 73 = .ok (.aload_n 0, 1) := by decide +kernel
theorem dX1_reckon_74 : decode cX1_reckon 74 = .ok (.dup, 1) := by decide +kernel
theorem dX1_reckon_75 : decode cX1_reckon 75 = .ok (.getfield 17, 3) := by decide +kernel
theorem dX1_reckon_78 : decode cX1_reckon 78 = .ok (.lload 4, 2) := by decide +kernel
theorem dX1_reckon_80 : decode cX1_reckon 80 = .ok (.ldiv, 1) := by decide +kernel
theorem dX1_reckon_81 : decode cX1_reckon 81 = .ok (.putfield 17, 3) := by decide +kernel
theorem dX1_reckon_84 : decode cX1_reckon 84 = .ok (.aload_n 0, 1) := by decide +kernel
theorem dX1_reckon_85 : decode cX1_reckon 85 = .ok (.dup, 1) := by decide +kernel
theorem dX1_reckon_86 : decode cX1_reckon 86 = .ok (.getfield 27, 3) := by decide +kernel
theorem dX1_reckon_89 : decode cX1_reckon 89 = .ok (.lload 4, 2) := by decide +kernel
theorem dX1_reckon_91 : decode cX1_reckon 91 = .ok (.ldiv, 1) := by decide +kernel
theorem dX1_reckon_92 : decode cX1_reckon 92 = .ok (.putfield 27, 3) := by decide +kernel
theorem dX1_reckon_95 : decode cX1_reckon 95 = .ok (.return_, 1) := by decide +kernel
theorem dX1_countCases_0 : decode cX1_countCases 0 = .ok (.iconst 0, 1) := by decide +kernel
theorem dX1_countCases_1 : decode cX1_countCases 1 = .ok (.istore_n 3, 1) := by decide +kernel
theorem dX1_countCases_2 : decode cX1_countCases 2 = .ok (.iload_n 3, 1) := by decide +kernel
theorem dX1_countCases_3 : decode cX1_countCases 3 = .ok (.bipush 16, 2) := by decide +kernel
theorem dX1_countCases_5 : decode cX1_countCases 5 = .ok (.if_icmp .gt 24, 3) := by decide +kernel
theorem dX1_countCases_8 : decode cX1_countCases 8 = .ok (.aload_n 0, 1) := by decide +kernel
theorem dX1_countCases_9 : decode cX1_countCases 9 = .ok (.getfield 9, 3) := by decide +kernel
theorem dX1_countCases_12 : decode cX1_countCases 12 = .ok (.iload_n 3, 1) := by decide +kernel
theorem dX1_countCases_13 : decode cX1_countCases 13 = .ok (.iload_n 3, 1) := by decide +kernel
theorem dX1_countCases_14 : decode cX1_countCases 14 = .ok (.ifCond .ne 7, 3) := by decide +kernel
theorem dX1_countCases_17 : decode cX1_countCases 17 = .ok (.lconst 1, 1) := by decide +kernel
theorem dX1_countCases_18 : decode cX1_countCases 18 = .ok (.goto 4, 3) := by decide +kernel
theorem dX1_countCases_21 : decode cX1_countCases 21 = .ok (.lconst 0, 1) := by decide +kernel
theorem dX1_countCases_22 : decode cX1_countCases 22 = .ok (.lastore, 1) := by decide +kernel
theorem dX1_countCases_23 : decode cX1_countCases 23 = .ok (.iinc 3 1, 3) := by decide +kernel
theorem dX1_countCases_26 : decode cX1_countCases 26 = .ok (.goto (-24), 3) := by decide +kernel
theorem dX1_countCases_29 : decode cX1_countCases 29 = .ok (.aload_n 0, 1) := by decide +kernel
theorem dX1_countCases_30 : decode cX1_countCases 30 = .ok (.lconst 1, 1) := by decide +kernel
theorem dX1_countCases_31 : decode cX1_countCases 31 = .ok (.putfield 27, 3) := by decide +kernel
theorem dX1_countCases_34 : decode cX1_countCases 34 = .ok (.iconst 0, 1) := by decide +kernel
theorem dX1_countCases_35 : decode cX1_countCases 35 = .ok (.istore_n 3, 1) := by decide +kernel
theorem dX1_countCases_36 : decode cX1_countCases 36 = .ok (.iload_n 3, 1) := by decide +kernel
theorem dX1_countCases_37 : decode cX1_countCases 37 = .ok (.iload_n 1, 1) := by decide +kernel
theorem dX1_countCases_38 : decode cX1_countCases 38 = .ok (.if_icmp .ge 89, 3) := by decide +kernel
theorem dX1_countCases_41 : decode cX1_countCases 41 = .ok (.iload_n 3, 1) := by decide +kernel
theorem dX1_countCases_42 : decode cX1_countCases 42 = .ok (.bipush 16, 2) := by decide +kernel
theorem dX1_countCases_44 : decode cX1_countCases 44 = .ok (.if_icmp .ge 83, 3) := by decide +kernel
theorem dX1_countCases_47 : decode cX1_countCases 47 = .ok (.bipush 16, 2) := by decide +kernel
theorem dX1_countCases_49 : decode cX1_countCases 49 = .ok (.istore 4, 2) := by decide +kernel
theorem dX1_countCases_51 : decode cX1_countCases 51 = .ok (.iload 4, 2) := by decide +kernel
theorem dX1_countCases_53 : decode cX1_countCases 53 = .ok (.ifCond .le 42, 3) := by decide +kernel
theorem dX1_countCases_56 : decode cX1_countCases 56 = .ok (.aload_n 0, 1) := by decide +kernel
theorem dX1_countCases_57 : decode cX1_countCases 57 = .ok (.getfield 9, 3) := by decide +kernel
theorem dX1_countCases_60 : decode cX1_countCases 60 = .ok (.iload 4, 2) := by decide +kernel
theorem dX1_countCases_62 : decode cX1_countCases 62 = .ok (.aload_n 0, 1) := by decide +kernel
theorem dX1_countCases_63 : decode cX1_countCases 63 = .ok (.getfield 9, 3) := by decide +kernel
theorem dX1_countCases_66 : decode cX1_countCases 66 = .ok (.iload 4, 2) := by decide +kernel
theorem dX1_countCases_68 : decode cX1_countCases 68 = .ok (.laload, 1) := by decide +kernel
theorem dX1_countCases_69 : decode cX1_countCases 69 = .ok (.bipush 10, 2) := by decide +kernel
theorem dX1_countCases_71 : decode cX1_countCases 71 = .ok (.iload_n 2, 1) := by decide +kernel
theorem dX1_countCases_72 : decode cX1_countCases 72 = .ok (.isub, 1) := by decide +kernel
theorem dX1_countCases_73 : decode cX1_countCases 73 = .ok (.i2l, 1) := by decide +kernel
theorem dX1_countCases_74 : decode cX1_countCases 74 = .ok (.lmul, 1) := by decide +kernel
theorem dX1_countCases_75 : decode cX1_countCases 75 = .ok (.aload_n 0, 1) := by decide +kernel
theorem dX1_countCases_76 : decode cX1_countCases 76 = .ok (.getfield 9, 3) := by decide +kernel
theorem dX1_countCases_79 : decode cX1_countCases 79 = .ok (.iload 4, 2) := by decide +kernel
theorem dX1_countCases_81 : decode cX1_countCases 81 = .ok (.iconst 1, 1) := by decide +kernel
theorem dX1_countCases_82 : decode cX1_countCases 82 = .ok (.isub, 1) := by decide +kernel
theorem dX1_countCases_83 : decode cX1_countCases 83 = .ok (.laload, 1) := by decide +kernel
theorem dX1_countCases_84 : decode cX1_countCases 84 = .ok (.iload_n 2, 1) := by decide +kernel
theorem dX1_countCases_85 : decode cX1_countCases 85 = .ok (.i2l, 1) := by decide +kernel
theorem dX1_countCases_86 : decode cX1_countCases 86 = .ok (.lmul, 1) := by decide +kernel
theorem dX1_countCases_87 : decode cX1_countCases 87 = .ok (.ladd, 1) := by decide +kernel
theorem dX1_countCases_88 : decode cX1_countCases 88 = .ok (.lastore, 1) := by decide +kernel
theorem dX1_countCases_89 : decode cX1_countCases 89 = .ok (.iinc 4 (-1), 3) := by decide +kernel
theorem dX1_countCases_92 : decode cX1_countCases 92 = .ok (.goto (-41), 3) := by decide +kernel
theorem dX1_countCases_95 : decode cX1_countCases 95 = .ok (.aload_n 0, 1) := by decide +kernel
theorem dX1_countCases_96 : decode cX1_countCases 96 = .ok (.getfield 9, 3) := by decide +kernel
theorem dX1_countCases_99 : decode cX1_countCases 99 = .ok (.iconst 0, 1) := by decide +kernel
theorem dX1_countCases_100 : decode cX1_countCases 100 = .ok (.dup2, 1) := by decide +kernel
theorem dX1_countCases_101 : decode cX1_countCases 101 = .ok (.laload, 1) := by decide +kernel
theorem dX1_countCases_102 : decode cX1_countCases 102 = .ok (.bipush 10, 2) := by decide +kernel
theorem dX1_countCases_104 : decode cX1_countCases 104 = .ok (.iload_n 2, 1) := by decide +kernel
theorem dX1_countCases_105 : decode cX1_countCases 105 = .ok (.isub, 1) := by decide +kernel
theorem dX1_countCases_106 : decode cX1_countCases 106 = .ok (.i2l, 1) := by decide +kernel
theorem dX1_countCases_107 : decode cX1_countCases 107 = .ok (.lmul, 1) := by decide +kernel
theorem dX1_countCases_108 : decode cX1_countCases 108 = .ok (.lastore, 1) := by decide +kernel
theorem dX1_countCases_109 : decode cX1_countCases 109 = .ok (.aload_n 0, 1) := by decide +kernel
theorem dX1_countCases_110 : decode cX1_countCases 110 = .ok (.dup, 1) := by decide +kernel
theorem dX1_countCases_111 : decode cX1_countCases 111 = .ok (.getfield 27, 3) := by decide +kernel
theorem dX1_countCases_114 : decode cX1_countCases 114 = .ok (.ldc2_w 34, 3) := by decide +kernel
theorem dX1_countCases_117 : decode cX1_countCases 117 = .ok (.lmul, 1) := by decide +kernel
theorem dX1_countCases_118 : decode cX1_countCases 118 = .ok (.putfield 27, 3) := by decide +kernel
theorem dX1_countCases_121 : decode cX1_countCases 121 = .ok (.iinc 3 1, 3) := by decide +kernel
theorem dX1_countCases_124 : decode cX1_countCases 124 = .ok (.goto (-88), 3) := by decide +kernel
theorem dX1_countCases_127 : decode cX1_countCases 127 = .ok (.return_, 1) := by decide +kernel
theorem dX1_commonDivisor_0 : decode cX1_commonDivisor 0 = .ok (.lload_n 0, 1) := by decide +kernel
theorem dX1_commonDivisor_1 : decode cX1_commonDivisor 1 = .ok (.lstore 4, 2) := by decide +kernel
theorem dX1_commonDivisor_3 : decode cX1_commonDivisor 3 = .ok (.lload_n 2, 1) := by decide +kernel
theorem dX1_commonDivisor_4 : decode cX1_commonDivisor 4 = .ok (.lstore 6, 2) := by decide +kernel
theorem dX1_commonDivisor_6 : decode cX1_commonDivisor 6 = .ok (.iconst 0, 1) := by decide +kernel
theorem dX1_commonDivisor_7 : decode cX1_commonDivisor 7 = .ok (.istore 8, 2) := by decide +kernel
theorem dX1_commonDivisor_9 : decode cX1_commonDivisor 9 = .ok (.iload 8, 2) := by decide +kernel
theorem dX1_commonDivisor_11 : decode cX1_commonDivisor 11 = .ok (.sipush 200, 3) := by decide +kernel
theorem dX1_commonDivisor_14 : decode cX1_commonDivisor 14 = .ok (.if_icmp .ge 31, 3) := by decide +kernel
theorem dX1_commonDivisor_17 : decode cX1_commonDivisor 17 = .ok (.lload 6, 2) := by decide +kernel
theorem dX1_commonDivisor_19 : decode cX1_commonDivisor 19 = .ok (.lconst 0, 1) := by decide +kernel
theorem dX1_commonDivisor_20 : decode cX1_commonDivisor 20 = .ok (.lcmp, 1) := by decide +kernel
theorem dX1_commonDivisor_21 : decode cX1_commonDivisor 21 = .ok (.ifCond .eq 24, 3) := by decide +kernel
theorem dX1_commonDivisor_24 : decode cX1_commonDivisor 24 = .ok (.lload 4, 2) := by decide +kernel
theorem dX1_commonDivisor_26 : decode cX1_commonDivisor 26 = .ok (.lload 6, 2) := by decide +kernel
theorem dX1_commonDivisor_28 : decode cX1_commonDivisor 28 = .ok (.lrem, 1) := by decide +kernel
theorem dX1_commonDivisor_29 : decode cX1_commonDivisor 29 = .ok (.lstore 9, 2) := by decide +kernel
theorem dX1_commonDivisor_31 : decode cX1_commonDivisor 31 = .ok (.lload 6, 2) := by decide +kernel
theorem dX1_commonDivisor_33 : decode cX1_commonDivisor 33 = .ok (.lstore 4, 2) := by decide +kernel
theorem dX1_commonDivisor_35 : decode cX1_commonDivisor 35 = .ok (.lload 9, 2) := by decide +kernel
theorem dX1_commonDivisor_37 : decode cX1_commonDivisor 37 = .ok (.lstore 6, 2) := by decide +kernel
theorem dX1_commonDivisor_39 : decode cX1_commonDivisor 39 = .ok (.iinc 8 1, 3) := by decide +kernel
theorem dX1_commonDivisor_42 : decode cX1_commonDivisor 42 = .ok (.goto (-33), 3) := by decide +kernel
theorem dX1_commonDivisor_45 : decode cX1_commonDivisor 45 = .ok (.lload 4, 2) := by decide +kernel
theorem dX1_commonDivisor_47 : decode cX1_commonDivisor 47 = .ok (.lreturn, 1) := by decide +kernel
theorem dX2_init_0 : decode cX2_init 0 = .ok (.aload_n 0, 1) := by decide +kernel
theorem dX2_init_1 : decode cX2_init 1 = .ok (.invokespecial 3, 3) := by decide +kernel
theorem dX2_init_4 : decode cX2_init 4 = .ok (.aload_n 0, 1) := by decide +kernel
theorem dX2_init_5 : decode cX2_init 5 = .ok (.aload_n 1, 1) := by decide +kernel
theorem dX2_init_6 : decode cX2_init 6 = .ok (.putfield 9, 3) := by decide +kernel
theorem dX2_init_9 : decode cX2_init 9 = .ok (.aload_n 0, 1) := by decide +kernel
theorem dX2_init_10 : decode cX2_init 10 = .ok (.aload_n 2, 1) := by decide +kernel
theorem dX2_init_11 : decode cX2_init 11 = .ok (.putfield 15, 3) := by decide +kernel
theorem dX2_init_14 : decode cX2_init 14 = .ok (.aload_n 0, 1) := by decide +kernel
theorem dX2_init_15 : decode cX2_init 15 = .ok (.aload_n 3, 1) := by decide +kernel
theorem dX2_init_16 : decode cX2_init 16 = .ok (.putfield 19, 3) := by decide +kernel
theorem dX2_init_19 : decode cX2_init 19 = .ok (.return_, 1) := by decide +kernel
theorem dX2_read_0 : decode cX2_read 0 = .ok (.iconst 0, 1) := by decide +kernel
theorem dX2_read_1 : decode cX2_read 1 = .ok (.istore_n 2, 1) := by decide +kernel
theorem dX2_read_2 : decode cX2_read 2 = .ok (.iconst 0, 1) := by decide +kernel
theorem dX2_read_3 : decode cX2_read 3 = .ok (.istore_n 3, 1) := by decide +kernel
theorem dX2_read_4 : decode cX2_read 4 = .ok (.iload_n 3, 1) := by decide +kernel
theorem dX2_read_5 : decode cX2_read 5 = .ok (.aload_n 1, 1) := by decide +kernel
theorem dX2_read_6 : decode cX2_read 6 = .ok (.getfield 23, 3) := by decide +kernel
theorem dX2_read_9 : decode cX2_read 9 = .ok (.if_icmp .ge 47, 3) := by decide +kernel
theorem dX2_read_12 : decode cX2_read 12 = .ok (.iload_n 3, 1) := by decide +kernel
theorem dX2_read_13 : decode cX2_read 13 = .ok (.bipush 72, 2) := by decide +kernel
theorem dX2_read_15 : decode cX2_read 15 = .ok (.if_icmp .ge 41, 3) := by decide +kernel
theorem dX2_read_18 : decode cX2_read 18 = .ok (.aload_n 0, 1) := by decide +kernel
theorem dX2_read_19 : decode cX2_read 19 = .ok (.iload_n 2, 1) := by decide +kernel
theorem dX2_read_20 : decode cX2_read 20 = .ok (.aload_n 1, 1) := by decide +kernel
theorem dX2_read_21 : decode cX2_read 21 = .ok (.iload_n 3, 1) := by decide +kernel
theorem dX2_read_22 : decode cX2_read 22 = .ok (.invokevirtual 29, 3) := by decide +kernel
theorem dX2_read_25 : decode cX2_read 25 = .ok (.aload_n 1, 1) := by decide +kernel
theorem dX2_read_26 : decode cX2_read 26 = .ok (.iload_n 3, 1) := by decide +kernel
theorem dX2_read_27 : decode cX2_read 27 = .ok (.invokevirtual 33, 3) := by decide +kernel
theorem dX2_read_30 : decode cX2_read 30 = .ok (.iconst (-1), 1) := by decide +kernel
theorem dX2_read_31 : decode cX2_read 31 = .ok (.if_icmp .eq 7, 3) := by decide +kernel
theorem dX2_read_34 : decode cX2_read 34 = .ok (.iconst 1, 1) := by decide +kernel
theorem dX2_read_35 : decode cX2_read 35 = .ok (.goto 4, 3) := by decide +kernel
theorem dX2_read_38 : decode cX2_read 38 = .ok (.iconst 0, 1) := by decide +kernel
theorem dX2_read_39 : decode cX2_read 39 = .ok (.invokevirtual 36, 3) := by decide +kernel
theorem dX2_read_42 : decode cX2_read 42 = .ok (.istore_n 2, 1) := by decide +kernel
theorem dX2_read_43 : decode cX2_read 43 = .ok (.iload_n 2, 1) := by decide +kernel
theorem dX2_read_44 : decode cX2_read 44 = .ok (.iconst 5, 1) := by decide +kernel
theorem dX2_read_45 : decode cX2_read 45 = .ok (.if_icmp .ne 5, 3) := by decide +kernel
theorem dX2_read_48 : decode cX2_read 48 = .ok (.iload_n 3, 1) := by decide +kernel
theorem dX2_read_49 : decode cX2_read 49 = .ok (.ireturn, 1) := by decide +kernel
theorem dX2_read_50 : decode cX2_read 50 = .ok (.iinc 3 1, 3) := by decide +kernel
theorem dX2_read_53 : decode cX2_read 53 = .ok (.goto (-49), 3) := by decide +kernel
theorem dX2_read_56 : decode cX2_read 56 = .ok (.aload_n 1, 1) := by decide +kernel
theorem dX2_read_57 : decode cX2_read 57 = .ok (.getfield 23, 3) := by decide +kernel
theorem dX2_read_60 : decode cX2_read 60 = .ok (.bipush 72, 2) := by decide +kernel
theorem dX2_read_62 : decode cX2_read 62 = .ok (.if_icmp .le 6, 3) := by decide +kernel
theorem dX2_read_65 : decode cX2_read 65 = .ok (.bipush 72, 2) := by decide +kernel
theorem dX2_read_67 : decode cX2_read 67 = .ok (.ireturn, 1) := by decide +kernel
theorem dX2_read_68 : decode cX2_read 68 = .ok (.iload_n 2, 1) := by decide +kernel
theorem dX2_read_69 : decode cX2_read 69 = .ok (.ifCond .ne 7, 3) := by decide +kernel
theorem dX2_read_72 : decode cX2_read 72 = .ok (.iconst (-1), 1) := by decide +kernel
theorem dX2_read_73 : decode cX2_read 73 = .ok (.goto 7, 3) := by decide +kernel
theorem dX2_read_76 : decode cX2_read 76 = .ok (.aload_n 1, 1) := by decide +kernel
theorem dX2_read_77 : decode cX2_read 77 = .ok (.getfield 23, 3) := by decide +kernel
theorem dX2_read_80 : decode cX2_read 80 = .ok (.ireturn, 1) := by decide +kernel
theorem dX2_dueBehind_0 : decode cX2_dueBehind 0 = .ok (.iload_n 1, 1) := by decide +kernel
theorem dX2_dueBehind_1 : decode cX2_dueBehind 1 = .ok (.lookupswitch 55 #[(0, 27), (1, 37)], 27) := by decide +kernel
theorem dX2_dueBehind_28 : decode cX2_dueBehind 28 = .ok (.aload_n 0, 1) := by decide +kernel
theorem dX2_dueBehind_29 : decode cX2_dueBehind 29 = .ok (.iconst 0, 1) := by decide +kernel
theorem dX2_dueBehind_30 : decode cX2_dueBehind 30 = .ok (.putfield 40, 3) := by decide +kernel
theorem dX2_dueBehind_33 : decode cX2_dueBehind 33 = .ok (.iload_n 2, 1) := by decide +kernel
theorem dX2_dueBehind_34 : decode cX2_dueBehind 34 = .ok (.invokestatic 43, 3) := by decide +kernel
theorem dX2_dueBehind_37 : decode cX2_dueBehind 37 = .ok (.ireturn, 1) := by decide +kernel
theorem dX2_dueBehind_38 : decode cX2_dueBehind 38 = .ok (.iload_n 2, 1) := by decide +kernel
theorem dX2_dueBehind_39 : decode cX2_dueBehind 39 = .ok (.bipush 48, 2) := by decide +kernel
theorem dX2_dueBehind_41 : decode cX2_dueBehind 41 = .ok (.if_icmp .lt 13, 3) := by decide +kernel
theorem dX2_dueBehind_44 : decode cX2_dueBehind 44 = .ok (.iload_n 2, 1) := by decide +kernel
theorem dX2_dueBehind_45 : decode cX2_dueBehind 45 = .ok (.bipush 51, 2) := by decide +kernel
theorem dX2_dueBehind_47 : decode cX2_dueBehind 47 = .ok (.if_icmp .gt 7, 3) := by decide +kernel
theorem dX2_dueBehind_50 : decode cX2_dueBehind 50 = .ok (.iconst 2, 1) := by decide +kernel
theorem dX2_dueBehind_51 : decode cX2_dueBehind 51 = .ok (.goto 4, 3) := by decide +kernel
theorem dX2_dueBehind_54 : decode cX2_dueBehind 54 = .ok (.iconst 5, 1) := by decide +kernel
theorem dX2_dueBehind_55 : decode cX2_dueBehind 55 = .ok (.ireturn, 1) := by decide +kernel
theorem dX2_dueBehind_56 : decode cX2_dueBehind 56 = .ok (.aload_n 0, 1) := by decide +kernel
theorem dX2_dueBehind_57 : decode cX2_dueBehind 57 = .ok (.iload_n 1, 1) := by decide +kernel
theorem dX2_dueBehind_58 : decode cX2_dueBehind 58 = .ok (.iload_n 2, 1) := by decide +kernel
theorem dX2_dueBehind_59 : decode cX2_dueBehind 59 = .ok (.iload_n 3, 1) := by decide +kernel
theorem dX2_dueBehind_60 : decode cX2_dueBehind 60 = .ok (.invokevirtual 46, 3) := by decide +kernel
theorem dX2_dueBehind_63 : decode cX2_dueBehind 63 = .ok (.ireturn, 1) := by decide +kernel
theorem dX2_dueBehindAct_0 : decode cX2_dueBehindAct 0 = .ok (.iload_n 0, 1) := by decide +kernel
theorem dX2_dueBehindAct_1 : decode cX2_dueBehindAct 1 = .ok (.lookupswitch 65 #[(98, 61), (107, 63), (109, 59), (114, 61), (117, 59), (118, 61)], 59) := by decide +kernel
theorem dX2_dueBehindAct_60 : decode cX2_dueBehindAct 60 = .ok (.iconst 2, 1) := by decide +kernel
theorem dX2_dueBehindAct_61 : decode cX2_dueBehindAct 61 = .ok (.ireturn, 1) := by decide +kernel
theorem dX2_dueBehindAct_62 : decode cX2_dueBehindAct 62 = .ok (.iconst 3, 1) := by decide +kernel
theorem dX2_dueBehindAct_63 : decode cX2_dueBehindAct 63 = .ok (.ireturn, 1) := by decide +kernel
theorem dX2_dueBehindAct_64 : decode cX2_dueBehindAct 64 = .ok (.iconst 1, 1) := by decide +kernel
theorem dX2_dueBehindAct_65 : decode cX2_dueBehindAct 65 = .ok (.ireturn, 1) := by decide +kernel
theorem dX2_dueBehindAct_66 : decode cX2_dueBehindAct 66 = .ok (.iconst 5, 1) := by decide +kernel
theorem dX2_dueBehindAct_67 : decode cX2_dueBehindAct 67 = .ok (.ireturn, 1) := by decide +kernel
theorem dX2_dueInPath_0 : decode cX2_dueInPath 0 = .ok (.iload_n 3, 1) := by decide +kernel
theorem dX2_dueInPath_1 : decode cX2_dueInPath 1 = .ok (.ifCond .eq 24, 3) := by decide +kernel
theorem dX2_dueInPath_4 : decode cX2_dueInPath 4 = .ok (.aload_n 0, 1) := by decide +kernel
theorem dX2_dueInPath_5 : decode cX2_dueInPath 5 = .ok (.getfield 40, 3) := by decide +kernel
theorem dX2_dueInPath_8 : decode cX2_dueInPath 8 = .ok (.bipush 12, 2) := by decide +kernel
theorem dX2_dueInPath_10 : decode cX2_dueInPath 10 = .ok (.if_icmp .ge 15, 3) := by decide +kernel
theorem dX2_dueInPath_13 : decode cX2_dueInPath 13 = .ok (.aload_n 0, 1) := by decide +kernel
theorem dX2_dueInPath_14 : decode cX2_dueInPath 14 = .ok (.dup, 1) := by decide +kernel
theorem dX2_dueInPath_15 : decode cX2_dueInPath 15 = .ok (.getfield 40, 3) := by decide +kernel
theorem dX2_dueInPath_18 : decode cX2_dueInPath 18 = .ok (.iconst 1, 1) := by decide +kernel
theorem dX2_dueInPath_19 : decode cX2_dueInPath 19 = .ok (.iadd, 1) := by decide +kernel
theorem dX2_dueInPath_20 : decode cX2_dueInPath 20 = .ok (.putfield 40, 3) := by decide +kernel
theorem dX2_dueInPath_23 : decode cX2_dueInPath 23 = .ok (.iload_n 1, 1) := by decide +kernel
theorem dX2_dueInPath_24 : decode cX2_dueInPath 24 = .ok (.ireturn, 1) := by decide +kernel
theorem dX2_dueInPath_25 : decode cX2_dueInPath 25 = .ok (.aload_n 0, 1) := by decide +kernel
theorem dX2_dueInPath_26 : decode cX2_dueInPath 26 = .ok (.getfield 40, 3) := by decide +kernel
theorem dX2_dueInPath_29 : decode cX2_dueInPath 29 = .ok (.ifCond .eq 19, 3) := by decide +kernel
theorem dX2_dueInPath_32 : decode cX2_dueInPath 32 = .ok (.iload_n 2, 1) := by decide +kernel
theorem dX2_dueInPath_33 : decode cX2_dueInPath 33 = .ok (.iload_n 1, 1) := by decide +kernel
theorem dX2_dueInPath_34 : decode cX2_dueInPath 34 = .ok (.iconst 3, 1) := by decide +kernel
theorem dX2_dueInPath_35 : decode cX2_dueInPath 35 = .ok (.if_icmp .ne 8, 3) := by decide +kernel
theorem dX2_dueInPath_38 : decode cX2_dueInPath 38 = .ok (.bipush 58, 2) := by decide +kernel
theorem dX2_dueInPath_40 : decode cX2_dueInPath 40 = .ok (.goto 5, 3) := by decide +kernel
theorem dX2_dueInPath_43 : decode cX2_dueInPath 43 = .ok (.bipush 46, 2) := by decide +kernel
theorem dX2_dueInPath_45 : decode cX2_dueInPath 45 = .ok (.if_icmp .eq 5, 3) := by decide +kernel
theorem dX2_dueInPath_48 : decode cX2_dueInPath 48 = .ok (.iconst 5, 1) := by decide +kernel
theorem dX2_dueInPath_49 : decode cX2_dueInPath 49 = .ok (.ireturn, 1) := by decide +kernel
theorem dX2_dueInPath_50 : decode cX2_dueInPath 50 = .ok (.aload_n 0, 1) := by decide +kernel
theorem dX2_dueInPath_51 : decode cX2_dueInPath 51 = .ok (.iconst 0, 1) := by decide +kernel
theorem dX2_dueInPath_52 : decode cX2_dueInPath 52 = .ok (.putfield 40, 3) := by decide +kernel
theorem dX2_dueInPath_55 : decode cX2_dueInPath 55 = .ok (.iload_n 1, 1) := by decide +kernel
theorem dX2_dueInPath_56 : decode cX2_dueInPath 56 = .ok (.iconst 3, 1) := by decide +kernel
theorem dX2_dueInPath_57 : decode cX2_dueInPath 57 = .ok (.if_icmp .ne 7, 3) := by decide +kernel
theorem dX2_dueInPath_60 : decode cX2_dueInPath 60 = .ok (.iconst 4, 1) := by decide +kernel
theorem dX2_dueInPath_61 : decode cX2_dueInPath 61 = .ok (.goto 4, 3) := by decide +kernel
theorem dX2_dueInPath_64 : decode cX2_dueInPath 64 = .ok (.iconst 0, 1) := by decide +kernel
theorem dX2_dueInPath_65 : decode cX2_dueInPath 65 = .ok (.ireturn, 1) := by decide +kernel
theorem dX2_begin_0 : decode cX2_begin 0 = .ok (.aload_n 0, 1) := by decide +kernel
theorem dX2_begin_1 : decode cX2_begin 1 = .ok (.iconst 0, 1) := by decide +kernel
theorem dX2_begin_2 : decode cX2_begin 2 = .ok (.putfield 51, 3) := by decide +kernel
theorem dX2_begin_5 : decode cX2_begin 5 = .ok (.return_, 1) := by decide +kernel
theorem dX2_hasMore_0 : decode cX2_hasMore 0 = .ok (.aload_n 0, 1) := by decide +kernel
theorem dX2_hasMore_1 : decode cX2_hasMore 1 = .ok (.getfield 51, 3) := by decide +kernel
theorem dX2_hasMore_4 : decode cX2_hasMore 4 = .ok (.aload_n 1, 1) := by decide +kernel
theorem dX2_hasMore_5 : decode cX2_hasMore 5 = .ok (.getfield 23, 3) := by decide +kernel
theorem dX2_hasMore_8 : decode cX2_hasMore 8 = .ok (.if_icmp .ge 7, 3) := by decide +kernel
theorem dX2_hasMore_11 : decode cX2_hasMore 11 = .ok (.iconst 1, 1) := by decide +kernel
theorem dX2_hasMore_12 : decode cX2_hasMore 12 = .ok (.goto 4, 3) := by decide +kernel
theorem dX2_hasMore_15 : decode cX2_hasMore 15 = .ok (.iconst 0, 1) := by decide +kernel
theorem dX2_hasMore_16 : decode cX2_hasMore 16 = .ok (.ireturn, 1) := by decide +kernel
theorem dX2_doNext_0 : decode cX2_doNext 0 = .ok (.aload_n 1, 1) := by decide +kernel
theorem dX2_doNext_1 : decode cX2_doNext 1 = .ok (.aload_n 0, 1) := by decide +kernel
theorem dX2_doNext_2 : decode cX2_doNext 2 = .ok (.getfield 51, 3) := by decide +kernel
theorem dX2_doNext_5 : decode cX2_doNext 5 = .ok (.invokevirtual 29, 3) := by decide +kernel
theorem dX2_doNext_8 : decode cX2_doNext 8 = .ok (.istore_n 2, 1) := by decide +kernel
theorem dX2_doNext_9 : decode cX2_doNext 9 = .ok (.aload_n 1, 1) := by decide +kernel
theorem dX2_doNext_10 : decode cX2_doNext 10 = .ok (.aload_n 0, 1) := by decide +kernel
theorem dX2_doNext_11 : decode cX2_doNext 11 = .ok (.getfield 51, 3) := by decide +kernel
theorem dX2_doNext_14 : decode cX2_doNext 14 = .ok (.iconst 1, 1) := by decide +kernel
theorem dX2_doNext_15 : decode cX2_doNext 15 = .ok (.iadd, 1) := by decide +kernel
theorem dX2_doNext_16 : decode cX2_doNext 16 = .ok (.invokevirtual 29, 3) := by decide +kernel
theorem dX2_doNext_19 : decode cX2_doNext 19 = .ok (.bipush 48, 2) := by decide +kernel
theorem dX2_doNext_21 : decode cX2_doNext 21 = .ok (.isub, 1) := by decide +kernel
theorem dX2_doNext_22 : decode cX2_doNext 22 = .ok (.istore_n 3, 1) := by decide +kernel
theorem dX2_doNext_23 : decode cX2_doNext 23 = .ok (.aload_n 0, 1) := by decide +kernel
theorem dX2_doNext_24 : decode cX2_doNext 24 = .ok (.dup, 1) := by decide +kernel
theorem dX2_doNext_25 : decode cX2_doNext 25 = .ok (.getfield 51, 3) := by decide +kernel
theorem dX2_doNext_28 : decode cX2_doNext 28 = .ok (.iload_n 2, 1) := by decide +kernel
theorem dX2_doNext_29 : decode cX2_doNext 29 = .ok (.bipush 107, 2) := by decide +kernel
theorem dX2_doNext_31 : decode cX2_doNext 31 = .ok (.if_icmp .ne 7, 3) := by decide +kernel
theorem dX2_doNext_34 : decode cX2_doNext 34 = .ok (.iconst 2, 1) := by decide +kernel
theorem dX2_doNext_35 : decode cX2_doNext 35 = .ok (.goto 4, 3) := by decide +kernel
theorem dX2_doNext_38 : decode cX2_doNext 38 = .ok (.iconst 1, 1) := by decide +kernel
theorem dX2_doNext_39 : decode cX2_doNext 39 = .ok (.iadd, 1) := by decide +kernel
theorem dX2_doNext_40 : decode cX2_doNext 40 = .ok (.putfield 51, 3) := by decide +kernel
theorem dX2_doNext_43 : decode cX2_doNext 43 = .ok (.aload_n 0, 1) := by decide +kernel
theorem dX2_doNext_44 : decode cX2_doNext 44 = .ok (.aload_n 1, 1) := by decide +kernel
theorem dX2_doNext_45 : decode cX2_doNext 45 = .ok (.invokevirtual 54, 3) := by decide +kernel
theorem dX2_doNext_48 : decode cX2_doNext 48 = .ok (.ifCond .ne 5, 3) := by decide +kernel
theorem dX2_doNext_51 : decode cX2_doNext 51 = .ok (.iconst (-1), 1) := by decide +kernel
theorem dX2_doNext_52 : decode cX2_doNext 52 = .ok (.ireturn, 1) := by decide +kernel
theorem dX2_doNext_53 : decode cX2_doNext 53 = .ok (.aload_n 0, 1) := by decide +kernel
theorem dX2_doNext_54 : decode cX2_doNext 54 = .ok (.getfield 9, 3) := by decide +kernel
theorem dX2_doNext_57 : decode cX2_doNext 57 = .ok (.aload_n 0, 1) := by decide +kernel
theorem dX2_doNext_58 : decode cX2_doNext 58 = .ok (.getfield 19, 3) := by decide +kernel
theorem dX2_doNext_61 : decode cX2_doNext 61 = .ok (.getfield 58, 3) := by decide +kernel
theorem dX2_doNext_64 : decode cX2_doNext 64 = .ok (.aload_n 0, 1) := by decide +kernel
theorem dX2_doNext_65 : decode cX2_doNext 65 = .ok (.getfield 19, 3) := by decide +kernel
theorem dX2_doNext_68 : decode cX2_doNext 68 = .ok (.getfield 61, 3) := by decide +kernel
theorem dX2_doNext_71 : decode cX2_doNext 71 = .ok (.invokevirtual 64, 3) := by decide +kernel
theorem dX2_doNext_74 : decode cX2_doNext 74 = .ok (.istore 4, 2) := by decide +kernel
theorem dX2_doNext_76 : decode cX2_doNext 76 = .ok (.iload_n 2, 1) := by decide +kernel
theorem dX2_doNext_77 : decode cX2_doNext 77 = .ok (.bipush 98, 2) := by decide +kernel
theorem dX2_doNext_79 : decode cX2_doNext 79 = .ok (.if_icmp .eq 15, 3) := by decide +kernel
theorem dX2_doNext_82 : decode cX2_doNext 82 = .ok (.iload_n 2, 1) := by decide +kernel
theorem dX2_doNext_83 : decode cX2_doNext 83 = .ok (.bipush 114, 2) := by decide +kernel
theorem dX2_doNext_85 : decode cX2_doNext 85 = .ok (.if_icmp .eq 9, 3) := by decide +kernel
theorem dX2_doNext_88 : decode cX2_doNext 88 = .ok (.iload_n 2, 1) := by decide +kernel
theorem dX2_doNext_89 : decode cX2_doNext 89 = .ok (.bipush 118, 2) := by decide +kernel
theorem dX2_doNext_91 : decode cX2_doNext 91 = .ok (.if_icmp .ne 7, 3) := by decide +kernel
theorem dX2_doNext_94 : decode cX2_doNext 94 = .ok (.iconst 1, 1) := by decide +kernel
theorem dX2_doNext_95 : decode cX2_doNext 95 = .ok (.goto 4, 3) := by decide +kernel
theorem dX2_doNext_98 : decode cX2_doNext 98 = .ok (.iconst 0, 1) := by decide +kernel
theorem dX2_doNext_99 : decode cX2_doNext 99 = .ok (.istore 5, 2) := by decide +kernel
theorem dX2_doNext_101 : decode cX2_doNext 101 = .ok (.iload 5, 2) := by decide +kernel
theorem dX2_doNext_103 : decode cX2_doNext 103 = .ok (.ifCond .eq 13, 3) := by decide +kernel
theorem dX2_doNext_106 : decode cX2_doNext 106 = .ok (.aload_n 0, 1) := by decide +kernel
theorem dX2_doNext_107 : decode cX2_doNext 107 = .ok (.aload_n 1, 1) := by decide +kernel
theorem dX2_doNext_108 : decode cX2_doNext 108 = .ok (.invokevirtual 54, 3) := by decide +kernel
theorem dX2_doNext_111 : decode cX2_doNext 111 = .ok (.ifCond .ne 5, 3) := by decide +kernel
theorem dX2_doNext_114 : decode cX2_doNext 114 = .ok (.iconst (-1), 1) := by decide +kernel
theorem dX2_doNext_115 : decode cX2_doNext 115 = .ok (.ireturn, 1) := by decide +kernel
theorem dX2_doNext_116 : decode cX2_doNext 116 = .ok (.iload_n 2, 1) := by decide +kernel
theorem dX2_doNext_117 : decode cX2_doNext 117 = .ok (.lookupswitch 167 #[(98, 73), (109, 51), (114, 97), (117, 121), (118, 143)], 51) := by decide +kernel
theorem dX2_doNext_168 : decode cX2_doNext 168 = .ok (.aload_n 0, 1) := by decide +kernel
theorem dX2_doNext_169 : decode cX2_doNext 169 = .ok (.getfield 15, 3) := by decide +kernel
theorem dX2_doNext_172 : decode cX2_doNext 172 = .ok (.aload_n 0, 1) := by decide +kernel
theorem dX2_doNext_173 : decode cX2_doNext 173 = .ok (.getfield 19, 3) := by decide +kernel
theorem dX2_doNext_176 : decode cX2_doNext 176 = .ok (.getfield 58, 3) := by decide +kernel
theorem dX2_doNext_179 : decode cX2_doNext 179 = .ok (.aload_n 0, 1) := by decide +kernel
theorem dX2_doNext_180 : decode cX2_doNext 180 = .ok (.getfield 19, 3) := by decide +kernel
theorem dX2_doNext_183 : decode cX2_doNext 183 = .ok (.getfield 61, 3) := by decide +kernel
theorem dX2_doNext_186 : decode cX2_doNext 186 = .ok (.invokevirtual 70, 3) := by decide +kernel
theorem dX2_doNext_189 : decode cX2_doNext 189 = .ok (.ireturn, 1) := by decide +kernel
theorem dX2_doNext_190 : decode cX2_doNext 190 = .ok (.aload_n 0, 1) := by decide +kernel
theorem dX2_doNext_191 : decode cX2_doNext 191 = .ok (.getfield 15, 3) := by decide +kernel
theorem dX2_doNext_194 : decode cX2_doNext 194 = .ok (.iload 4, 2) := by decide +kernel
theorem dX2_doNext_196 : decode cX2_doNext 196 = .ok (.aload_n 0, 1) := by decide +kernel
theorem dX2_doNext_197 : decode cX2_doNext 197 = .ok (.getfield 19, 3) := by decide +kernel
theorem dX2_doNext_200 : decode cX2_doNext 200 = .ok (.getfield 58, 3) := by decide +kernel
theorem dX2_doNext_203 : decode cX2_doNext 203 = .ok (.aload_n 0, 1) := by decide +kernel
theorem dX2_doNext_204 : decode cX2_doNext 204 = .ok (.getfield 19, 3) := by decide +kernel
theorem dX2_doNext_207 : decode cX2_doNext 207 = .ok (.getfield 61, 3) := by decide +kernel
theorem dX2_doNext_210 : decode cX2_doNext 210 = .ok (.invokevirtual 75, 3) := by decide +kernel
theorem dX2_doNext_213 : decode cX2_doNext 213 = .ok (.ireturn, 1) := by decide +kernel
theorem dX2_doNext_214 : decode cX2_doNext 214 = .ok (.aload_n 0, 1) := by decide +kernel
theorem dX2_doNext_215 : decode cX2_doNext 215 = .ok (.getfield 15, 3) := by decide +kernel
theorem dX2_doNext_218 : decode cX2_doNext 218 = .ok (.iload 4, 2) := by decide +kernel
theorem dX2_doNext_220 : decode cX2_doNext 220 = .ok (.aload_n 0, 1) := by decide +kernel
theorem dX2_doNext_221 : decode cX2_doNext 221 = .ok (.getfield 19, 3) := by decide +kernel
theorem dX2_doNext_224 : decode cX2_doNext 224 = .ok (.getfield 58, 3) := by decide +kernel
theorem dX2_doNext_227 : decode cX2_doNext 227 = .ok (.aload_n 0, 1) := by decide +kernel
theorem dX2_doNext_228 : decode cX2_doNext 228 = .ok (.getfield 19, 3) := by decide +kernel
theorem dX2_doNext_231 : decode cX2_doNext 231 = .ok (.getfield 61, 3) := by decide +kernel
theorem dX2_doNext_234 : decode cX2_doNext 234 = .ok (.invokevirtual 79, 3) := by decide +kernel
theorem dX2_doNext_237 : decode cX2_doNext 237 = .ok (.ireturn, 1) := by decide +kernel
theorem dX2_doNext_238 : decode cX2_doNext 238 = .ok (.aload_n 0, 1) := by decide +kernel
theorem dX2_doNext_239 : decode cX2_doNext 239 = .ok (.getfield 15, 3) := by decide +kernel
theorem dX2_doNext_242 : decode cX2_doNext 242 = .ok (.aload_n 0, 1) := by decide +kernel
theorem dX2_doNext_243 : decode cX2_doNext 243 = .ok (.getfield 19, 3) := by decide +kernel
theorem dX2_doNext_246 : decode cX2_doNext 246 = .ok (.getfield 58, 3) := by decide +kernel
theorem dX2_doNext_249 : decode cX2_doNext 249 = .ok (.aload_n 0, 1) := by decide +kernel
theorem dX2_doNext_250 : decode cX2_doNext 250 = .ok (.getfield 19, 3) := by decide +kernel
theorem dX2_doNext_253 : decode cX2_doNext 253 = .ok (.getfield 61, 3) := by decide +kernel
theorem dX2_doNext_256 : decode cX2_doNext 256 = .ok (.invokevirtual 82, 3) := by decide +kernel
theorem dX2_doNext_259 : decode cX2_doNext 259 = .ok (.ireturn, 1) := by decide +kernel
theorem dX2_doNext_260 : decode cX2_doNext 260 = .ok (.aload_n 0, 1) := by decide +kernel
theorem dX2_doNext_261 : decode cX2_doNext 261 = .ok (.getfield 15, 3) := by decide +kernel
theorem dX2_doNext_264 : decode cX2_doNext 264 = .ok (.iload 4, 2) := by decide +kernel
theorem dX2_doNext_266 : decode cX2_doNext 266 = .ok (.aload_n 0, 1) := by decide +kernel
theorem dX2_doNext_267 : decode cX2_doNext 267 = .ok (.getfield 19, 3) := by decide +kernel
theorem dX2_doNext_270 : decode cX2_doNext 270 = .ok (.getfield 58, 3) := by decide +kernel
theorem dX2_doNext_273 : decode cX2_doNext 273 = .ok (.aload_n 0, 1) := by decide +kernel
theorem dX2_doNext_274 : decode cX2_doNext 274 = .ok (.getfield 19, 3) := by decide +kernel
theorem dX2_doNext_277 : decode cX2_doNext 277 = .ok (.getfield 61, 3) := by decide +kernel
theorem dX2_doNext_280 : decode cX2_doNext 280 = .ok (.invokevirtual 85, 3) := by decide +kernel
theorem dX2_doNext_283 : decode cX2_doNext 283 = .ok (.ireturn, 1) := by decide +kernel
theorem dX2_doNext_284 : decode cX2_doNext 284 = .ok (.aload_n 0, 1) := by decide +kernel
theorem dX2_doNext_285 : decode cX2_doNext 285 = .ok (.getfield 15, 3) := by decide +kernel
theorem dX2_doNext_288 : decode cX2_doNext 288 = .ok (.iload 4, 2) := by decide +kernel
theorem dX2_doNext_290 : decode cX2_doNext 290 = .ok (.iload_n 3, 1) := by decide +kernel
theorem dX2_doNext_291 : decode cX2_doNext 291 = .ok (.invokevirtual 88, 3) := by decide +kernel
theorem dX2_doNext_294 : decode cX2_doNext 294 = .ok (.ireturn, 1) := by decide +kernel
theorem dX2_walks_0 : decode cX2_walks 0 = .ok (.aload_n 0, 1) := by decide +kernel
theorem dX2_walks_1 : decode cX2_walks 1 = .ok (.getfield 19, 3) := by decide +kernel
theorem dX2_walks_4 : decode cX2_walks 4 = .ok (.aload_n 0, 1) := by decide +kernel
theorem dX2_walks_5 : decode cX2_walks 5 = .ok (.getfield 9, 3) := by decide +kernel
theorem dX2_walks_8 : decode cX2_walks 8 = .ok (.aload_n 1, 1) := by decide +kernel
theorem dX2_walks_9 : decode cX2_walks 9 = .ok (.aload_n 0, 1) := by decide +kernel
theorem dX2_walks_10 : decode cX2_walks 10 = .ok (.getfield 51, 3) := by decide +kernel
theorem dX2_walks_13 : decode cX2_walks 13 = .ok (.invokevirtual 91, 3) := by decide +kernel
theorem dX2_walks_16 : decode cX2_walks 16 = .ok (.istore_n 2, 1) := by decide +kernel
theorem dX2_walks_17 : decode cX2_walks 17 = .ok (.aload_n 0, 1) := by decide +kernel
theorem dX2_walks_18 : decode cX2_walks 18 = .ok (.iload_n 2, 1) := by decide +kernel
theorem dX2_walks_19 : decode cX2_walks 19 = .ok (.iconst 1, 1) := by decide +kernel
theorem dX2_walks_20 : decode cX2_walks 20 = .ok (.iadd, 1) := by decide +kernel
theorem dX2_walks_21 : decode cX2_walks 21 = .ok (.putfield 51, 3) := by decide +kernel
theorem dX2_walks_24 : decode cX2_walks 24 = .ok (.aload_n 1, 1) := by decide +kernel
theorem dX2_walks_25 : decode cX2_walks 25 = .ok (.iload_n 2, 1) := by decide +kernel
theorem dX2_walks_26 : decode cX2_walks 26 = .ok (.invokevirtual 33, 3) := by decide +kernel
theorem dX2_walks_29 : decode cX2_walks 29 = .ok (.iconst (-1), 1) := by decide +kernel
theorem dX2_walks_30 : decode cX2_walks 30 = .ok (.if_icmp .ne 7, 3) := by decide +kernel
theorem dX2_walks_33 : decode cX2_walks 33 = .ok (.iconst 1, 1) := by decide +kernel
theorem dX2_walks_34 : decode cX2_walks 34 = .ok (.goto 4, 3) := by decide +kernel
theorem dX2_walks_37 : decode cX2_walks 37 = .ok (.iconst 0, 1) := by decide +kernel
theorem dX2_walks_38 : decode cX2_walks 38 = .ok (.ireturn, 1) := by decide +kernel
theorem dX3_init_0 : decode cX3_init 0 = .ok (.aload_n 0, 1) := by decide +kernel
theorem dX3_init_1 : decode cX3_init 1 = .ok (.invokespecial 3, 3) := by decide +kernel
theorem dX3_init_4 : decode cX3_init 4 = .ok (.aload_n 0, 1) := by decide +kernel
theorem dX3_init_5 : decode cX3_init 5 = .ok (.bipush 12, 2) := by decide +kernel
theorem dX3_init_7 : decode cX3_init 7 = .ok (.newarray .int, 2) := by decide +kernel
theorem dX3_init_9 : decode cX3_init 9 = .ok (.putfield 11, 3) := by decide +kernel
theorem dX3_init_12 : decode cX3_init 12 = .ok (.aload_n 0, 1) := by decide +kernel
theorem dX3_init_13 : decode cX3_init 13 = .ok (.bipush 12, 2) := by decide +kernel
theorem dX3_init_15 : decode cX3_init 15 = .ok (.newarray .int, 2) := by decide +kernel
theorem dX3_init_17 : decode cX3_init 17 = .ok (.putfield 15, 3) := by decide +kernel
theorem dX3_init_20 : decode cX3_init 20 = .ok (.aload_n 0, 1) := by decide +kernel
theorem dX3_init_21 : decode cX3_init 21 = .ok (.bipush 24, 2) := by decide +kernel
theorem dX3_init_23 : decode cX3_init 23 = .ok (.newarray .int, 2) := by decide +kernel
theorem dX3_init_25 : decode cX3_init 25 = .ok (.putfield 18, 3) := by decide +kernel
theorem dX3_init_28 : decode cX3_init 28 = .ok (.aload_n 0, 1) := by decide +kernel
theorem dX3_init_29 : decode cX3_init 29 = .ok (.aload_n 1, 1) := by decide +kernel
theorem dX3_init_30 : decode cX3_init 30 = .ok (.putfield 21, 3) := by decide +kernel
theorem dX3_init_33 : decode cX3_init 33 = .ok (.return_, 1) := by decide +kernel
theorem dX3_hear_0 : decode cX3_hear 0 = .ok (.iload_n 1, 1) := by decide +kernel
theorem dX3_hear_1 : decode cX3_hear 1 = .ok (.ifCond .lt 33, 3) := by decide +kernel
theorem dX3_hear_4 : decode cX3_hear 4 = .ok (.iload_n 1, 1) := by decide +kernel
theorem dX3_hear_5 : decode cX3_hear 5 = .ok (.getstatic 25, 3) := by decide +kernel
theorem dX3_hear_8 : decode cX3_hear 8 = .ok (.arraylength, 1) := by decide +kernel
theorem dX3_hear_9 : decode cX3_hear 9 = .ok (.if_icmp .ge 25, 3) := by decide +kernel
theorem dX3_hear_12 : decode cX3_hear 12 = .ok (.iload_n 2, 1) := by decide +kernel
theorem dX3_hear_13 : decode cX3_hear 13 = .ok (.ifCond .lt 21, 3) := by decide +kernel
theorem dX3_hear_16 : decode cX3_hear 16 = .ok (.iload_n 2, 1) := by decide +kernel
theorem dX3_hear_17 : decode cX3_hear 17 = .ok (.getstatic 25, 3) := by decide +kernel
theorem dX3_hear_20 : decode cX3_hear 20 = .ok (.iload_n 1, 1) := by decide +kernel
theorem dX3_hear_21 : decode cX3_hear 21 = .ok (.iaload, 1) := by decide +kernel
theorem dX3_hear_22 : decode cX3_hear 22 = .ok (.if_icmp .gt 12, 3) := by decide +kernel
theorem dX3_hear_25 : decode cX3_hear 25 = .ok (.aload_n 0, 1) := by decide +kernel
theorem dX3_hear_26 : decode cX3_hear 26 = .ok (.getfield 28, 3) := by decide +kernel
theorem dX3_hear_29 : decode cX3_hear 29 = .ok (.bipush 12, 2) := by decide +kernel
theorem dX3_hear_31 : decode cX3_hear 31 = .ok (.if_icmp .lt 5, 3) := by decide +kernel
theorem dX3_hear_34 : decode cX3_hear 34 = .ok (.iconst 0, 1) := by decide +kernel
theorem dX3_hear_35 : decode cX3_hear 35 = .ok (.ireturn, 1) := by decide +kernel
theorem dX3_hear_36 : decode cX3_hear 36 = .ok (.aload_n 0, 1) := by decide +kernel
theorem dX3_hear_37 : decode cX3_hear 37 = .ok (.getfield 11, 3) := by decide +kernel
theorem dX3_hear_40 : decode cX3_hear 40 = .ok (.aload_n 0, 1) := by decide +kernel
theorem dX3_hear_41 : decode cX3_hear 41 = .ok (.getfield 28, 3) := by decide +kernel
theorem dX3_hear_44 : decode cX3_hear 44 = .ok (.iload_n 1, 1) := by decide +kernel
theorem dX3_hear_45 : decode cX3_hear 45 = .ok (.iastore, 1) := by decide +kernel
theorem dX3_hear_46 : decode cX3_hear 46 = .ok (.aload_n 0, 1) := by decide +kernel
theorem dX3_hear_47 : decode cX3_hear 47 = .ok (.getfield 15, 3) := by decide +kernel
theorem dX3_hear_50 : decode cX3_hear 50 = .ok (.aload_n 0, 1) := by decide +kernel
theorem dX3_hear_51 : decode cX3_hear 51 = .ok (.getfield 28, 3) := by decide +kernel
theorem dX3_hear_54 : decode cX3_hear 54 = .ok (.iload_n 2, 1) := by decide +kernel
theorem dX3_hear_55 : decode cX3_hear 55 = .ok (.iastore, 1) := by decide +kernel
theorem dX3_hear_56 : decode cX3_hear 56 = .ok (.aload_n 0, 1) := by decide +kernel
theorem dX3_hear_57 : decode cX3_hear 57 = .ok (.dup, 1) := by decide +kernel
theorem dX3_hear_58 : decode cX3_hear 58 = .ok (.getfield 28, 3) := by decide +kernel
theorem dX3_hear_61 : decode cX3_hear 61 = .ok (.iconst 1, 1) := by decide +kernel
theorem dX3_hear_62 : decode cX3_hear 62 = .ok (.iadd, 1) := by decide +kernel
theorem dX3_hear_63 : decode cX3_hear 63 = .ok (.putfield 28, 3) := by decide +kernel
theorem dX3_hear_66 : decode cX3_hear 66 = .ok (.iconst 1, 1) := by decide +kernel
theorem dX3_hear_67 : decode cX3_hear 67 = .ok (.ireturn, 1) := by decide +kernel
theorem dX3_fitting_0 : decode cX3_fitting 0 = .ok (.aload_n 0, 1) := by decide +kernel
theorem dX3_fitting_1 : decode cX3_fitting 1 = .ok (.getfield 21, 3) := by decide +kernel
theorem dX3_fitting_4 : decode cX3_fitting 4 = .ok (.getfield 32, 3) := by decide +kernel
theorem dX3_fitting_7 : decode cX3_fitting 7 = .ok (.istore_n 1, 1) := by decide +kernel
theorem dX3_fitting_8 : decode cX3_fitting 8 = .ok (.iconst 0, 1) := by decide +kernel
theorem dX3_fitting_9 : decode cX3_fitting 9 = .ok (.istore_n 2, 1) := by decide +kernel
theorem dX3_fitting_10 : decode cX3_fitting 10 = .ok (.iload_n 2, 1) := by decide +kernel
theorem dX3_fitting_11 : decode cX3_fitting 11 = .ok (.aload_n 0, 1) := by decide +kernel
theorem dX3_fitting_12 : decode cX3_fitting 12 = .ok (.getfield 28, 3) := by decide +kernel
theorem dX3_fitting_15 : decode cX3_fitting 15 = .ok (.if_icmp .ge 44, 3) := by decide +kernel
theorem dX3_fitting_18 : decode cX3_fitting 18 = .ok (.iload_n 2, 1) := by decide +kernel
theorem dX3_fitting_19 : decode cX3_fitting 19 = .ok (.bipush 12, 2) := by decide +kernel
theorem dX3_fitting_21 : decode cX3_fitting 21 = .ok (.if_icmp .ge 38, 3) := by decide +kernel
theorem dX3_fitting_24 : decode cX3_fitting 24 = .ok (.aload_n 0, 1) := by decide +kernel
theorem dX3_fitting_25 : decode cX3_fitting 25 = .ok (.aload_n 0, 1) := by decide +kernel
theorem dX3_fitting_26 : decode cX3_fitting 26 = .ok (.getfield 11, 3) := by decide +kernel
theorem dX3_fitting_29 : decode cX3_fitting 29 = .ok (.iload_n 2, 1) := by decide +kernel
theorem dX3_fitting_30 : decode cX3_fitting 30 = .ok (.iaload, 1) := by decide +kernel
theorem dX3_fitting_31 : decode cX3_fitting 31 = .ok (.invokevirtual 37, 3) := by decide +kernel
theorem dX3_fitting_34 : decode cX3_fitting 34 = .ok (.iload_n 1, 1) := by decide +kernel
theorem dX3_fitting_35 : decode cX3_fitting 35 = .ok (.aload_n 0, 1) := by decide +kernel
theorem dX3_fitting_36 : decode cX3_fitting 36 = .ok (.aload_n 0, 1) := by decide +kernel
theorem dX3_fitting_37 : decode cX3_fitting 37 = .ok (.getfield 11, 3) := by decide +kernel
theorem dX3_fitting_40 : decode cX3_fitting 40 = .ok (.iload_n 2, 1) := by decide +kernel
theorem dX3_fitting_41 : decode cX3_fitting 41 = .ok (.iaload, 1) := by decide +kernel
theorem dX3_fitting_42 : decode cX3_fitting 42 = .ok (.aload_n 0, 1) := by decide +kernel
theorem dX3_fitting_43 : decode cX3_fitting 43 = .ok (.getfield 15, 3) := by decide +kernel
theorem dX3_fitting_46 : decode cX3_fitting 46 = .ok (.iload_n 2, 1) := by decide +kernel
theorem dX3_fitting_47 : decode cX3_fitting 47 = .ok (.iaload, 1) := by decide +kernel
theorem dX3_fitting_48 : decode cX3_fitting 48 = .ok (.invokevirtual 41, 3) := by decide +kernel
theorem dX3_fitting_51 : decode cX3_fitting 51 = .ok (.iand, 1) := by decide +kernel
theorem dX3_fitting_52 : decode cX3_fitting 52 = .ok (.istore_n 1, 1) := by decide +kernel
theorem dX3_fitting_53 : decode cX3_fitting 53 = .ok (.iinc 2 1, 3) := by decide +kernel
theorem dX3_fitting_56 : decode cX3_fitting 56 = .ok (.goto (-46), 3) := by decide +kernel
theorem dX3_fitting_59 : decode cX3_fitting 59 = .ok (.iload_n 1, 1) := by decide +kernel
theorem dX3_fitting_60 : decode cX3_fitting 60 = .ok (.ireturn, 1) := by decide +kernel
theorem dX3_bestQuestion_0 : decode cX3_bestQuestion 0 = .ok (.aload_n 0, 1) := by decide +kernel
theorem dX3_bestQuestion_1 : decode cX3_bestQuestion 1 = .ok (.invokevirtual 45, 3) := by decide +kernel
theorem dX3_bestQuestion_4 : decode cX3_bestQuestion 4 = .ok (.istore_n 1, 1) := by decide +kernel
theorem dX3_bestQuestion_5 : decode cX3_bestQuestion 5 = .ok (.iconst (-1), 1) := by decide +kernel
theorem dX3_bestQuestion_6 : decode cX3_bestQuestion 6 = .ok (.istore_n 2, 1) := by decide +kernel
theorem dX3_bestQuestion_7 : decode cX3_bestQuestion 7 = .ok (.iconst 0, 1) := by decide +kernel
theorem dX3_bestQuestion_8 : decode cX3_bestQuestion 8 = .ok (.istore_n 3, 1) := by decide +kernel
theorem dX3_bestQuestion_9 : decode cX3_bestQuestion 9 = .ok (.iload_n 3, 1) := by decide +kernel
theorem dX3_bestQuestion_10 : decode cX3_bestQuestion 10 = .ok (.getstatic 25, 3) := by decide +kernel
theorem dX3_bestQuestion_13 : decode cX3_bestQuestion 13 = .ok (.arraylength, 1) := by decide +kernel
theorem dX3_bestQuestion_14 : decode cX3_bestQuestion 14 = .ok (.if_icmp .ge 93, 3) := by decide +kernel
theorem dX3_bestQuestion_17 : decode cX3_bestQuestion 17 = .ok (.iload_n 1, 1) := by decide +kernel
theorem dX3_bestQuestion_18 : decode cX3_bestQuestion 18 = .ok (.ifCond .eq 89, 3) := by decide +kernel
theorem dX3_bestQuestion_21 : decode cX3_bestQuestion 21 = .ok (.aload_n 0, 1) := by decide +kernel
theorem dX3_bestQuestion_22 : decode cX3_bestQuestion 22 = .ok (.iload_n 3, 1) := by decide +kernel
theorem dX3_bestQuestion_23 : decode cX3_bestQuestion 23 = .ok (.invokevirtual 37, 3) := by decide +kernel
theorem dX3_bestQuestion_26 : decode cX3_bestQuestion 26 = .ok (.iconst 0, 1) := by decide +kernel
theorem dX3_bestQuestion_27 : decode cX3_bestQuestion 27 = .ok (.istore 4, 2) := by decide +kernel
theorem dX3_bestQuestion_29 : decode cX3_bestQuestion 29 = .ok (.iload 4, 2) := by decide +kernel
theorem dX3_bestQuestion_31 : decode cX3_bestQuestion 31 = .ok (.getstatic 25, 3) := by decide +kernel
theorem dX3_bestQuestion_34 : decode cX3_bestQuestion 34 = .ok (.iload_n 3, 1) := by decide +kernel
theorem dX3_bestQuestion_35 : decode cX3_bestQuestion 35 = .ok (.iaload, 1) := by decide +kernel
theorem dX3_bestQuestion_36 : decode cX3_bestQuestion 36 = .ok (.if_icmp .gt 65, 3) := by decide +kernel
theorem dX3_bestQuestion_39 : decode cX3_bestQuestion 39 = .ok (.iload_n 1, 1) := by decide +kernel
theorem dX3_bestQuestion_40 : decode cX3_bestQuestion 40 = .ok (.aload_n 0, 1) := by decide +kernel
theorem dX3_bestQuestion_41 : decode cX3_bestQuestion 41 = .ok (.iload_n 3, 1) := by decide +kernel
theorem dX3_bestQuestion_42 : decode cX3_bestQuestion 42 = .ok (.iload 4, 2) := by decide +kernel
theorem dX3_bestQuestion_44 : decode cX3_bestQuestion 44 = .ok (.invokevirtual 41, 3) := by decide +kernel
theorem dX3_bestQuestion_47 : decode cX3_bestQuestion 47 = .ok (.iand, 1) := by decide +kernel
theorem dX3_bestQuestion_48 : decode cX3_bestQuestion 48 = .ok (.invokestatic 49, 3) := by decide +kernel
theorem dX3_bestQuestion_51 : decode cX3_bestQuestion 51 = .ok (.istore 5, 2) := by decide +kernel
theorem dX3_bestQuestion_53 : decode cX3_bestQuestion 53 = .ok (.iload 5, 2) := by decide +kernel
theorem dX3_bestQuestion_55 : decode cX3_bestQuestion 55 = .ok (.iload_n 1, 1) := by decide +kernel
theorem dX3_bestQuestion_56 : decode cX3_bestQuestion 56 = .ok (.invokestatic 49, 3) := by decide +kernel
theorem dX3_bestQuestion_59 : decode cX3_bestQuestion 59 = .ok (.iload 5, 2) := by decide +kernel
theorem dX3_bestQuestion_61 : decode cX3_bestQuestion 61 = .ok (.isub, 1) := by decide +kernel
theorem dX3_bestQuestion_62 : decode cX3_bestQuestion 62 = .ok (.invokestatic 55, 3) := by decide +kernel
theorem dX3_bestQuestion_65 : decode cX3_bestQuestion 65 = .ok (.istore 6, 2) := by decide +kernel
theorem dX3_bestQuestion_67 : decode cX3_bestQuestion 67 = .ok (.iload_n 2, 1) := by decide +kernel
theorem dX3_bestQuestion_68 : decode cX3_bestQuestion 68 = .ok (.iconst (-1), 1) := by decide +kernel
theorem dX3_bestQuestion_69 : decode cX3_bestQuestion 69 = .ok (.if_icmp .eq 12, 3) := by decide +kernel
theorem dX3_bestQuestion_72 : decode cX3_bestQuestion 72 = .ok (.iload 6, 2) := by decide +kernel
theorem dX3_bestQuestion_74 : decode cX3_bestQuestion 74 = .ok (.aload_n 0, 1) := by decide +kernel
theorem dX3_bestQuestion_75 : decode cX3_bestQuestion 75 = .ok (.getfield 60, 3) := by decide +kernel
theorem dX3_bestQuestion_78 : decode cX3_bestQuestion 78 = .ok (.if_icmp .ge 17, 3) := by decide +kernel
theorem dX3_bestQuestion_81 : decode cX3_bestQuestion 81 = .ok (.bipush 10, 2) := by decide +kernel
theorem dX3_bestQuestion_83 : decode cX3_bestQuestion 83 = .ok (.iload_n 3, 1) := by decide +kernel
theorem dX3_bestQuestion_84 : decode cX3_bestQuestion 84 = .ok (.imul, 1) := by decide +kernel
theorem dX3_bestQuestion_85 : decode cX3_bestQuestion 85 = .ok (.iload 4, 2) := by decide +kernel
theorem dX3_bestQuestion_87 : decode cX3_bestQuestion 87 = .ok (.iadd, 1) := by decide +kernel
theorem dX3_bestQuestion_88 : decode cX3_bestQuestion 88 = .ok (.istore_n 2, 1) := by decide +kernel
theorem dX3_bestQuestion_89 : decode cX3_bestQuestion 89 = .ok (.aload_n 0, 1) := by decide +kernel
theorem dX3_bestQuestion_90 : decode cX3_bestQuestion 90 = .ok (.iload 6, 2) := by decide +kernel
theorem dX3_bestQuestion_92 : decode cX3_bestQuestion 92 = .ok (.putfield 60, 3) := by decide +kernel
theorem dX3_bestQuestion_95 : decode cX3_bestQuestion 95 = .ok (.iinc 4 1, 3) := by decide +kernel
theorem dX3_bestQuestion_98 : decode cX3_bestQuestion 98 = .ok (.goto (-69), 3) := by decide +kernel
theorem dX3_bestQuestion_101 : decode cX3_bestQuestion 101 = .ok (.iinc 3 1, 3) := by decide +kernel
theorem dX3_bestQuestion_104 : decode cX3_bestQuestion 104 = .ok (.goto (-95), 3) := by decide +kernel
theorem dX3_bestQuestion_107 : decode cX3_bestQuestion 107 = .ok (.iload_n 2, 1) := by decide +kernel
theorem dX3_bestQuestion_108 : decode cX3_bestQuestion 108 = .ok (.ireturn, 1) := by decide +kernel
theorem dX3_measure_0 : decode cX3_measure 0 = .ok (.iconst 0, 1) := by decide +kernel
theorem dX3_measure_1 : decode cX3_measure 1 = .ok (.istore_n 2, 1) := by decide +kernel
theorem dX3_measure_2 : decode cX3_measure 2 = .ok (.iload_n 2, 1) := by decide +kernel
theorem dX3_measure_3 : decode cX3_measure 3 = .ok (.bipush 24, 2) := by decide +kernel
theorem dX3_measure_5 : decode cX3_measure 5 = .ok (.if_icmp .ge 36, 3) := by decide +kernel
theorem dX3_measure_8 : decode cX3_measure 8 = .ok (.aload_n 0, 1) := by decide +kernel
theorem dX3_measure_9 : decode cX3_measure 9 = .ok (.getfield 18, 3) := by decide +kernel
theorem dX3_measure_12 : decode cX3_measure 12 = .ok (.iload_n 2, 1) := by decide +kernel
theorem dX3_measure_13 : decode cX3_measure 13 = .ok (.aload_n 0, 1) := by decide +kernel
theorem dX3_measure_14 : decode cX3_measure 14 = .ok (.getfield 21, 3) := by decide +kernel
theorem dX3_measure_17 : decode cX3_measure 17 = .ok (.iload_n 2, 1) := by decide +kernel
theorem dX3_measure_18 : decode cX3_measure 18 = .ok (.invokevirtual 63, 3) := by decide +kernel
theorem dX3_measure_21 : decode cX3_measure 21 = .ok (.ifCond .eq 12, 3) := by decide +kernel
theorem dX3_measure_24 : decode cX3_measure 24 = .ok (.aload_n 0, 1) := by decide +kernel
theorem dX3_measure_25 : decode cX3_measure 25 = .ok (.iload_n 1, 1) := by decide +kernel
theorem dX3_measure_26 : decode cX3_measure 26 = .ok (.iload_n 2, 1) := by decide +kernel
theorem dX3_measure_27 : decode cX3_measure 27 = .ok (.invokevirtual 67, 3) := by decide +kernel
theorem dX3_measure_30 : decode cX3_measure 30 = .ok (.goto 4, 3) := by decide +kernel
theorem dX3_measure_33 : decode cX3_measure 33 = .ok (.iconst 0, 1) := by decide +kernel
theorem dX3_measure_34 : decode cX3_measure 34 = .ok (.iastore, 1) := by decide +kernel
theorem dX3_measure_35 : decode cX3_measure 35 = .ok (.iinc 2 1, 3) := by decide +kernel
theorem dX3_measure_38 : decode cX3_measure 38 = .ok (.goto (-36), 3) := by decide +kernel
theorem dX3_measure_41 : decode cX3_measure 41 = .ok (.return_, 1) := by decide +kernel
theorem dX3_measureOf_0 : decode cX3_measureOf 0 = .ok (.iload_n 1, 1) := by decide +kernel
theorem dX3_measureOf_1 : decode cX3_measureOf 1 = .ok (.tableswitch 70 0 3 #[31, 40, 49, 58], 31) := by decide +kernel
theorem dX3_measureOf_32 : decode cX3_measureOf 32 = .ok (.aload_n 0, 1) := by decide +kernel
theorem dX3_measureOf_33 : decode cX3_measureOf 33 = .ok (.getfield 21, 3) := by decide +kernel
theorem dX3_measureOf_36 : decode cX3_measureOf 36 = .ok (.iload_n 2, 1) := by decide +kernel
theorem dX3_measureOf_37 : decode cX3_measureOf 37 = .ok (.invokevirtual 70, 3) := by decide +kernel
theorem dX3_measureOf_40 : decode cX3_measureOf 40 = .ok (.ireturn, 1) := by decide +kernel
theorem dX3_measureOf_41 : decode cX3_measureOf 41 = .ok (.aload_n 0, 1) := by decide +kernel
theorem dX3_measureOf_42 : decode cX3_measureOf 42 = .ok (.getfield 21, 3) := by decide +kernel
theorem dX3_measureOf_45 : decode cX3_measureOf 45 = .ok (.iload_n 2, 1) := by decide +kernel
theorem dX3_measureOf_46 : decode cX3_measureOf 46 = .ok (.invokevirtual 73, 3) := by decide +kernel
theorem dX3_measureOf_49 : decode cX3_measureOf 49 = .ok (.ireturn, 1) := by decide +kernel
theorem dX3_measureOf_50 : decode cX3_measureOf 50 = .ok (.aload_n 0, 1) := by decide +kernel
theorem dX3_measureOf_51 : decode cX3_measureOf 51 = .ok (.getfield 21, 3) := by decide +kernel
theorem dX3_measureOf_54 : decode cX3_measureOf 54 = .ok (.iload_n 2, 1) := by decide +kernel
theorem dX3_measureOf_55 : decode cX3_measureOf 55 = .ok (.invokevirtual 76, 3) := by decide +kernel
theorem dX3_measureOf_58 : decode cX3_measureOf 58 = .ok (.ireturn, 1) := by decide +kernel
theorem dX3_measureOf_59 : decode cX3_measureOf 59 = .ok (.aload_n 0, 1) := by decide +kernel
theorem dX3_measureOf_60 : decode cX3_measureOf 60 = .ok (.getfield 21, 3) := by decide +kernel
theorem dX3_measureOf_63 : decode cX3_measureOf 63 = .ok (.iload_n 2, 1) := by decide +kernel
theorem dX3_measureOf_64 : decode cX3_measureOf 64 = .ok (.invokevirtual 79, 3) := by decide +kernel
theorem dX3_measureOf_67 : decode cX3_measureOf 67 = .ok (.invokestatic 49, 3) := by decide +kernel
theorem dX3_measureOf_70 : decode cX3_measureOf 70 = .ok (.ireturn, 1) := by decide +kernel
theorem dX3_measureOf_71 : decode cX3_measureOf 71 = .ok (.aload_n 0, 1) := by decide +kernel
theorem dX3_measureOf_72 : decode cX3_measureOf 72 = .ok (.getfield 21, 3) := by decide +kernel
theorem dX3_measureOf_75 : decode cX3_measureOf 75 = .ok (.iload_n 2, 1) := by decide +kernel
theorem dX3_measureOf_76 : decode cX3_measureOf 76 = .ok (.invokevirtual 82, 3) := by decide +kernel
theorem dX3_measureOf_79 : decode cX3_measureOf 79 = .ok (.invokestatic 49, 3) := by decide +kernel
theorem dX3_measureOf_82 : decode cX3_measureOf 82 = .ok (.ireturn, 1) := by decide +kernel
theorem dX3_soOf_0 : decode cX3_soOf 0 = .ok (.iconst 0, 1) := by decide +kernel
theorem dX3_soOf_1 : decode cX3_soOf 1 = .ok (.istore_n 3, 1) := by decide +kernel
theorem dX3_soOf_2 : decode cX3_soOf 2 = .ok (.iconst 0, 1) := by decide +kernel
theorem dX3_soOf_3 : decode cX3_soOf 3 = .ok (.istore 4, 2) := by decide +kernel
theorem dX3_soOf_5 : decode cX3_soOf 5 = .ok (.iload 4, 2) := by decide +kernel
theorem dX3_soOf_7 : decode cX3_soOf 7 = .ok (.bipush 24, 2) := by decide +kernel
theorem dX3_soOf_9 : decode cX3_soOf 9 = .ok (.if_icmp .ge 87, 3) := by decide +kernel
theorem dX3_soOf_12 : decode cX3_soOf 12 = .ok (.iload_n 1, 1) := by decide +kernel
theorem dX3_soOf_13 : decode cX3_soOf 13 = .ok (.iconst 1, 1) := by decide +kernel
theorem dX3_soOf_14 : decode cX3_soOf 14 = .ok (.if_icmp .ne 22, 3) := by decide +kernel
theorem dX3_soOf_17 : decode cX3_soOf 17 = .ok (.aload_n 0, 1) := by decide +kernel
theorem dX3_soOf_18 : decode cX3_soOf 18 = .ok (.getfield 18, 3) := by decide +kernel
theorem dX3_soOf_21 : decode cX3_soOf 21 = .ok (.iload 4, 2) := by decide +kernel
theorem dX3_soOf_23 : decode cX3_soOf 23 = .ok (.iaload, 1) := by decide +kernel
theorem dX3_soOf_24 : decode cX3_soOf 24 = .ok (.iload_n 2, 1) := by decide +kernel
theorem dX3_soOf_25 : decode cX3_soOf 25 = .ok (.if_icmp .lt 7, 3) := by decide +kernel
theorem dX3_soOf_28 : decode cX3_soOf 28 = .ok (.iconst 1, 1) := by decide +kernel
theorem dX3_soOf_29 : decode cX3_soOf 29 = .ok (.goto 47, 3) := by decide +kernel
theorem dX3_soOf_32 : decode cX3_soOf 32 = .ok (.iconst 0, 1) := by decide +kernel
theorem dX3_soOf_33 : decode cX3_soOf 33 = .ok (.goto 43, 3) := by decide +kernel
theorem dX3_soOf_36 : decode cX3_soOf 36 = .ok (.iload_n 1, 1) := by decide +kernel
theorem dX3_soOf_37 : decode cX3_soOf 37 = .ok (.iconst 4, 1) := by decide +kernel
theorem dX3_soOf_38 : decode cX3_soOf 38 = .ok (.if_icmp .ne 22, 3) := by decide +kernel
theorem dX3_soOf_41 : decode cX3_soOf 41 = .ok (.aload_n 0, 1) := by decide +kernel
theorem dX3_soOf_42 : decode cX3_soOf 42 = .ok (.getfield 18, 3) := by decide +kernel
theorem dX3_soOf_45 : decode cX3_soOf 45 = .ok (.iload 4, 2) := by decide +kernel
theorem dX3_soOf_47 : decode cX3_soOf 47 = .ok (.iaload, 1) := by decide +kernel
theorem dX3_soOf_48 : decode cX3_soOf 48 = .ok (.iload_n 2, 1) := by decide +kernel
theorem dX3_soOf_49 : decode cX3_soOf 49 = .ok (.if_icmp .le 7, 3) := by decide +kernel
theorem dX3_soOf_52 : decode cX3_soOf 52 = .ok (.iconst 1, 1) := by decide +kernel
theorem dX3_soOf_53 : decode cX3_soOf 53 = .ok (.goto 23, 3) := by decide +kernel
theorem dX3_soOf_56 : decode cX3_soOf 56 = .ok (.iconst 0, 1) := by decide +kernel
theorem dX3_soOf_57 : decode cX3_soOf 57 = .ok (.goto 19, 3) := by decide +kernel
theorem dX3_soOf_60 : decode cX3_soOf 60 = .ok (.aload_n 0, 1) := by decide +kernel
theorem dX3_soOf_61 : decode cX3_soOf 61 = .ok (.getfield 18, 3) := by decide +kernel
theorem dX3_soOf_64 : decode cX3_soOf 64 = .ok (.iload 4, 2) := by decide +kernel
theorem dX3_soOf_66 : decode cX3_soOf 66 = .ok (.iaload, 1) := by decide +kernel
theorem dX3_soOf_67 : decode cX3_soOf 67 = .ok (.iload_n 2, 1) := by decide +kernel
theorem dX3_soOf_68 : decode cX3_soOf 68 = .ok (.if_icmp .ne 7, 3) := by decide +kernel
theorem dX3_soOf_71 : decode cX3_soOf 71 = .ok (.iconst 1, 1) := by decide +kernel
theorem dX3_soOf_72 : decode cX3_soOf 72 = .ok (.goto 4, 3) := by decide +kernel
theorem dX3_soOf_75 : decode cX3_soOf 75 = .ok (.iconst 0, 1) := by decide +kernel
theorem dX3_soOf_76 : decode cX3_soOf 76 = .ok (.istore 5, 2) := by decide +kernel
theorem dX3_soOf_78 : decode cX3_soOf 78 = .ok (.iload 5, 2) := by decide +kernel
theorem dX3_soOf_80 : decode cX3_soOf 80 = .ok (.ifCond .eq 10, 3) := by decide +kernel
theorem dX3_soOf_83 : decode cX3_soOf 83 = .ok (.iload_n 3, 1) := by decide +kernel
theorem dX3_soOf_84 : decode cX3_soOf 84 = .ok (.iconst 1, 1) := by decide +kernel
theorem dX3_soOf_85 : decode cX3_soOf 85 = .ok (.iload 4, 2) := by decide +kernel
theorem dX3_soOf_87 : decode cX3_soOf 87 = .ok (.ishl, 1) := by decide +kernel
theorem dX3_soOf_88 : decode cX3_soOf 88 = .ok (.ior, 1) := by decide +kernel
theorem dX3_soOf_89 : decode cX3_soOf 89 = .ok (.istore_n 3, 1) := by decide +kernel
theorem dX3_soOf_90 : decode cX3_soOf 90 = .ok (.iinc 4 1, 3) := by decide +kernel
theorem dX3_soOf_93 : decode cX3_soOf 93 = .ok (.goto (-88), 3) := by decide +kernel
theorem dX3_soOf_96 : decode cX3_soOf 96 = .ok (.iload_n 3, 1) := by decide +kernel
theorem dX3_soOf_97 : decode cX3_soOf 97 = .ok (.ireturn, 1) := by decide +kernel
theorem dX4_init_0 : decode cX4_init 0 = .ok (.aload_n 0, 1) := by decide +kernel
theorem dX4_init_1 : decode cX4_init 1 = .ok (.invokespecial 1, 3) := by decide +kernel
theorem dX4_init_4 : decode cX4_init 4 = .ok (.aload_n 0, 1) := by decide +kernel
theorem dX4_init_5 : decode cX4_init 5 = .ok (.bipush 12, 2) := by decide +kernel
theorem dX4_init_7 : decode cX4_init 7 = .ok (.anewarray 9, 3) := by decide +kernel
theorem dX4_init_10 : decode cX4_init 10 = .ok (.putfield 11, 3) := by decide +kernel
theorem dX4_init_13 : decode cX4_init 13 = .ok (.return_, 1) := by decide +kernel
theorem dX4_push_0 : decode cX4_push 0 = .ok (.aload_n 0, 1) := by decide +kernel
theorem dX4_push_1 : decode cX4_push 1 = .ok (.getfield 15, 3) := by decide +kernel
theorem dX4_push_4 : decode cX4_push 4 = .ok (.ifCond .lt 12, 3) := by decide +kernel
theorem dX4_push_7 : decode cX4_push 7 = .ok (.aload_n 0, 1) := by decide +kernel
theorem dX4_push_8 : decode cX4_push 8 = .ok (.getfield 15, 3) := by decide +kernel
theorem dX4_push_11 : decode cX4_push 11 = .ok (.bipush 12, 2) := by decide +kernel
theorem dX4_push_13 : decode cX4_push 13 = .ok (.if_icmp .lt 8, 3) := by decide +kernel
theorem dX4_push_16 : decode cX4_push 16 = .ok (.aload_n 0, 1) := by decide +kernel
theorem dX4_push_17 : decode cX4_push 17 = .ok (.iconst 0, 1) := by decide +kernel
theorem dX4_push_18 : decode cX4_push 18 = .ok (.putfield 15, 3) := by decide +kernel
theorem dX4_push_21 : decode cX4_push 21 = .ok (.aload_n 0, 1) := by decide +kernel
theorem dX4_push_22 : decode cX4_push 22 = .ok (.getfield 11, 3) := by decide +kernel
theorem dX4_push_25 : decode cX4_push 25 = .ok (.aload_n 0, 1) := by decide +kernel
theorem dX4_push_26 : decode cX4_push 26 = .ok (.getfield 15, 3) := by decide +kernel
theorem dX4_push_29 : decode cX4_push 29 = .ok (.aaload, 1) := by decide +kernel
theorem dX4_push_30 : decode cX4_push 30 = .ok (.ifnonnull 19, 3) := by decide +kernel
theorem dX4_push_33 : decode cX4_push 33 = .ok (.aload_n 0, 1) := by decide +kernel
theorem dX4_push_34 : decode cX4_push 34 = .ok (.getfield 11, 3) := by decide +kernel
theorem dX4_push_37 : decode cX4_push 37 = .ok (.aload_n 0, 1) := by decide +kernel
theorem dX4_push_38 : decode cX4_push 38 = .ok (.getfield 15, 3) := by decide +kernel
theorem dX4_push_41 : decode cX4_push 41 = .ok (.new 9, 3) := by decide +kernel
theorem dX4_push_44 : decode cX4_push 44 = .ok (.dup, 1) := by decide +kernel
theorem dX4_push_45 : decode cX4_push 45 = .ok (.invokespecial 19, 3) := by decide +kernel
theorem dX4_push_48 : decode cX4_push 48 = .ok (.aastore, 1) := by decide +kernel
theorem dX4_push_49 : decode cX4_push 49 = .ok (.aload_n 0, 1) := by decide +kernel
theorem dX4_push_50 : decode cX4_push 50 = .ok (.getfield 11, 3) := by decide +kernel
theorem dX4_push_53 : decode cX4_push 53 = .ok (.aload_n 0, 1) := by decide +kernel
theorem dX4_push_54 : decode cX4_push 54 = .ok (.getfield 15, 3) := by decide +kernel
theorem dX4_push_57 : decode cX4_push 57 = .ok (.aaload, 1) := by decide +kernel
theorem dX4_push_58 : decode cX4_push 58 = .ok (.aload_n 1, 1) := by decide +kernel
theorem dX4_push_59 : decode cX4_push 59 = .ok (.invokevirtual 20, 3) := by decide +kernel
theorem dX4_push_62 : decode cX4_push 62 = .ok (.aload_n 0, 1) := by decide +kernel
theorem dX4_push_63 : decode cX4_push 63 = .ok (.dup, 1) := by decide +kernel
theorem dX4_push_64 : decode cX4_push 64 = .ok (.getfield 15, 3) := by decide +kernel
theorem dX4_push_67 : decode cX4_push 67 = .ok (.iconst 1, 1) := by decide +kernel
theorem dX4_push_68 : decode cX4_push 68 = .ok (.iadd, 1) := by decide +kernel
theorem dX4_push_69 : decode cX4_push 69 = .ok (.putfield 15, 3) := by decide +kernel
theorem dX4_push_72 : decode cX4_push 72 = .ok (.aload_n 0, 1) := by decide +kernel
theorem dX4_push_73 : decode cX4_push 73 = .ok (.aload_n 0, 1) := by decide +kernel
theorem dX4_push_74 : decode cX4_push 74 = .ok (.getfield 24, 3) := by decide +kernel
theorem dX4_push_77 : decode cX4_push 77 = .ok (.iconst 1, 1) := by decide +kernel
theorem dX4_push_78 : decode cX4_push 78 = .ok (.iadd, 1) := by decide +kernel
theorem dX4_push_79 : decode cX4_push 79 = .ok (.bipush 12, 2) := by decide +kernel
theorem dX4_push_81 : decode cX4_push 81 = .ok (.invokestatic 27, 3) := by decide +kernel
theorem dX4_push_84 : decode cX4_push 84 = .ok (.putfield 24, 3) := by decide +kernel
theorem dX4_push_87 : decode cX4_push 87 = .ok (.return_, 1) := by decide +kernel
theorem dX4_pop_0 : decode cX4_pop 0 = .ok (.aload_n 0, 1) := by decide +kernel
theorem dX4_pop_1 : decode cX4_pop 1 = .ok (.getfield 15, 3) := by decide +kernel
theorem dX4_pop_4 : decode cX4_pop 4 = .ok (.ifCond .le 21, 3) := by decide +kernel
theorem dX4_pop_7 : decode cX4_pop 7 = .ok (.aload_n 0, 1) := by decide +kernel
theorem dX4_pop_8 : decode cX4_pop 8 = .ok (.getfield 15, 3) := by decide +kernel
theorem dX4_pop_11 : decode cX4_pop 11 = .ok (.bipush 12, 2) := by decide +kernel
theorem dX4_pop_13 : decode cX4_pop 13 = .ok (.if_icmp .gt 12, 3) := by decide +kernel
theorem dX4_pop_16 : decode cX4_pop 16 = .ok (.aload_n 0, 1) := by decide +kernel
theorem dX4_pop_17 : decode cX4_pop 17 = .ok (.getfield 15, 3) := by decide +kernel
theorem dX4_pop_20 : decode cX4_pop 20 = .ok (.iconst 1, 1) := by decide +kernel
theorem dX4_pop_21 : decode cX4_pop 21 = .ok (.isub, 1) := by decide +kernel
theorem dX4_pop_22 : decode cX4_pop 22 = .ok (.goto 5, 3) := by decide +kernel
theorem dX4_pop_25 : decode cX4_pop 25 = .ok (.bipush 11, 2) := by decide +kernel
theorem dX4_pop_27 : decode cX4_pop 27 = .ok (.istore_n 2, 1) := by decide +kernel
theorem dX4_pop_28 : decode cX4_pop 28 = .ok (.aload_n 0, 1) := by decide +kernel
theorem dX4_pop_29 : decode cX4_pop 29 = .ok (.getfield 24, 3) := by decide +kernel
theorem dX4_pop_32 : decode cX4_pop 32 = .ok (.ifCond .eq 12, 3) := by decide +kernel
theorem dX4_pop_35 : decode cX4_pop 35 = .ok (.aload_n 0, 1) := by decide +kernel
theorem dX4_pop_36 : decode cX4_pop 36 = .ok (.getfield 11, 3) := by decide +kernel
theorem dX4_pop_39 : decode cX4_pop 39 = .ok (.iload_n 2, 1) := by decide +kernel
theorem dX4_pop_40 : decode cX4_pop 40 = .ok (.aaload, 1) := by decide +kernel
theorem dX4_pop_41 : decode cX4_pop 41 = .ok (.ifnonnull 5, 3) := by decide +kernel
theorem dX4_pop_44 : decode cX4_pop 44 = .ok (.iconst 0, 1) := by decide +kernel
theorem dX4_pop_45 : decode cX4_pop 45 = .ok (.ireturn, 1) := by decide +kernel
theorem dX4_pop_46 : decode cX4_pop 46 = .ok (.aload_n 1, 1) := by decide +kernel
theorem dX4_pop_47 : decode cX4_pop 47 = .ok (.aload_n 0, 1) := by decide +kernel
theorem dX4_pop_48 : decode cX4_pop 48 = .ok (.getfield 11, 3) := by decide +kernel
theorem dX4_pop_51 : decode cX4_pop 51 = .ok (.iload_n 2, 1) := by decide +kernel
theorem dX4_pop_52 : decode cX4_pop 52 = .ok (.aaload, 1) := by decide +kernel
theorem dX4_pop_53 : decode cX4_pop 53 = .ok (.invokevirtual 20, 3) := by decide +kernel
theorem dX4_pop_56 : decode cX4_pop 56 = .ok (.aload_n 0, 1) := by decide +kernel
theorem dX4_pop_57 : decode cX4_pop 57 = .ok (.iload_n 2, 1) := by decide +kernel
theorem dX4_pop_58 : decode cX4_pop 58 = .ok (.putfield 15, 3) := by decide +kernel
theorem dX4_pop_61 : decode cX4_pop 61 = .ok (.aload_n 0, 1) := by decide +kernel
theorem dX4_pop_62 : decode cX4_pop 62 = .ok (.dup, 1) := by decide +kernel
theorem dX4_pop_63 : decode cX4_pop 63 = .ok (.getfield 24, 3) := by decide +kernel
theorem dX4_pop_66 : decode cX4_pop 66 = .ok (.iconst 1, 1) := by decide +kernel
theorem dX4_pop_67 : decode cX4_pop 67 = .ok (.isub, 1) := by decide +kernel
theorem dX4_pop_68 : decode cX4_pop 68 = .ok (.putfield 24, 3) := by decide +kernel
theorem dX4_pop_71 : decode cX4_pop 71 = .ok (.iconst 1, 1) := by decide +kernel
theorem dX4_pop_72 : decode cX4_pop 72 = .ok (.ireturn, 1) := by decide +kernel
theorem dX5_init_0 : decode cX5_init 0 = .ok (.aload_n 0, 1) := by decide +kernel
theorem dX5_init_1 : decode cX5_init 1 = .ok (.invokespecial 3, 3) := by decide +kernel
theorem dX5_init_4 : decode cX5_init 4 = .ok (.aload_n 0, 1) := by decide +kernel
theorem dX5_init_5 : decode cX5_init 5 = .ok (.bipush 10, 2) := by decide +kernel
theorem dX5_init_7 : decode cX5_init 7 = .ok (.newarray .int, 2) := by decide +kernel
theorem dX5_init_9 : decode cX5_init 9 = .ok (.putfield 11, 3) := by decide +kernel
theorem dX5_init_12 : decode cX5_init 12 = .ok (.aload_n 0, 1) := by decide +kernel
theorem dX5_init_13 : decode cX5_init 13 = .ok (.bipush 10, 2) := by decide +kernel
theorem dX5_init_15 : decode cX5_init 15 = .ok (.newarray .int, 2) := by decide +kernel
theorem dX5_init_17 : decode cX5_init 17 = .ok (.putfield 15, 3) := by decide +kernel
theorem dX5_init_20 : decode cX5_init 20 = .ok (.aload_n 0, 1) := by decide +kernel
theorem dX5_init_21 : decode cX5_init 21 = .ok (.bipush 10, 2) := by decide +kernel
theorem dX5_init_23 : decode cX5_init 23 = .ok (.newarray .int, 2) := by decide +kernel
theorem dX5_init_25 : decode cX5_init 25 = .ok (.putfield 18, 3) := by decide +kernel
theorem dX5_init_28 : decode cX5_init 28 = .ok (.return_, 1) := by decide +kernel
theorem dX5_farthest_0 : decode cX5_farthest 0 = .ok (.iload_n 0, 1) := by decide +kernel
theorem dX5_farthest_1 : decode cX5_farthest 1 = .ok (.iconst 5, 1) := by decide +kernel
theorem dX5_farthest_2 : decode cX5_farthest 2 = .ok (.idiv, 1) := by decide +kernel
theorem dX5_farthest_3 : decode cX5_farthest 3 = .ok (.ireturn, 1) := by decide +kernel
theorem dX5_fewest_0 : decode cX5_fewest 0 = .ok (.iload_n 0, 1) := by decide +kernel
theorem dX5_fewest_1 : decode cX5_fewest 1 = .ok (.iconst 5, 1) := by decide +kernel
theorem dX5_fewest_2 : decode cX5_fewest 2 = .ok (.irem, 1) := by decide +kernel
theorem dX5_fewest_3 : decode cX5_fewest 3 = .ok (.ireturn, 1) := by decide +kernel
theorem dX5_see_0 : decode cX5_see 0 = .ok (.iload_n 1, 1) := by decide +kernel
theorem dX5_see_1 : decode cX5_see 1 = .ok (.ifCond .lt 36, 3) := by decide +kernel
theorem dX5_see_4 : decode cX5_see 4 = .ok (.iload_n 1, 1) := by decide +kernel
theorem dX5_see_5 : decode cX5_see 5 = .ok (.bipush 9, 2) := by decide +kernel
theorem dX5_see_7 : decode cX5_see 7 = .ok (.if_icmp .gt 30, 3) := by decide +kernel
theorem dX5_see_10 : decode cX5_see 10 = .ok (.iload_n 2, 1) := by decide +kernel
theorem dX5_see_11 : decode cX5_see 11 = .ok (.ifCond .lt 26, 3) := by decide +kernel
theorem dX5_see_14 : decode cX5_see 14 = .ok (.iload_n 2, 1) := by decide +kernel
theorem dX5_see_15 : decode cX5_see 15 = .ok (.iconst 4, 1) := by decide +kernel
theorem dX5_see_16 : decode cX5_see 16 = .ok (.if_icmp .gt 21, 3) := by decide +kernel
theorem dX5_see_19 : decode cX5_see 19 = .ok (.iload_n 3, 1) := by decide +kernel
theorem dX5_see_20 : decode cX5_see 20 = .ok (.ifCond .lt 17, 3) := by decide +kernel
theorem dX5_see_23 : decode cX5_see 23 = .ok (.iload_n 3, 1) := by decide +kernel
theorem dX5_see_24 : decode cX5_see 24 = .ok (.iconst 1, 1) := by decide +kernel
theorem dX5_see_25 : decode cX5_see 25 = .ok (.if_icmp .gt 12, 3) := by decide +kernel
theorem dX5_see_28 : decode cX5_see 28 = .ok (.aload_n 0, 1) := by decide +kernel
theorem dX5_see_29 : decode cX5_see 29 = .ok (.getfield 21, 3) := by decide +kernel
theorem dX5_see_32 : decode cX5_see 32 = .ok (.bipush 10, 2) := by decide +kernel
theorem dX5_see_34 : decode cX5_see 34 = .ok (.if_icmp .lt 5, 3) := by decide +kernel
theorem dX5_see_37 : decode cX5_see 37 = .ok (.iconst 0, 1) := by decide +kernel
theorem dX5_see_38 : decode cX5_see 38 = .ok (.ireturn, 1) := by decide +kernel
theorem dX5_see_39 : decode cX5_see 39 = .ok (.aload_n 0, 1) := by decide +kernel
theorem dX5_see_40 : decode cX5_see 40 = .ok (.getfield 11, 3) := by decide +kernel
theorem dX5_see_43 : decode cX5_see 43 = .ok (.aload_n 0, 1) := by decide +kernel
theorem dX5_see_44 : decode cX5_see 44 = .ok (.getfield 21, 3) := by decide +kernel
theorem dX5_see_47 : decode cX5_see 47 = .ok (.iload_n 1, 1) := by decide +kernel
theorem dX5_see_48 : decode cX5_see 48 = .ok (.iastore, 1) := by decide +kernel
theorem dX5_see_49 : decode cX5_see 49 = .ok (.aload_n 0, 1) := by decide +kernel
theorem dX5_see_50 : decode cX5_see 50 = .ok (.getfield 15, 3) := by decide +kernel
theorem dX5_see_53 : decode cX5_see 53 = .ok (.aload_n 0, 1) := by decide +kernel
theorem dX5_see_54 : decode cX5_see 54 = .ok (.getfield 21, 3) := by decide +kernel
theorem dX5_see_57 : decode cX5_see 57 = .ok (.iload_n 2, 1) := by decide +kernel
theorem dX5_see_58 : decode cX5_see 58 = .ok (.iastore, 1) := by decide +kernel
theorem dX5_see_59 : decode cX5_see 59 = .ok (.aload_n 0, 1) := by decide +kernel
theorem dX5_see_60 : decode cX5_see 60 = .ok (.getfield 18, 3) := by decide +kernel
theorem dX5_see_63 : decode cX5_see 63 = .ok (.aload_n 0, 1) := by decide +kernel
theorem dX5_see_64 : decode cX5_see 64 = .ok (.getfield 21, 3) := by decide +kernel
theorem dX5_see_67 : decode cX5_see 67 = .ok (.iload_n 3, 1) := by decide +kernel
theorem dX5_see_68 : decode cX5_see 68 = .ok (.iastore, 1) := by decide +kernel
theorem dX5_see_69 : decode cX5_see 69 = .ok (.aload_n 0, 1) := by decide +kernel
theorem dX5_see_70 : decode cX5_see 70 = .ok (.dup, 1) := by decide +kernel
theorem dX5_see_71 : decode cX5_see 71 = .ok (.getfield 21, 3) := by decide +kernel
theorem dX5_see_74 : decode cX5_see 74 = .ok (.iconst 1, 1) := by decide +kernel
theorem dX5_see_75 : decode cX5_see 75 = .ok (.iadd, 1) := by decide +kernel
theorem dX5_see_76 : decode cX5_see 76 = .ok (.putfield 21, 3) := by decide +kernel
theorem dX5_see_79 : decode cX5_see 79 = .ok (.iconst 1, 1) := by decide +kernel
theorem dX5_see_80 : decode cX5_see 80 = .ok (.ireturn, 1) := by decide +kernel
theorem dX5_fitting_0 : decode cX5_fitting 0 = .ok (.ldc2_w 25, 3) := by decide +kernel
theorem dX5_fitting_3 : decode cX5_fitting 3 = .ok (.lstore_n 1, 1) := by decide +kernel
theorem dX5_fitting_4 : decode cX5_fitting 4 = .ok (.lload_n 1, 1) := by decide +kernel
theorem dX5_fitting_5 : decode cX5_fitting 5 = .ok (.lstore_n 3, 1) := by decide +kernel
theorem dX5_fitting_6 : decode cX5_fitting 6 = .ok (.iconst 0, 1) := by decide +kernel
theorem dX5_fitting_7 : decode cX5_fitting 7 = .ok (.istore 5, 2) := by decide +kernel
theorem dX5_fitting_9 : decode cX5_fitting 9 = .ok (.iload 5, 2) := by decide +kernel
theorem dX5_fitting_11 : decode cX5_fitting 11 = .ok (.aload_n 0, 1) := by decide +kernel
theorem dX5_fitting_12 : decode cX5_fitting 12 = .ok (.getfield 21, 3) := by decide +kernel
theorem dX5_fitting_15 : decode cX5_fitting 15 = .ok (.if_icmp .ge 62, 3) := by decide +kernel
theorem dX5_fitting_18 : decode cX5_fitting 18 = .ok (.iload 5, 2) := by decide +kernel
theorem dX5_fitting_20 : decode cX5_fitting 20 = .ok (.bipush 10, 2) := by decide +kernel
theorem dX5_fitting_22 : decode cX5_fitting 22 = .ok (.if_icmp .ge 55, 3) := by decide +kernel
theorem dX5_fitting_25 : decode cX5_fitting 25 = .ok (.aload_n 0, 1) := by decide +kernel
theorem dX5_fitting_26 : decode cX5_fitting 26 = .ok (.getfield 11, 3) := by decide +kernel
theorem dX5_fitting_29 : decode cX5_fitting 29 = .ok (.iload 5, 2) := by decide +kernel
theorem dX5_fitting_31 : decode cX5_fitting 31 = .ok (.iaload, 1) := by decide +kernel
theorem dX5_fitting_32 : decode cX5_fitting 32 = .ok (.aload_n 0, 1) := by decide +kernel
theorem dX5_fitting_33 : decode cX5_fitting 33 = .ok (.getfield 15, 3) := by decide +kernel
theorem dX5_fitting_36 : decode cX5_fitting 36 = .ok (.iload 5, 2) := by decide +kernel
theorem dX5_fitting_38 : decode cX5_fitting 38 = .ok (.iaload, 1) := by decide +kernel
theorem dX5_fitting_39 : decode cX5_fitting 39 = .ok (.invokestatic 27, 3) := by decide +kernel
theorem dX5_fitting_42 : decode cX5_fitting 42 = .ok (.lstore 6, 2) := by decide +kernel
theorem dX5_fitting_44 : decode cX5_fitting 44 = .ok (.lload_n 3, 1) := by decide +kernel
theorem dX5_fitting_45 : decode cX5_fitting 45 = .ok (.aload_n 0, 1) := by decide +kernel
theorem dX5_fitting_46 : decode cX5_fitting 46 = .ok (.getfield 18, 3) := by decide +kernel
theorem dX5_fitting_49 : decode cX5_fitting 49 = .ok (.iload 5, 2) := by decide +kernel
theorem dX5_fitting_51 : decode cX5_fitting 51 = .ok (.iaload, 1) := by decide +kernel
theorem dX5_fitting_52 : decode cX5_fitting 52 = .ok (.iconst 1, 1) := by decide +kernel
theorem dX5_fitting_53 : decode cX5_fitting 53 = .ok (.if_icmp .ne 8, 3) := by decide +kernel
theorem dX5_fitting_56 : decode cX5_fitting 56 = .ok (.lload 6, 2) := by decide +kernel
theorem dX5_fitting_58 : decode cX5_fitting 58 = .ok (.goto 11, 3) := by decide +kernel
theorem dX5_fitting_61 : decode cX5_fitting 61 = .ok (.lload_n 1, 1) := by decide +kernel
theorem dX5_fitting_62 : decode cX5_fitting 62 = .ok (.lload 6, 2) := by decide +kernel
theorem dX5_fitting_64 : decode cX5_fitting 64 = .ok (.ldc2_w 31, 3) := by decide +kernel
theorem dX5_fitting_67 : decode cX5_fitting 67 = .ok (.lxor, 1) := by decide +kernel
theorem dX5_fitting_68 : decode cX5_fitting 68 = .ok (.land, 1) := by decide +kernel
theorem dX5_fitting_69 : decode cX5_fitting 69 = .ok (.land, 1) := by decide +kernel
theorem dX5_fitting_70 : decode cX5_fitting 70 = .ok (.lstore_n 3, 1) := by decide +kernel
theorem dX5_fitting_71 : decode cX5_fitting 71 = .ok (.iinc 5 1, 3) := by decide +kernel
theorem dX5_fitting_74 : decode cX5_fitting 74 = .ok (.goto (-65), 3) := by decide +kernel
theorem dX5_fitting_77 : decode cX5_fitting 77 = .ok (.lload_n 3, 1) := by decide +kernel
theorem dX5_fitting_78 : decode cX5_fitting 78 = .ok (.lreturn, 1) := by decide +kernel
theorem dX5_bringing_0 : decode cX5_bringing 0 = .ok (.lconst 0, 1) := by decide +kernel
theorem dX5_bringing_1 : decode cX5_bringing 1 = .ok (.lstore_n 2, 1) := by decide +kernel
theorem dX5_bringing_2 : decode cX5_bringing 2 = .ok (.iconst 0, 1) := by decide +kernel
theorem dX5_bringing_3 : decode cX5_bringing 3 = .ok (.istore 4, 2) := by decide +kernel
theorem dX5_bringing_5 : decode cX5_bringing 5 = .ok (.iload 4, 2) := by decide +kernel
theorem dX5_bringing_7 : decode cX5_bringing 7 = .ok (.bipush 35, 2) := by decide +kernel
theorem dX5_bringing_9 : decode cX5_bringing 9 = .ok (.if_icmp .ge 34, 3) := by decide +kernel
theorem dX5_bringing_12 : decode cX5_bringing 12 = .ok (.iload_n 0, 1) := by decide +kernel
theorem dX5_bringing_13 : decode cX5_bringing 13 = .ok (.iload 4, 2) := by decide +kernel
theorem dX5_bringing_15 : decode cX5_bringing 15 = .ok (.invokestatic 33, 3) := by decide +kernel
theorem dX5_bringing_18 : decode cX5_bringing 18 = .ok (.if_icmp .gt 19, 3) := by decide +kernel
theorem dX5_bringing_21 : decode cX5_bringing 21 = .ok (.iload_n 1, 1) := by decide +kernel
theorem dX5_bringing_22 : decode cX5_bringing 22 = .ok (.iload 4, 2) := by decide +kernel
theorem dX5_bringing_24 : decode cX5_bringing 24 = .ok (.invokestatic 37, 3) := by decide +kernel
theorem dX5_bringing_27 : decode cX5_bringing 27 = .ok (.if_icmp .lt 10, 3) := by decide +kernel
theorem dX5_bringing_30 : decode cX5_bringing 30 = .ok (.lload_n 2, 1) := by decide +kernel
theorem dX5_bringing_31 : decode cX5_bringing 31 = .ok (.lconst 1, 1) := by decide +kernel
theorem dX5_bringing_32 : decode cX5_bringing 32 = .ok (.iload 4, 2) := by decide +kernel
theorem dX5_bringing_34 : decode cX5_bringing 34 = .ok (.lshl, 1) := by decide +kernel
theorem dX5_bringing_35 : decode cX5_bringing 35 = .ok (.lor, 1) := by decide +kernel
theorem dX5_bringing_36 : decode cX5_bringing 36 = .ok (.lstore_n 2, 1) := by decide +kernel
theorem dX5_bringing_37 : decode cX5_bringing 37 = .ok (.iinc 4 1, 3) := by decide +kernel
theorem dX5_bringing_40 : decode cX5_bringing 40 = .ok (.goto (-35), 3) := by decide +kernel
theorem dX5_bringing_43 : decode cX5_bringing 43 = .ok (.lload_n 2, 1) := by decide +kernel
theorem dX5_bringing_44 : decode cX5_bringing 44 = .ok (.lreturn, 1) := by decide +kernel
theorem dX5_bestLook_0 : decode cX5_bestLook 0 = .ok (.aload_n 0, 1) := by decide +kernel
theorem dX5_bestLook_1 : decode cX5_bestLook 1 = .ok (.invokevirtual 40, 3) := by decide +kernel
theorem dX5_bestLook_4 : decode cX5_bestLook 4 = .ok (.lstore_n 1, 1) := by decide +kernel
theorem dX5_bestLook_5 : decode cX5_bestLook 5 = .ok (.iconst (-1), 1) := by decide +kernel
theorem dX5_bestLook_6 : decode cX5_bestLook 6 = .ok (.istore_n 3, 1) := by decide +kernel
theorem dX5_bestLook_7 : decode cX5_bestLook 7 = .ok (.iconst 0, 1) := by decide +kernel
theorem dX5_bestLook_8 : decode cX5_bestLook 8 = .ok (.istore 4, 2) := by decide +kernel
theorem dX5_bestLook_10 : decode cX5_bestLook 10 = .ok (.iload 4, 2) := by decide +kernel
theorem dX5_bestLook_12 : decode cX5_bestLook 12 = .ok (.bipush 9, 2) := by decide +kernel
theorem dX5_bestLook_14 : decode cX5_bestLook 14 = .ok (.if_icmp .gt 87, 3) := by decide +kernel
theorem dX5_bestLook_17 : decode cX5_bestLook 17 = .ok (.lload_n 1, 1) := by decide +kernel
theorem dX5_bestLook_18 : decode cX5_bestLook 18 = .ok (.lconst 0, 1) := by decide +kernel
theorem dX5_bestLook_19 : decode cX5_bestLook 19 = .ok (.lcmp, 1) := by decide +kernel
theorem dX5_bestLook_20 : decode cX5_bestLook 20 = .ok (.ifCond .eq 81, 3) := by decide +kernel
theorem dX5_bestLook_23 : decode cX5_bestLook 23 = .ok (.iconst 0, 1) := by decide +kernel
theorem dX5_bestLook_24 : decode cX5_bestLook 24 = .ok (.istore 5, 2) := by decide +kernel
theorem dX5_bestLook_26 : decode cX5_bestLook 26 = .ok (.iload 5, 2) := by decide +kernel
theorem dX5_bestLook_28 : decode cX5_bestLook 28 = .ok (.iconst 4, 1) := by decide +kernel
theorem dX5_bestLook_29 : decode cX5_bestLook 29 = .ok (.if_icmp .gt 66, 3) := by decide +kernel
theorem dX5_bestLook_32 : decode cX5_bestLook 32 = .ok (.lload_n 1, 1) := by decide +kernel
theorem dX5_bestLook_33 : decode cX5_bestLook 33 = .ok (.iload 4, 2) := by decide +kernel
theorem dX5_bestLook_35 : decode cX5_bestLook 35 = .ok (.iload 5, 2) := by decide +kernel
theorem dX5_bestLook_37 : decode cX5_bestLook 37 = .ok (.invokestatic 27, 3) := by decide +kernel
theorem dX5_bestLook_40 : decode cX5_bestLook 40 = .ok (.land, 1) := by decide +kernel
theorem dX5_bestLook_41 : decode cX5_bestLook 41 = .ok (.invokestatic 44, 3) := by decide +kernel
theorem dX5_bestLook_44 : decode cX5_bestLook 44 = .ok (.istore 6, 2) := by decide +kernel
theorem dX5_bestLook_46 : decode cX5_bestLook 46 = .ok (.iload 6, 2) := by decide +kernel
theorem dX5_bestLook_48 : decode cX5_bestLook 48 = .ok (.lload_n 1, 1) := by decide +kernel
theorem dX5_bestLook_49 : decode cX5_bestLook 49 = .ok (.invokestatic 44, 3) := by decide +kernel
theorem dX5_bestLook_52 : decode cX5_bestLook 52 = .ok (.iload 6, 2) := by decide +kernel
theorem dX5_bestLook_54 : decode cX5_bestLook 54 = .ok (.isub, 1) := by decide +kernel
theorem dX5_bestLook_55 : decode cX5_bestLook 55 = .ok (.invokestatic 50, 3) := by decide +kernel
theorem dX5_bestLook_58 : decode cX5_bestLook 58 = .ok (.istore 7, 2) := by decide +kernel
theorem dX5_bestLook_60 : decode cX5_bestLook 60 = .ok (.iload_n 3, 1) := by decide +kernel
theorem dX5_bestLook_61 : decode cX5_bestLook 61 = .ok (.iconst (-1), 1) := by decide +kernel
theorem dX5_bestLook_62 : decode cX5_bestLook 62 = .ok (.if_icmp .eq 12, 3) := by decide +kernel
theorem dX5_bestLook_65 : decode cX5_bestLook 65 = .ok (.iload 7, 2) := by decide +kernel
theorem dX5_bestLook_67 : decode cX5_bestLook 67 = .ok (.aload_n 0, 1) := by decide +kernel
theorem dX5_bestLook_68 : decode cX5_bestLook 68 = .ok (.getfield 56, 3) := by decide +kernel
theorem dX5_bestLook_71 : decode cX5_bestLook 71 = .ok (.if_icmp .ge 18, 3) := by decide +kernel
theorem dX5_bestLook_74 : decode cX5_bestLook 74 = .ok (.bipush 10, 2) := by decide +kernel
theorem dX5_bestLook_76 : decode cX5_bestLook 76 = .ok (.iload 4, 2) := by decide +kernel
theorem dX5_bestLook_78 : decode cX5_bestLook 78 = .ok (.imul, 1) := by decide +kernel
theorem dX5_bestLook_79 : decode cX5_bestLook 79 = .ok (.iload 5, 2) := by decide +kernel
theorem dX5_bestLook_81 : decode cX5_bestLook 81 = .ok (.iadd, 1) := by decide +kernel
theorem dX5_bestLook_82 : decode cX5_bestLook 82 = .ok (.istore_n 3, 1) := by decide +kernel
theorem dX5_bestLook_83 : decode cX5_bestLook 83 = .ok (.aload_n 0, 1) := by decide +kernel
theorem dX5_bestLook_84 : decode cX5_bestLook 84 = .ok (.iload 7, 2) := by decide +kernel
theorem dX5_bestLook_86 : decode cX5_bestLook 86 = .ok (.putfield 56, 3) := by decide +kernel
theorem dX5_bestLook_89 : decode cX5_bestLook 89 = .ok (.iinc 5 1, 3) := by decide +kernel
theorem dX5_bestLook_92 : decode cX5_bestLook 92 = .ok (.goto (-66), 3) := by decide +kernel
theorem dX5_bestLook_95 : decode cX5_bestLook 95 = .ok (.iinc 4 1, 3) := by decide +kernel
theorem dX5_bestLook_98 : decode cX5_bestLook 98 = .ok (.goto (-88), 3) := by decide +kernel
theorem dX5_bestLook_101 : decode cX5_bestLook 101 = .ok (.iload_n 3, 1) := by decide +kernel
theorem dX5_bestLook_102 : decode cX5_bestLook 102 = .ok (.ireturn, 1) := by decide +kernel
theorem dX6_init_0 : decode cX6_init 0 = .ok (.aload_n 0, 1) := by decide +kernel
theorem dX6_init_1 : decode cX6_init 1 = .ok (.invokespecial 3, 3) := by decide +kernel
theorem dX6_init_4 : decode cX6_init 4 = .ok (.return_, 1) := by decide +kernel
theorem dX6_walk_0 : decode cX6_walk 0 = .ok (.aload_n 0, 1) := by decide +kernel
theorem dX6_walk_1 : decode cX6_walk 1 = .ok (.iconst 0, 1) := by decide +kernel
theorem dX6_walk_2 : decode cX6_walk 2 = .ok (.putfield 9, 3) := by decide +kernel
theorem dX6_walk_5 : decode cX6_walk 5 = .ok (.aload_n 0, 1) := by decide +kernel
theorem dX6_walk_6 : decode cX6_walk 6 = .ok (.iconst (-1), 1) := by decide +kernel
theorem dX6_walk_7 : decode cX6_walk 7 = .ok (.putfield 15, 3) := by decide +kernel
theorem dX6_walk_10 : decode cX6_walk 10 = .ok (.iconst 0, 1) := by decide +kernel
theorem dX6_walk_11 : decode cX6_walk 11 = .ok (.istore 4, 2) := by decide +kernel
theorem dX6_walk_13 : decode cX6_walk 13 = .ok (.iload 4, 2) := by decide +kernel
theorem dX6_walk_15 : decode cX6_walk 15 = .ok (.bipush 12, 2) := by decide +kernel
theorem dX6_walk_17 : decode cX6_walk 17 = .ok (.if_icmp .ge 73, 3) := by decide +kernel
theorem dX6_walk_20 : decode cX6_walk 20 = .ok (.aload_n 2, 1) := by decide +kernel
theorem dX6_walk_21 : decode cX6_walk 21 = .ok (.iload_n 3, 1) := by decide +kernel
theorem dX6_walk_22 : decode cX6_walk 22 = .ok (.iload 4, 2) := by decide +kernel
theorem dX6_walk_24 : decode cX6_walk 24 = .ok (.iadd, 1) := by decide +kernel
theorem dX6_walk_25 : decode cX6_walk 25 = .ok (.invokevirtual 18, 3) := by decide +kernel
theorem dX6_walk_28 : decode cX6_walk 28 = .ok (.istore 5, 2) := by decide +kernel
theorem dX6_walk_30 : decode cX6_walk 30 = .ok (.iload 5, 2) := by decide +kernel
theorem dX6_walk_32 : decode cX6_walk 32 = .ok (.iconst (-1), 1) := by decide +kernel
theorem dX6_walk_33 : decode cX6_walk 33 = .ok (.if_icmp .ne 8, 3) := by decide +kernel
theorem dX6_walk_36 : decode cX6_walk 36 = .ok (.iload_n 3, 1) := by decide +kernel
theorem dX6_walk_37 : decode cX6_walk 37 = .ok (.iload 4, 2) := by decide +kernel
theorem dX6_walk_39 : decode cX6_walk 39 = .ok (.iadd, 1) := by decide +kernel
theorem dX6_walk_40 : decode cX6_walk 40 = .ok (.ireturn, 1) := by decide +kernel
theorem dX6_walk_41 : decode cX6_walk 41 = .ok (.iload 4, 2) := by decide +kernel
theorem dX6_walk_43 : decode cX6_walk 43 = .ok (.ifCond .le 35, 3) := by decide +kernel
theorem dX6_walk_46 : decode cX6_walk 46 = .ok (.aload_n 1, 1) := by decide +kernel
theorem dX6_walk_47 : decode cX6_walk 47 = .ok (.aload_n 0, 1) := by decide +kernel
theorem dX6_walk_48 : decode cX6_walk 48 = .ok (.getfield 9, 3) := by decide +kernel
theorem dX6_walk_51 : decode cX6_walk 51 = .ok (.aload_n 0, 1) := by decide +kernel
theorem dX6_walk_52 : decode cX6_walk 52 = .ok (.getfield 15, 3) := by decide +kernel
theorem dX6_walk_55 : decode cX6_walk 55 = .ok (.invokevirtual 24, 3) := by decide +kernel
theorem dX6_walk_58 : decode cX6_walk 58 = .ok (.istore 6, 2) := by decide +kernel
theorem dX6_walk_60 : decode cX6_walk 60 = .ok (.iload 6, 2) := by decide +kernel
theorem dX6_walk_62 : decode cX6_walk 62 = .ok (.bipush 24, 2) := by decide +kernel
theorem dX6_walk_64 : decode cX6_walk 64 = .ok (.if_icmp .ne 8, 3) := by decide +kernel
theorem dX6_walk_67 : decode cX6_walk 67 = .ok (.iload_n 3, 1) := by decide +kernel
theorem dX6_walk_68 : decode cX6_walk 68 = .ok (.iload 4, 2) := by decide +kernel
theorem dX6_walk_70 : decode cX6_walk 70 = .ok (.iadd, 1) := by decide +kernel
theorem dX6_walk_71 : decode cX6_walk 71 = .ok (.ireturn, 1) := by decide +kernel
theorem dX6_walk_72 : decode cX6_walk 72 = .ok (.aload_n 0, 1) := by decide +kernel
theorem dX6_walk_73 : decode cX6_walk 73 = .ok (.iload 6, 2) := by decide +kernel
theorem dX6_walk_75 : decode cX6_walk 75 = .ok (.putfield 9, 3) := by decide +kernel
theorem dX6_walk_78 : decode cX6_walk 78 = .ok (.aload_n 0, 1) := by decide +kernel
theorem dX6_walk_79 : decode cX6_walk 79 = .ok (.iload 5, 2) := by decide +kernel
theorem dX6_walk_81 : decode cX6_walk 81 = .ok (.putfield 15, 3) := by decide +kernel
theorem dX6_walk_84 : decode cX6_walk 84 = .ok (.iinc 4 1, 3) := by decide +kernel
theorem dX6_walk_87 : decode cX6_walk 87 = .ok (.goto (-74), 3) := by decide +kernel
theorem dX6_walk_90 : decode cX6_walk 90 = .ok (.iload_n 3, 1) := by decide +kernel
theorem dX6_walk_91 : decode cX6_walk 91 = .ok (.bipush 12, 2) := by decide +kernel
theorem dX6_walk_93 : decode cX6_walk 93 = .ok (.iadd, 1) := by decide +kernel
theorem dX6_walk_94 : decode cX6_walk 94 = .ok (.ireturn, 1) := by decide +kernel
theorem dX7_init_0 : decode cX7_init 0 = .ok (.aload_n 0, 1) := by decide +kernel
theorem dX7_init_1 : decode cX7_init 1 = .ok (.invokespecial 3, 3) := by decide +kernel
theorem dX7_init_4 : decode cX7_init 4 = .ok (.aload_n 0, 1) := by decide +kernel
theorem dX7_init_5 : decode cX7_init 5 = .ok (.bipush 24, 2) := by decide +kernel
theorem dX7_init_7 : decode cX7_init 7 = .ok (.newarray .long, 2) := by decide +kernel
theorem dX7_init_9 : decode cX7_init 9 = .ok (.putfield 9, 3) := by decide +kernel
theorem dX7_init_12 : decode cX7_init 12 = .ok (.return_, 1) := by decide +kernel
theorem dX7_clear_0 : decode cX7_clear 0 = .ok (.aload_n 0, 1) := by decide +kernel
theorem dX7_clear_1 : decode cX7_clear 1 = .ok (.iconst 0, 1) := by decide +kernel
theorem dX7_clear_2 : decode cX7_clear 2 = .ok (.putfield 15, 3) := by decide +kernel
theorem dX7_clear_5 : decode cX7_clear 5 = .ok (.return_, 1) := by decide +kernel
theorem dX7_add_0 : decode cX7_add 0 = .ok (.aload_n 0, 1) := by decide +kernel
theorem dX7_add_1 : decode cX7_add 1 = .ok (.getfield 15, 3) := by decide +kernel
theorem dX7_add_4 : decode cX7_add 4 = .ok (.bipush 24, 2) := by decide +kernel
theorem dX7_add_6 : decode cX7_add 6 = .ok (.if_icmp .ge 23, 3) := by decide +kernel
theorem dX7_add_9 : decode cX7_add 9 = .ok (.aload_n 0, 1) := by decide +kernel
theorem dX7_add_10 : decode cX7_add 10 = .ok (.getfield 9, 3) := by decide +kernel
theorem dX7_add_13 : decode cX7_add 13 = .ok (.aload_n 0, 1) := by decide +kernel
theorem dX7_add_14 : decode cX7_add 14 = .ok (.getfield 15, 3) := by decide +kernel
theorem dX7_add_17 : decode cX7_add 17 = .ok (.lload_n 1, 1) := by decide +kernel
theorem dX7_add_18 : decode cX7_add 18 = .ok (.lastore, 1) := by decide +kernel
theorem dX7_add_19 : decode cX7_add 19 = .ok (.aload_n 0, 1) := by decide +kernel
theorem dX7_add_20 : decode cX7_add 20 = .ok (.dup, 1) := by decide +kernel
theorem dX7_add_21 : decode cX7_add 21 = .ok (.getfield 15, 3) := by decide +kernel
theorem dX7_add_24 : decode cX7_add 24 = .ok (.iconst 1, 1) := by decide +kernel
theorem dX7_add_25 : decode cX7_add 25 = .ok (.iadd, 1) := by decide +kernel
theorem dX7_add_26 : decode cX7_add 26 = .ok (.putfield 15, 3) := by decide +kernel
theorem dX7_add_29 : decode cX7_add 29 = .ok (.return_, 1) := by decide +kernel
theorem dX7_drop_0 : decode cX7_drop 0 = .ok (.aload_n 0, 1) := by decide +kernel
theorem dX7_drop_1 : decode cX7_drop 1 = .ok (.getfield 15, 3) := by decide +kernel
theorem dX7_drop_4 : decode cX7_drop 4 = .ok (.ifCond .le 13, 3) := by decide +kernel
theorem dX7_drop_7 : decode cX7_drop 7 = .ok (.aload_n 0, 1) := by decide +kernel
theorem dX7_drop_8 : decode cX7_drop 8 = .ok (.dup, 1) := by decide +kernel
theorem dX7_drop_9 : decode cX7_drop 9 = .ok (.getfield 15, 3) := by decide +kernel
theorem dX7_drop_12 : decode cX7_drop 12 = .ok (.iconst 1, 1) := by decide +kernel
theorem dX7_drop_13 : decode cX7_drop 13 = .ok (.isub, 1) := by decide +kernel
theorem dX7_drop_14 : decode cX7_drop 14 = .ok (.putfield 15, 3) := by decide +kernel
theorem dX7_drop_17 : decode cX7_drop 17 = .ok (.return_, 1) := by decide +kernel
theorem dX7_tell_0 : decode cX7_tell 0 = .ok (.aload_n 0, 1) := by decide +kernel
theorem dX7_tell_1 : decode cX7_tell 1 = .ok (.invokevirtual 19, 3) := by decide +kernel
theorem dX7_tell_4 : decode cX7_tell 4 = .ok (.aload_n 0, 1) := by decide +kernel
theorem dX7_tell_5 : decode cX7_tell 5 = .ok (.lload_n 1, 1) := by decide +kernel
theorem dX7_tell_6 : decode cX7_tell 6 = .ok (.invokevirtual 22, 3) := by decide +kernel
theorem dX7_tell_9 : decode cX7_tell 9 = .ok (.return_, 1) := by decide +kernel
theorem dX7_tellTwo_0 : decode cX7_tellTwo 0 = .ok (.aload_n 0, 1) := by decide +kernel
theorem dX7_tellTwo_1 : decode cX7_tellTwo 1 = .ok (.invokevirtual 19, 3) := by decide +kernel
theorem dX7_tellTwo_4 : decode cX7_tellTwo 4 = .ok (.aload_n 0, 1) := by decide +kernel
theorem dX7_tellTwo_5 : decode cX7_tellTwo 5 = .ok (.lload_n 1, 1) := by decide +kernel
theorem dX7_tellTwo_6 : decode cX7_tellTwo 6 = .ok (.invokevirtual 22, 3) := by decide +kernel
theorem dX7_tellTwo_9 : decode cX7_tellTwo 9 = .ok (.aload_n 0, 1) := by decide +kernel
theorem dX7_tellTwo_10 : decode cX7_tellTwo 10 = .ok (.lload_n 3, 1) := by decide +kernel
theorem dX7_tellTwo_11 : decode cX7_tellTwo 11 = .ok (.invokevirtual 22, 3) := by decide +kernel
theorem dX7_tellTwo_14 : decode cX7_tellTwo 14 = .ok (.return_, 1) := by decide +kernel
theorem dX7_turn_0 : decode cX7_turn 0 = .ok (.iconst 0, 1) := by decide +kernel
theorem dX7_turn_1 : decode cX7_turn 1 = .ok (.istore_n 1, 1) := by decide +kernel
theorem dX7_turn_2 : decode cX7_turn 2 = .ok (.iload_n 1, 1) := by decide +kernel
theorem dX7_turn_3 : decode cX7_turn 3 = .ok (.aload_n 0, 1) := by decide +kernel
theorem dX7_turn_4 : decode cX7_turn 4 = .ok (.getfield 15, 3) := by decide +kernel
theorem dX7_turn_7 : decode cX7_turn 7 = .ok (.iconst 2, 1) := by decide +kernel
theorem dX7_turn_8 : decode cX7_turn 8 = .ok (.idiv, 1) := by decide +kernel
theorem dX7_turn_9 : decode cX7_turn 9 = .ok (.if_icmp .ge 49, 3) := by decide +kernel
theorem dX7_turn_12 : decode cX7_turn 12 = .ok (.aload_n 0, 1) := by decide +kernel
theorem dX7_turn_13 : decode cX7_turn 13 = .ok (.getfield 9, 3) := by decide +kernel
theorem dX7_turn_16 : decode cX7_turn 16 = .ok (.iload_n 1, 1) := by decide +kernel
theorem dX7_turn_17 : decode cX7_turn 17 = .ok (.laload, 1) := by decide +kernel
theorem dX7_turn_18 : decode cX7_turn 18 = .ok (.lstore_n 2, 1) := by decide +kernel
theorem dX7_turn_19 : decode cX7_turn 19 = .ok (.aload_n 0, 1) := by decide +kernel
theorem dX7_turn_20 : decode cX7_turn 20 = .ok (.getfield 9, 3) := by decide +kernel
theorem dX7_turn_23 : decode cX7_turn 23 = .ok (.iload_n 1, 1) := by decide +kernel
theorem dX7_turn_24 : decode cX7_turn 24 = .ok (.aload_n 0, 1) := by decide +kernel
theorem dX7_turn_25 : decode cX7_turn 25 = .ok (.getfield 9, 3) := by decide +kernel
theorem dX7_turn_28 : decode cX7_turn 28 = .ok (.aload_n 0, 1) := by decide +kernel
theorem dX7_turn_29 : decode cX7_turn 29 = .ok (.getfield 15, 3) := by decide +kernel
theorem dX7_turn_32 : decode cX7_turn 32 = .ok (.iconst 1, 1) := by decide +kernel
theorem dX7_turn_33 : decode cX7_turn 33 = .ok (.isub, 1) := by decide +kernel
theorem dX7_turn_34 : decode cX7_turn 34 = .ok (.iload_n 1, 1) := by decide +kernel
theorem dX7_turn_35 : decode cX7_turn 35 = .ok (.isub, 1) := by decide +kernel
theorem dX7_turn_36 : decode cX7_turn 36 = .ok (.laload, 1) := by decide +kernel
theorem dX7_turn_37 : decode cX7_turn 37 = .ok (.lastore, 1) := by decide +kernel
theorem dX7_turn_38 : decode cX7_turn 38 = .ok (.aload_n 0, 1) := by decide +kernel
theorem dX7_turn_39 : decode cX7_turn 39 = .ok (.getfield 9, 3) := by decide +kernel
theorem dX7_turn_42 : decode cX7_turn 42 = .ok (.aload_n 0, 1) := by decide +kernel
theorem dX7_turn_43 : decode cX7_turn 43 = .ok (.getfield 15, 3) := by decide +kernel
theorem dX7_turn_46 : decode cX7_turn 46 = .ok (.iconst 1, 1) := by decide +kernel
theorem dX7_turn_47 : decode cX7_turn 47 = .ok (.isub, 1) := by decide +kernel
theorem dX7_turn_48 : decode cX7_turn 48 = .ok (.iload_n 1, 1) := by decide +kernel
theorem dX7_turn_49 : decode cX7_turn 49 = .ok (.isub, 1) := by decide +kernel
theorem dX7_turn_50 : decode cX7_turn 50 = .ok (.lload_n 2, 1) := by decide +kernel
theorem dX7_turn_51 : decode cX7_turn 51 = .ok (.lastore, 1) := by decide +kernel
theorem dX7_turn_52 : decode cX7_turn 52 = .ok (.iinc 1 1, 3) := by decide +kernel
theorem dX7_turn_55 : decode cX7_turn 55 = .ok (.goto (-53), 3) := by decide +kernel
theorem dX7_turn_58 : decode cX7_turn 58 = .ok (.return_, 1) := by decide +kernel
theorem dX7_numberAt_0 : decode cX7_numberAt 0 = .ok (.iload_n 1, 1) := by decide +kernel
theorem dX7_numberAt_1 : decode cX7_numberAt 1 = .ok (.ifCond .lt 20, 3) := by decide +kernel
theorem dX7_numberAt_4 : decode cX7_numberAt 4 = .ok (.iload_n 1, 1) := by decide +kernel
theorem dX7_numberAt_5 : decode cX7_numberAt 5 = .ok (.aload_n 0, 1) := by decide +kernel
theorem dX7_numberAt_6 : decode cX7_numberAt 6 = .ok (.getfield 15, 3) := by decide +kernel
theorem dX7_numberAt_9 : decode cX7_numberAt 9 = .ok (.if_icmp .ge 12, 3) := by decide +kernel
theorem dX7_numberAt_12 : decode cX7_numberAt 12 = .ok (.aload_n 0, 1) := by decide +kernel
theorem dX7_numberAt_13 : decode cX7_numberAt 13 = .ok (.getfield 9, 3) := by decide +kernel
theorem dX7_numberAt_16 : decode cX7_numberAt 16 = .ok (.iload_n 1, 1) := by decide +kernel
theorem dX7_numberAt_17 : decode cX7_numberAt 17 = .ok (.laload, 1) := by decide +kernel
theorem dX7_numberAt_18 : decode cX7_numberAt 18 = .ok (.goto 4, 3) := by decide +kernel
theorem dX7_numberAt_21 : decode cX7_numberAt 21 = .ok (.lconst 0, 1) := by decide +kernel
theorem dX7_numberAt_22 : decode cX7_numberAt 22 = .ok (.lreturn, 1) := by decide +kernel
theorem dX8_init_0 : decode cX8_init 0 = .ok (.aload_n 0, 1) := by decide +kernel
theorem dX8_init_1 : decode cX8_init 1 = .ok (.invokespecial 3, 3) := by decide +kernel
theorem dX8_init_4 : decode cX8_init 4 = .ok (.aload_n 0, 1) := by decide +kernel
theorem dX8_init_5 : decode cX8_init 5 = .ok (.bipush 40, 2) := by decide +kernel
theorem dX8_init_7 : decode cX8_init 7 = .ok (.newarray .int, 2) := by decide +kernel
theorem dX8_init_9 : decode cX8_init 9 = .ok (.putfield 11, 3) := by decide +kernel
theorem dX8_init_12 : decode cX8_init 12 = .ok (.aload_n 0, 1) := by decide +kernel
theorem dX8_init_13 : decode cX8_init 13 = .ok (.bipush 40, 2) := by decide +kernel
theorem dX8_init_15 : decode cX8_init 15 = .ok (.newarray .int, 2) := by decide +kernel
theorem dX8_init_17 : decode cX8_init 17 = .ok (.putfield 15, 3) := by decide +kernel
theorem dX8_init_20 : decode cX8_init 20 = .ok (.aload_n 0, 1) := by decide +kernel
theorem dX8_init_21 : decode cX8_init 21 = .ok (.bipush 7, 2) := by decide +kernel
theorem dX8_init_23 : decode cX8_init 23 = .ok (.newarray .int, 2) := by decide +kernel
theorem dX8_init_25 : decode cX8_init 25 = .ok (.putfield 18, 3) := by decide +kernel
theorem dX8_init_28 : decode cX8_init 28 = .ok (.aload_n 0, 1) := by decide +kernel
theorem dX8_init_29 : decode cX8_init 29 = .ok (.bipush 40, 2) := by decide +kernel
theorem dX8_init_31 : decode cX8_init 31 = .ok (.newarray .int, 2) := by decide +kernel
theorem dX8_init_33 : decode cX8_init 33 = .ok (.putfield 21, 3) := by decide +kernel
theorem dX8_init_36 : decode cX8_init 36 = .ok (.return_, 1) := by decide +kernel
theorem dX8_take_0 : decode cX8_take 0 = .ok (.iconst 0, 1) := by decide +kernel
theorem dX8_take_1 : decode cX8_take 1 = .ok (.istore_n 2, 1) := by decide +kernel
theorem dX8_take_2 : decode cX8_take 2 = .ok (.iload_n 2, 1) := by decide +kernel
theorem dX8_take_3 : decode cX8_take 3 = .ok (.bipush 40, 2) := by decide +kernel
theorem dX8_take_5 : decode cX8_take 5 = .ok (.if_icmp .ge 21, 3) := by decide +kernel
theorem dX8_take_8 : decode cX8_take 8 = .ok (.aload_n 0, 1) := by decide +kernel
theorem dX8_take_9 : decode cX8_take 9 = .ok (.getfield 11, 3) := by decide +kernel
theorem dX8_take_12 : decode cX8_take 12 = .ok (.iload_n 2, 1) := by decide +kernel
theorem dX8_take_13 : decode cX8_take 13 = .ok (.aload_n 1, 1) := by decide +kernel
theorem dX8_take_14 : decode cX8_take 14 = .ok (.getfield 11, 3) := by decide +kernel
theorem dX8_take_17 : decode cX8_take 17 = .ok (.iload_n 2, 1) := by decide +kernel
theorem dX8_take_18 : decode cX8_take 18 = .ok (.iaload, 1) := by decide +kernel
theorem dX8_take_19 : decode cX8_take 19 = .ok (.iastore, 1) := by decide +kernel
theorem dX8_take_20 : decode cX8_take 20 = .ok (.iinc 2 1, 3) := by decide +kernel
theorem dX8_take_23 : decode cX8_take 23 = .ok (.goto (-21), 3) := by decide +kernel
theorem dX8_take_26 : decode cX8_take 26 = .ok (.aload_n 0, 1) := by decide +kernel
theorem dX8_take_27 : decode cX8_take 27 = .ok (.aload_n 1, 1) := by decide +kernel
theorem dX8_take_28 : decode cX8_take 28 = .ok (.getfield 24, 3) := by decide +kernel
theorem dX8_take_31 : decode cX8_take 31 = .ok (.putfield 24, 3) := by decide +kernel
theorem dX8_take_34 : decode cX8_take 34 = .ok (.return_, 1) := by decide +kernel
theorem dX8_read_0 : decode cX8_read 0 = .ok (.aload_n 0, 1) := by decide +kernel
theorem dX8_read_1 : decode cX8_read 1 = .ok (.iconst 0, 1) := by decide +kernel
theorem dX8_read_2 : decode cX8_read 2 = .ok (.putfield 24, 3) := by decide +kernel
theorem dX8_read_5 : decode cX8_read 5 = .ok (.aload_n 0, 1) := by decide +kernel
theorem dX8_read_6 : decode cX8_read 6 = .ok (.iconst 0, 1) := by decide +kernel
theorem dX8_read_7 : decode cX8_read 7 = .ok (.putfield 28, 3) := by decide +kernel
theorem dX8_read_10 : decode cX8_read 10 = .ok (.aload_n 0, 1) := by decide +kernel
theorem dX8_read_11 : decode cX8_read 11 = .ok (.iconst 1, 1) := by decide +kernel
theorem dX8_read_12 : decode cX8_read 12 = .ok (.putfield 31, 3) := by decide +kernel
theorem dX8_read_15 : decode cX8_read 15 = .ok (.aload_n 0, 1) := by decide +kernel
theorem dX8_read_16 : decode cX8_read 16 = .ok (.iconst 0, 1) := by decide +kernel
theorem dX8_read_17 : decode cX8_read 17 = .ok (.putfield 35, 3) := by decide +kernel
theorem dX8_read_20 : decode cX8_read 20 = .ok (.aload_n 0, 1) := by decide +kernel
theorem dX8_read_21 : decode cX8_read 21 = .ok (.iconst 0, 1) := by decide +kernel
theorem dX8_read_22 : decode cX8_read 22 = .ok (.putfield 38, 3) := by decide +kernel
theorem dX8_read_25 : decode cX8_read 25 = .ok (.aload_n 0, 1) := by decide +kernel
theorem dX8_read_26 : decode cX8_read 26 = .ok (.iconst 0, 1) := by decide +kernel
theorem dX8_read_27 : decode cX8_read 27 = .ok (.putfield 41, 3) := by decide +kernel
theorem dX8_read_30 : decode cX8_read 30 = .ok (.iconst 0, 1) := by decide +kernel
theorem dX8_read_31 : decode cX8_read 31 = .ok (.istore_n 2, 1) := by decide +kernel
theorem dX8_read_32 : decode cX8_read 32 = .ok (.iload_n 2, 1) := by decide +kernel
theorem dX8_read_33 : decode cX8_read 33 = .ok (.aload_n 1, 1) := by decide +kernel
theorem dX8_read_34 : decode cX8_read 34 = .ok (.getfield 44, 3) := by decide +kernel
theorem dX8_read_37 : decode cX8_read 37 = .ok (.if_icmp .ge 49, 3) := by decide +kernel
theorem dX8_read_40 : decode cX8_read 40 = .ok (.iload_n 2, 1) := by decide +kernel
theorem dX8_read_41 : decode cX8_read 41 = .ok (.bipush 40, 2) := by decide +kernel
theorem dX8_read_43 : decode cX8_read 43 = .ok (.if_icmp .ge 43, 3) := by decide +kernel
theorem dX8_read_46 : decode cX8_read 46 = .ok (.aload_n 1, 1) := by decide +kernel
theorem dX8_read_47 : decode cX8_read 47 = .ok (.iload_n 2, 1) := by decide +kernel
theorem dX8_read_48 : decode cX8_read 48 = .ok (.invokevirtual 47, 3) := by decide +kernel
theorem dX8_read_51 : decode cX8_read 51 = .ok (.istore_n 3, 1) := by decide +kernel
theorem dX8_read_52 : decode cX8_read 52 = .ok (.aload_n 0, 1) := by decide +kernel
theorem dX8_read_53 : decode cX8_read 53 = .ok (.getfield 31, 3) := by decide +kernel
theorem dX8_read_56 : decode cX8_read 56 = .ok (.ifCond .eq 14, 3) := by decide +kernel
theorem dX8_read_59 : decode cX8_read 59 = .ok (.aload_n 0, 1) := by decide +kernel
theorem dX8_read_60 : decode cX8_read 60 = .ok (.iload_n 3, 1) := by decide +kernel
theorem dX8_read_61 : decode cX8_read 61 = .ok (.invokevirtual 51, 3) := by decide +kernel
theorem dX8_read_64 : decode cX8_read 64 = .ok (.ifCond .ne 16, 3) := by decide +kernel
theorem dX8_read_67 : decode cX8_read 67 = .ok (.goto 11, 3) := by decide +kernel
theorem dX8_read_70 : decode cX8_read 70 = .ok (.aload_n 0, 1) := by decide +kernel
theorem dX8_read_71 : decode cX8_read 71 = .ok (.iload_n 3, 1) := by decide +kernel
theorem dX8_read_72 : decode cX8_read 72 = .ok (.invokevirtual 55, 3) := by decide +kernel
theorem dX8_read_75 : decode cX8_read 75 = .ok (.ifCond .ne 5, 3) := by decide +kernel
theorem dX8_read_78 : decode cX8_read 78 = .ok (.iload_n 2, 1) := by decide +kernel
theorem dX8_read_79 : decode cX8_read 79 = .ok (.ireturn, 1) := by decide +kernel
theorem dX8_read_80 : decode cX8_read 80 = .ok (.iinc 2 1, 3) := by decide +kernel
theorem dX8_read_83 : decode cX8_read 83 = .ok (.goto (-51), 3) := by decide +kernel
theorem dX8_read_86 : decode cX8_read 86 = .ok (.aload_n 1, 1) := by decide +kernel
theorem dX8_read_87 : decode cX8_read 87 = .ok (.getfield 44, 3) := by decide +kernel
theorem dX8_read_90 : decode cX8_read 90 = .ok (.bipush 40, 2) := by decide +kernel
theorem dX8_read_92 : decode cX8_read 92 = .ok (.if_icmp .le 6, 3) := by decide +kernel
theorem dX8_read_95 : decode cX8_read 95 = .ok (.bipush 40, 2) := by decide +kernel
theorem dX8_read_97 : decode cX8_read 97 = .ok (.ireturn, 1) := by decide +kernel
theorem dX8_read_98 : decode cX8_read 98 = .ok (.aload_n 1, 1) := by decide +kernel
theorem dX8_read_99 : decode cX8_read 99 = .ok (.getfield 44, 3) := by decide +kernel
theorem dX8_read_102 : decode cX8_read 102 = .ok (.ifCond .le 22, 3) := by decide +kernel
theorem dX8_read_105 : decode cX8_read 105 = .ok (.aload_n 0, 1) := by decide +kernel
theorem dX8_read_106 : decode cX8_read 106 = .ok (.getfield 31, 3) := by decide +kernel
theorem dX8_read_109 : decode cX8_read 109 = .ok (.ifCond .ne 10, 3) := by decide +kernel
theorem dX8_read_112 : decode cX8_read 112 = .ok (.aload_n 0, 1) := by decide +kernel
theorem dX8_read_113 : decode cX8_read 113 = .ok (.getfield 38, 3) := by decide +kernel
theorem dX8_read_116 : decode cX8_read 116 = .ok (.ifCond .le 8, 3) := by decide +kernel
theorem dX8_read_119 : decode cX8_read 119 = .ok (.aload_n 1, 1) := by decide +kernel
theorem dX8_read_120 : decode cX8_read 120 = .ok (.getfield 44, 3) := by decide +kernel
theorem dX8_read_123 : decode cX8_read 123 = .ok (.ireturn, 1) := by decide +kernel
theorem dX8_read_124 : decode cX8_read 124 = .ok (.aload_n 0, 1) := by decide +kernel
theorem dX8_read_125 : decode cX8_read 125 = .ok (.iconst 1, 1) := by decide +kernel
theorem dX8_read_126 : decode cX8_read 126 = .ok (.invokevirtual 58, 3) := by decide +kernel
theorem dX8_read_129 : decode cX8_read 129 = .ok (.iconst (-1), 1) := by decide +kernel
theorem dX8_read_130 : decode cX8_read 130 = .ok (.ireturn, 1) := by decide +kernel
theorem dX8_startsThing_0 : decode cX8_startsThing 0 = .ok (.iload_n 1, 1) := by decide +kernel
theorem dX8_startsThing_1 : decode cX8_startsThing 1 = .ok (.bipush 45, 2) := by decide +kernel
theorem dX8_startsThing_3 : decode cX8_startsThing 3 = .ok (.if_icmp .ne 12, 3) := by decide +kernel
theorem dX8_startsThing_6 : decode cX8_startsThing 6 = .ok (.aload_n 0, 1) := by decide +kernel
theorem dX8_startsThing_7 : decode cX8_startsThing 7 = .ok (.sipush 256, 3) := by decide +kernel
theorem dX8_startsThing_10 : decode cX8_startsThing 10 = .ok (.invokevirtual 62, 3) := by decide +kernel
theorem dX8_startsThing_13 : decode cX8_startsThing 13 = .ok (.iconst 1, 1) := by decide +kernel
theorem dX8_startsThing_14 : decode cX8_startsThing 14 = .ok (.ireturn, 1) := by decide +kernel
theorem dX8_startsThing_15 : decode cX8_startsThing 15 = .ok (.iload_n 1, 1) := by decide +kernel
theorem dX8_startsThing_16 : decode cX8_startsThing 16 = .ok (.bipush 40, 2) := by decide +kernel
theorem dX8_startsThing_18 : decode cX8_startsThing 18 = .ok (.if_icmp .ne 8, 3) := by decide +kernel
theorem dX8_startsThing_21 : decode cX8_startsThing 21 = .ok (.aload_n 0, 1) := by decide +kernel
theorem dX8_startsThing_22 : decode cX8_startsThing 22 = .ok (.invokevirtual 65, 3) := by decide +kernel
theorem dX8_startsThing_25 : decode cX8_startsThing 25 = .ok (.ireturn, 1) := by decide +kernel
theorem dX8_startsThing_26 : decode cX8_startsThing 26 = .ok (.iload_n 1, 1) := by decide +kernel
theorem dX8_startsThing_27 : decode cX8_startsThing 27 = .ok (.ifCond .lt 13, 3) := by decide +kernel
theorem dX8_startsThing_30 : decode cX8_startsThing 30 = .ok (.ldc 69, 2) := by decide +kernel
theorem dX8_startsThing_32 : decode cX8_startsThing 32 = .ok (.iload_n 1, 1) := by decide +kernel
theorem dX8_startsThing_33 : decode cX8_startsThing 33 = .ok (.i2c, 1) := by decide +kernel
theorem dX8_startsThing_34 : decode cX8_startsThing 34 = .ok (.invokevirtual 71, 3) := by decide +kernel
theorem dX8_startsThing_37 : decode cX8_startsThing 37 = .ok (.goto 4, 3) := by decide +kernel
theorem dX8_startsThing_40 : decode cX8_startsThing 40 = .ok (.iconst (-1), 1) := by decide +kernel
theorem dX8_startsThing_41 : decode cX8_startsThing 41 = .ok (.istore_n 2, 1) := by decide +kernel
theorem dX8_startsThing_42 : decode cX8_startsThing 42 = .ok (.iload_n 1, 1) := by decide +kernel
theorem dX8_startsThing_43 : decode cX8_startsThing 43 = .ok (.invokestatic 76, 3) := by decide +kernel
theorem dX8_startsThing_46 : decode cX8_startsThing 46 = .ok (.ifCond .eq 19, 3) := by decide +kernel
theorem dX8_startsThing_49 : decode cX8_startsThing 49 = .ok (.aload_n 0, 1) := by decide +kernel
theorem dX8_startsThing_50 : decode cX8_startsThing 50 = .ok (.iload_n 1, 1) := by decide +kernel
theorem dX8_startsThing_51 : decode cX8_startsThing 51 = .ok (.bipush 48, 2) := by decide +kernel
theorem dX8_startsThing_53 : decode cX8_startsThing 53 = .ok (.isub, 1) := by decide +kernel
theorem dX8_startsThing_54 : decode cX8_startsThing 54 = .ok (.invokevirtual 79, 3) := by decide +kernel
theorem dX8_startsThing_57 : decode cX8_startsThing 57 = .ok (.aload_n 0, 1) := by decide +kernel
theorem dX8_startsThing_58 : decode cX8_startsThing 58 = .ok (.iconst 1, 1) := by decide +kernel
theorem dX8_startsThing_59 : decode cX8_startsThing 59 = .ok (.putfield 35, 3) := by decide +kernel
theorem dX8_startsThing_62 : decode cX8_startsThing 62 = .ok (.goto 21, 3) := by decide +kernel
theorem dX8_startsThing_65 : decode cX8_startsThing 65 = .ok (.iload_n 2, 1) := by decide +kernel
theorem dX8_startsThing_66 : decode cX8_startsThing 66 = .ok (.ifCond .lt 15, 3) := by decide +kernel
theorem dX8_startsThing_69 : decode cX8_startsThing 69 = .ok (.aload_n 0, 1) := by decide +kernel
theorem dX8_startsThing_70 : decode cX8_startsThing 70 = .ok (.sipush 1000, 3) := by decide +kernel
theorem dX8_startsThing_73 : decode cX8_startsThing 73 = .ok (.iload_n 2, 1) := by decide +kernel
theorem dX8_startsThing_74 : decode cX8_startsThing 74 = .ok (.iadd, 1) := by decide +kernel
theorem dX8_startsThing_75 : decode cX8_startsThing 75 = .ok (.invokevirtual 79, 3) := by decide +kernel
theorem dX8_startsThing_78 : decode cX8_startsThing 78 = .ok (.goto 5, 3) := by decide +kernel
theorem dX8_startsThing_81 : decode cX8_startsThing 81 = .ok (.iconst 0, 1) := by decide +kernel
theorem dX8_startsThing_82 : decode cX8_startsThing 82 = .ok (.ireturn, 1) := by decide +kernel
theorem dX8_startsThing_83 : decode cX8_startsThing 83 = .ok (.aload_n 0, 1) := by decide +kernel
theorem dX8_startsThing_84 : decode cX8_startsThing 84 = .ok (.iconst 0, 1) := by decide +kernel
theorem dX8_startsThing_85 : decode cX8_startsThing 85 = .ok (.putfield 31, 3) := by decide +kernel
theorem dX8_startsThing_88 : decode cX8_startsThing 88 = .ok (.iconst 1, 1) := by decide +kernel
theorem dX8_startsThing_89 : decode cX8_startsThing 89 = .ok (.ireturn, 1) := by decide +kernel
theorem dX8_opens_0 : decode cX8_opens 0 = .ok (.aload_n 0, 1) := by decide +kernel
theorem dX8_opens_1 : decode cX8_opens 1 = .ok (.getfield 38, 3) := by decide +kernel
theorem dX8_opens_4 : decode cX8_opens 4 = .ok (.iconst 4, 1) := by decide +kernel
theorem dX8_opens_5 : decode cX8_opens 5 = .ok (.if_icmp .lt 5, 3) := by decide +kernel
theorem dX8_opens_8 : decode cX8_opens 8 = .ok (.iconst 0, 1) := by decide +kernel
theorem dX8_opens_9 : decode cX8_opens 9 = .ok (.ireturn, 1) := by decide +kernel
theorem dX8_opens_10 : decode cX8_opens 10 = .ok (.aload_n 0, 1) := by decide +kernel
theorem dX8_opens_11 : decode cX8_opens 11 = .ok (.dup, 1) := by decide +kernel
theorem dX8_opens_12 : decode cX8_opens 12 = .ok (.getfield 38, 3) := by decide +kernel
theorem dX8_opens_15 : decode cX8_opens 15 = .ok (.iconst 1, 1) := by decide +kernel
theorem dX8_opens_16 : decode cX8_opens 16 = .ok (.iadd, 1) := by decide +kernel
theorem dX8_opens_17 : decode cX8_opens 17 = .ok (.putfield 38, 3) := by decide +kernel
theorem dX8_opens_20 : decode cX8_opens 20 = .ok (.aload_n 0, 1) := by decide +kernel
theorem dX8_opens_21 : decode cX8_opens 21 = .ok (.dup, 1) := by decide +kernel
theorem dX8_opens_22 : decode cX8_opens 22 = .ok (.getfield 41, 3) := by decide +kernel
theorem dX8_opens_25 : decode cX8_opens 25 = .ok (.iconst 1, 1) := by decide +kernel
theorem dX8_opens_26 : decode cX8_opens 26 = .ok (.aload_n 0, 1) := by decide +kernel
theorem dX8_opens_27 : decode cX8_opens 27 = .ok (.getfield 38, 3) := by decide +kernel
theorem dX8_opens_30 : decode cX8_opens 30 = .ok (.ishl, 1) := by decide +kernel
theorem dX8_opens_31 : decode cX8_opens 31 = .ok (.iconst (-1), 1) := by decide +kernel
theorem dX8_opens_32 : decode cX8_opens 32 = .ok (.ixor, 1) := by decide +kernel
theorem dX8_opens_33 : decode cX8_opens 33 = .ok (.iand, 1) := by decide +kernel
theorem dX8_opens_34 : decode cX8_opens 34 = .ok (.putfield 41, 3) := by decide +kernel
theorem dX8_opens_37 : decode cX8_opens 37 = .ok (.aload_n 0, 1) := by decide +kernel
theorem dX8_opens_38 : decode cX8_opens 38 = .ok (.bipush 40, 2) := by decide +kernel
theorem dX8_opens_40 : decode cX8_opens 40 = .ok (.invokevirtual 62, 3) := by decide +kernel
theorem dX8_opens_43 : decode cX8_opens 43 = .ok (.iconst 1, 1) := by decide +kernel
theorem dX8_opens_44 : decode cX8_opens 44 = .ok (.ireturn, 1) := by decide +kernel
theorem dX8_followsThing_0 : decode cX8_followsThing 0 = .ok (.iload_n 1, 1) := by decide +kernel
theorem dX8_followsThing_1 : decode cX8_followsThing 1 = .ok (.invokestatic 76, 3) := by decide +kernel
theorem dX8_followsThing_4 : decode cX8_followsThing 4 = .ok (.ifCond .eq 12, 3) := by decide +kernel
theorem dX8_followsThing_7 : decode cX8_followsThing 7 = .ok (.aload_n 0, 1) := by decide +kernel
theorem dX8_followsThing_8 : decode cX8_followsThing 8 = .ok (.iload_n 1, 1) := by decide +kernel
theorem dX8_followsThing_9 : decode cX8_followsThing 9 = .ok (.bipush 48, 2) := by decide +kernel
theorem dX8_followsThing_11 : decode cX8_followsThing 11 = .ok (.isub, 1) := by decide +kernel
theorem dX8_followsThing_12 : decode cX8_followsThing 12 = .ok (.invokevirtual 82, 3) := by decide +kernel
theorem dX8_followsThing_15 : decode cX8_followsThing 15 = .ok (.ireturn, 1) := by decide +kernel
theorem dX8_followsThing_16 : decode cX8_followsThing 16 = .ok (.aload_n 0, 1) := by decide +kernel
theorem dX8_followsThing_17 : decode cX8_followsThing 17 = .ok (.iconst 0, 1) := by decide +kernel
theorem dX8_followsThing_18 : decode cX8_followsThing 18 = .ok (.putfield 35, 3) := by decide +kernel
theorem dX8_followsThing_21 : decode cX8_followsThing 21 = .ok (.iload_n 1, 1) := by decide +kernel
theorem dX8_followsThing_22 : decode cX8_followsThing 22 = .ok (.bipush 41, 2) := by decide +kernel
theorem dX8_followsThing_24 : decode cX8_followsThing 24 = .ok (.if_icmp .ne 8, 3) := by decide +kernel
theorem dX8_followsThing_27 : decode cX8_followsThing 27 = .ok (.aload_n 0, 1) := by decide +kernel
theorem dX8_followsThing_28 : decode cX8_followsThing 28 = .ok (.invokevirtual 85, 3) := by decide +kernel
theorem dX8_followsThing_31 : decode cX8_followsThing 31 = .ok (.ireturn, 1) := by decide +kernel
theorem dX8_followsThing_32 : decode cX8_followsThing 32 = .ok (.iload_n 1, 1) := by decide +kernel
theorem dX8_followsThing_33 : decode cX8_followsThing 33 = .ok (.invokestatic 88, 3) := by decide +kernel
theorem dX8_followsThing_36 : decode cX8_followsThing 36 = .ok (.istore_n 2, 1) := by decide +kernel
theorem dX8_followsThing_37 : decode cX8_followsThing 37 = .ok (.iload_n 2, 1) := by decide +kernel
theorem dX8_followsThing_38 : decode cX8_followsThing 38 = .ok (.ifCond .eq 22, 3) := by decide +kernel
theorem dX8_followsThing_41 : decode cX8_followsThing 41 = .ok (.iload_n 2, 1) := by decide +kernel
theorem dX8_followsThing_42 : decode cX8_followsThing 42 = .ok (.iconst 1, 1) := by decide +kernel
theorem dX8_followsThing_43 : decode cX8_followsThing 43 = .ok (.if_icmp .ne 19, 3) := by decide +kernel
theorem dX8_followsThing_46 : decode cX8_followsThing 46 = .ok (.aload_n 0, 1) := by decide +kernel
theorem dX8_followsThing_47 : decode cX8_followsThing 47 = .ok (.getfield 41, 3) := by decide +kernel
theorem dX8_followsThing_50 : decode cX8_followsThing 50 = .ok (.iconst 1, 1) := by decide +kernel
theorem dX8_followsThing_51 : decode cX8_followsThing 51 = .ok (.aload_n 0, 1) := by decide +kernel
theorem dX8_followsThing_52 : decode cX8_followsThing 52 = .ok (.getfield 38, 3) := by decide +kernel
theorem dX8_followsThing_55 : decode cX8_followsThing 55 = .ok (.ishl, 1) := by decide +kernel
theorem dX8_followsThing_56 : decode cX8_followsThing 56 = .ok (.iand, 1) := by decide +kernel
theorem dX8_followsThing_57 : decode cX8_followsThing 57 = .ok (.ifCond .eq 5, 3) := by decide +kernel
theorem dX8_followsThing_60 : decode cX8_followsThing 60 = .ok (.iconst 0, 1) := by decide +kernel
theorem dX8_followsThing_61 : decode cX8_followsThing 61 = .ok (.ireturn, 1) := by decide +kernel
theorem dX8_followsThing_62 : decode cX8_followsThing 62 = .ok (.iload_n 2, 1) := by decide +kernel
theorem dX8_followsThing_63 : decode cX8_followsThing 63 = .ok (.iconst 1, 1) := by decide +kernel
theorem dX8_followsThing_64 : decode cX8_followsThing 64 = .ok (.if_icmp .ne 18, 3) := by decide +kernel
theorem dX8_followsThing_67 : decode cX8_followsThing 67 = .ok (.aload_n 0, 1) := by decide +kernel
theorem dX8_followsThing_68 : decode cX8_followsThing 68 = .ok (.dup, 1) := by decide +kernel
theorem dX8_followsThing_69 : decode cX8_followsThing 69 = .ok (.getfield 41, 3) := by decide +kernel
theorem dX8_followsThing_72 : decode cX8_followsThing 72 = .ok (.iconst 1, 1) := by decide +kernel
theorem dX8_followsThing_73 : decode cX8_followsThing 73 = .ok (.aload_n 0, 1) := by decide +kernel
theorem dX8_followsThing_74 : decode cX8_followsThing 74 = .ok (.getfield 38, 3) := by decide +kernel
theorem dX8_followsThing_77 : decode cX8_followsThing 77 = .ok (.ishl, 1) := by decide +kernel
theorem dX8_followsThing_78 : decode cX8_followsThing 78 = .ok (.ior, 1) := by decide +kernel
theorem dX8_followsThing_79 : decode cX8_followsThing 79 = .ok (.putfield 41, 3) := by decide +kernel
theorem dX8_followsThing_82 : decode cX8_followsThing 82 = .ok (.aload_n 0, 1) := by decide +kernel
theorem dX8_followsThing_83 : decode cX8_followsThing 83 = .ok (.iload_n 2, 1) := by decide +kernel
theorem dX8_followsThing_84 : decode cX8_followsThing 84 = .ok (.invokevirtual 58, 3) := by decide +kernel
theorem dX8_followsThing_87 : decode cX8_followsThing 87 = .ok (.aload_n 0, 1) := by decide +kernel
theorem dX8_followsThing_88 : decode cX8_followsThing 88 = .ok (.iload_n 1, 1) := by decide +kernel
theorem dX8_followsThing_89 : decode cX8_followsThing 89 = .ok (.invokevirtual 62, 3) := by decide +kernel
theorem dX8_followsThing_92 : decode cX8_followsThing 92 = .ok (.aload_n 0, 1) := by decide +kernel
theorem dX8_followsThing_93 : decode cX8_followsThing 93 = .ok (.iconst 1, 1) := by decide +kernel
theorem dX8_followsThing_94 : decode cX8_followsThing 94 = .ok (.putfield 31, 3) := by decide +kernel
theorem dX8_followsThing_97 : decode cX8_followsThing 97 = .ok (.iconst 1, 1) := by decide +kernel
theorem dX8_followsThing_98 : decode cX8_followsThing 98 = .ok (.ireturn, 1) := by decide +kernel
theorem dX8_addsDigit_0 : decode cX8_addsDigit 0 = .ok (.aload_n 0, 1) := by decide +kernel
theorem dX8_addsDigit_1 : decode cX8_addsDigit 1 = .ok (.getfield 35, 3) := by decide +kernel
theorem dX8_addsDigit_4 : decode cX8_addsDigit 4 = .ok (.ifCond .eq 18, 3) := by decide +kernel
theorem dX8_addsDigit_7 : decode cX8_addsDigit 7 = .ok (.aload_n 0, 1) := by decide +kernel
theorem dX8_addsDigit_8 : decode cX8_addsDigit 8 = .ok (.getfield 35, 3) := by decide +kernel
theorem dX8_addsDigit_11 : decode cX8_addsDigit 11 = .ok (.iconst 3, 1) := by decide +kernel
theorem dX8_addsDigit_12 : decode cX8_addsDigit 12 = .ok (.if_icmp .ge 10, 3) := by decide +kernel
theorem dX8_addsDigit_15 : decode cX8_addsDigit 15 = .ok (.aload_n 0, 1) := by decide +kernel
theorem dX8_addsDigit_16 : decode cX8_addsDigit 16 = .ok (.getfield 24, 3) := by decide +kernel
theorem dX8_addsDigit_19 : decode cX8_addsDigit 19 = .ok (.ifCond .ne 5, 3) := by decide +kernel
theorem dX8_addsDigit_22 : decode cX8_addsDigit 22 = .ok (.iconst 0, 1) := by decide +kernel
theorem dX8_addsDigit_23 : decode cX8_addsDigit 23 = .ok (.ireturn, 1) := by decide +kernel
theorem dX8_addsDigit_24 : decode cX8_addsDigit 24 = .ok (.aload_n 0, 1) := by decide +kernel
theorem dX8_addsDigit_25 : decode cX8_addsDigit 25 = .ok (.getfield 11, 3) := by decide +kernel
theorem dX8_addsDigit_28 : decode cX8_addsDigit 28 = .ok (.aload_n 0, 1) := by decide +kernel
theorem dX8_addsDigit_29 : decode cX8_addsDigit 29 = .ok (.getfield 24, 3) := by decide +kernel
theorem dX8_addsDigit_32 : decode cX8_addsDigit 32 = .ok (.iconst 1, 1) := by decide +kernel
theorem dX8_addsDigit_33 : decode cX8_addsDigit 33 = .ok (.isub, 1) := by decide +kernel
theorem dX8_addsDigit_34 : decode cX8_addsDigit 34 = .ok (.bipush 10, 2) := by decide +kernel
theorem dX8_addsDigit_36 : decode cX8_addsDigit 36 = .ok (.aload_n 0, 1) := by decide +kernel
theorem dX8_addsDigit_37 : decode cX8_addsDigit 37 = .ok (.getfield 11, 3) := by decide +kernel
theorem dX8_addsDigit_40 : decode cX8_addsDigit 40 = .ok (.aload_n 0, 1) := by decide +kernel
theorem dX8_addsDigit_41 : decode cX8_addsDigit 41 = .ok (.getfield 24, 3) := by decide +kernel
theorem dX8_addsDigit_44 : decode cX8_addsDigit 44 = .ok (.iconst 1, 1) := by decide +kernel
theorem dX8_addsDigit_45 : decode cX8_addsDigit 45 = .ok (.isub, 1) := by decide +kernel
theorem dX8_addsDigit_46 : decode cX8_addsDigit 46 = .ok (.iaload, 1) := by decide +kernel
theorem dX8_addsDigit_47 : decode cX8_addsDigit 47 = .ok (.imul, 1) := by decide +kernel
theorem dX8_addsDigit_48 : decode cX8_addsDigit 48 = .ok (.iload_n 1, 1) := by decide +kernel
theorem dX8_addsDigit_49 : decode cX8_addsDigit 49 = .ok (.iadd, 1) := by decide +kernel
theorem dX8_addsDigit_50 : decode cX8_addsDigit 50 = .ok (.iastore, 1) := by decide +kernel
theorem dX8_addsDigit_51 : decode cX8_addsDigit 51 = .ok (.aload_n 0, 1) := by decide +kernel
theorem dX8_addsDigit_52 : decode cX8_addsDigit 52 = .ok (.dup, 1) := by decide +kernel
theorem dX8_addsDigit_53 : decode cX8_addsDigit 53 = .ok (.getfield 35, 3) := by decide +kernel
theorem dX8_addsDigit_56 : decode cX8_addsDigit 56 = .ok (.iconst 1, 1) := by decide +kernel
theorem dX8_addsDigit_57 : decode cX8_addsDigit 57 = .ok (.iadd, 1) := by decide +kernel
theorem dX8_addsDigit_58 : decode cX8_addsDigit 58 = .ok (.putfield 35, 3) := by decide +kernel
theorem dX8_addsDigit_61 : decode cX8_addsDigit 61 = .ok (.iconst 1, 1) := by decide +kernel
theorem dX8_addsDigit_62 : decode cX8_addsDigit 62 = .ok (.ireturn, 1) := by decide +kernel
theorem dX8_closes_0 : decode cX8_closes 0 = .ok (.aload_n 0, 1) := by decide +kernel
theorem dX8_closes_1 : decode cX8_closes 1 = .ok (.getfield 38, 3) := by decide +kernel
theorem dX8_closes_4 : decode cX8_closes 4 = .ok (.ifCond .eq 10, 3) := by decide +kernel
theorem dX8_closes_7 : decode cX8_closes 7 = .ok (.aload_n 0, 1) := by decide +kernel
theorem dX8_closes_8 : decode cX8_closes 8 = .ok (.getfield 28, 3) := by decide +kernel
theorem dX8_closes_11 : decode cX8_closes 11 = .ok (.ifCond .ne 5, 3) := by decide +kernel
theorem dX8_closes_14 : decode cX8_closes 14 = .ok (.iconst 0, 1) := by decide +kernel
theorem dX8_closes_15 : decode cX8_closes 15 = .ok (.ireturn, 1) := by decide +kernel
theorem dX8_closes_16 : decode cX8_closes 16 = .ok (.aload_n 0, 1) := by decide +kernel
theorem dX8_closes_17 : decode cX8_closes 17 = .ok (.iconst 1, 1) := by decide +kernel
theorem dX8_closes_18 : decode cX8_closes 18 = .ok (.invokevirtual 58, 3) := by decide +kernel
theorem dX8_closes_21 : decode cX8_closes 21 = .ok (.aload_n 0, 1) := by decide +kernel
theorem dX8_closes_22 : decode cX8_closes 22 = .ok (.dup, 1) := by decide +kernel
theorem dX8_closes_23 : decode cX8_closes 23 = .ok (.getfield 28, 3) := by decide +kernel
theorem dX8_closes_26 : decode cX8_closes 26 = .ok (.iconst 1, 1) := by decide +kernel
theorem dX8_closes_27 : decode cX8_closes 27 = .ok (.isub, 1) := by decide +kernel
theorem dX8_closes_28 : decode cX8_closes 28 = .ok (.putfield 28, 3) := by decide +kernel
theorem dX8_closes_31 : decode cX8_closes 31 = .ok (.aload_n 0, 1) := by decide +kernel
theorem dX8_closes_32 : decode cX8_closes 32 = .ok (.dup, 1) := by decide +kernel
theorem dX8_closes_33 : decode cX8_closes 33 = .ok (.getfield 38, 3) := by decide +kernel
theorem dX8_closes_36 : decode cX8_closes 36 = .ok (.iconst 1, 1) := by decide +kernel
theorem dX8_closes_37 : decode cX8_closes 37 = .ok (.isub, 1) := by decide +kernel
theorem dX8_closes_38 : decode cX8_closes 38 = .ok (.putfield 38, 3) := by decide +kernel
theorem dX8_closes_41 : decode cX8_closes 41 = .ok (.iconst 1, 1) := by decide +kernel
theorem dX8_closes_42 : decode cX8_closes 42 = .ok (.ireturn, 1) := by decide +kernel
theorem dX8_isDigit_0 : decode cX8_isDigit 0 = .ok (.iload_n 0, 1) := by decide +kernel
theorem dX8_isDigit_1 : decode cX8_isDigit 1 = .ok (.bipush 48, 2) := by decide +kernel
theorem dX8_isDigit_3 : decode cX8_isDigit 3 = .ok (.if_icmp .lt 13, 3) := by decide +kernel
theorem dX8_isDigit_6 : decode cX8_isDigit 6 = .ok (.iload_n 0, 1) := by decide +kernel
theorem dX8_isDigit_7 : decode cX8_isDigit 7 = .ok (.bipush 57, 2) := by decide +kernel
theorem dX8_isDigit_9 : decode cX8_isDigit 9 = .ok (.if_icmp .gt 7, 3) := by decide +kernel
theorem dX8_isDigit_12 : decode cX8_isDigit 12 = .ok (.iconst 1, 1) := by decide +kernel
theorem dX8_isDigit_13 : decode cX8_isDigit 13 = .ok (.goto 4, 3) := by decide +kernel
theorem dX8_isDigit_16 : decode cX8_isDigit 16 = .ok (.iconst 0, 1) := by decide +kernel
theorem dX8_isDigit_17 : decode cX8_isDigit 17 = .ok (.ireturn, 1) := by decide +kernel
theorem dX8_rankOf_0 : decode cX8_rankOf 0 = .ok (.iload_n 0, 1) := by decide +kernel
theorem dX8_rankOf_1 : decode cX8_rankOf 1 = .ok (.lookupswitch 83 #[(42, 79), (43, 77), (45, 77), (47, 79), (60, 75), (61, 75), (62, 75), (256, 81)], 75) := by decide +kernel
theorem dX8_rankOf_76 : decode cX8_rankOf 76 = .ok (.iconst 1, 1) := by decide +kernel
theorem dX8_rankOf_77 : decode cX8_rankOf 77 = .ok (.ireturn, 1) := by decide +kernel
theorem dX8_rankOf_78 : decode cX8_rankOf 78 = .ok (.iconst 2, 1) := by decide +kernel
theorem dX8_rankOf_79 : decode cX8_rankOf 79 = .ok (.ireturn, 1) := by decide +kernel
theorem dX8_rankOf_80 : decode cX8_rankOf 80 = .ok (.iconst 3, 1) := by decide +kernel
theorem dX8_rankOf_81 : decode cX8_rankOf 81 = .ok (.ireturn, 1) := by decide +kernel
theorem dX8_rankOf_82 : decode cX8_rankOf 82 = .ok (.iconst 4, 1) := by decide +kernel
theorem dX8_rankOf_83 : decode cX8_rankOf 83 = .ok (.ireturn, 1) := by decide +kernel
theorem dX8_rankOf_84 : decode cX8_rankOf 84 = .ok (.iconst 0, 1) := by decide +kernel
theorem dX8_rankOf_85 : decode cX8_rankOf 85 = .ok (.ireturn, 1) := by decide +kernel
theorem dX8_emit_0 : decode cX8_emit 0 = .ok (.aload_n 0, 1) := by decide +kernel
theorem dX8_emit_1 : decode cX8_emit 1 = .ok (.getfield 24, 3) := by decide +kernel
theorem dX8_emit_4 : decode cX8_emit 4 = .ok (.bipush 40, 2) := by decide +kernel
theorem dX8_emit_6 : decode cX8_emit 6 = .ok (.if_icmp .ge 23, 3) := by decide +kernel
theorem dX8_emit_9 : decode cX8_emit 9 = .ok (.aload_n 0, 1) := by decide +kernel
theorem dX8_emit_10 : decode cX8_emit 10 = .ok (.getfield 11, 3) := by decide +kernel
theorem dX8_emit_13 : decode cX8_emit 13 = .ok (.aload_n 0, 1) := by decide +kernel
theorem dX8_emit_14 : decode cX8_emit 14 = .ok (.getfield 24, 3) := by decide +kernel
theorem dX8_emit_17 : decode cX8_emit 17 = .ok (.iload_n 1, 1) := by decide +kernel
theorem dX8_emit_18 : decode cX8_emit 18 = .ok (.iastore, 1) := by decide +kernel
theorem dX8_emit_19 : decode cX8_emit 19 = .ok (.aload_n 0, 1) := by decide +kernel
theorem dX8_emit_20 : decode cX8_emit 20 = .ok (.dup, 1) := by decide +kernel
theorem dX8_emit_21 : decode cX8_emit 21 = .ok (.getfield 24, 3) := by decide +kernel
theorem dX8_emit_24 : decode cX8_emit 24 = .ok (.iconst 1, 1) := by decide +kernel
theorem dX8_emit_25 : decode cX8_emit 25 = .ok (.iadd, 1) := by decide +kernel
theorem dX8_emit_26 : decode cX8_emit 26 = .ok (.putfield 24, 3) := by decide +kernel
theorem dX8_emit_29 : decode cX8_emit 29 = .ok (.return_, 1) := by decide +kernel
theorem dX8_hold_0 : decode cX8_hold 0 = .ok (.aload_n 0, 1) := by decide +kernel
theorem dX8_hold_1 : decode cX8_hold 1 = .ok (.getfield 28, 3) := by decide +kernel
theorem dX8_hold_4 : decode cX8_hold 4 = .ok (.bipush 40, 2) := by decide +kernel
theorem dX8_hold_6 : decode cX8_hold 6 = .ok (.if_icmp .ge 23, 3) := by decide +kernel
theorem dX8_hold_9 : decode cX8_hold 9 = .ok (.aload_n 0, 1) := by decide +kernel
theorem dX8_hold_10 : decode cX8_hold 10 = .ok (.getfield 15, 3) := by decide +kernel
theorem dX8_hold_13 : decode cX8_hold 13 = .ok (.aload_n 0, 1) := by decide +kernel
theorem dX8_hold_14 : decode cX8_hold 14 = .ok (.getfield 28, 3) := by decide +kernel
theorem dX8_hold_17 : decode cX8_hold 17 = .ok (.iload_n 1, 1) := by decide +kernel
theorem dX8_hold_18 : decode cX8_hold 18 = .ok (.iastore, 1) := by decide +kernel
theorem dX8_hold_19 : decode cX8_hold 19 = .ok (.aload_n 0, 1) := by decide +kernel
theorem dX8_hold_20 : decode cX8_hold 20 = .ok (.dup, 1) := by decide +kernel
theorem dX8_hold_21 : decode cX8_hold 21 = .ok (.getfield 28, 3) := by decide +kernel
theorem dX8_hold_24 : decode cX8_hold 24 = .ok (.iconst 1, 1) := by decide +kernel
theorem dX8_hold_25 : decode cX8_hold 25 = .ok (.iadd, 1) := by decide +kernel
theorem dX8_hold_26 : decode cX8_hold 26 = .ok (.putfield 28, 3) := by decide +kernel
theorem dX8_hold_29 : decode cX8_hold 29 = .ok (.return_, 1) := by decide +kernel
theorem dX8_release_0 : decode cX8_release 0 = .ok (.iconst 0, 1) := by decide +kernel
theorem dX8_release_1 : decode cX8_release 1 = .ok (.istore_n 2, 1) := by decide +kernel
theorem dX8_release_2 : decode cX8_release 2 = .ok (.iload_n 2, 1) := by decide +kernel
theorem dX8_release_3 : decode cX8_release 3 = .ok (.bipush 40, 2) := by decide +kernel
theorem dX8_release_5 : decode cX8_release 5 = .ok (.if_icmp .ge 61, 3) := by decide +kernel
theorem dX8_release_8 : decode cX8_release 8 = .ok (.aload_n 0, 1) := by decide +kernel
theorem dX8_release_9 : decode cX8_release 9 = .ok (.getfield 28, 3) := by decide +kernel
theorem dX8_release_12 : decode cX8_release 12 = .ok (.ifCond .le 54, 3) := by decide +kernel
theorem dX8_release_15 : decode cX8_release 15 = .ok (.aload_n 0, 1) := by decide +kernel
theorem dX8_release_16 : decode cX8_release 16 = .ok (.getfield 15, 3) := by decide +kernel
theorem dX8_release_19 : decode cX8_release 19 = .ok (.aload_n 0, 1) := by decide +kernel
theorem dX8_release_20 : decode cX8_release 20 = .ok (.getfield 28, 3) := by decide +kernel
theorem dX8_release_23 : decode cX8_release 23 = .ok (.iconst 1, 1) := by decide +kernel
theorem dX8_release_24 : decode cX8_release 24 = .ok (.isub, 1) := by decide +kernel
theorem dX8_release_25 : decode cX8_release 25 = .ok (.iaload, 1) := by decide +kernel
theorem dX8_release_26 : decode cX8_release 26 = .ok (.invokestatic 88, 3) := by decide +kernel
theorem dX8_release_29 : decode cX8_release 29 = .ok (.iload_n 1, 1) := by decide +kernel
theorem dX8_release_30 : decode cX8_release 30 = .ok (.if_icmp .lt 36, 3) := by decide +kernel
theorem dX8_release_33 : decode cX8_release 33 = .ok (.aload_n 0, 1) := by decide +kernel
theorem dX8_release_34 : decode cX8_release 34 = .ok (.dup, 1) := by decide +kernel
theorem dX8_release_35 : decode cX8_release 35 = .ok (.getfield 28, 3) := by decide +kernel
theorem dX8_release_38 : decode cX8_release 38 = .ok (.iconst 1, 1) := by decide +kernel
theorem dX8_release_39 : decode cX8_release 39 = .ok (.isub, 1) := by decide +kernel
theorem dX8_release_40 : decode cX8_release 40 = .ok (.putfield 28, 3) := by decide +kernel
theorem dX8_release_43 : decode cX8_release 43 = .ok (.aload_n 0, 1) := by decide +kernel
theorem dX8_release_44 : decode cX8_release 44 = .ok (.sipush 2000, 3) := by decide +kernel
theorem dX8_release_47 : decode cX8_release 47 = .ok (.aload_n 0, 1) := by decide +kernel
theorem dX8_release_48 : decode cX8_release 48 = .ok (.getfield 15, 3) := by decide +kernel
theorem dX8_release_51 : decode cX8_release 51 = .ok (.aload_n 0, 1) := by decide +kernel
theorem dX8_release_52 : decode cX8_release 52 = .ok (.getfield 28, 3) := by decide +kernel
theorem dX8_release_55 : decode cX8_release 55 = .ok (.iaload, 1) := by decide +kernel
theorem dX8_release_56 : decode cX8_release 56 = .ok (.iadd, 1) := by decide +kernel
theorem dX8_release_57 : decode cX8_release 57 = .ok (.invokevirtual 79, 3) := by decide +kernel
theorem dX8_release_60 : decode cX8_release 60 = .ok (.iinc 2 1, 3) := by decide +kernel
theorem dX8_release_63 : decode cX8_release 63 = .ok (.goto (-61), 3) := by decide +kernel
theorem dX8_release_66 : decode cX8_release 66 = .ok (.return_, 1) := by decide +kernel
theorem dX8_letting_0 : decode cX8_letting 0 = .ok (.aload_n 0, 1) := by decide +kernel
theorem dX8_letting_1 : decode cX8_letting 1 = .ok (.getfield 24, 3) := by decide +kernel
theorem dX8_letting_4 : decode cX8_letting 4 = .ok (.ifCond .ne 8, 3) := by decide +kernel
theorem dX8_letting_7 : decode cX8_letting 7 = .ok (.aload_n 1, 1) := by decide +kernel
theorem dX8_letting_8 : decode cX8_letting 8 = .ok (.getfield 91, 3) := by decide +kernel
theorem dX8_letting_11 : decode cX8_letting 11 = .ok (.ireturn, 1) := by decide +kernel
theorem dX8_letting_12 : decode cX8_letting 12 = .ok (.iconst 0, 1) := by decide +kernel
theorem dX8_letting_13 : decode cX8_letting 13 = .ok (.istore_n 3, 1) := by decide +kernel
theorem dX8_letting_14 : decode cX8_letting 14 = .ok (.iconst 0, 1) := by decide +kernel
theorem dX8_letting_15 : decode cX8_letting 15 = .ok (.istore 4, 2) := by decide +kernel
theorem dX8_letting_17 : decode cX8_letting 17 = .ok (.iload 4, 2) := by decide +kernel
theorem dX8_letting_19 : decode cX8_letting 19 = .ok (.bipush 24, 2) := by decide +kernel
theorem dX8_letting_21 : decode cX8_letting 21 = .ok (.if_icmp .ge 40, 3) := by decide +kernel
theorem dX8_letting_24 : decode cX8_letting 24 = .ok (.aload_n 1, 1) := by decide +kernel
theorem dX8_letting_25 : decode cX8_letting 25 = .ok (.iload 4, 2) := by decide +kernel
theorem dX8_letting_27 : decode cX8_letting 27 = .ok (.invokevirtual 96, 3) := by decide +kernel
theorem dX8_letting_30 : decode cX8_letting 30 = .ok (.ifCond .eq 25, 3) := by decide +kernel
theorem dX8_letting_33 : decode cX8_letting 33 = .ok (.aload_n 0, 1) := by decide +kernel
theorem dX8_letting_34 : decode cX8_letting 34 = .ok (.aload_n 1, 1) := by decide +kernel
theorem dX8_letting_35 : decode cX8_letting 35 = .ok (.iload 4, 2) := by decide +kernel
theorem dX8_letting_37 : decode cX8_letting 37 = .ok (.iload_n 2, 1) := by decide +kernel
theorem dX8_letting_38 : decode cX8_letting 38 = .ok (.invokevirtual 99, 3) := by decide +kernel
theorem dX8_letting_41 : decode cX8_letting 41 = .ok (.aload_n 0, 1) := by decide +kernel
theorem dX8_letting_42 : decode cX8_letting 42 = .ok (.invokevirtual 103, 3) := by decide +kernel
theorem dX8_letting_45 : decode cX8_letting 45 = .ok (.ifCond .le 10, 3) := by decide +kernel
theorem dX8_letting_48 : decode cX8_letting 48 = .ok (.iload_n 3, 1) := by decide +kernel
theorem dX8_letting_49 : decode cX8_letting 49 = .ok (.iconst 1, 1) := by decide +kernel
theorem dX8_letting_50 : decode cX8_letting 50 = .ok (.iload 4, 2) := by decide +kernel
theorem dX8_letting_52 : decode cX8_letting 52 = .ok (.ishl, 1) := by decide +kernel
theorem dX8_letting_53 : decode cX8_letting 53 = .ok (.ior, 1) := by decide +kernel
theorem dX8_letting_54 : decode cX8_letting 54 = .ok (.istore_n 3, 1) := by decide +kernel
theorem dX8_letting_55 : decode cX8_letting 55 = .ok (.iinc 4 1, 3) := by decide +kernel
theorem dX8_letting_58 : decode cX8_letting 58 = .ok (.goto (-41), 3) := by decide +kernel
theorem dX8_letting_61 : decode cX8_letting 61 = .ok (.iload_n 3, 1) := by decide +kernel
theorem dX8_letting_62 : decode cX8_letting 62 = .ok (.ireturn, 1) := by decide +kernel
theorem dX8_lookAt_0 : decode cX8_lookAt 0 = .ok (.aload_n 0, 1) := by decide +kernel
theorem dX8_lookAt_1 : decode cX8_lookAt 1 = .ok (.getfield 18, 3) := by decide +kernel
theorem dX8_lookAt_4 : decode cX8_lookAt 4 = .ok (.iconst 0, 1) := by decide +kernel
theorem dX8_lookAt_5 : decode cX8_lookAt 5 = .ok (.aload_n 1, 1) := by decide +kernel
theorem dX8_lookAt_6 : decode cX8_lookAt 6 = .ok (.iload_n 2, 1) := by decide +kernel
theorem dX8_lookAt_7 : decode cX8_lookAt 7 = .ok (.invokevirtual 107, 3) := by decide +kernel
theorem dX8_lookAt_10 : decode cX8_lookAt 10 = .ok (.iastore, 1) := by decide +kernel
theorem dX8_lookAt_11 : decode cX8_lookAt 11 = .ok (.aload_n 0, 1) := by decide +kernel
theorem dX8_lookAt_12 : decode cX8_lookAt 12 = .ok (.getfield 18, 3) := by decide +kernel
theorem dX8_lookAt_15 : decode cX8_lookAt 15 = .ok (.iconst 1, 1) := by decide +kernel
theorem dX8_lookAt_16 : decode cX8_lookAt 16 = .ok (.aload_n 1, 1) := by decide +kernel
theorem dX8_lookAt_17 : decode cX8_lookAt 17 = .ok (.iload_n 2, 1) := by decide +kernel
theorem dX8_lookAt_18 : decode cX8_lookAt 18 = .ok (.invokevirtual 110, 3) := by decide +kernel
theorem dX8_lookAt_21 : decode cX8_lookAt 21 = .ok (.invokestatic 113, 3) := by decide +kernel
theorem dX8_lookAt_24 : decode cX8_lookAt 24 = .ok (.iastore, 1) := by decide +kernel
theorem dX8_lookAt_25 : decode cX8_lookAt 25 = .ok (.aload_n 0, 1) := by decide +kernel
theorem dX8_lookAt_26 : decode cX8_lookAt 26 = .ok (.getfield 18, 3) := by decide +kernel
theorem dX8_lookAt_29 : decode cX8_lookAt 29 = .ok (.iconst 2, 1) := by decide +kernel
theorem dX8_lookAt_30 : decode cX8_lookAt 30 = .ok (.aload_n 1, 1) := by decide +kernel
theorem dX8_lookAt_31 : decode cX8_lookAt 31 = .ok (.aload_n 1, 1) := by decide +kernel
theorem dX8_lookAt_32 : decode cX8_lookAt 32 = .ok (.iload_n 2, 1) := by decide +kernel
theorem dX8_lookAt_33 : decode cX8_lookAt 33 = .ok (.invokevirtual 118, 3) := by decide +kernel
theorem dX8_lookAt_36 : decode cX8_lookAt 36 = .ok (.invokevirtual 121, 3) := by decide +kernel
theorem dX8_lookAt_39 : decode cX8_lookAt 39 = .ok (.invokestatic 113, 3) := by decide +kernel
theorem dX8_lookAt_42 : decode cX8_lookAt 42 = .ok (.iastore, 1) := by decide +kernel
theorem dX8_lookAt_43 : decode cX8_lookAt 43 = .ok (.aload_n 0, 1) := by decide +kernel
theorem dX8_lookAt_44 : decode cX8_lookAt 44 = .ok (.getfield 18, 3) := by decide +kernel
theorem dX8_lookAt_47 : decode cX8_lookAt 47 = .ok (.iconst 3, 1) := by decide +kernel
theorem dX8_lookAt_48 : decode cX8_lookAt 48 = .ok (.iload_n 2, 1) := by decide +kernel
theorem dX8_lookAt_49 : decode cX8_lookAt 49 = .ok (.iastore, 1) := by decide +kernel
theorem dX8_lookAt_50 : decode cX8_lookAt 50 = .ok (.aload_n 0, 1) := by decide +kernel
theorem dX8_lookAt_51 : decode cX8_lookAt 51 = .ok (.getfield 18, 3) := by decide +kernel
theorem dX8_lookAt_54 : decode cX8_lookAt 54 = .ok (.iconst 4, 1) := by decide +kernel
theorem dX8_lookAt_55 : decode cX8_lookAt 55 = .ok (.iload_n 3, 1) := by decide +kernel
theorem dX8_lookAt_56 : decode cX8_lookAt 56 = .ok (.iastore, 1) := by decide +kernel
theorem dX8_lookAt_57 : decode cX8_lookAt 57 = .ok (.aload_n 0, 1) := by decide +kernel
theorem dX8_lookAt_58 : decode cX8_lookAt 58 = .ok (.getfield 18, 3) := by decide +kernel
theorem dX8_lookAt_61 : decode cX8_lookAt 61 = .ok (.iconst 5, 1) := by decide +kernel
theorem dX8_lookAt_62 : decode cX8_lookAt 62 = .ok (.aload_n 1, 1) := by decide +kernel
theorem dX8_lookAt_63 : decode cX8_lookAt 63 = .ok (.getfield 124, 3) := by decide +kernel
theorem dX8_lookAt_66 : decode cX8_lookAt 66 = .ok (.bipush 7, 2) := by decide +kernel
theorem dX8_lookAt_68 : decode cX8_lookAt 68 = .ok (.irem, 1) := by decide +kernel
theorem dX8_lookAt_69 : decode cX8_lookAt 69 = .ok (.iastore, 1) := by decide +kernel
theorem dX8_lookAt_70 : decode cX8_lookAt 70 = .ok (.aload_n 0, 1) := by decide +kernel
theorem dX8_lookAt_71 : decode cX8_lookAt 71 = .ok (.getfield 18, 3) := by decide +kernel
theorem dX8_lookAt_74 : decode cX8_lookAt 74 = .ok (.bipush 6, 2) := by decide +kernel
theorem dX8_lookAt_76 : decode cX8_lookAt 76 = .ok (.aload_n 1, 1) := by decide +kernel
theorem dX8_lookAt_77 : decode cX8_lookAt 77 = .ok (.iload_n 2, 1) := by decide +kernel
theorem dX8_lookAt_78 : decode cX8_lookAt 78 = .ok (.invokevirtual 127, 3) := by decide +kernel
theorem dX8_lookAt_81 : decode cX8_lookAt 81 = .ok (.iastore, 1) := by decide +kernel
theorem dX8_lookAt_82 : decode cX8_lookAt 82 = .ok (.return_, 1) := by decide +kernel
theorem dX8_value_0 : decode cX8_value 0 = .ok (.iconst 0, 1) := by decide +kernel
theorem dX8_value_1 : decode cX8_value 1 = .ok (.istore_n 1, 1) := by decide +kernel
theorem dX8_value_2 : decode cX8_value 2 = .ok (.iconst 0, 1) := by decide +kernel
theorem dX8_value_3 : decode cX8_value 3 = .ok (.istore_n 2, 1) := by decide +kernel
theorem dX8_value_4 : decode cX8_value 4 = .ok (.iload_n 2, 1) := by decide +kernel
theorem dX8_value_5 : decode cX8_value 5 = .ok (.aload_n 0, 1) := by decide +kernel
theorem dX8_value_6 : decode cX8_value 6 = .ok (.getfield 24, 3) := by decide +kernel
theorem dX8_value_9 : decode cX8_value 9 = .ok (.if_icmp .ge 128, 3) := by decide +kernel
theorem dX8_value_12 : decode cX8_value 12 = .ok (.iload_n 2, 1) := by decide +kernel
theorem dX8_value_13 : decode cX8_value 13 = .ok (.bipush 40, 2) := by decide +kernel
theorem dX8_value_15 : decode cX8_value 15 = .ok (.if_icmp .ge 122, 3) := by decide +kernel
theorem dX8_value_18 : decode cX8_value 18 = .ok (.aload_n 0, 1) := by decide +kernel
theorem dX8_value_19 : decode cX8_value 19 = .ok (.getfield 11, 3) := by decide +kernel
theorem dX8_value_22 : decode cX8_value 22 = .ok (.iload_n 2, 1) := by decide +kernel
theorem dX8_value_23 : decode cX8_value 23 = .ok (.iaload, 1) := by decide +kernel
theorem dX8_value_24 : decode cX8_value 24 = .ok (.istore_n 3, 1) := by decide +kernel
theorem dX8_value_25 : decode cX8_value 25 = .ok (.iload_n 3, 1) := by decide +kernel
theorem dX8_value_26 : decode cX8_value 26 = .ok (.sipush 2000, 3) := by decide +kernel
theorem dX8_value_29 : decode cX8_value 29 = .ok (.if_icmp .ge 26, 3) := by decide +kernel
theorem dX8_value_32 : decode cX8_value 32 = .ok (.iload_n 1, 1) := by decide +kernel
theorem dX8_value_33 : decode cX8_value 33 = .ok (.bipush 40, 2) := by decide +kernel
theorem dX8_value_35 : decode cX8_value 35 = .ok (.if_icmp .ge 20, 3) := by decide +kernel
theorem dX8_value_38 : decode cX8_value 38 = .ok (.aload_n 0, 1) := by decide +kernel
theorem dX8_value_39 : decode cX8_value 39 = .ok (.getfield 21, 3) := by decide +kernel
theorem dX8_value_42 : decode cX8_value 42 = .ok (.iload_n 1, 1) := by decide +kernel
theorem dX8_value_43 : decode cX8_value 43 = .ok (.aload_n 0, 1) := by decide +kernel
theorem dX8_value_44 : decode cX8_value 44 = .ok (.iload_n 3, 1) := by decide +kernel
theorem dX8_value_45 : decode cX8_value 45 = .ok (.invokevirtual 130, 3) := by decide +kernel
theorem dX8_value_48 : decode cX8_value 48 = .ok (.iastore, 1) := by decide +kernel
theorem dX8_value_49 : decode cX8_value 49 = .ok (.iinc 1 1, 3) := by decide +kernel
theorem dX8_value_52 : decode cX8_value 52 = .ok (.goto 79, 3) := by decide +kernel
theorem dX8_value_55 : decode cX8_value 55 = .ok (.iload_n 3, 1) := by decide +kernel
theorem dX8_value_56 : decode cX8_value 56 = .ok (.sipush 2256, 3) := by decide +kernel
theorem dX8_value_59 : decode cX8_value 59 = .ok (.if_icmp .ne 27, 3) := by decide +kernel
theorem dX8_value_62 : decode cX8_value 62 = .ok (.iload_n 1, 1) := by decide +kernel
theorem dX8_value_63 : decode cX8_value 63 = .ok (.ifCond .le 23, 3) := by decide +kernel
theorem dX8_value_66 : decode cX8_value 66 = .ok (.aload_n 0, 1) := by decide +kernel
theorem dX8_value_67 : decode cX8_value 67 = .ok (.getfield 21, 3) := by decide +kernel
theorem dX8_value_70 : decode cX8_value 70 = .ok (.iload_n 1, 1) := by decide +kernel
theorem dX8_value_71 : decode cX8_value 71 = .ok (.iconst 1, 1) := by decide +kernel
theorem dX8_value_72 : decode cX8_value 72 = .ok (.isub, 1) := by decide +kernel
theorem dX8_value_73 : decode cX8_value 73 = .ok (.aload_n 0, 1) := by decide +kernel
theorem dX8_value_74 : decode cX8_value 74 = .ok (.getfield 21, 3) := by decide +kernel
theorem dX8_value_77 : decode cX8_value 77 = .ok (.iload_n 1, 1) := by decide +kernel
theorem dX8_value_78 : decode cX8_value 78 = .ok (.iconst 1, 1) := by decide +kernel
theorem dX8_value_79 : decode cX8_value 79 = .ok (.isub, 1) := by decide +kernel
theorem dX8_value_80 : decode cX8_value 80 = .ok (.iaload, 1) := by decide +kernel
theorem dX8_value_81 : decode cX8_value 81 = .ok (.ineg, 1) := by decide +kernel
theorem dX8_value_82 : decode cX8_value 82 = .ok (.iastore, 1) := by decide +kernel
theorem dX8_value_83 : decode cX8_value 83 = .ok (.goto 48, 3) := by decide +kernel
theorem dX8_value_86 : decode cX8_value 86 = .ok (.iload_n 3, 1) := by decide +kernel
theorem dX8_value_87 : decode cX8_value 87 = .ok (.sipush 2000, 3) := by decide +kernel
theorem dX8_value_90 : decode cX8_value 90 = .ok (.if_icmp .lt 41, 3) := by decide +kernel
theorem dX8_value_93 : decode cX8_value 93 = .ok (.iload_n 1, 1) := by decide +kernel
theorem dX8_value_94 : decode cX8_value 94 = .ok (.iconst 1, 1) := by decide +kernel
theorem dX8_value_95 : decode cX8_value 95 = .ok (.if_icmp .le 36, 3) := by decide +kernel
theorem dX8_value_98 : decode cX8_value 98 = .ok (.iinc 1 (-1), 3) := by decide +kernel
theorem dX8_value_101 : decode cX8_value 101 = .ok (.aload_n 0, 1) := by decide +kernel
theorem dX8_value_102 : decode cX8_value 102 = .ok (.getfield 21, 3) := by decide +kernel
theorem dX8_value_105 : decode cX8_value 105 = .ok (.iload_n 1, 1) := by decide +kernel
theorem dX8_value_106 : decode cX8_value 106 = .ok (.iconst 1, 1) := by decide +kernel
theorem dX8_value_107 : decode cX8_value 107 = .ok (.isub, 1) := by decide +kernel
theorem dX8_value_108 : decode cX8_value 108 = .ok (.iload_n 3, 1) := by decide +kernel
theorem dX8_value_109 : decode cX8_value 109 = .ok (.sipush 2000, 3) := by decide +kernel
theorem dX8_value_112 : decode cX8_value 112 = .ok (.isub, 1) := by decide +kernel
theorem dX8_value_113 : decode cX8_value 113 = .ok (.aload_n 0, 1) := by decide +kernel
theorem dX8_value_114 : decode cX8_value 114 = .ok (.getfield 21, 3) := by decide +kernel
theorem dX8_value_117 : decode cX8_value 117 = .ok (.iload_n 1, 1) := by decide +kernel
theorem dX8_value_118 : decode cX8_value 118 = .ok (.iconst 1, 1) := by decide +kernel
theorem dX8_value_119 : decode cX8_value 119 = .ok (.isub, 1) := by decide +kernel
theorem dX8_value_120 : decode cX8_value 120 = .ok (.iaload, 1) := by decide +kernel
theorem dX8_value_121 : decode cX8_value 121 = .ok (.aload_n 0, 1) := by decide +kernel
theorem dX8_value_122 : decode cX8_value 122 = .ok (.getfield 21, 3) := by decide +kernel
theorem dX8_value_125 : decode cX8_value 125 = .ok (.iload_n 1, 1) := by decide +kernel
theorem dX8_value_126 : decode cX8_value 126 = .ok (.iaload, 1) := by decide +kernel
theorem dX8_value_127 : decode cX8_value 127 = .ok (.invokestatic 133, 3) := by decide +kernel
theorem dX8_value_130 : decode cX8_value 130 = .ok (.iastore, 1) := by decide +kernel
theorem dX8_value_131 : decode cX8_value 131 = .ok (.iinc 2 1, 3) := by decide +kernel
theorem dX8_value_134 : decode cX8_value 134 = .ok (.goto (-130), 3) := by decide +kernel
theorem dX8_value_137 : decode cX8_value 137 = .ok (.aload_n 0, 1) := by decide +kernel
theorem dX8_value_138 : decode cX8_value 138 = .ok (.getfield 21, 3) := by decide +kernel
theorem dX8_value_141 : decode cX8_value 141 = .ok (.iconst 0, 1) := by decide +kernel
theorem dX8_value_142 : decode cX8_value 142 = .ok (.iaload, 1) := by decide +kernel
theorem dX8_value_143 : decode cX8_value 143 = .ok (.ireturn, 1) := by decide +kernel
theorem dX8_thing_0 : decode cX8_thing 0 = .ok (.iload_n 1, 1) := by decide +kernel
theorem dX8_thing_1 : decode cX8_thing 1 = .ok (.sipush 1000, 3) := by decide +kernel
theorem dX8_thing_4 : decode cX8_thing 4 = .ok (.isub, 1) := by decide +kernel
theorem dX8_thing_5 : decode cX8_thing 5 = .ok (.istore_n 2, 1) := by decide +kernel
theorem dX8_thing_6 : decode cX8_thing 6 = .ok (.iload_n 2, 1) := by decide +kernel
theorem dX8_thing_7 : decode cX8_thing 7 = .ok (.ifCond .lt 9, 3) := by decide +kernel
theorem dX8_thing_10 : decode cX8_thing 10 = .ok (.iload_n 2, 1) := by decide +kernel
theorem dX8_thing_11 : decode cX8_thing 11 = .ok (.bipush 7, 2) := by decide +kernel
theorem dX8_thing_13 : decode cX8_thing 13 = .ok (.if_icmp .lt 7, 3) := by decide +kernel
theorem dX8_thing_16 : decode cX8_thing 16 = .ok (.iload_n 1, 1) := by decide +kernel
theorem dX8_thing_17 : decode cX8_thing 17 = .ok (.goto 9, 3) := by decide +kernel
theorem dX8_thing_20 : decode cX8_thing 20 = .ok (.aload_n 0, 1) := by decide +kernel
theorem dX8_thing_21 : decode cX8_thing 21 = .ok (.getfield 18, 3) := by decide +kernel
theorem dX8_thing_24 : decode cX8_thing 24 = .ok (.iload_n 2, 1) := by decide +kernel
theorem dX8_thing_25 : decode cX8_thing 25 = .ok (.iaload, 1) := by decide +kernel
theorem dX8_thing_26 : decode cX8_thing 26 = .ok (.ireturn, 1) := by decide +kernel
theorem dX8_joined_0 : decode cX8_joined 0 = .ok (.iload_n 0, 1) := by decide +kernel
theorem dX8_joined_1 : decode cX8_joined 1 = .ok (.lookupswitch 104 #[(42, 100), (43, 92), (45, 96), (60, 59), (61, 81), (62, 70)], 59) := by decide +kernel
theorem dX8_joined_60 : decode cX8_joined 60 = .ok (.iload_n 1, 1) := by decide +kernel
theorem dX8_joined_61 : decode cX8_joined 61 = .ok (.iload_n 2, 1) := by decide +kernel
theorem dX8_joined_62 : decode cX8_joined 62 = .ok (.if_icmp .ge 7, 3) := by decide +kernel
theorem dX8_joined_65 : decode cX8_joined 65 = .ok (.iconst 1, 1) := by decide +kernel
theorem dX8_joined_66 : decode cX8_joined 66 = .ok (.goto 4, 3) := by decide +kernel
theorem dX8_joined_69 : decode cX8_joined 69 = .ok (.iconst 0, 1) := by decide +kernel
theorem dX8_joined_70 : decode cX8_joined 70 = .ok (.ireturn, 1) := by decide +kernel
theorem dX8_joined_71 : decode cX8_joined 71 = .ok (.iload_n 1, 1) := by decide +kernel
theorem dX8_joined_72 : decode cX8_joined 72 = .ok (.iload_n 2, 1) := by decide +kernel
theorem dX8_joined_73 : decode cX8_joined 73 = .ok (.if_icmp .le 7, 3) := by decide +kernel
theorem dX8_joined_76 : decode cX8_joined 76 = .ok (.iconst 1, 1) := by decide +kernel
theorem dX8_joined_77 : decode cX8_joined 77 = .ok (.goto 4, 3) := by decide +kernel
theorem dX8_joined_80 : decode cX8_joined 80 = .ok (.iconst 0, 1) := by decide +kernel
theorem dX8_joined_81 : decode cX8_joined 81 = .ok (.ireturn, 1) := by decide +kernel
theorem dX8_joined_82 : decode cX8_joined 82 = .ok (.iload_n 1, 1) := by decide +kernel
theorem dX8_joined_83 : decode cX8_joined 83 = .ok (.iload_n 2, 1) := by decide +kernel
theorem dX8_joined_84 : decode cX8_joined 84 = .ok (.if_icmp .ne 7, 3) := by decide +kernel
theorem dX8_joined_87 : decode cX8_joined 87 = .ok (.iconst 1, 1) := by decide +kernel
theorem dX8_joined_88 : decode cX8_joined 88 = .ok (.goto 4, 3) := by decide +kernel
theorem dX8_joined_91 : decode cX8_joined 91 = .ok (.iconst 0, 1) := by decide +kernel
theorem dX8_joined_92 : decode cX8_joined 92 = .ok (.ireturn, 1) := by decide +kernel
theorem dX8_joined_93 : decode cX8_joined 93 = .ok (.iload_n 1, 1) := by decide +kernel
theorem dX8_joined_94 : decode cX8_joined 94 = .ok (.iload_n 2, 1) := by decide +kernel
theorem dX8_joined_95 : decode cX8_joined 95 = .ok (.iadd, 1) := by decide +kernel
theorem dX8_joined_96 : decode cX8_joined 96 = .ok (.ireturn, 1) := by decide +kernel
theorem dX8_joined_97 : decode cX8_joined 97 = .ok (.iload_n 1, 1) := by decide +kernel
theorem dX8_joined_98 : decode cX8_joined 98 = .ok (.iload_n 2, 1) := by decide +kernel
theorem dX8_joined_99 : decode cX8_joined 99 = .ok (.isub, 1) := by decide +kernel
theorem dX8_joined_100 : decode cX8_joined 100 = .ok (.ireturn, 1) := by decide +kernel
theorem dX8_joined_101 : decode cX8_joined 101 = .ok (.iload_n 1, 1) := by decide +kernel
theorem dX8_joined_102 : decode cX8_joined 102 = .ok (.iload_n 2, 1) := by decide +kernel
theorem dX8_joined_103 : decode cX8_joined 103 = .ok (.imul, 1) := by decide +kernel
theorem dX8_joined_104 : decode cX8_joined 104 = .ok (.ireturn, 1) := by decide +kernel
theorem dX8_joined_105 : decode cX8_joined 105 = .ok (.iload_n 2, 1) := by decide +kernel
theorem dX8_joined_106 : decode cX8_joined 106 = .ok (.ifCond .ne 7, 3) := by decide +kernel
theorem dX8_joined_109 : decode cX8_joined 109 = .ok (.iconst 0, 1) := by decide +kernel
theorem dX8_joined_110 : decode cX8_joined 110 = .ok (.goto 6, 3) := by decide +kernel
theorem dX8_joined_113 : decode cX8_joined 113 = .ok (.iload_n 1, 1) := by decide +kernel
theorem dX8_joined_114 : decode cX8_joined 114 = .ok (.iload_n 2, 1) := by decide +kernel
theorem dX8_joined_115 : decode cX8_joined 115 = .ok (.idiv, 1) := by decide +kernel
theorem dX8_joined_116 : decode cX8_joined 116 = .ok (.ireturn, 1) := by decide +kernel
theorem dX9_init_0 : decode cX9_init 0 = .ok (.aload_n 0, 1) := by decide +kernel
theorem dX9_init_1 : decode cX9_init 1 = .ok (.invokespecial 3, 3) := by decide +kernel
theorem dX9_init_4 : decode cX9_init 4 = .ok (.aload_n 0, 1) := by decide +kernel
theorem dX9_init_5 : decode cX9_init 5 = .ok (.bipush 80, 2) := by decide +kernel
theorem dX9_init_7 : decode cX9_init 7 = .ok (.newarray .int, 2) := by decide +kernel
theorem dX9_init_9 : decode cX9_init 9 = .ok (.putfield 11, 3) := by decide +kernel
theorem dX9_init_12 : decode cX9_init 12 = .ok (.return_, 1) := by decide +kernel
theorem dX9_add_0 : decode cX9_add 0 = .ok (.aload_n 0, 1) := by decide +kernel
theorem dX9_add_1 : decode cX9_add 1 = .ok (.getfield 15, 3) := by decide +kernel
theorem dX9_add_4 : decode cX9_add 4 = .ok (.iconst 4, 1) := by decide +kernel
theorem dX9_add_5 : decode cX9_add 5 = .ok (.iadd, 1) := by decide +kernel
theorem dX9_add_6 : decode cX9_add 6 = .ok (.bipush 80, 2) := by decide +kernel
theorem dX9_add_8 : decode cX9_add 8 = .ok (.if_icmp .le 5, 3) := by decide +kernel
theorem dX9_add_11 : decode cX9_add 11 = .ok (.iconst 0, 1) := by decide +kernel
theorem dX9_add_12 : decode cX9_add 12 = .ok (.ireturn, 1) := by decide +kernel
theorem dX9_add_13 : decode cX9_add 13 = .ok (.iconst 0, 1) := by decide +kernel
theorem dX9_add_14 : decode cX9_add 14 = .ok (.istore_n 2, 1) := by decide +kernel
theorem dX9_add_15 : decode cX9_add 15 = .ok (.iload_n 2, 1) := by decide +kernel
theorem dX9_add_16 : decode cX9_add 16 = .ok (.iconst 4, 1) := by decide +kernel
theorem dX9_add_17 : decode cX9_add 17 = .ok (.if_icmp .ge 41, 3) := by decide +kernel
theorem dX9_add_20 : decode cX9_add 20 = .ok (.aload_n 0, 1) := by decide +kernel
theorem dX9_add_21 : decode cX9_add 21 = .ok (.getfield 11, 3) := by decide +kernel
theorem dX9_add_24 : decode cX9_add 24 = .ok (.aload_n 0, 1) := by decide +kernel
theorem dX9_add_25 : decode cX9_add 25 = .ok (.getfield 15, 3) := by decide +kernel
theorem dX9_add_28 : decode cX9_add 28 = .ok (.iload_n 1, 1) := by decide +kernel
theorem dX9_add_29 : decode cX9_add 29 = .ok (.bipush 24, 2) := by decide +kernel
theorem dX9_add_31 : decode cX9_add 31 = .ok (.bipush 8, 2) := by decide +kernel
theorem dX9_add_33 : decode cX9_add 33 = .ok (.iload_n 2, 1) := by decide +kernel
theorem dX9_add_34 : decode cX9_add 34 = .ok (.imul, 1) := by decide +kernel
theorem dX9_add_35 : decode cX9_add 35 = .ok (.isub, 1) := by decide +kernel
theorem dX9_add_36 : decode cX9_add 36 = .ok (.iushr, 1) := by decide +kernel
theorem dX9_add_37 : decode cX9_add 37 = .ok (.sipush 255, 3) := by decide +kernel
theorem dX9_add_40 : decode cX9_add 40 = .ok (.iand, 1) := by decide +kernel
theorem dX9_add_41 : decode cX9_add 41 = .ok (.iastore, 1) := by decide +kernel
theorem dX9_add_42 : decode cX9_add 42 = .ok (.aload_n 0, 1) := by decide +kernel
theorem dX9_add_43 : decode cX9_add 43 = .ok (.dup, 1) := by decide +kernel
theorem dX9_add_44 : decode cX9_add 44 = .ok (.getfield 15, 3) := by decide +kernel
theorem dX9_add_47 : decode cX9_add 47 = .ok (.iconst 1, 1) := by decide +kernel
theorem dX9_add_48 : decode cX9_add 48 = .ok (.iadd, 1) := by decide +kernel
theorem dX9_add_49 : decode cX9_add 49 = .ok (.putfield 15, 3) := by decide +kernel
theorem dX9_add_52 : decode cX9_add 52 = .ok (.iinc 2 1, 3) := by decide +kernel
theorem dX9_add_55 : decode cX9_add 55 = .ok (.goto (-40), 3) := by decide +kernel
theorem dX9_add_58 : decode cX9_add 58 = .ok (.iconst 1, 1) := by decide +kernel
theorem dX9_add_59 : decode cX9_add 59 = .ok (.ireturn, 1) := by decide +kernel
theorem dX9_cut_0 : decode cX9_cut 0 = .ok (.iload_n 1, 1) := by decide +kernel
theorem dX9_cut_1 : decode cX9_cut 1 = .ok (.ifCond .lt 11, 3) := by decide +kernel
theorem dX9_cut_4 : decode cX9_cut 4 = .ok (.iload_n 1, 1) := by decide +kernel
theorem dX9_cut_5 : decode cX9_cut 5 = .ok (.aload_n 0, 1) := by decide +kernel
theorem dX9_cut_6 : decode cX9_cut 6 = .ok (.getfield 15, 3) := by decide +kernel
theorem dX9_cut_9 : decode cX9_cut 9 = .ok (.if_icmp .le 5, 3) := by decide +kernel
theorem dX9_cut_12 : decode cX9_cut 12 = .ok (.iconst 0, 1) := by decide +kernel
theorem dX9_cut_13 : decode cX9_cut 13 = .ok (.ireturn, 1) := by decide +kernel
theorem dX9_cut_14 : decode cX9_cut 14 = .ok (.aload_n 0, 1) := by decide +kernel
theorem dX9_cut_15 : decode cX9_cut 15 = .ok (.iload_n 1, 1) := by decide +kernel
theorem dX9_cut_16 : decode cX9_cut 16 = .ok (.putfield 15, 3) := by decide +kernel
theorem dX9_cut_19 : decode cX9_cut 19 = .ok (.iconst 1, 1) := by decide +kernel
theorem dX9_cut_20 : decode cX9_cut 20 = .ok (.ireturn, 1) := by decide +kernel
theorem dX9_clear_0 : decode cX9_clear 0 = .ok (.aload_n 0, 1) := by decide +kernel
theorem dX9_clear_1 : decode cX9_clear 1 = .ok (.iconst 0, 1) := by decide +kernel
theorem dX9_clear_2 : decode cX9_clear 2 = .ok (.putfield 15, 3) := by decide +kernel
theorem dX9_clear_5 : decode cX9_clear 5 = .ok (.return_, 1) := by decide +kernel
theorem dX9_signAt_0 : decode cX9_signAt 0 = .ok (.iload_n 1, 1) := by decide +kernel
theorem dX9_signAt_1 : decode cX9_signAt 1 = .ok (.ifCond .lt 20, 3) := by decide +kernel
theorem dX9_signAt_4 : decode cX9_signAt 4 = .ok (.iload_n 1, 1) := by decide +kernel
theorem dX9_signAt_5 : decode cX9_signAt 5 = .ok (.aload_n 0, 1) := by decide +kernel
theorem dX9_signAt_6 : decode cX9_signAt 6 = .ok (.getfield 15, 3) := by decide +kernel
theorem dX9_signAt_9 : decode cX9_signAt 9 = .ok (.if_icmp .ge 12, 3) := by decide +kernel
theorem dX9_signAt_12 : decode cX9_signAt 12 = .ok (.aload_n 0, 1) := by decide +kernel
theorem dX9_signAt_13 : decode cX9_signAt 13 = .ok (.getfield 11, 3) := by decide +kernel
theorem dX9_signAt_16 : decode cX9_signAt 16 = .ok (.iload_n 1, 1) := by decide +kernel
theorem dX9_signAt_17 : decode cX9_signAt 17 = .ok (.iaload, 1) := by decide +kernel
theorem dX9_signAt_18 : decode cX9_signAt 18 = .ok (.goto 4, 3) := by decide +kernel
theorem dX9_signAt_21 : decode cX9_signAt 21 = .ok (.iconst (-1), 1) := by decide +kernel
theorem dX9_signAt_22 : decode cX9_signAt 22 = .ok (.ireturn, 1) := by decide +kernel
theorem dX9_dirAt_0 : decode cX9_dirAt 0 = .ok (.aload_n 0, 1) := by decide +kernel
theorem dX9_dirAt_1 : decode cX9_dirAt 1 = .ok (.iload_n 1, 1) := by decide +kernel
theorem dX9_dirAt_2 : decode cX9_dirAt 2 = .ok (.invokevirtual 19, 3) := by decide +kernel
theorem dX9_dirAt_5 : decode cX9_dirAt 5 = .ok (.istore_n 2, 1) := by decide +kernel
theorem dX9_dirAt_6 : decode cX9_dirAt 6 = .ok (.iload_n 2, 1) := by decide +kernel
theorem dX9_dirAt_7 : decode cX9_dirAt 7 = .ok (.bipush 97, 2) := by decide +kernel
theorem dX9_dirAt_9 : decode cX9_dirAt 9 = .ok (.if_icmp .lt 16, 3) := by decide +kernel
theorem dX9_dirAt_12 : decode cX9_dirAt 12 = .ok (.iload_n 2, 1) := by decide +kernel
theorem dX9_dirAt_13 : decode cX9_dirAt 13 = .ok (.bipush 100, 2) := by decide +kernel
theorem dX9_dirAt_15 : decode cX9_dirAt 15 = .ok (.if_icmp .gt 10, 3) := by decide +kernel
theorem dX9_dirAt_18 : decode cX9_dirAt 18 = .ok (.iload_n 2, 1) := by decide +kernel
theorem dX9_dirAt_19 : decode cX9_dirAt 19 = .ok (.bipush 97, 2) := by decide +kernel
theorem dX9_dirAt_21 : decode cX9_dirAt 21 = .ok (.isub, 1) := by decide +kernel
theorem dX9_dirAt_22 : decode cX9_dirAt 22 = .ok (.goto 4, 3) := by decide +kernel
theorem dX9_dirAt_25 : decode cX9_dirAt 25 = .ok (.iconst (-1), 1) := by decide +kernel
theorem dX9_dirAt_26 : decode cX9_dirAt 26 = .ok (.ireturn, 1) := by decide +kernel
theorem dX10_init_0 : decode cX10_init 0 = .ok (.aload_n 0, 1) := by decide +kernel
theorem dX10_init_1 : decode cX10_init 1 = .ok (.invokespecial 3, 3) := by decide +kernel
theorem dX10_init_4 : decode cX10_init 4 = .ok (.aload_n 0, 1) := by decide +kernel
theorem dX10_init_5 : decode cX10_init 5 = .ok (.bipush 24, 2) := by decide +kernel
theorem dX10_init_7 : decode cX10_init 7 = .ok (.newarray .int, 2) := by decide +kernel
theorem dX10_init_9 : decode cX10_init 9 = .ok (.putfield 9, 3) := by decide +kernel
theorem dX10_init_12 : decode cX10_init 12 = .ok (.aload_n 0, 1) := by decide +kernel
theorem dX10_init_13 : decode cX10_init 13 = .ok (.bipush 24, 2) := by decide +kernel
theorem dX10_init_15 : decode cX10_init 15 = .ok (.newarray .int, 2) := by decide +kernel
theorem dX10_init_17 : decode cX10_init 17 = .ok (.putfield 15, 3) := by decide +kernel
theorem dX10_init_20 : decode cX10_init 20 = .ok (.aload_n 0, 1) := by decide +kernel
theorem dX10_init_21 : decode cX10_init 21 = .ok (.bipush 24, 2) := by decide +kernel
theorem dX10_init_23 : decode cX10_init 23 = .ok (.newarray .int, 2) := by decide +kernel
theorem dX10_init_25 : decode cX10_init 25 = .ok (.putfield 18, 3) := by decide +kernel
theorem dX10_init_28 : decode cX10_init 28 = .ok (.aload_n 0, 1) := by decide +kernel
theorem dX10_init_29 : decode cX10_init 29 = .ok (.iconst 1, 1) := by decide +kernel
theorem dX10_init_30 : decode cX10_init 30 = .ok (.putfield 21, 3) := by decide +kernel
theorem dX10_init_33 : decode cX10_init 33 = .ok (.aload_n 0, 1) := by decide +kernel
theorem dX10_init_34 : decode cX10_init 34 = .ok (.iconst 1, 1) := by decide +kernel
theorem dX10_init_35 : decode cX10_init 35 = .ok (.putfield 25, 3) := by decide +kernel
theorem dX10_init_38 : decode cX10_init 38 = .ok (.iconst 0, 1) := by decide +kernel
theorem dX10_init_39 : decode cX10_init 39 = .ok (.istore_n 1, 1) := by decide +kernel
theorem dX10_init_40 : decode cX10_init 40 = .ok (.iload_n 1, 1) := by decide +kernel
theorem dX10_init_41 : decode cX10_init 41 = .ok (.bipush 24, 2) := by decide +kernel
theorem dX10_init_43 : decode cX10_init 43 = .ok (.if_icmp .ge 16, 3) := by decide +kernel
theorem dX10_init_46 : decode cX10_init 46 = .ok (.aload_n 0, 1) := by decide +kernel
theorem dX10_init_47 : decode cX10_init 47 = .ok (.getfield 9, 3) := by decide +kernel
theorem dX10_init_50 : decode cX10_init 50 = .ok (.iload_n 1, 1) := by decide +kernel
theorem dX10_init_51 : decode cX10_init 51 = .ok (.iconst (-1), 1) := by decide +kernel
theorem dX10_init_52 : decode cX10_init 52 = .ok (.iastore, 1) := by decide +kernel
theorem dX10_init_53 : decode cX10_init 53 = .ok (.iinc 1 1, 3) := by decide +kernel
theorem dX10_init_56 : decode cX10_init 56 = .ok (.goto (-16), 3) := by decide +kernel
theorem dX10_init_59 : decode cX10_init 59 = .ok (.return_, 1) := by decide +kernel
theorem dX10_take_0 : decode cX10_take 0 = .ok (.iconst 0, 1) := by decide +kernel
theorem dX10_take_1 : decode cX10_take 1 = .ok (.istore_n 2, 1) := by decide +kernel
theorem dX10_take_2 : decode cX10_take 2 = .ok (.iload_n 2, 1) := by decide +kernel
theorem dX10_take_3 : decode cX10_take 3 = .ok (.bipush 24, 2) := by decide +kernel
theorem dX10_take_5 : decode cX10_take 5 = .ok (.if_icmp .ge 45, 3) := by decide +kernel
theorem dX10_take_8 : decode cX10_take 8 = .ok (.aload_n 0, 1) := by decide +kernel
theorem dX10_take_9 : decode cX10_take 9 = .ok (.getfield 9, 3) := by decide +kernel
theorem dX10_take_12 : decode cX10_take 12 = .ok (.iload_n 2, 1) := by decide +kernel
theorem dX10_take_13 : decode cX10_take 13 = .ok (.aload_n 1, 1) := by decide +kernel
theorem dX10_take_14 : decode cX10_take 14 = .ok (.getfield 9, 3) := by decide +kernel
theorem dX10_take_17 : decode cX10_take 17 = .ok (.iload_n 2, 1) := by decide +kernel
theorem dX10_take_18 : decode cX10_take 18 = .ok (.iaload, 1) := by decide +kernel
theorem dX10_take_19 : decode cX10_take 19 = .ok (.iastore, 1) := by decide +kernel
theorem dX10_take_20 : decode cX10_take 20 = .ok (.aload_n 0, 1) := by decide +kernel
theorem dX10_take_21 : decode cX10_take 21 = .ok (.getfield 15, 3) := by decide +kernel
theorem dX10_take_24 : decode cX10_take 24 = .ok (.iload_n 2, 1) := by decide +kernel
