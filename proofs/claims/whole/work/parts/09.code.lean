theorem dX8_byTurns_219 : decode cX8_byTurns 219 = .ok (.iload 8, 2) := by decide +kernel
theorem dX8_byTurns_221 : decode cX8_byTurns 221 = .ok (.istore 5, 2) := by decide +kernel
theorem dX8_byTurns_223 : decode cX8_byTurns 223 = .ok (.iinc 6 (-1), 3) := by decide +kernel
theorem dX8_byTurns_226 : decode cX8_byTurns 226 = .ok (.goto (-181), 3) := by decide +kernel
theorem dX8_byTurns_229 : decode cX8_byTurns 229 = .ok (.iload 5, 2) := by decide +kernel
theorem dX8_byTurns_231 : decode cX8_byTurns 231 = .ok (.ireturn, 1) := by decide +kernel
theorem dX8_see_0 : decode cX8_see 0 = .ok (.aload_n 0, 1) := by decide +kernel
theorem dX8_see_1 : decode cX8_see 1 = .ok (.iconst 0, 1) := by decide +kernel
theorem dX8_see_2 : decode cX8_see 2 = .ok (.putfield 59, 3) := by decide +kernel
theorem dX8_see_5 : decode cX8_see 5 = .ok (.aload_n 0, 1) := by decide +kernel
theorem dX8_see_6 : decode cX8_see 6 = .ok (.iload_n 1, 1) := by decide +kernel
theorem dX8_see_7 : decode cX8_see 7 = .ok (.invokevirtual 134, 3) := by decide +kernel
theorem dX8_see_10 : decode cX8_see 10 = .ok (.ifCond .eq 5, 3) := by decide +kernel
theorem dX8_see_13 : decode cX8_see 13 = .ok (.iconst (-1), 1) := by decide +kernel
theorem dX8_see_14 : decode cX8_see 14 = .ok (.ireturn, 1) := by decide +kernel
theorem dX8_see_15 : decode cX8_see 15 = .ok (.aload_n 0, 1) := by decide +kernel
theorem dX8_see_16 : decode cX8_see 16 = .ok (.getfield 121, 3) := by decide +kernel
theorem dX8_see_19 : decode cX8_see 19 = .ok (.bipush 6, 2) := by decide +kernel
theorem dX8_see_21 : decode cX8_see 21 = .ok (.if_icmp .ne 6, 3) := by decide +kernel
theorem dX8_see_24 : decode cX8_see 24 = .ok (.bipush (-4), 2) := by decide +kernel
theorem dX8_see_26 : decode cX8_see 26 = .ok (.ireturn, 1) := by decide +kernel
theorem dX8_see_27 : decode cX8_see 27 = .ok (.aload_n 0, 1) := by decide +kernel
theorem dX8_see_28 : decode cX8_see 28 = .ok (.getfield 47, 3) := by decide +kernel
theorem dX8_see_31 : decode cX8_see 31 = .ok (.aload_n 0, 1) := by decide +kernel
theorem dX8_see_32 : decode cX8_see 32 = .ok (.getfield 121, 3) := by decide +kernel
theorem dX8_see_35 : decode cX8_see 35 = .ok (.iload_n 1, 1) := by decide +kernel
theorem dX8_see_36 : decode cX8_see 36 = .ok (.iastore, 1) := by decide +kernel
theorem dX8_see_37 : decode cX8_see 37 = .ok (.aload_n 0, 1) := by decide +kernel
theorem dX8_see_38 : decode cX8_see 38 = .ok (.getfield 50, 3) := by decide +kernel
theorem dX8_see_41 : decode cX8_see 41 = .ok (.aload_n 0, 1) := by decide +kernel
theorem dX8_see_42 : decode cX8_see 42 = .ok (.getfield 121, 3) := by decide +kernel
theorem dX8_see_45 : decode cX8_see 45 = .ok (.iload_n 2, 1) := by decide +kernel
theorem dX8_see_46 : decode cX8_see 46 = .ok (.bastore, 1) := by decide +kernel
theorem dX8_see_47 : decode cX8_see 47 = .ok (.aload_n 0, 1) := by decide +kernel
theorem dX8_see_48 : decode cX8_see 48 = .ok (.dup, 1) := by decide +kernel
theorem dX8_see_49 : decode cX8_see 49 = .ok (.getfield 121, 3) := by decide +kernel
theorem dX8_see_52 : decode cX8_see 52 = .ok (.iconst 1, 1) := by decide +kernel
theorem dX8_see_53 : decode cX8_see 53 = .ok (.iadd, 1) := by decide +kernel
theorem dX8_see_54 : decode cX8_see 54 = .ok (.putfield 121, 3) := by decide +kernel
theorem dX8_see_57 : decode cX8_see 57 = .ok (.aload_n 0, 1) := by decide +kernel
theorem dX8_see_58 : decode cX8_see 58 = .ok (.getfield 121, 3) := by decide +kernel
theorem dX8_see_61 : decode cX8_see 61 = .ok (.ireturn, 1) := by decide +kernel
theorem dX8_unsee_0 : decode cX8_unsee 0 = .ok (.aload_n 0, 1) := by decide +kernel
theorem dX8_unsee_1 : decode cX8_unsee 1 = .ok (.iconst 0, 1) := by decide +kernel
theorem dX8_unsee_2 : decode cX8_unsee 2 = .ok (.putfield 59, 3) := by decide +kernel
theorem dX8_unsee_5 : decode cX8_unsee 5 = .ok (.aload_n 0, 1) := by decide +kernel
theorem dX8_unsee_6 : decode cX8_unsee 6 = .ok (.getfield 121, 3) := by decide +kernel
theorem dX8_unsee_9 : decode cX8_unsee 9 = .ok (.istore_n 1, 1) := by decide +kernel
theorem dX8_unsee_10 : decode cX8_unsee 10 = .ok (.aload_n 0, 1) := by decide +kernel
theorem dX8_unsee_11 : decode cX8_unsee 11 = .ok (.iconst 0, 1) := by decide +kernel
theorem dX8_unsee_12 : decode cX8_unsee 12 = .ok (.putfield 121, 3) := by decide +kernel
theorem dX8_unsee_15 : decode cX8_unsee 15 = .ok (.iload_n 1, 1) := by decide +kernel
theorem dX8_unsee_16 : decode cX8_unsee 16 = .ok (.ireturn, 1) := by decide +kernel
theorem dX8_findKnew_0 : decode cX8_findKnew 0 = .ok (.aload_n 0, 1) := by decide +kernel
theorem dX8_findKnew_1 : decode cX8_findKnew 1 = .ok (.iconst 0, 1) := by decide +kernel
theorem dX8_findKnew_2 : decode cX8_findKnew 2 = .ok (.putfield 226, 3) := by decide +kernel
theorem dX8_findKnew_5 : decode cX8_findKnew 5 = .ok (.aload_n 0, 1) := by decide +kernel
theorem dX8_findKnew_6 : decode cX8_findKnew 6 = .ok (.bipush (-9), 2) := by decide +kernel
theorem dX8_findKnew_8 : decode cX8_findKnew 8 = .ok (.putfield 229, 3) := by decide +kernel
theorem dX8_findKnew_11 : decode cX8_findKnew 11 = .ok (.aload_n 0, 1) := by decide +kernel
theorem dX8_findKnew_12 : decode cX8_findKnew 12 = .ok (.iconst 1, 1) := by decide +kernel
theorem dX8_findKnew_13 : decode cX8_findKnew 13 = .ok (.aload_n 0, 1) := by decide +kernel
theorem dX8_findKnew_14 : decode cX8_findKnew 14 = .ok (.getfield 63, 3) := by decide +kernel
theorem dX8_findKnew_17 : decode cX8_findKnew 17 = .ok (.ishl, 1) := by decide +kernel
theorem dX8_findKnew_18 : decode cX8_findKnew 18 = .ok (.iconst 1, 1) := by decide +kernel
theorem dX8_findKnew_19 : decode cX8_findKnew 19 = .ok (.isub, 1) := by decide +kernel
theorem dX8_findKnew_20 : decode cX8_findKnew 20 = .ok (.putfield 232, 3) := by decide +kernel
theorem dX8_findKnew_23 : decode cX8_findKnew 23 = .ok (.iconst 0, 1) := by decide +kernel
theorem dX8_findKnew_24 : decode cX8_findKnew 24 = .ok (.istore_n 1, 1) := by decide +kernel
theorem dX8_findKnew_25 : decode cX8_findKnew 25 = .ok (.iload_n 1, 1) := by decide +kernel
theorem dX8_findKnew_26 : decode cX8_findKnew 26 = .ok (.iconst 1, 1) := by decide +kernel
theorem dX8_findKnew_27 : decode cX8_findKnew 27 = .ok (.aload_n 0, 1) := by decide +kernel
theorem dX8_findKnew_28 : decode cX8_findKnew 28 = .ok (.getfield 63, 3) := by decide +kernel
theorem dX8_findKnew_31 : decode cX8_findKnew 31 = .ok (.ishl, 1) := by decide +kernel
theorem dX8_findKnew_32 : decode cX8_findKnew 32 = .ok (.if_icmp .ge 138, 3) := by decide +kernel
theorem dX8_findKnew_35 : decode cX8_findKnew 35 = .ok (.iconst 1, 1) := by decide +kernel
theorem dX8_findKnew_36 : decode cX8_findKnew 36 = .ok (.istore_n 2, 1) := by decide +kernel
theorem dX8_findKnew_37 : decode cX8_findKnew 37 = .ok (.iconst 0, 1) := by decide +kernel
theorem dX8_findKnew_38 : decode cX8_findKnew 38 = .ok (.istore_n 3, 1) := by decide +kernel
theorem dX8_findKnew_39 : decode cX8_findKnew 39 = .ok (.iload_n 3, 1) := by decide +kernel
theorem dX8_findKnew_40 : decode cX8_findKnew 40 = .ok (.aload_n 0, 1) := by decide +kernel
theorem dX8_findKnew_41 : decode cX8_findKnew 41 = .ok (.getfield 121, 3) := by decide +kernel
theorem dX8_findKnew_44 : decode cX8_findKnew 44 = .ok (.if_icmp .ge 77, 3) := by decide +kernel
theorem dX8_findKnew_47 : decode cX8_findKnew 47 = .ok (.iload_n 2, 1) := by decide +kernel
theorem dX8_findKnew_48 : decode cX8_findKnew 48 = .ok (.ifCond .eq 73, 3) := by decide +kernel
theorem dX8_findKnew_51 : decode cX8_findKnew 51 = .ok (.aload_n 0, 1) := by decide +kernel
theorem dX8_findKnew_52 : decode cX8_findKnew 52 = .ok (.getfield 47, 3) := by decide +kernel
theorem dX8_findKnew_55 : decode cX8_findKnew 55 = .ok (.iload_n 3, 1) := by decide +kernel
theorem dX8_findKnew_56 : decode cX8_findKnew 56 = .ok (.iaload, 1) := by decide +kernel
theorem dX8_findKnew_57 : decode cX8_findKnew 57 = .ok (.istore 4, 2) := by decide +kernel
theorem dX8_findKnew_59 : decode cX8_findKnew 59 = .ok (.iload 4, 2) := by decide +kernel
theorem dX8_findKnew_61 : decode cX8_findKnew 61 = .ok (.aload_n 0, 1) := by decide +kernel
theorem dX8_findKnew_62 : decode cX8_findKnew 62 = .ok (.getfield 70, 3) := by decide +kernel
theorem dX8_findKnew_65 : decode cX8_findKnew 65 = .ok (.if_icmp .ge 44, 3) := by decide +kernel
theorem dX8_findKnew_68 : decode cX8_findKnew 68 = .ok (.iload_n 1, 1) := by decide +kernel
theorem dX8_findKnew_69 : decode cX8_findKnew 69 = .ok (.aload_n 0, 1) := by decide +kernel
theorem dX8_findKnew_70 : decode cX8_findKnew 70 = .ok (.getfield 19, 3) := by decide +kernel
theorem dX8_findKnew_73 : decode cX8_findKnew 73 = .ok (.iconst 5, 1) := by decide +kernel
theorem dX8_findKnew_74 : decode cX8_findKnew 74 = .ok (.iload 4, 2) := by decide +kernel
theorem dX8_findKnew_76 : decode cX8_findKnew 76 = .ok (.imul, 1) := by decide +kernel
theorem dX8_findKnew_77 : decode cX8_findKnew 77 = .ok (.iaload, 1) := by decide +kernel
theorem dX8_findKnew_78 : decode cX8_findKnew 78 = .ok (.ishr, 1) := by decide +kernel
theorem dX8_findKnew_79 : decode cX8_findKnew 79 = .ok (.iconst 1, 1) := by decide +kernel
theorem dX8_findKnew_80 : decode cX8_findKnew 80 = .ok (.iand, 1) := by decide +kernel
theorem dX8_findKnew_81 : decode cX8_findKnew 81 = .ok (.aload_n 0, 1) := by decide +kernel
theorem dX8_findKnew_82 : decode cX8_findKnew 82 = .ok (.getfield 19, 3) := by decide +kernel
theorem dX8_findKnew_85 : decode cX8_findKnew 85 = .ok (.iconst 5, 1) := by decide +kernel
theorem dX8_findKnew_86 : decode cX8_findKnew 86 = .ok (.iload 4, 2) := by decide +kernel
theorem dX8_findKnew_88 : decode cX8_findKnew 88 = .ok (.imul, 1) := by decide +kernel
theorem dX8_findKnew_89 : decode cX8_findKnew 89 = .ok (.iconst 1, 1) := by decide +kernel
theorem dX8_findKnew_90 : decode cX8_findKnew 90 = .ok (.iadd, 1) := by decide +kernel
theorem dX8_findKnew_91 : decode cX8_findKnew 91 = .ok (.iaload, 1) := by decide +kernel
theorem dX8_findKnew_92 : decode cX8_findKnew 92 = .ok (.if_icmp .ne 7, 3) := by decide +kernel
theorem dX8_findKnew_95 : decode cX8_findKnew 95 = .ok (.iconst 1, 1) := by decide +kernel
theorem dX8_findKnew_96 : decode cX8_findKnew 96 = .ok (.goto 4, 3) := by decide +kernel
theorem dX8_findKnew_99 : decode cX8_findKnew 99 = .ok (.iconst 0, 1) := by decide +kernel
theorem dX8_findKnew_100 : decode cX8_findKnew 100 = .ok (.aload_n 0, 1) := by decide +kernel
theorem dX8_findKnew_101 : decode cX8_findKnew 101 = .ok (.getfield 50, 3) := by decide +kernel
theorem dX8_findKnew_104 : decode cX8_findKnew 104 = .ok (.iload_n 3, 1) := by decide +kernel
theorem dX8_findKnew_105 : decode cX8_findKnew 105 = .ok (.baload, 1) := by decide +kernel
theorem dX8_findKnew_106 : decode cX8_findKnew 106 = .ok (.if_icmp .ne 7, 3) := by decide +kernel
theorem dX8_findKnew_109 : decode cX8_findKnew 109 = .ok (.iconst 1, 1) := by decide +kernel
theorem dX8_findKnew_110 : decode cX8_findKnew 110 = .ok (.goto 4, 3) := by decide +kernel
theorem dX8_findKnew_113 : decode cX8_findKnew 113 = .ok (.iconst 0, 1) := by decide +kernel
theorem dX8_findKnew_114 : decode cX8_findKnew 114 = .ok (.istore_n 2, 1) := by decide +kernel
theorem dX8_findKnew_115 : decode cX8_findKnew 115 = .ok (.iinc 3 1, 3) := by decide +kernel
theorem dX8_findKnew_118 : decode cX8_findKnew 118 = .ok (.goto (-79), 3) := by decide +kernel
theorem dX8_findKnew_121 : decode cX8_findKnew 121 = .ok (.iload_n 2, 1) := by decide +kernel
theorem dX8_findKnew_122 : decode cX8_findKnew 122 = .ok (.ifCond .eq 42, 3) := by decide +kernel
theorem dX8_findKnew_125 : decode cX8_findKnew 125 = .ok (.aload_n 0, 1) := by decide +kernel
theorem dX8_findKnew_126 : decode cX8_findKnew 126 = .ok (.aload_n 0, 1) := by decide +kernel
theorem dX8_findKnew_127 : decode cX8_findKnew 127 = .ok (.getfield 226, 3) := by decide +kernel
theorem dX8_findKnew_130 : decode cX8_findKnew 130 = .ok (.ifCond .ne 7, 3) := by decide +kernel
theorem dX8_findKnew_133 : decode cX8_findKnew 133 = .ok (.iload_n 1, 1) := by decide +kernel
theorem dX8_findKnew_134 : decode cX8_findKnew 134 = .ok (.goto 7, 3) := by decide +kernel
theorem dX8_findKnew_137 : decode cX8_findKnew 137 = .ok (.aload_n 0, 1) := by decide +kernel
theorem dX8_findKnew_138 : decode cX8_findKnew 138 = .ok (.getfield 229, 3) := by decide +kernel
theorem dX8_findKnew_141 : decode cX8_findKnew 141 = .ok (.putfield 229, 3) := by decide +kernel
theorem dX8_findKnew_144 : decode cX8_findKnew 144 = .ok (.aload_n 0, 1) := by decide +kernel
theorem dX8_findKnew_145 : decode cX8_findKnew 145 = .ok (.dup, 1) := by decide +kernel
theorem dX8_findKnew_146 : decode cX8_findKnew 146 = .ok (.getfield 226, 3) := by decide +kernel
theorem dX8_findKnew_149 : decode cX8_findKnew 149 = .ok (.iconst 1, 1) := by decide +kernel
theorem dX8_findKnew_150 : decode cX8_findKnew 150 = .ok (.iadd, 1) := by decide +kernel
theorem dX8_findKnew_151 : decode cX8_findKnew 151 = .ok (.putfield 226, 3) := by decide +kernel
theorem dX8_findKnew_154 : decode cX8_findKnew 154 = .ok (.aload_n 0, 1) := by decide +kernel
theorem dX8_findKnew_155 : decode cX8_findKnew 155 = .ok (.dup, 1) := by decide +kernel
theorem dX8_findKnew_156 : decode cX8_findKnew 156 = .ok (.getfield 232, 3) := by decide +kernel
theorem dX8_findKnew_159 : decode cX8_findKnew 159 = .ok (.iload_n 1, 1) := by decide +kernel
theorem dX8_findKnew_160 : decode cX8_findKnew 160 = .ok (.iand, 1) := by decide +kernel
theorem dX8_findKnew_161 : decode cX8_findKnew 161 = .ok (.putfield 232, 3) := by decide +kernel
theorem dX8_findKnew_164 : decode cX8_findKnew 164 = .ok (.iinc 1 1, 3) := by decide +kernel
theorem dX8_findKnew_167 : decode cX8_findKnew 167 = .ok (.goto (-142), 3) := by decide +kernel
theorem dX8_findKnew_170 : decode cX8_findKnew 170 = .ok (.return_, 1) := by decide +kernel
theorem dX8_knew_0 : decode cX8_knew 0 = .ok (.aload_n 0, 1) := by decide +kernel
theorem dX8_knew_1 : decode cX8_knew 1 = .ok (.iconst 0, 1) := by decide +kernel
theorem dX8_knew_2 : decode cX8_knew 2 = .ok (.putfield 59, 3) := by decide +kernel
theorem dX8_knew_5 : decode cX8_knew 5 = .ok (.iload_n 1, 1) := by decide +kernel
theorem dX8_knew_6 : decode cX8_knew 6 = .ok (.i2l, 1) := by decide +kernel
theorem dX8_knew_7 : decode cX8_knew 7 = .ok (.lconst 0, 1) := by decide +kernel
theorem dX8_knew_8 : decode cX8_knew 8 = .ok (.ldc2_w 124, 3) := by decide +kernel
theorem dX8_knew_11 : decode cX8_knew 11 = .ok (.invokestatic 66, 3) := by decide +kernel
theorem dX8_knew_14 : decode cX8_knew 14 = .ok (.ifCond .ne 6, 3) := by decide +kernel
theorem dX8_knew_17 : decode cX8_knew 17 = .ok (.bipush (-2), 2) := by decide +kernel
theorem dX8_knew_19 : decode cX8_knew 19 = .ok (.ireturn, 1) := by decide +kernel
theorem dX8_knew_20 : decode cX8_knew 20 = .ok (.aload_n 0, 1) := by decide +kernel
theorem dX8_knew_21 : decode cX8_knew 21 = .ok (.invokevirtual 235, 3) := by decide +kernel
theorem dX8_knew_24 : decode cX8_knew 24 = .ok (.iload_n 1, 1) := by decide +kernel
theorem dX8_knew_25 : decode cX8_knew 25 = .ok (.ifCond .ne 10, 3) := by decide +kernel
theorem dX8_knew_28 : decode cX8_knew 28 = .ok (.aload_n 0, 1) := by decide +kernel
theorem dX8_knew_29 : decode cX8_knew 29 = .ok (.getfield 226, 3) := by decide +kernel
theorem dX8_knew_32 : decode cX8_knew 32 = .ok (.goto 31, 3) := by decide +kernel
theorem dX8_knew_35 : decode cX8_knew 35 = .ok (.aload_n 0, 1) := by decide +kernel
theorem dX8_knew_36 : decode cX8_knew 36 = .ok (.getfield 226, 3) := by decide +kernel
theorem dX8_knew_39 : decode cX8_knew 39 = .ok (.ifCond .ne 8, 3) := by decide +kernel
theorem dX8_knew_42 : decode cX8_knew 42 = .ok (.bipush (-9), 2) := by decide +kernel
theorem dX8_knew_44 : decode cX8_knew 44 = .ok (.goto 19, 3) := by decide +kernel
theorem dX8_knew_47 : decode cX8_knew 47 = .ok (.iload_n 1, 1) := by decide +kernel
theorem dX8_knew_48 : decode cX8_knew 48 = .ok (.iconst 1, 1) := by decide +kernel
theorem dX8_knew_49 : decode cX8_knew 49 = .ok (.if_icmp .ne 10, 3) := by decide +kernel
theorem dX8_knew_52 : decode cX8_knew 52 = .ok (.aload_n 0, 1) := by decide +kernel
theorem dX8_knew_53 : decode cX8_knew 53 = .ok (.getfield 229, 3) := by decide +kernel
theorem dX8_knew_56 : decode cX8_knew 56 = .ok (.goto 7, 3) := by decide +kernel
theorem dX8_knew_59 : decode cX8_knew 59 = .ok (.aload_n 0, 1) := by decide +kernel
theorem dX8_knew_60 : decode cX8_knew 60 = .ok (.getfield 232, 3) := by decide +kernel
theorem dX8_knew_63 : decode cX8_knew 63 = .ok (.ireturn, 1) := by decide +kernel
theorem dX8_seed_0 : decode cX8_seed 0 = .ok (.aload_n 0, 1) := by decide +kernel
theorem dX8_seed_1 : decode cX8_seed 1 = .ok (.iconst 0, 1) := by decide +kernel
theorem dX8_seed_2 : decode cX8_seed 2 = .ok (.putfield 59, 3) := by decide +kernel
theorem dX8_seed_5 : decode cX8_seed 5 = .ok (.aload_n 0, 1) := by decide +kernel
theorem dX8_seed_6 : decode cX8_seed 6 = .ok (.getfield 238, 3) := by decide +kernel
theorem dX8_seed_9 : decode cX8_seed 9 = .ok (.lstore_n 3, 1) := by decide +kernel
theorem dX8_seed_10 : decode cX8_seed 10 = .ok (.aload_n 0, 1) := by decide +kernel
theorem dX8_seed_11 : decode cX8_seed 11 = .ok (.lload_n 1, 1) := by decide +kernel
theorem dX8_seed_12 : decode cX8_seed 12 = .ok (.putfield 238, 3) := by decide +kernel
theorem dX8_seed_15 : decode cX8_seed 15 = .ok (.lload_n 3, 1) := by decide +kernel
theorem dX8_seed_16 : decode cX8_seed 16 = .ok (.lreturn, 1) := by decide +kernel
theorem dX8_drinkers_0 : decode cX8_drinkers 0 = .ok (.aload_n 0, 1) := by decide +kernel
theorem dX8_drinkers_1 : decode cX8_drinkers 1 = .ok (.iconst 0, 1) := by decide +kernel
theorem dX8_drinkers_2 : decode cX8_drinkers 2 = .ok (.putfield 59, 3) := by decide +kernel
theorem dX8_drinkers_5 : decode cX8_drinkers 5 = .ok (.iload_n 1, 1) := by decide +kernel
theorem dX8_drinkers_6 : decode cX8_drinkers 6 = .ok (.i2l, 1) := by decide +kernel
theorem dX8_drinkers_7 : decode cX8_drinkers 7 = .ok (.lconst 1, 1) := by decide +kernel
theorem dX8_drinkers_8 : decode cX8_drinkers 8 = .ok (.ldc2_w 242, 3) := by decide +kernel
theorem dX8_drinkers_11 : decode cX8_drinkers 11 = .ok (.invokestatic 66, 3) := by decide +kernel
theorem dX8_drinkers_14 : decode cX8_drinkers 14 = .ok (.ifCond .ne 6, 3) := by decide +kernel
theorem dX8_drinkers_17 : decode cX8_drinkers 17 = .ok (.bipush (-2), 2) := by decide +kernel
theorem dX8_drinkers_19 : decode cX8_drinkers 19 = .ok (.ireturn, 1) := by decide +kernel
theorem dX8_drinkers_20 : decode cX8_drinkers 20 = .ok (.iconst 0, 1) := by decide +kernel
theorem dX8_drinkers_21 : decode cX8_drinkers 21 = .ok (.istore_n 2, 1) := by decide +kernel
theorem dX8_drinkers_22 : decode cX8_drinkers 22 = .ok (.iload_n 2, 1) := by decide +kernel
theorem dX8_drinkers_23 : decode cX8_drinkers 23 = .ok (.bipush 16, 2) := by decide +kernel
theorem dX8_drinkers_25 : decode cX8_drinkers 25 = .ok (.if_icmp .ge 21, 3) := by decide +kernel
theorem dX8_drinkers_28 : decode cX8_drinkers 28 = .ok (.aload_n 0, 1) := by decide +kernel
theorem dX8_drinkers_29 : decode cX8_drinkers 29 = .ok (.getfield 34, 3) := by decide +kernel
theorem dX8_drinkers_32 : decode cX8_drinkers 32 = .ok (.iload_n 2, 1) := by decide +kernel
theorem dX8_drinkers_33 : decode cX8_drinkers 33 = .ok (.aload_n 0, 1) := by decide +kernel
theorem dX8_drinkers_34 : decode cX8_drinkers 34 = .ok (.getfield 31, 3) := by decide +kernel
theorem dX8_drinkers_37 : decode cX8_drinkers 37 = .ok (.iload_n 2, 1) := by decide +kernel
theorem dX8_drinkers_38 : decode cX8_drinkers 38 = .ok (.iaload, 1) := by decide +kernel
theorem dX8_drinkers_39 : decode cX8_drinkers 39 = .ok (.iastore, 1) := by decide +kernel
theorem dX8_drinkers_40 : decode cX8_drinkers 40 = .ok (.iinc 2 1, 3) := by decide +kernel
theorem dX8_drinkers_43 : decode cX8_drinkers 43 = .ok (.goto (-21), 3) := by decide +kernel
theorem dX8_drinkers_46 : decode cX8_drinkers 46 = .ok (.iconst 0, 1) := by decide +kernel
theorem dX8_drinkers_47 : decode cX8_drinkers 47 = .ok (.istore_n 2, 1) := by decide +kernel
theorem dX8_drinkers_48 : decode cX8_drinkers 48 = .ok (.iload_n 2, 1) := by decide +kernel
theorem dX8_drinkers_49 : decode cX8_drinkers 49 = .ok (.iload_n 1, 1) := by decide +kernel
theorem dX8_drinkers_50 : decode cX8_drinkers 50 = .ok (.if_icmp .ge 116, 3) := by decide +kernel
theorem dX8_drinkers_53 : decode cX8_drinkers 53 = .ok (.aload_n 0, 1) := by decide +kernel
theorem dX8_drinkers_54 : decode cX8_drinkers 54 = .ok (.aload_n 0, 1) := by decide +kernel
theorem dX8_drinkers_55 : decode cX8_drinkers 55 = .ok (.getfield 238, 3) := by decide +kernel
theorem dX8_drinkers_58 : decode cX8_drinkers 58 = .ok (.ldc2_w 244, 3) := by decide +kernel
theorem dX8_drinkers_61 : decode cX8_drinkers 61 = .ok (.lmul, 1) := by decide +kernel
theorem dX8_drinkers_62 : decode cX8_drinkers 62 = .ok (.ldc2_w 246, 3) := by decide +kernel
theorem dX8_drinkers_65 : decode cX8_drinkers 65 = .ok (.ladd, 1) := by decide +kernel
theorem dX8_drinkers_66 : decode cX8_drinkers 66 = .ok (.putfield 238, 3) := by decide +kernel
theorem dX8_drinkers_69 : decode cX8_drinkers 69 = .ok (.aload_n 0, 1) := by decide +kernel
theorem dX8_drinkers_70 : decode cX8_drinkers 70 = .ok (.getfield 238, 3) := by decide +kernel
theorem dX8_drinkers_73 : decode cX8_drinkers 73 = .ok (.bipush 33, 2) := by decide +kernel
theorem dX8_drinkers_75 : decode cX8_drinkers 75 = .ok (.lushr, 1) := by decide +kernel
theorem dX8_drinkers_76 : decode cX8_drinkers 76 = .ok (.ldc2_w 248, 3) := by decide +kernel
theorem dX8_drinkers_79 : decode cX8_drinkers 79 = .ok (.lrem, 1) := by decide +kernel
theorem dX8_drinkers_80 : decode cX8_drinkers 80 = .ok (.l2i, 1) := by decide +kernel
theorem dX8_drinkers_81 : decode cX8_drinkers 81 = .ok (.istore_n 3, 1) := by decide +kernel
theorem dX8_drinkers_82 : decode cX8_drinkers 82 = .ok (.iload_n 3, 1) := by decide +kernel
theorem dX8_drinkers_83 : decode cX8_drinkers 83 = .ok (.aload_n 0, 1) := by decide +kernel
theorem dX8_drinkers_84 : decode cX8_drinkers 84 = .ok (.getfield 63, 3) := by decide +kernel
theorem dX8_drinkers_87 : decode cX8_drinkers 87 = .ok (.if_icmp .ge 24, 3) := by decide +kernel
theorem dX8_drinkers_90 : decode cX8_drinkers 90 = .ok (.aload_n 0, 1) := by decide +kernel
theorem dX8_drinkers_91 : decode cX8_drinkers 91 = .ok (.aload_n 0, 1) := by decide +kernel
theorem dX8_drinkers_92 : decode cX8_drinkers 92 = .ok (.getfield 34, 3) := by decide +kernel
theorem dX8_drinkers_95 : decode cX8_drinkers 95 = .ok (.iload_n 3, 1) := by decide +kernel
theorem dX8_drinkers_96 : decode cX8_drinkers 96 = .ok (.invokevirtual 143, 3) := by decide +kernel
theorem dX8_drinkers_99 : decode cX8_drinkers 99 = .ok (.ifCond .ne 12, 3) := by decide +kernel
theorem dX8_drinkers_102 : decode cX8_drinkers 102 = .ok (.aload_n 0, 1) := by decide +kernel
theorem dX8_drinkers_103 : decode cX8_drinkers 103 = .ok (.aload_n 0, 1) := by decide +kernel
theorem dX8_drinkers_104 : decode cX8_drinkers 104 = .ok (.getfield 34, 3) := by decide +kernel
theorem dX8_drinkers_107 : decode cX8_drinkers 107 = .ok (.iload_n 3, 1) := by decide +kernel
theorem dX8_drinkers_108 : decode cX8_drinkers 108 = .ok (.invokevirtual 150, 3) := by decide +kernel
theorem dX8_drinkers_111 : decode cX8_drinkers 111 = .ok (.iload_n 3, 1) := by decide +kernel
theorem dX8_drinkers_112 : decode cX8_drinkers 112 = .ok (.iconst 3, 1) := by decide +kernel
theorem dX8_drinkers_113 : decode cX8_drinkers 113 = .ok (.if_icmp .le 38, 3) := by decide +kernel
theorem dX8_drinkers_116 : decode cX8_drinkers 116 = .ok (.iload_n 3, 1) := by decide +kernel
theorem dX8_drinkers_117 : decode cX8_drinkers 117 = .ok (.iconst 4, 1) := by decide +kernel
theorem dX8_drinkers_118 : decode cX8_drinkers 118 = .ok (.isub, 1) := by decide +kernel
theorem dX8_drinkers_119 : decode cX8_drinkers 119 = .ok (.aload_n 0, 1) := by decide +kernel
theorem dX8_drinkers_120 : decode cX8_drinkers 120 = .ok (.getfield 70, 3) := by decide +kernel
theorem dX8_drinkers_123 : decode cX8_drinkers 123 = .ok (.if_icmp .ge 28, 3) := by decide +kernel
theorem dX8_drinkers_126 : decode cX8_drinkers 126 = .ok (.aload_n 0, 1) := by decide +kernel
theorem dX8_drinkers_127 : decode cX8_drinkers 127 = .ok (.aload_n 0, 1) := by decide +kernel
theorem dX8_drinkers_128 : decode cX8_drinkers 128 = .ok (.getfield 34, 3) := by decide +kernel
theorem dX8_drinkers_131 : decode cX8_drinkers 131 = .ok (.iload_n 3, 1) := by decide +kernel
theorem dX8_drinkers_132 : decode cX8_drinkers 132 = .ok (.iconst 4, 1) := by decide +kernel
theorem dX8_drinkers_133 : decode cX8_drinkers 133 = .ok (.isub, 1) := by decide +kernel
theorem dX8_drinkers_134 : decode cX8_drinkers 134 = .ok (.invokevirtual 154, 3) := by decide +kernel
theorem dX8_drinkers_137 : decode cX8_drinkers 137 = .ok (.ifCond .ne 14, 3) := by decide +kernel
theorem dX8_drinkers_140 : decode cX8_drinkers 140 = .ok (.aload_n 0, 1) := by decide +kernel
theorem dX8_drinkers_141 : decode cX8_drinkers 141 = .ok (.aload_n 0, 1) := by decide +kernel
theorem dX8_drinkers_142 : decode cX8_drinkers 142 = .ok (.getfield 34, 3) := by decide +kernel
theorem dX8_drinkers_145 : decode cX8_drinkers 145 = .ok (.iload_n 3, 1) := by decide +kernel
theorem dX8_drinkers_146 : decode cX8_drinkers 146 = .ok (.iconst 4, 1) := by decide +kernel
theorem dX8_drinkers_147 : decode cX8_drinkers 147 = .ok (.isub, 1) := by decide +kernel
theorem dX8_drinkers_148 : decode cX8_drinkers 148 = .ok (.invokevirtual 157, 3) := by decide +kernel
theorem dX8_drinkers_151 : decode cX8_drinkers 151 = .ok (.aload_n 0, 1) := by decide +kernel
theorem dX8_drinkers_152 : decode cX8_drinkers 152 = .ok (.aload_n 0, 1) := by decide +kernel
theorem dX8_drinkers_153 : decode cX8_drinkers 153 = .ok (.getfield 34, 3) := by decide +kernel
theorem dX8_drinkers_156 : decode cX8_drinkers 156 = .ok (.invokevirtual 160, 3) := by decide +kernel
theorem dX8_drinkers_159 : decode cX8_drinkers 159 = .ok (.pop, 1) := by decide +kernel
theorem dX8_drinkers_160 : decode cX8_drinkers 160 = .ok (.iinc 2 1, 3) := by decide +kernel
theorem dX8_drinkers_163 : decode cX8_drinkers 163 = .ok (.goto (-115), 3) := by decide +kernel
theorem dX8_drinkers_166 : decode cX8_drinkers 166 = .ok (.aload_n 0, 1) := by decide +kernel
theorem dX8_drinkers_167 : decode cX8_drinkers 167 = .ok (.aload_n 0, 1) := by decide +kernel
theorem dX8_drinkers_168 : decode cX8_drinkers 168 = .ok (.getfield 34, 3) := by decide +kernel
theorem dX8_drinkers_171 : decode cX8_drinkers 171 = .ok (.invokevirtual 118, 3) := by decide +kernel
theorem dX8_drinkers_174 : decode cX8_drinkers 174 = .ok (.ireturn, 1) := by decide +kernel
theorem dX8_keep_0 : decode cX8_keep 0 = .ok (.aload_n 0, 1) := by decide +kernel
theorem dX8_keep_1 : decode cX8_keep 1 = .ok (.iconst 0, 1) := by decide +kernel
theorem dX8_keep_2 : decode cX8_keep 2 = .ok (.putfield 59, 3) := by decide +kernel
theorem dX8_keep_5 : decode cX8_keep 5 = .ok (.iload_n 1, 1) := by decide +kernel
theorem dX8_keep_6 : decode cX8_keep 6 = .ok (.i2l, 1) := by decide +kernel
theorem dX8_keep_7 : decode cX8_keep 7 = .ok (.lconst 0, 1) := by decide +kernel
theorem dX8_keep_8 : decode cX8_keep 8 = .ok (.lconst 1, 1) := by decide +kernel
theorem dX8_keep_9 : decode cX8_keep 9 = .ok (.invokestatic 66, 3) := by decide +kernel
theorem dX8_keep_12 : decode cX8_keep 12 = .ok (.ifCond .ne 5, 3) := by decide +kernel
theorem dX8_keep_15 : decode cX8_keep 15 = .ok (.iconst (-1), 1) := by decide +kernel
theorem dX8_keep_16 : decode cX8_keep 16 = .ok (.ireturn, 1) := by decide +kernel
theorem dX8_keep_17 : decode cX8_keep 17 = .ok (.aload_n 0, 1) := by decide +kernel
theorem dX8_keep_18 : decode cX8_keep 18 = .ok (.getfield 43, 3) := by decide +kernel
theorem dX8_keep_21 : decode cX8_keep 21 = .ok (.iload_n 1, 1) := by decide +kernel
theorem dX8_keep_22 : decode cX8_keep 22 = .ok (.iconst 1, 1) := by decide +kernel
theorem dX8_keep_23 : decode cX8_keep 23 = .ok (.bastore, 1) := by decide +kernel
theorem dX8_keep_24 : decode cX8_keep 24 = .ok (.iconst 0, 1) := by decide +kernel
theorem dX8_keep_25 : decode cX8_keep 25 = .ok (.istore_n 2, 1) := by decide +kernel
theorem dX8_keep_26 : decode cX8_keep 26 = .ok (.iload_n 2, 1) := by decide +kernel
theorem dX8_keep_27 : decode cX8_keep 27 = .ok (.bipush 16, 2) := by decide +kernel
theorem dX8_keep_29 : decode cX8_keep 29 = .ok (.if_icmp .ge 26, 3) := by decide +kernel
theorem dX8_keep_32 : decode cX8_keep 32 = .ok (.aload_n 0, 1) := by decide +kernel
theorem dX8_keep_33 : decode cX8_keep 33 = .ok (.getfield 40, 3) := by decide +kernel
theorem dX8_keep_36 : decode cX8_keep 36 = .ok (.bipush 16, 2) := by decide +kernel
theorem dX8_keep_38 : decode cX8_keep 38 = .ok (.iload_n 1, 1) := by decide +kernel
theorem dX8_keep_39 : decode cX8_keep 39 = .ok (.imul, 1) := by decide +kernel
theorem dX8_keep_40 : decode cX8_keep 40 = .ok (.iload_n 2, 1) := by decide +kernel
theorem dX8_keep_41 : decode cX8_keep 41 = .ok (.iadd, 1) := by decide +kernel
theorem dX8_keep_42 : decode cX8_keep 42 = .ok (.aload_n 0, 1) := by decide +kernel
theorem dX8_keep_43 : decode cX8_keep 43 = .ok (.getfield 31, 3) := by decide +kernel
theorem dX8_keep_46 : decode cX8_keep 46 = .ok (.iload_n 2, 1) := by decide +kernel
theorem dX8_keep_47 : decode cX8_keep 47 = .ok (.iaload, 1) := by decide +kernel
theorem dX8_keep_48 : decode cX8_keep 48 = .ok (.iastore, 1) := by decide +kernel
theorem dX8_keep_49 : decode cX8_keep 49 = .ok (.iinc 2 1, 3) := by decide +kernel
theorem dX8_keep_52 : decode cX8_keep 52 = .ok (.goto (-26), 3) := by decide +kernel
theorem dX8_keep_55 : decode cX8_keep 55 = .ok (.aload_n 0, 1) := by decide +kernel
theorem dX8_keep_56 : decode cX8_keep 56 = .ok (.aload_n 0, 1) := by decide +kernel
theorem dX8_keep_57 : decode cX8_keep 57 = .ok (.getfield 31, 3) := by decide +kernel
theorem dX8_keep_60 : decode cX8_keep 60 = .ok (.invokevirtual 118, 3) := by decide +kernel
theorem dX8_keep_63 : decode cX8_keep 63 = .ok (.ireturn, 1) := by decide +kernel
theorem dX8_again_0 : decode cX8_again 0 = .ok (.aload_n 0, 1) := by decide +kernel
theorem dX8_again_1 : decode cX8_again 1 = .ok (.iconst 0, 1) := by decide +kernel
theorem dX8_again_2 : decode cX8_again 2 = .ok (.putfield 59, 3) := by decide +kernel
theorem dX8_again_5 : decode cX8_again 5 = .ok (.iload_n 1, 1) := by decide +kernel
theorem dX8_again_6 : decode cX8_again 6 = .ok (.i2l, 1) := by decide +kernel
theorem dX8_again_7 : decode cX8_again 7 = .ok (.lconst 0, 1) := by decide +kernel
theorem dX8_again_8 : decode cX8_again 8 = .ok (.lconst 1, 1) := by decide +kernel
theorem dX8_again_9 : decode cX8_again 9 = .ok (.invokestatic 66, 3) := by decide +kernel
theorem dX8_again_12 : decode cX8_again 12 = .ok (.ifCond .ne 5, 3) := by decide +kernel
theorem dX8_again_15 : decode cX8_again 15 = .ok (.iconst (-1), 1) := by decide +kernel
theorem dX8_again_16 : decode cX8_again 16 = .ok (.ireturn, 1) := by decide +kernel
theorem dX8_again_17 : decode cX8_again 17 = .ok (.aload_n 0, 1) := by decide +kernel
theorem dX8_again_18 : decode cX8_again 18 = .ok (.getfield 43, 3) := by decide +kernel
theorem dX8_again_21 : decode cX8_again 21 = .ok (.iload_n 1, 1) := by decide +kernel
theorem dX8_again_22 : decode cX8_again 22 = .ok (.baload, 1) := by decide +kernel
theorem dX8_again_23 : decode cX8_again 23 = .ok (.ifCond .ne 6, 3) := by decide +kernel
theorem dX8_again_26 : decode cX8_again 26 = .ok (.bipush (-3), 2) := by decide +kernel
theorem dX8_again_28 : decode cX8_again 28 = .ok (.ireturn, 1) := by decide +kernel
theorem dX8_again_29 : decode cX8_again 29 = .ok (.iconst 0, 1) := by decide +kernel
theorem dX8_again_30 : decode cX8_again 30 = .ok (.istore_n 2, 1) := by decide +kernel
theorem dX8_again_31 : decode cX8_again 31 = .ok (.iload_n 2, 1) := by decide +kernel
theorem dX8_again_32 : decode cX8_again 32 = .ok (.bipush 16, 2) := by decide +kernel
theorem dX8_again_34 : decode cX8_again 34 = .ok (.if_icmp .ge 26, 3) := by decide +kernel
theorem dX8_again_37 : decode cX8_again 37 = .ok (.aload_n 0, 1) := by decide +kernel
theorem dX8_again_38 : decode cX8_again 38 = .ok (.getfield 31, 3) := by decide +kernel
theorem dX8_again_41 : decode cX8_again 41 = .ok (.iload_n 2, 1) := by decide +kernel
theorem dX8_again_42 : decode cX8_again 42 = .ok (.aload_n 0, 1) := by decide +kernel
theorem dX8_again_43 : decode cX8_again 43 = .ok (.getfield 40, 3) := by decide +kernel
theorem dX8_again_46 : decode cX8_again 46 = .ok (.bipush 16, 2) := by decide +kernel
theorem dX8_again_48 : decode cX8_again 48 = .ok (.iload_n 1, 1) := by decide +kernel
theorem dX8_again_49 : decode cX8_again 49 = .ok (.imul, 1) := by decide +kernel
theorem dX8_again_50 : decode cX8_again 50 = .ok (.iload_n 2, 1) := by decide +kernel
theorem dX8_again_51 : decode cX8_again 51 = .ok (.iadd, 1) := by decide +kernel
theorem dX8_again_52 : decode cX8_again 52 = .ok (.iaload, 1) := by decide +kernel
theorem dX8_again_53 : decode cX8_again 53 = .ok (.iastore, 1) := by decide +kernel
theorem dX8_again_54 : decode cX8_again 54 = .ok (.iinc 2 1, 3) := by decide +kernel
theorem dX8_again_57 : decode cX8_again 57 = .ok (.goto (-26), 3) := by decide +kernel
theorem dX8_again_60 : decode cX8_again 60 = .ok (.aload_n 0, 1) := by decide +kernel
theorem dX8_again_61 : decode cX8_again 61 = .ok (.iconst 0, 1) := by decide +kernel
theorem dX8_again_62 : decode cX8_again 62 = .ok (.putfield 111, 3) := by decide +kernel
theorem dX8_again_65 : decode cX8_again 65 = .ok (.aload_n 0, 1) := by decide +kernel
theorem dX8_again_66 : decode cX8_again 66 = .ok (.aload_n 0, 1) := by decide +kernel
theorem dX8_again_67 : decode cX8_again 67 = .ok (.getfield 31, 3) := by decide +kernel
theorem dX8_again_70 : decode cX8_again 70 = .ok (.invokevirtual 118, 3) := by decide +kernel
theorem dX8_again_73 : decode cX8_again 73 = .ok (.ireturn, 1) := by decide +kernel
theorem dJ9_abs_0f7a4_0 : decode cJ9_abs_0f7a4 0 = .ok (.iload_n 0, 1) := by decide +kernel
theorem dJ9_abs_0f7a4_1 : decode cJ9_abs_0f7a4 1 = .ok (.ifCond .ge 8, 3) := by decide +kernel
theorem dJ9_abs_0f7a4_4 : decode cJ9_abs_0f7a4 4 = .ok (.iload_n 0, 1) := by decide +kernel
theorem dJ9_abs_0f7a4_5 : decode cJ9_abs_0f7a4 5 = .ok (.ineg, 1) := by decide +kernel
theorem dJ9_abs_0f7a4_6 : decode cJ9_abs_0f7a4 6 = .ok (.goto 4, 3) := by decide +kernel
theorem dJ9_abs_0f7a4_9 : decode cJ9_abs_0f7a4 9 = .ok (.iload_n 0, 1) := by decide +kernel
theorem dJ9_abs_0f7a4_10 : decode cJ9_abs_0f7a4 10 = .ok (.ireturn, 1) := by decide +kernel
theorem dJ9_max_7cf53_0 : decode cJ9_max_7cf53 0 = .ok (.iload_n 0, 1) := by decide +kernel
theorem dJ9_max_7cf53_1 : decode cJ9_max_7cf53 1 = .ok (.iload_n 1, 1) := by decide +kernel
theorem dJ9_max_7cf53_2 : decode cJ9_max_7cf53 2 = .ok (.if_icmp .lt 7, 3) := by decide +kernel
theorem dJ9_max_7cf53_5 : decode cJ9_max_7cf53 5 = .ok (.iload_n 0, 1) := by decide +kernel
theorem dJ9_max_7cf53_6 : decode cJ9_max_7cf53 6 = .ok (.goto 4, 3) := by decide +kernel
theorem dJ9_max_7cf53_9 : decode cJ9_max_7cf53 9 = .ok (.iload_n 1, 1) := by decide +kernel
theorem dJ9_max_7cf53_10 : decode cJ9_max_7cf53 10 = .ok (.ireturn, 1) := by decide +kernel
theorem dJ9_min_7cf53_0 : decode cJ9_min_7cf53 0 = .ok (.iload_n 0, 1) := by decide +kernel
theorem dJ9_min_7cf53_1 : decode cJ9_min_7cf53 1 = .ok (.iload_n 1, 1) := by decide +kernel
theorem dJ9_min_7cf53_2 : decode cJ9_min_7cf53 2 = .ok (.if_icmp .gt 7, 3) := by decide +kernel
theorem dJ9_min_7cf53_5 : decode cJ9_min_7cf53 5 = .ok (.iload_n 0, 1) := by decide +kernel
theorem dJ9_min_7cf53_6 : decode cJ9_min_7cf53 6 = .ok (.goto 4, 3) := by decide +kernel
theorem dJ9_min_7cf53_9 : decode cJ9_min_7cf53 9 = .ok (.iload_n 1, 1) := by decide +kernel
theorem dJ9_min_7cf53_10 : decode cJ9_min_7cf53 10 = .ok (.ireturn, 1) := by decide +kernel
theorem dJ7_fill_53178_0 : decode cJ7_fill_53178 0 = .ok (.iconst 0, 1) := by decide +kernel
theorem dJ7_fill_53178_1 : decode cJ7_fill_53178 1 = .ok (.istore_n 2, 1) := by decide +kernel
theorem dJ7_fill_53178_2 : decode cJ7_fill_53178 2 = .ok (.aload_n 0, 1) := by decide +kernel
theorem dJ7_fill_53178_3 : decode cJ7_fill_53178 3 = .ok (.arraylength, 1) := by decide +kernel
theorem dJ7_fill_53178_4 : decode cJ7_fill_53178 4 = .ok (.istore_n 3, 1) := by decide +kernel
theorem dJ7_fill_53178_5 : decode cJ7_fill_53178 5 = .ok (.iload_n 2, 1) := by decide +kernel
theorem dJ7_fill_53178_6 : decode cJ7_fill_53178 6 = .ok (.iload_n 3, 1) := by decide +kernel
theorem dJ7_fill_53178_7 : decode cJ7_fill_53178 7 = .ok (.if_icmp .ge 13, 3) := by decide +kernel
theorem dJ7_fill_53178_10 : decode cJ7_fill_53178 10 = .ok (.aload_n 0, 1) := by decide +kernel
theorem dJ7_fill_53178_11 : decode cJ7_fill_53178 11 = .ok (.iload_n 2, 1) := by decide +kernel
theorem dJ7_fill_53178_12 : decode cJ7_fill_53178 12 = .ok (.iload_n 1, 1) := by decide +kernel
theorem dJ7_fill_53178_13 : decode cJ7_fill_53178 13 = .ok (.iastore, 1) := by decide +kernel
theorem dJ7_fill_53178_14 : decode cJ7_fill_53178 14 = .ok (.iinc 2 1, 3) := by decide +kernel
theorem dJ7_fill_53178_17 : decode cJ7_fill_53178 17 = .ok (.goto (-12), 3) := by decide +kernel
theorem dJ7_fill_53178_20 : decode cJ7_fill_53178 20 = .ok (.return_, 1) := by decide +kernel
theorem dL_law_0 : decode cL_law 0 = .ok (.new 7, 3) := by decide +kernel
theorem dL_law_3 : decode cL_law 3 = .ok (.dup, 1) := by decide +kernel
theorem dL_law_4 : decode cL_law 4 = .ok (.invokespecial 9, 3) := by decide +kernel
theorem dL_law_7 : decode cL_law 7 = .ok (.astore_n 1, 1) := by decide +kernel
theorem dL_law_8 : decode cL_law 8 = .ok (.new 10, 3) := by decide +kernel
theorem dL_law_11 : decode cL_law 11 = .ok (.dup, 1) := by decide +kernel
theorem dL_law_12 : decode cL_law 12 = .ok (.invokespecial 12, 3) := by decide +kernel
theorem dL_law_15 : decode cL_law 15 = .ok (.astore_n 2, 1) := by decide +kernel
theorem dL_law_16 : decode cL_law 16 = .ok (.iconst 0, 1) := by decide +kernel
theorem dL_law_17 : decode cL_law 17 = .ok (.istore_n 3, 1) := by decide +kernel
theorem dL_law_18 : decode cL_law 18 = .ok (.iload_n 3, 1) := by decide +kernel
theorem dL_law_19 : decode cL_law 19 = .ok (.aload_n 0, 1) := by decide +kernel
theorem dL_law_20 : decode cL_law 20 = .ok (.arraylength, 1) := by decide +kernel
theorem dL_law_21 : decode cL_law 21 = .ok (.iconst 5, 1) := by decide +kernel
theorem dL_law_22 : decode cL_law 22 = .ok (.isub, 1) := by decide +kernel
theorem dL_law_23 : decode cL_law 23 = .ok (.if_icmp .gt 864, 3) := by decide +kernel
theorem dL_law_26 : decode cL_law 26 = .ok (.aload_n 0, 1) := by decide +kernel
theorem dL_law_27 : decode cL_law 27 = .ok (.iload_n 3, 1) := by decide +kernel
theorem dL_law_28 : decode cL_law 28 = .ok (.iaload, 1) := by decide +kernel
theorem dL_law_29 : decode cL_law 29 = .ok (.bipush 31, 2) := by decide +kernel
theorem dL_law_31 : decode cL_law 31 = .ok (.iand, 1) := by decide +kernel
theorem dL_law_32 : decode cL_law 32 = .ok (.tableswitch 849 0 27 #[128, 151, 164, 177, 190, 213, 246, 279, 312, 335, 358, 371, 384, 407, 430, 453, 476, 489, 512, 565, 608, 641, 690, 703, 726, 780, 803, 826], 128) := by decide +kernel
theorem dL_law_160 : decode cL_law 160 = .ok (.aload_n 1, 1) := by decide +kernel
theorem dL_law_161 : decode cL_law 161 = .ok (.aload_n 0, 1) := by decide +kernel
theorem dL_law_162 : decode cL_law 162 = .ok (.iload_n 3, 1) := by decide +kernel
theorem dL_law_163 : decode cL_law 163 = .ok (.iconst 1, 1) := by decide +kernel
theorem dL_law_164 : decode cL_law 164 = .ok (.iadd, 1) := by decide +kernel
theorem dL_law_165 : decode cL_law 165 = .ok (.iaload, 1) := by decide +kernel
theorem dL_law_166 : decode cL_law 166 = .ok (.invokevirtual 13, 3) := by decide +kernel
theorem dL_law_169 : decode cL_law 169 = .ok (.aload_n 2, 1) := by decide +kernel
theorem dL_law_170 : decode cL_law 170 = .ok (.aload_n 0, 1) := by decide +kernel
theorem dL_law_171 : decode cL_law 171 = .ok (.iload_n 3, 1) := by decide +kernel
theorem dL_law_172 : decode cL_law 172 = .ok (.iconst 1, 1) := by decide +kernel
theorem dL_law_173 : decode cL_law 173 = .ok (.iadd, 1) := by decide +kernel
theorem dL_law_174 : decode cL_law 174 = .ok (.iaload, 1) := by decide +kernel
theorem dL_law_175 : decode cL_law 175 = .ok (.invokevirtual 17, 3) := by decide +kernel
theorem dL_law_178 : decode cL_law 178 = .ok (.if_icmp .eq 703, 3) := by decide +kernel
theorem dL_law_181 : decode cL_law 181 = .ok (.iconst 0, 1) := by decide +kernel
theorem dL_law_182 : decode cL_law 182 = .ok (.ireturn, 1) := by decide +kernel
theorem dL_law_183 : decode cL_law 183 = .ok (.aload_n 1, 1) := by decide +kernel
theorem dL_law_184 : decode cL_law 184 = .ok (.invokevirtual 18, 3) := by decide +kernel
theorem dL_law_187 : decode cL_law 187 = .ok (.aload_n 2, 1) := by decide +kernel
theorem dL_law_188 : decode cL_law 188 = .ok (.invokevirtual 22, 3) := by decide +kernel
theorem dL_law_191 : decode cL_law 191 = .ok (.if_icmp .eq 690, 3) := by decide +kernel
theorem dL_law_194 : decode cL_law 194 = .ok (.iconst 0, 1) := by decide +kernel
theorem dL_law_195 : decode cL_law 195 = .ok (.ireturn, 1) := by decide +kernel
theorem dL_law_196 : decode cL_law 196 = .ok (.aload_n 1, 1) := by decide +kernel
theorem dL_law_197 : decode cL_law 197 = .ok (.invokevirtual 23, 3) := by decide +kernel
theorem dL_law_200 : decode cL_law 200 = .ok (.aload_n 2, 1) := by decide +kernel
theorem dL_law_201 : decode cL_law 201 = .ok (.invokevirtual 26, 3) := by decide +kernel
theorem dL_law_204 : decode cL_law 204 = .ok (.if_icmp .eq 677, 3) := by decide +kernel
theorem dL_law_207 : decode cL_law 207 = .ok (.iconst 0, 1) := by decide +kernel
theorem dL_law_208 : decode cL_law 208 = .ok (.ireturn, 1) := by decide +kernel
theorem dL_law_209 : decode cL_law 209 = .ok (.aload_n 1, 1) := by decide +kernel
theorem dL_law_210 : decode cL_law 210 = .ok (.invokevirtual 27, 3) := by decide +kernel
theorem dL_law_213 : decode cL_law 213 = .ok (.aload_n 2, 1) := by decide +kernel
theorem dL_law_214 : decode cL_law 214 = .ok (.invokevirtual 30, 3) := by decide +kernel
theorem dL_law_217 : decode cL_law 217 = .ok (.if_icmp .eq 664, 3) := by decide +kernel
theorem dL_law_220 : decode cL_law 220 = .ok (.iconst 0, 1) := by decide +kernel
theorem dL_law_221 : decode cL_law 221 = .ok (.ireturn, 1) := by decide +kernel
theorem dL_law_222 : decode cL_law 222 = .ok (.aload_n 1, 1) := by decide +kernel
theorem dL_law_223 : decode cL_law 223 = .ok (.aload_n 0, 1) := by decide +kernel
theorem dL_law_224 : decode cL_law 224 = .ok (.iload_n 3, 1) := by decide +kernel
theorem dL_law_225 : decode cL_law 225 = .ok (.iconst 1, 1) := by decide +kernel
theorem dL_law_226 : decode cL_law 226 = .ok (.iadd, 1) := by decide +kernel
theorem dL_law_227 : decode cL_law 227 = .ok (.iaload, 1) := by decide +kernel
theorem dL_law_228 : decode cL_law 228 = .ok (.invokevirtual 31, 3) := by decide +kernel
theorem dL_law_231 : decode cL_law 231 = .ok (.aload_n 2, 1) := by decide +kernel
theorem dL_law_232 : decode cL_law 232 = .ok (.aload_n 0, 1) := by decide +kernel
theorem dL_law_233 : decode cL_law 233 = .ok (.iload_n 3, 1) := by decide +kernel
theorem dL_law_234 : decode cL_law 234 = .ok (.iconst 1, 1) := by decide +kernel
theorem dL_law_235 : decode cL_law 235 = .ok (.iadd, 1) := by decide +kernel
theorem dL_law_236 : decode cL_law 236 = .ok (.iaload, 1) := by decide +kernel
theorem dL_law_237 : decode cL_law 237 = .ok (.invokevirtual 34, 3) := by decide +kernel
theorem dL_law_240 : decode cL_law 240 = .ok (.if_icmp .eq 641, 3) := by decide +kernel
theorem dL_law_243 : decode cL_law 243 = .ok (.iconst 0, 1) := by decide +kernel
theorem dL_law_244 : decode cL_law 244 = .ok (.ireturn, 1) := by decide +kernel
theorem dL_law_245 : decode cL_law 245 = .ok (.aload_n 1, 1) := by decide +kernel
theorem dL_law_246 : decode cL_law 246 = .ok (.aload_n 0, 1) := by decide +kernel
theorem dL_law_247 : decode cL_law 247 = .ok (.iload_n 3, 1) := by decide +kernel
theorem dL_law_248 : decode cL_law 248 = .ok (.iconst 1, 1) := by decide +kernel
theorem dL_law_249 : decode cL_law 249 = .ok (.iadd, 1) := by decide +kernel
theorem dL_law_250 : decode cL_law 250 = .ok (.iaload, 1) := by decide +kernel
theorem dL_law_251 : decode cL_law 251 = .ok (.aload_n 0, 1) := by decide +kernel
theorem dL_law_252 : decode cL_law 252 = .ok (.iload_n 3, 1) := by decide +kernel
theorem dL_law_253 : decode cL_law 253 = .ok (.iconst 2, 1) := by decide +kernel
theorem dL_law_254 : decode cL_law 254 = .ok (.iadd, 1) := by decide +kernel
theorem dL_law_255 : decode cL_law 255 = .ok (.iaload, 1) := by decide +kernel
theorem dL_law_256 : decode cL_law 256 = .ok (.invokevirtual 35, 3) := by decide +kernel
theorem dL_law_259 : decode cL_law 259 = .ok (.aload_n 2, 1) := by decide +kernel
theorem dL_law_260 : decode cL_law 260 = .ok (.aload_n 0, 1) := by decide +kernel
theorem dL_law_261 : decode cL_law 261 = .ok (.iload_n 3, 1) := by decide +kernel
theorem dL_law_262 : decode cL_law 262 = .ok (.iconst 1, 1) := by decide +kernel
theorem dL_law_263 : decode cL_law 263 = .ok (.iadd, 1) := by decide +kernel
theorem dL_law_264 : decode cL_law 264 = .ok (.iaload, 1) := by decide +kernel
theorem dL_law_265 : decode cL_law 265 = .ok (.aload_n 0, 1) := by decide +kernel
theorem dL_law_266 : decode cL_law 266 = .ok (.iload_n 3, 1) := by decide +kernel
theorem dL_law_267 : decode cL_law 267 = .ok (.iconst 2, 1) := by decide +kernel
theorem dL_law_268 : decode cL_law 268 = .ok (.iadd, 1) := by decide +kernel
theorem dL_law_269 : decode cL_law 269 = .ok (.iaload, 1) := by decide +kernel
theorem dL_law_270 : decode cL_law 270 = .ok (.invokevirtual 39, 3) := by decide +kernel
theorem dL_law_273 : decode cL_law 273 = .ok (.if_icmp .eq 608, 3) := by decide +kernel
theorem dL_law_276 : decode cL_law 276 = .ok (.iconst 0, 1) := by decide +kernel
theorem dL_law_277 : decode cL_law 277 = .ok (.ireturn, 1) := by decide +kernel
theorem dL_law_278 : decode cL_law 278 = .ok (.aload_n 1, 1) := by decide +kernel
theorem dL_law_279 : decode cL_law 279 = .ok (.aload_n 0, 1) := by decide +kernel
theorem dL_law_280 : decode cL_law 280 = .ok (.iload_n 3, 1) := by decide +kernel
theorem dL_law_281 : decode cL_law 281 = .ok (.iconst 1, 1) := by decide +kernel
theorem dL_law_282 : decode cL_law 282 = .ok (.iadd, 1) := by decide +kernel
theorem dL_law_283 : decode cL_law 283 = .ok (.iaload, 1) := by decide +kernel
theorem dL_law_284 : decode cL_law 284 = .ok (.aload_n 0, 1) := by decide +kernel
theorem dL_law_285 : decode cL_law 285 = .ok (.iload_n 3, 1) := by decide +kernel
theorem dL_law_286 : decode cL_law 286 = .ok (.iconst 2, 1) := by decide +kernel
theorem dL_law_287 : decode cL_law 287 = .ok (.iadd, 1) := by decide +kernel
theorem dL_law_288 : decode cL_law 288 = .ok (.iaload, 1) := by decide +kernel
theorem dL_law_289 : decode cL_law 289 = .ok (.invokevirtual 40, 3) := by decide +kernel
theorem dL_law_292 : decode cL_law 292 = .ok (.aload_n 2, 1) := by decide +kernel
theorem dL_law_293 : decode cL_law 293 = .ok (.aload_n 0, 1) := by decide +kernel
theorem dL_law_294 : decode cL_law 294 = .ok (.iload_n 3, 1) := by decide +kernel
theorem dL_law_295 : decode cL_law 295 = .ok (.iconst 1, 1) := by decide +kernel
theorem dL_law_296 : decode cL_law 296 = .ok (.iadd, 1) := by decide +kernel
theorem dL_law_297 : decode cL_law 297 = .ok (.iaload, 1) := by decide +kernel
theorem dL_law_298 : decode cL_law 298 = .ok (.aload_n 0, 1) := by decide +kernel
theorem dL_law_299 : decode cL_law 299 = .ok (.iload_n 3, 1) := by decide +kernel
theorem dL_law_300 : decode cL_law 300 = .ok (.iconst 2, 1) := by decide +kernel
theorem dL_law_301 : decode cL_law 301 = .ok (.iadd, 1) := by decide +kernel
theorem dL_law_302 : decode cL_law 302 = .ok (.iaload, 1) := by decide +kernel
theorem dL_law_303 : decode cL_law 303 = .ok (.invokevirtual 43, 3) := by decide +kernel
theorem dL_law_306 : decode cL_law 306 = .ok (.if_icmp .eq 575, 3) := by decide +kernel
theorem dL_law_309 : decode cL_law 309 = .ok (.iconst 0, 1) := by decide +kernel
theorem dL_law_310 : decode cL_law 310 = .ok (.ireturn, 1) := by decide +kernel
theorem dL_law_311 : decode cL_law 311 = .ok (.aload_n 1, 1) := by decide +kernel
theorem dL_law_312 : decode cL_law 312 = .ok (.aload_n 0, 1) := by decide +kernel
theorem dL_law_313 : decode cL_law 313 = .ok (.iload_n 3, 1) := by decide +kernel
theorem dL_law_314 : decode cL_law 314 = .ok (.iconst 1, 1) := by decide +kernel
theorem dL_law_315 : decode cL_law 315 = .ok (.iadd, 1) := by decide +kernel
theorem dL_law_316 : decode cL_law 316 = .ok (.iaload, 1) := by decide +kernel
theorem dL_law_317 : decode cL_law 317 = .ok (.aload_n 0, 1) := by decide +kernel
theorem dL_law_318 : decode cL_law 318 = .ok (.iload_n 3, 1) := by decide +kernel
theorem dL_law_319 : decode cL_law 319 = .ok (.iconst 2, 1) := by decide +kernel
theorem dL_law_320 : decode cL_law 320 = .ok (.iadd, 1) := by decide +kernel
theorem dL_law_321 : decode cL_law 321 = .ok (.iaload, 1) := by decide +kernel
theorem dL_law_322 : decode cL_law 322 = .ok (.invokevirtual 44, 3) := by decide +kernel
theorem dL_law_325 : decode cL_law 325 = .ok (.aload_n 2, 1) := by decide +kernel
theorem dL_law_326 : decode cL_law 326 = .ok (.aload_n 0, 1) := by decide +kernel
theorem dL_law_327 : decode cL_law 327 = .ok (.iload_n 3, 1) := by decide +kernel
theorem dL_law_328 : decode cL_law 328 = .ok (.iconst 1, 1) := by decide +kernel
theorem dL_law_329 : decode cL_law 329 = .ok (.iadd, 1) := by decide +kernel
theorem dL_law_330 : decode cL_law 330 = .ok (.iaload, 1) := by decide +kernel
theorem dL_law_331 : decode cL_law 331 = .ok (.aload_n 0, 1) := by decide +kernel
theorem dL_law_332 : decode cL_law 332 = .ok (.iload_n 3, 1) := by decide +kernel
theorem dL_law_333 : decode cL_law 333 = .ok (.iconst 2, 1) := by decide +kernel
theorem dL_law_334 : decode cL_law 334 = .ok (.iadd, 1) := by decide +kernel
theorem dL_law_335 : decode cL_law 335 = .ok (.iaload, 1) := by decide +kernel
theorem dL_law_336 : decode cL_law 336 = .ok (.invokevirtual 47, 3) := by decide +kernel
theorem dL_law_339 : decode cL_law 339 = .ok (.if_icmp .eq 542, 3) := by decide +kernel
theorem dL_law_342 : decode cL_law 342 = .ok (.iconst 0, 1) := by decide +kernel
theorem dL_law_343 : decode cL_law 343 = .ok (.ireturn, 1) := by decide +kernel
theorem dL_law_344 : decode cL_law 344 = .ok (.aload_n 1, 1) := by decide +kernel
theorem dL_law_345 : decode cL_law 345 = .ok (.aload_n 0, 1) := by decide +kernel
theorem dL_law_346 : decode cL_law 346 = .ok (.iload_n 3, 1) := by decide +kernel
theorem dL_law_347 : decode cL_law 347 = .ok (.iconst 1, 1) := by decide +kernel
theorem dL_law_348 : decode cL_law 348 = .ok (.iadd, 1) := by decide +kernel
theorem dL_law_349 : decode cL_law 349 = .ok (.iaload, 1) := by decide +kernel
theorem dL_law_350 : decode cL_law 350 = .ok (.invokevirtual 48, 3) := by decide +kernel
theorem dL_law_353 : decode cL_law 353 = .ok (.aload_n 2, 1) := by decide +kernel
theorem dL_law_354 : decode cL_law 354 = .ok (.aload_n 0, 1) := by decide +kernel
theorem dL_law_355 : decode cL_law 355 = .ok (.iload_n 3, 1) := by decide +kernel
theorem dL_law_356 : decode cL_law 356 = .ok (.iconst 1, 1) := by decide +kernel
theorem dL_law_357 : decode cL_law 357 = .ok (.iadd, 1) := by decide +kernel
theorem dL_law_358 : decode cL_law 358 = .ok (.iaload, 1) := by decide +kernel
theorem dL_law_359 : decode cL_law 359 = .ok (.invokevirtual 51, 3) := by decide +kernel
theorem dL_law_362 : decode cL_law 362 = .ok (.if_icmp .eq 519, 3) := by decide +kernel
theorem dL_law_365 : decode cL_law 365 = .ok (.iconst 0, 1) := by decide +kernel
theorem dL_law_366 : decode cL_law 366 = .ok (.ireturn, 1) := by decide +kernel
theorem dL_law_367 : decode cL_law 367 = .ok (.aload_n 1, 1) := by decide +kernel
theorem dL_law_368 : decode cL_law 368 = .ok (.aload_n 0, 1) := by decide +kernel
theorem dL_law_369 : decode cL_law 369 = .ok (.iload_n 3, 1) := by decide +kernel
theorem dL_law_370 : decode cL_law 370 = .ok (.iconst 1, 1) := by decide +kernel
theorem dL_law_371 : decode cL_law 371 = .ok (.iadd, 1) := by decide +kernel
theorem dL_law_372 : decode cL_law 372 = .ok (.iaload, 1) := by decide +kernel
theorem dL_law_373 : decode cL_law 373 = .ok (.invokevirtual 52, 3) := by decide +kernel
theorem dL_law_376 : decode cL_law 376 = .ok (.aload_n 2, 1) := by decide +kernel
theorem dL_law_377 : decode cL_law 377 = .ok (.aload_n 0, 1) := by decide +kernel
theorem dL_law_378 : decode cL_law 378 = .ok (.iload_n 3, 1) := by decide +kernel
theorem dL_law_379 : decode cL_law 379 = .ok (.iconst 1, 1) := by decide +kernel
theorem dL_law_380 : decode cL_law 380 = .ok (.iadd, 1) := by decide +kernel
theorem dL_law_381 : decode cL_law 381 = .ok (.iaload, 1) := by decide +kernel
theorem dL_law_382 : decode cL_law 382 = .ok (.invokevirtual 55, 3) := by decide +kernel
theorem dL_law_385 : decode cL_law 385 = .ok (.if_icmp .eq 496, 3) := by decide +kernel
theorem dL_law_388 : decode cL_law 388 = .ok (.iconst 0, 1) := by decide +kernel
theorem dL_law_389 : decode cL_law 389 = .ok (.ireturn, 1) := by decide +kernel
theorem dL_law_390 : decode cL_law 390 = .ok (.aload_n 1, 1) := by decide +kernel
theorem dL_law_391 : decode cL_law 391 = .ok (.invokevirtual 56, 3) := by decide +kernel
theorem dL_law_394 : decode cL_law 394 = .ok (.aload_n 2, 1) := by decide +kernel
theorem dL_law_395 : decode cL_law 395 = .ok (.invokevirtual 59, 3) := by decide +kernel
theorem dL_law_398 : decode cL_law 398 = .ok (.if_icmp .eq 483, 3) := by decide +kernel
theorem dL_law_401 : decode cL_law 401 = .ok (.iconst 0, 1) := by decide +kernel
theorem dL_law_402 : decode cL_law 402 = .ok (.ireturn, 1) := by decide +kernel
theorem dL_law_403 : decode cL_law 403 = .ok (.aload_n 1, 1) := by decide +kernel
theorem dL_law_404 : decode cL_law 404 = .ok (.invokevirtual 60, 3) := by decide +kernel
theorem dL_law_407 : decode cL_law 407 = .ok (.aload_n 2, 1) := by decide +kernel
theorem dL_law_408 : decode cL_law 408 = .ok (.invokevirtual 63, 3) := by decide +kernel
theorem dL_law_411 : decode cL_law 411 = .ok (.if_icmp .eq 470, 3) := by decide +kernel
theorem dL_law_414 : decode cL_law 414 = .ok (.iconst 0, 1) := by decide +kernel
theorem dL_law_415 : decode cL_law 415 = .ok (.ireturn, 1) := by decide +kernel
theorem dL_law_416 : decode cL_law 416 = .ok (.aload_n 1, 1) := by decide +kernel
theorem dL_law_417 : decode cL_law 417 = .ok (.aload_n 0, 1) := by decide +kernel
theorem dL_law_418 : decode cL_law 418 = .ok (.iload_n 3, 1) := by decide +kernel
theorem dL_law_419 : decode cL_law 419 = .ok (.iconst 1, 1) := by decide +kernel
theorem dL_law_420 : decode cL_law 420 = .ok (.iadd, 1) := by decide +kernel
theorem dL_law_421 : decode cL_law 421 = .ok (.iaload, 1) := by decide +kernel
theorem dL_law_422 : decode cL_law 422 = .ok (.invokevirtual 64, 3) := by decide +kernel
theorem dL_law_425 : decode cL_law 425 = .ok (.aload_n 2, 1) := by decide +kernel
theorem dL_law_426 : decode cL_law 426 = .ok (.aload_n 0, 1) := by decide +kernel
theorem dL_law_427 : decode cL_law 427 = .ok (.iload_n 3, 1) := by decide +kernel
theorem dL_law_428 : decode cL_law 428 = .ok (.iconst 1, 1) := by decide +kernel
theorem dL_law_429 : decode cL_law 429 = .ok (.iadd, 1) := by decide +kernel
theorem dL_law_430 : decode cL_law 430 = .ok (.iaload, 1) := by decide +kernel
theorem dL_law_431 : decode cL_law 431 = .ok (.invokevirtual 67, 3) := by decide +kernel
theorem dL_law_434 : decode cL_law 434 = .ok (.if_icmp .eq 447, 3) := by decide +kernel
theorem dL_law_437 : decode cL_law 437 = .ok (.iconst 0, 1) := by decide +kernel
theorem dL_law_438 : decode cL_law 438 = .ok (.ireturn, 1) := by decide +kernel
theorem dL_law_439 : decode cL_law 439 = .ok (.aload_n 1, 1) := by decide +kernel
theorem dL_law_440 : decode cL_law 440 = .ok (.aload_n 0, 1) := by decide +kernel
theorem dL_law_441 : decode cL_law 441 = .ok (.iload_n 3, 1) := by decide +kernel
theorem dL_law_442 : decode cL_law 442 = .ok (.iconst 1, 1) := by decide +kernel
theorem dL_law_443 : decode cL_law 443 = .ok (.iadd, 1) := by decide +kernel
theorem dL_law_444 : decode cL_law 444 = .ok (.iaload, 1) := by decide +kernel
theorem dL_law_445 : decode cL_law 445 = .ok (.invokevirtual 68, 3) := by decide +kernel
theorem dL_law_448 : decode cL_law 448 = .ok (.aload_n 2, 1) := by decide +kernel
theorem dL_law_449 : decode cL_law 449 = .ok (.aload_n 0, 1) := by decide +kernel
theorem dL_law_450 : decode cL_law 450 = .ok (.iload_n 3, 1) := by decide +kernel
theorem dL_law_451 : decode cL_law 451 = .ok (.iconst 1, 1) := by decide +kernel
theorem dL_law_452 : decode cL_law 452 = .ok (.iadd, 1) := by decide +kernel
theorem dL_law_453 : decode cL_law 453 = .ok (.iaload, 1) := by decide +kernel
theorem dL_law_454 : decode cL_law 454 = .ok (.invokevirtual 71, 3) := by decide +kernel
theorem dL_law_457 : decode cL_law 457 = .ok (.if_icmp .eq 424, 3) := by decide +kernel
theorem dL_law_460 : decode cL_law 460 = .ok (.iconst 0, 1) := by decide +kernel
theorem dL_law_461 : decode cL_law 461 = .ok (.ireturn, 1) := by decide +kernel
theorem dL_law_462 : decode cL_law 462 = .ok (.aload_n 1, 1) := by decide +kernel
theorem dL_law_463 : decode cL_law 463 = .ok (.aload_n 0, 1) := by decide +kernel
theorem dL_law_464 : decode cL_law 464 = .ok (.iload_n 3, 1) := by decide +kernel
theorem dL_law_465 : decode cL_law 465 = .ok (.iconst 1, 1) := by decide +kernel
theorem dL_law_466 : decode cL_law 466 = .ok (.iadd, 1) := by decide +kernel
theorem dL_law_467 : decode cL_law 467 = .ok (.iaload, 1) := by decide +kernel
theorem dL_law_468 : decode cL_law 468 = .ok (.invokevirtual 72, 3) := by decide +kernel
theorem dL_law_471 : decode cL_law 471 = .ok (.aload_n 2, 1) := by decide +kernel
theorem dL_law_472 : decode cL_law 472 = .ok (.aload_n 0, 1) := by decide +kernel
theorem dL_law_473 : decode cL_law 473 = .ok (.iload_n 3, 1) := by decide +kernel
theorem dL_law_474 : decode cL_law 474 = .ok (.iconst 1, 1) := by decide +kernel
theorem dL_law_475 : decode cL_law 475 = .ok (.iadd, 1) := by decide +kernel
theorem dL_law_476 : decode cL_law 476 = .ok (.iaload, 1) := by decide +kernel
theorem dL_law_477 : decode cL_law 477 = .ok (.invokevirtual 75, 3) := by decide +kernel
theorem dL_law_480 : decode cL_law 480 = .ok (.if_icmp .eq 401, 3) := by decide +kernel
theorem dL_law_483 : decode cL_law 483 = .ok (.iconst 0, 1) := by decide +kernel
theorem dL_law_484 : decode cL_law 484 = .ok (.ireturn, 1) := by decide +kernel
theorem dL_law_485 : decode cL_law 485 = .ok (.aload_n 1, 1) := by decide +kernel
theorem dL_law_486 : decode cL_law 486 = .ok (.aload_n 0, 1) := by decide +kernel
theorem dL_law_487 : decode cL_law 487 = .ok (.iload_n 3, 1) := by decide +kernel
theorem dL_law_488 : decode cL_law 488 = .ok (.iconst 1, 1) := by decide +kernel
theorem dL_law_489 : decode cL_law 489 = .ok (.iadd, 1) := by decide +kernel
theorem dL_law_490 : decode cL_law 490 = .ok (.iaload, 1) := by decide +kernel
theorem dL_law_491 : decode cL_law 491 = .ok (.invokevirtual 76, 3) := by decide +kernel
theorem dL_law_494 : decode cL_law 494 = .ok (.aload_n 2, 1) := by decide +kernel
theorem dL_law_495 : decode cL_law 495 = .ok (.aload_n 0, 1) := by decide +kernel
theorem dL_law_496 : decode cL_law 496 = .ok (.iload_n 3, 1) := by decide +kernel
theorem dL_law_497 : decode cL_law 497 = .ok (.iconst 1, 1) := by decide +kernel
theorem dL_law_498 : decode cL_law 498 = .ok (.iadd, 1) := by decide +kernel
theorem dL_law_499 : decode cL_law 499 = .ok (.iaload, 1) := by decide +kernel
theorem dL_law_500 : decode cL_law 500 = .ok (.invokevirtual 79, 3) := by decide +kernel
theorem dL_law_503 : decode cL_law 503 = .ok (.if_icmp .eq 378, 3) := by decide +kernel
theorem dL_law_506 : decode cL_law 506 = .ok (.iconst 0, 1) := by decide +kernel
theorem dL_law_507 : decode cL_law 507 = .ok (.ireturn, 1) := by decide +kernel
theorem dL_law_508 : decode cL_law 508 = .ok (.aload_n 1, 1) := by decide +kernel
theorem dL_law_509 : decode cL_law 509 = .ok (.invokevirtual 80, 3) := by decide +kernel
theorem dL_law_512 : decode cL_law 512 = .ok (.aload_n 2, 1) := by decide +kernel
theorem dL_law_513 : decode cL_law 513 = .ok (.invokevirtual 83, 3) := by decide +kernel
theorem dL_law_516 : decode cL_law 516 = .ok (.if_icmp .eq 365, 3) := by decide +kernel
theorem dL_law_519 : decode cL_law 519 = .ok (.iconst 0, 1) := by decide +kernel
theorem dL_law_520 : decode cL_law 520 = .ok (.ireturn, 1) := by decide +kernel
theorem dL_law_521 : decode cL_law 521 = .ok (.aload_n 1, 1) := by decide +kernel
theorem dL_law_522 : decode cL_law 522 = .ok (.aload_n 0, 1) := by decide +kernel
theorem dL_law_523 : decode cL_law 523 = .ok (.iload_n 3, 1) := by decide +kernel
theorem dL_law_524 : decode cL_law 524 = .ok (.iconst 1, 1) := by decide +kernel
theorem dL_law_525 : decode cL_law 525 = .ok (.iadd, 1) := by decide +kernel
theorem dL_law_526 : decode cL_law 526 = .ok (.iaload, 1) := by decide +kernel
theorem dL_law_527 : decode cL_law 527 = .ok (.invokevirtual 84, 3) := by decide +kernel
theorem dL_law_530 : decode cL_law 530 = .ok (.aload_n 2, 1) := by decide +kernel
theorem dL_law_531 : decode cL_law 531 = .ok (.aload_n 0, 1) := by decide +kernel
theorem dL_law_532 : decode cL_law 532 = .ok (.iload_n 3, 1) := by decide +kernel
theorem dL_law_533 : decode cL_law 533 = .ok (.iconst 1, 1) := by decide +kernel
theorem dL_law_534 : decode cL_law 534 = .ok (.iadd, 1) := by decide +kernel
theorem dL_law_535 : decode cL_law 535 = .ok (.iaload, 1) := by decide +kernel
theorem dL_law_536 : decode cL_law 536 = .ok (.invokevirtual 87, 3) := by decide +kernel
theorem dL_law_539 : decode cL_law 539 = .ok (.if_icmp .eq 342, 3) := by decide +kernel
theorem dL_law_542 : decode cL_law 542 = .ok (.iconst 0, 1) := by decide +kernel
theorem dL_law_543 : decode cL_law 543 = .ok (.ireturn, 1) := by decide +kernel
theorem dL_law_544 : decode cL_law 544 = .ok (.aload_n 1, 1) := by decide +kernel
theorem dL_law_545 : decode cL_law 545 = .ok (.aload_n 0, 1) := by decide +kernel
theorem dL_law_546 : decode cL_law 546 = .ok (.iload_n 3, 1) := by decide +kernel
theorem dL_law_547 : decode cL_law 547 = .ok (.iconst 1, 1) := by decide +kernel
theorem dL_law_548 : decode cL_law 548 = .ok (.iadd, 1) := by decide +kernel
theorem dL_law_549 : decode cL_law 549 = .ok (.iaload, 1) := by decide +kernel
theorem dL_law_550 : decode cL_law 550 = .ok (.aload_n 0, 1) := by decide +kernel
theorem dL_law_551 : decode cL_law 551 = .ok (.iload_n 3, 1) := by decide +kernel
theorem dL_law_552 : decode cL_law 552 = .ok (.iconst 2, 1) := by decide +kernel
theorem dL_law_553 : decode cL_law 553 = .ok (.iadd, 1) := by decide +kernel
theorem dL_law_554 : decode cL_law 554 = .ok (.iaload, 1) := by decide +kernel
theorem dL_law_555 : decode cL_law 555 = .ok (.aload_n 0, 1) := by decide +kernel
theorem dL_law_556 : decode cL_law 556 = .ok (.iload_n 3, 1) := by decide +kernel
theorem dL_law_557 : decode cL_law 557 = .ok (.iconst 3, 1) := by decide +kernel
theorem dL_law_558 : decode cL_law 558 = .ok (.iadd, 1) := by decide +kernel
theorem dL_law_559 : decode cL_law 559 = .ok (.iaload, 1) := by decide +kernel
theorem dL_law_560 : decode cL_law 560 = .ok (.aload_n 0, 1) := by decide +kernel
theorem dL_law_561 : decode cL_law 561 = .ok (.iload_n 3, 1) := by decide +kernel
theorem dL_law_562 : decode cL_law 562 = .ok (.iconst 4, 1) := by decide +kernel
theorem dL_law_563 : decode cL_law 563 = .ok (.iadd, 1) := by decide +kernel
theorem dL_law_564 : decode cL_law 564 = .ok (.iaload, 1) := by decide +kernel
theorem dL_law_565 : decode cL_law 565 = .ok (.invokevirtual 88, 3) := by decide +kernel
theorem dL_law_568 : decode cL_law 568 = .ok (.aload_n 2, 1) := by decide +kernel
theorem dL_law_569 : decode cL_law 569 = .ok (.aload_n 0, 1) := by decide +kernel
theorem dL_law_570 : decode cL_law 570 = .ok (.iload_n 3, 1) := by decide +kernel
theorem dL_law_571 : decode cL_law 571 = .ok (.iconst 1, 1) := by decide +kernel
theorem dL_law_572 : decode cL_law 572 = .ok (.iadd, 1) := by decide +kernel
theorem dL_law_573 : decode cL_law 573 = .ok (.iaload, 1) := by decide +kernel
theorem dL_law_574 : decode cL_law 574 = .ok (.aload_n 0, 1) := by decide +kernel
theorem dL_law_575 : decode cL_law 575 = .ok (.iload_n 3, 1) := by decide +kernel
theorem dL_law_576 : decode cL_law 576 = .ok (.iconst 2, 1) := by decide +kernel
theorem dL_law_577 : decode cL_law 577 = .ok (.iadd, 1) := by decide +kernel
theorem dL_law_578 : decode cL_law 578 = .ok (.iaload, 1) := by decide +kernel
theorem dL_law_579 : decode cL_law 579 = .ok (.aload_n 0, 1) := by decide +kernel
theorem dL_law_580 : decode cL_law 580 = .ok (.iload_n 3, 1) := by decide +kernel
theorem dL_law_581 : decode cL_law 581 = .ok (.iconst 3, 1) := by decide +kernel
theorem dL_law_582 : decode cL_law 582 = .ok (.iadd, 1) := by decide +kernel
theorem dL_law_583 : decode cL_law 583 = .ok (.iaload, 1) := by decide +kernel
theorem dL_law_584 : decode cL_law 584 = .ok (.aload_n 0, 1) := by decide +kernel
theorem dL_law_585 : decode cL_law 585 = .ok (.iload_n 3, 1) := by decide +kernel
theorem dL_law_586 : decode cL_law 586 = .ok (.iconst 4, 1) := by decide +kernel
theorem dL_law_587 : decode cL_law 587 = .ok (.iadd, 1) := by decide +kernel
theorem dL_law_588 : decode cL_law 588 = .ok (.iaload, 1) := by decide +kernel
theorem dL_law_589 : decode cL_law 589 = .ok (.invokevirtual 92, 3) := by decide +kernel
theorem dL_law_592 : decode cL_law 592 = .ok (.if_icmp .eq 289, 3) := by decide +kernel
theorem dL_law_595 : decode cL_law 595 = .ok (.iconst 0, 1) := by decide +kernel
theorem dL_law_596 : decode cL_law 596 = .ok (.ireturn, 1) := by decide +kernel
theorem dL_law_597 : decode cL_law 597 = .ok (.aload_n 1, 1) := by decide +kernel
theorem dL_law_598 : decode cL_law 598 = .ok (.aload_n 0, 1) := by decide +kernel
theorem dL_law_599 : decode cL_law 599 = .ok (.iload_n 3, 1) := by decide +kernel
theorem dL_law_600 : decode cL_law 600 = .ok (.iconst 1, 1) := by decide +kernel
theorem dL_law_601 : decode cL_law 601 = .ok (.iadd, 1) := by decide +kernel
theorem dL_law_602 : decode cL_law 602 = .ok (.iaload, 1) := by decide +kernel
theorem dL_law_603 : decode cL_law 603 = .ok (.aload_n 0, 1) := by decide +kernel
theorem dL_law_604 : decode cL_law 604 = .ok (.iload_n 3, 1) := by decide +kernel
theorem dL_law_605 : decode cL_law 605 = .ok (.iconst 2, 1) := by decide +kernel
theorem dL_law_606 : decode cL_law 606 = .ok (.iadd, 1) := by decide +kernel
theorem dL_law_607 : decode cL_law 607 = .ok (.iaload, 1) := by decide +kernel
theorem dL_law_608 : decode cL_law 608 = .ok (.aload_n 0, 1) := by decide +kernel
theorem dL_law_609 : decode cL_law 609 = .ok (.iload_n 3, 1) := by decide +kernel
theorem dL_law_610 : decode cL_law 610 = .ok (.iconst 3, 1) := by decide +kernel
theorem dL_law_611 : decode cL_law 611 = .ok (.iadd, 1) := by decide +kernel
theorem dL_law_612 : decode cL_law 612 = .ok (.iaload, 1) := by decide +kernel
theorem dL_law_613 : decode cL_law 613 = .ok (.invokevirtual 93, 3) := by decide +kernel
theorem dL_law_616 : decode cL_law 616 = .ok (.aload_n 2, 1) := by decide +kernel
theorem dL_law_617 : decode cL_law 617 = .ok (.aload_n 0, 1) := by decide +kernel
theorem dL_law_618 : decode cL_law 618 = .ok (.iload_n 3, 1) := by decide +kernel
theorem dL_law_619 : decode cL_law 619 = .ok (.iconst 1, 1) := by decide +kernel
theorem dL_law_620 : decode cL_law 620 = .ok (.iadd, 1) := by decide +kernel
theorem dL_law_621 : decode cL_law 621 = .ok (.iaload, 1) := by decide +kernel
theorem dL_law_622 : decode cL_law 622 = .ok (.aload_n 0, 1) := by decide +kernel
theorem dL_law_623 : decode cL_law 623 = .ok (.iload_n 3, 1) := by decide +kernel
theorem dL_law_624 : decode cL_law 624 = .ok (.iconst 2, 1) := by decide +kernel
theorem dL_law_625 : decode cL_law 625 = .ok (.iadd, 1) := by decide +kernel
theorem dL_law_626 : decode cL_law 626 = .ok (.iaload, 1) := by decide +kernel
theorem dL_law_627 : decode cL_law 627 = .ok (.aload_n 0, 1) := by decide +kernel
theorem dL_law_628 : decode cL_law 628 = .ok (.iload_n 3, 1) := by decide +kernel
theorem dL_law_629 : decode cL_law 629 = .ok (.iconst 3, 1) := by decide +kernel
theorem dL_law_630 : decode cL_law 630 = .ok (.iadd, 1) := by decide +kernel
theorem dL_law_631 : decode cL_law 631 = .ok (.iaload, 1) := by decide +kernel
theorem dL_law_632 : decode cL_law 632 = .ok (.invokevirtual 97, 3) := by decide +kernel
theorem dL_law_635 : decode cL_law 635 = .ok (.if_icmp .eq 246, 3) := by decide +kernel
theorem dL_law_638 : decode cL_law 638 = .ok (.iconst 0, 1) := by decide +kernel
theorem dL_law_639 : decode cL_law 639 = .ok (.ireturn, 1) := by decide +kernel
theorem dL_law_640 : decode cL_law 640 = .ok (.aload_n 1, 1) := by decide +kernel
theorem dL_law_641 : decode cL_law 641 = .ok (.aload_n 0, 1) := by decide +kernel
theorem dL_law_642 : decode cL_law 642 = .ok (.iload_n 3, 1) := by decide +kernel
theorem dL_law_643 : decode cL_law 643 = .ok (.iconst 1, 1) := by decide +kernel
theorem dL_law_644 : decode cL_law 644 = .ok (.iadd, 1) := by decide +kernel
theorem dL_law_645 : decode cL_law 645 = .ok (.iaload, 1) := by decide +kernel
theorem dL_law_646 : decode cL_law 646 = .ok (.aload_n 0, 1) := by decide +kernel
theorem dL_law_647 : decode cL_law 647 = .ok (.iload_n 3, 1) := by decide +kernel
theorem dL_law_648 : decode cL_law 648 = .ok (.iconst 2, 1) := by decide +kernel
theorem dL_law_649 : decode cL_law 649 = .ok (.iadd, 1) := by decide +kernel
theorem dL_law_650 : decode cL_law 650 = .ok (.iaload, 1) := by decide +kernel
theorem dL_law_651 : decode cL_law 651 = .ok (.invokevirtual 98, 3) := by decide +kernel
theorem dL_law_654 : decode cL_law 654 = .ok (.aload_n 2, 1) := by decide +kernel
theorem dL_law_655 : decode cL_law 655 = .ok (.aload_n 0, 1) := by decide +kernel
theorem dL_law_656 : decode cL_law 656 = .ok (.iload_n 3, 1) := by decide +kernel
theorem dL_law_657 : decode cL_law 657 = .ok (.iconst 1, 1) := by decide +kernel
theorem dL_law_658 : decode cL_law 658 = .ok (.iadd, 1) := by decide +kernel
theorem dL_law_659 : decode cL_law 659 = .ok (.iaload, 1) := by decide +kernel
theorem dL_law_660 : decode cL_law 660 = .ok (.aload_n 0, 1) := by decide +kernel
theorem dL_law_661 : decode cL_law 661 = .ok (.iload_n 3, 1) := by decide +kernel
theorem dL_law_662 : decode cL_law 662 = .ok (.iconst 2, 1) := by decide +kernel
theorem dL_law_663 : decode cL_law 663 = .ok (.iadd, 1) := by decide +kernel
theorem dL_law_664 : decode cL_law 664 = .ok (.iaload, 1) := by decide +kernel
theorem dL_law_665 : decode cL_law 665 = .ok (.invokevirtual 101, 3) := by decide +kernel
theorem dL_law_668 : decode cL_law 668 = .ok (.if_icmp .eq 213, 3) := by decide +kernel
theorem dL_law_671 : decode cL_law 671 = .ok (.iconst 0, 1) := by decide +kernel
theorem dL_law_672 : decode cL_law 672 = .ok (.ireturn, 1) := by decide +kernel
theorem dL_law_673 : decode cL_law 673 = .ok (.aload_n 1, 1) := by decide +kernel
theorem dL_law_674 : decode cL_law 674 = .ok (.aload_n 0, 1) := by decide +kernel
theorem dL_law_675 : decode cL_law 675 = .ok (.iload_n 3, 1) := by decide +kernel
theorem dL_law_676 : decode cL_law 676 = .ok (.iconst 1, 1) := by decide +kernel
theorem dL_law_677 : decode cL_law 677 = .ok (.iadd, 1) := by decide +kernel
theorem dL_law_678 : decode cL_law 678 = .ok (.iaload, 1) := by decide +kernel
theorem dL_law_679 : decode cL_law 679 = .ok (.aload_n 0, 1) := by decide +kernel
theorem dL_law_680 : decode cL_law 680 = .ok (.iload_n 3, 1) := by decide +kernel
theorem dL_law_681 : decode cL_law 681 = .ok (.iconst 2, 1) := by decide +kernel
theorem dL_law_682 : decode cL_law 682 = .ok (.iadd, 1) := by decide +kernel
theorem dL_law_683 : decode cL_law 683 = .ok (.iaload, 1) := by decide +kernel
theorem dL_law_684 : decode cL_law 684 = .ok (.ifCond .eq 7, 3) := by decide +kernel
theorem dL_law_687 : decode cL_law 687 = .ok (.iconst 1, 1) := by decide +kernel
theorem dL_law_688 : decode cL_law 688 = .ok (.goto 4, 3) := by decide +kernel
theorem dL_law_691 : decode cL_law 691 = .ok (.iconst 0, 1) := by decide +kernel
theorem dL_law_692 : decode cL_law 692 = .ok (.invokevirtual 102, 3) := by decide +kernel
theorem dL_law_695 : decode cL_law 695 = .ok (.aload_n 2, 1) := by decide +kernel
theorem dL_law_696 : decode cL_law 696 = .ok (.aload_n 0, 1) := by decide +kernel
theorem dL_law_697 : decode cL_law 697 = .ok (.iload_n 3, 1) := by decide +kernel
theorem dL_law_698 : decode cL_law 698 = .ok (.iconst 1, 1) := by decide +kernel
theorem dL_law_699 : decode cL_law 699 = .ok (.iadd, 1) := by decide +kernel
theorem dL_law_700 : decode cL_law 700 = .ok (.iaload, 1) := by decide +kernel
theorem dL_law_701 : decode cL_law 701 = .ok (.aload_n 0, 1) := by decide +kernel
theorem dL_law_702 : decode cL_law 702 = .ok (.iload_n 3, 1) := by decide +kernel
theorem dL_law_703 : decode cL_law 703 = .ok (.iconst 2, 1) := by decide +kernel
theorem dL_law_704 : decode cL_law 704 = .ok (.iadd, 1) := by decide +kernel
theorem dL_law_705 : decode cL_law 705 = .ok (.iaload, 1) := by decide +kernel
theorem dL_law_706 : decode cL_law 706 = .ok (.ifCond .eq 7, 3) := by decide +kernel
theorem dL_law_709 : decode cL_law 709 = .ok (.iconst 1, 1) := by decide +kernel
theorem dL_law_710 : decode cL_law 710 = .ok (.goto 4, 3) := by decide +kernel
theorem dL_law_713 : decode cL_law 713 = .ok (.iconst 0, 1) := by decide +kernel
theorem dL_law_714 : decode cL_law 714 = .ok (.invokevirtual 106, 3) := by decide +kernel
theorem dL_law_717 : decode cL_law 717 = .ok (.if_icmp .eq 164, 3) := by decide +kernel
theorem dL_law_720 : decode cL_law 720 = .ok (.iconst 0, 1) := by decide +kernel
theorem dL_law_721 : decode cL_law 721 = .ok (.ireturn, 1) := by decide +kernel
theorem dL_law_722 : decode cL_law 722 = .ok (.aload_n 1, 1) := by decide +kernel
theorem dL_law_723 : decode cL_law 723 = .ok (.invokevirtual 107, 3) := by decide +kernel
theorem dL_law_726 : decode cL_law 726 = .ok (.aload_n 2, 1) := by decide +kernel
theorem dL_law_727 : decode cL_law 727 = .ok (.invokevirtual 110, 3) := by decide +kernel
theorem dL_law_730 : decode cL_law 730 = .ok (.if_icmp .eq 151, 3) := by decide +kernel
theorem dL_law_733 : decode cL_law 733 = .ok (.iconst 0, 1) := by decide +kernel
theorem dL_law_734 : decode cL_law 734 = .ok (.ireturn, 1) := by decide +kernel
theorem dL_law_735 : decode cL_law 735 = .ok (.aload_n 1, 1) := by decide +kernel
theorem dL_law_736 : decode cL_law 736 = .ok (.aload_n 0, 1) := by decide +kernel
theorem dL_law_737 : decode cL_law 737 = .ok (.iload_n 3, 1) := by decide +kernel
theorem dL_law_738 : decode cL_law 738 = .ok (.iconst 1, 1) := by decide +kernel
theorem dL_law_739 : decode cL_law 739 = .ok (.iadd, 1) := by decide +kernel
theorem dL_law_740 : decode cL_law 740 = .ok (.iaload, 1) := by decide +kernel
theorem dL_law_741 : decode cL_law 741 = .ok (.invokevirtual 111, 3) := by decide +kernel
theorem dL_law_744 : decode cL_law 744 = .ok (.aload_n 2, 1) := by decide +kernel
theorem dL_law_745 : decode cL_law 745 = .ok (.aload_n 0, 1) := by decide +kernel
theorem dL_law_746 : decode cL_law 746 = .ok (.iload_n 3, 1) := by decide +kernel
theorem dL_law_747 : decode cL_law 747 = .ok (.iconst 1, 1) := by decide +kernel
theorem dL_law_748 : decode cL_law 748 = .ok (.iadd, 1) := by decide +kernel
theorem dL_law_749 : decode cL_law 749 = .ok (.iaload, 1) := by decide +kernel
theorem dL_law_750 : decode cL_law 750 = .ok (.invokevirtual 114, 3) := by decide +kernel
theorem dL_law_753 : decode cL_law 753 = .ok (.if_icmp .eq 128, 3) := by decide +kernel
theorem dL_law_756 : decode cL_law 756 = .ok (.iconst 0, 1) := by decide +kernel
theorem dL_law_757 : decode cL_law 757 = .ok (.ireturn, 1) := by decide +kernel
theorem dL_law_758 : decode cL_law 758 = .ok (.aload_n 1, 1) := by decide +kernel
theorem dL_law_759 : decode cL_law 759 = .ok (.aload_n 0, 1) := by decide +kernel
theorem dL_law_760 : decode cL_law 760 = .ok (.iload_n 3, 1) := by decide +kernel
theorem dL_law_761 : decode cL_law 761 = .ok (.iconst 1, 1) := by decide +kernel
theorem dL_law_762 : decode cL_law 762 = .ok (.iadd, 1) := by decide +kernel
theorem dL_law_763 : decode cL_law 763 = .ok (.iaload, 1) := by decide +kernel
theorem dL_law_764 : decode cL_law 764 = .ok (.i2l, 1) := by decide +kernel
theorem dL_law_765 : decode cL_law 765 = .ok (.bipush 32, 2) := by decide +kernel
theorem dL_law_767 : decode cL_law 767 = .ok (.lshl, 1) := by decide +kernel
theorem dL_law_768 : decode cL_law 768 = .ok (.aload_n 0, 1) := by decide +kernel
theorem dL_law_769 : decode cL_law 769 = .ok (.iload_n 3, 1) := by decide +kernel
theorem dL_law_770 : decode cL_law 770 = .ok (.iconst 2, 1) := by decide +kernel
theorem dL_law_771 : decode cL_law 771 = .ok (.iadd, 1) := by decide +kernel
theorem dL_law_772 : decode cL_law 772 = .ok (.iaload, 1) := by decide +kernel
theorem dL_law_773 : decode cL_law 773 = .ok (.i2l, 1) := by decide +kernel
theorem dL_law_774 : decode cL_law 774 = .ok (.ldc2_w 115, 3) := by decide +kernel
theorem dL_law_777 : decode cL_law 777 = .ok (.land, 1) := by decide +kernel
theorem dL_law_778 : decode cL_law 778 = .ok (.lor, 1) := by decide +kernel
theorem dL_law_779 : decode cL_law 779 = .ok (.invokevirtual 117, 3) := by decide +kernel
theorem dL_law_782 : decode cL_law 782 = .ok (.aload_n 2, 1) := by decide +kernel
theorem dL_law_783 : decode cL_law 783 = .ok (.aload_n 0, 1) := by decide +kernel
theorem dL_law_784 : decode cL_law 784 = .ok (.iload_n 3, 1) := by decide +kernel
theorem dL_law_785 : decode cL_law 785 = .ok (.iconst 1, 1) := by decide +kernel
theorem dL_law_786 : decode cL_law 786 = .ok (.iadd, 1) := by decide +kernel
theorem dL_law_787 : decode cL_law 787 = .ok (.iaload, 1) := by decide +kernel
theorem dL_law_788 : decode cL_law 788 = .ok (.i2l, 1) := by decide +kernel
theorem dL_law_789 : decode cL_law 789 = .ok (.bipush 32, 2) := by decide +kernel
theorem dL_law_791 : decode cL_law 791 = .ok (.lshl, 1) := by decide +kernel
theorem dL_law_792 : decode cL_law 792 = .ok (.aload_n 0, 1) := by decide +kernel
theorem dL_law_793 : decode cL_law 793 = .ok (.iload_n 3, 1) := by decide +kernel
theorem dL_law_794 : decode cL_law 794 = .ok (.iconst 2, 1) := by decide +kernel
theorem dL_law_795 : decode cL_law 795 = .ok (.iadd, 1) := by decide +kernel
theorem dL_law_796 : decode cL_law 796 = .ok (.iaload, 1) := by decide +kernel
theorem dL_law_797 : decode cL_law 797 = .ok (.i2l, 1) := by decide +kernel
theorem dL_law_798 : decode cL_law 798 = .ok (.ldc2_w 115, 3) := by decide +kernel
theorem dL_law_801 : decode cL_law 801 = .ok (.land, 1) := by decide +kernel
theorem dL_law_802 : decode cL_law 802 = .ok (.lor, 1) := by decide +kernel
theorem dL_law_803 : decode cL_law 803 = .ok (.invokevirtual 121, 3) := by decide +kernel
theorem dL_law_806 : decode cL_law 806 = .ok (.lcmp, 1) := by decide +kernel
theorem dL_law_807 : decode cL_law 807 = .ok (.ifCond .eq 74, 3) := by decide +kernel
theorem dL_law_810 : decode cL_law 810 = .ok (.iconst 0, 1) := by decide +kernel
theorem dL_law_811 : decode cL_law 811 = .ok (.ireturn, 1) := by decide +kernel
theorem dL_law_812 : decode cL_law 812 = .ok (.aload_n 1, 1) := by decide +kernel
theorem dL_law_813 : decode cL_law 813 = .ok (.aload_n 0, 1) := by decide +kernel
theorem dL_law_814 : decode cL_law 814 = .ok (.iload_n 3, 1) := by decide +kernel
theorem dL_law_815 : decode cL_law 815 = .ok (.iconst 1, 1) := by decide +kernel
theorem dL_law_816 : decode cL_law 816 = .ok (.iadd, 1) := by decide +kernel
theorem dL_law_817 : decode cL_law 817 = .ok (.iaload, 1) := by decide +kernel
theorem dL_law_818 : decode cL_law 818 = .ok (.invokevirtual 122, 3) := by decide +kernel
theorem dL_law_821 : decode cL_law 821 = .ok (.aload_n 2, 1) := by decide +kernel
theorem dL_law_822 : decode cL_law 822 = .ok (.aload_n 0, 1) := by decide +kernel
theorem dL_law_823 : decode cL_law 823 = .ok (.iload_n 3, 1) := by decide +kernel
theorem dL_law_824 : decode cL_law 824 = .ok (.iconst 1, 1) := by decide +kernel
theorem dL_law_825 : decode cL_law 825 = .ok (.iadd, 1) := by decide +kernel
theorem dL_law_826 : decode cL_law 826 = .ok (.iaload, 1) := by decide +kernel
theorem dL_law_827 : decode cL_law 827 = .ok (.invokevirtual 125, 3) := by decide +kernel
theorem dL_law_830 : decode cL_law 830 = .ok (.if_icmp .eq 51, 3) := by decide +kernel
theorem dL_law_833 : decode cL_law 833 = .ok (.iconst 0, 1) := by decide +kernel
theorem dL_law_834 : decode cL_law 834 = .ok (.ireturn, 1) := by decide +kernel
theorem dL_law_835 : decode cL_law 835 = .ok (.aload_n 1, 1) := by decide +kernel
theorem dL_law_836 : decode cL_law 836 = .ok (.aload_n 0, 1) := by decide +kernel
theorem dL_law_837 : decode cL_law 837 = .ok (.iload_n 3, 1) := by decide +kernel
theorem dL_law_838 : decode cL_law 838 = .ok (.iconst 1, 1) := by decide +kernel
theorem dL_law_839 : decode cL_law 839 = .ok (.iadd, 1) := by decide +kernel
theorem dL_law_840 : decode cL_law 840 = .ok (.iaload, 1) := by decide +kernel
theorem dL_law_841 : decode cL_law 841 = .ok (.invokevirtual 126, 3) := by decide +kernel
theorem dL_law_844 : decode cL_law 844 = .ok (.aload_n 2, 1) := by decide +kernel
theorem dL_law_845 : decode cL_law 845 = .ok (.aload_n 0, 1) := by decide +kernel
theorem dL_law_846 : decode cL_law 846 = .ok (.iload_n 3, 1) := by decide +kernel
theorem dL_law_847 : decode cL_law 847 = .ok (.iconst 1, 1) := by decide +kernel
theorem dL_law_848 : decode cL_law 848 = .ok (.iadd, 1) := by decide +kernel
theorem dL_law_849 : decode cL_law 849 = .ok (.iaload, 1) := by decide +kernel
theorem dL_law_850 : decode cL_law 850 = .ok (.invokevirtual 129, 3) := by decide +kernel
theorem dL_law_853 : decode cL_law 853 = .ok (.if_icmp .eq 28, 3) := by decide +kernel
theorem dL_law_856 : decode cL_law 856 = .ok (.iconst 0, 1) := by decide +kernel
theorem dL_law_857 : decode cL_law 857 = .ok (.ireturn, 1) := by decide +kernel
theorem dL_law_858 : decode cL_law 858 = .ok (.aload_n 1, 1) := by decide +kernel
theorem dL_law_859 : decode cL_law 859 = .ok (.aload_n 0, 1) := by decide +kernel
theorem dL_law_860 : decode cL_law 860 = .ok (.iload_n 3, 1) := by decide +kernel
theorem dL_law_861 : decode cL_law 861 = .ok (.iconst 1, 1) := by decide +kernel
theorem dL_law_862 : decode cL_law 862 = .ok (.iadd, 1) := by decide +kernel
theorem dL_law_863 : decode cL_law 863 = .ok (.iaload, 1) := by decide +kernel
theorem dL_law_864 : decode cL_law 864 = .ok (.invokevirtual 130, 3) := by decide +kernel
theorem dL_law_867 : decode cL_law 867 = .ok (.aload_n 2, 1) := by decide +kernel
theorem dL_law_868 : decode cL_law 868 = .ok (.aload_n 0, 1) := by decide +kernel
theorem dL_law_869 : decode cL_law 869 = .ok (.iload_n 3, 1) := by decide +kernel
theorem dL_law_870 : decode cL_law 870 = .ok (.iconst 1, 1) := by decide +kernel
theorem dL_law_871 : decode cL_law 871 = .ok (.iadd, 1) := by decide +kernel
theorem dL_law_872 : decode cL_law 872 = .ok (.iaload, 1) := by decide +kernel
theorem dL_law_873 : decode cL_law 873 = .ok (.invokevirtual 133, 3) := by decide +kernel
theorem dL_law_876 : decode cL_law 876 = .ok (.if_icmp .eq 5, 3) := by decide +kernel
theorem dL_law_879 : decode cL_law 879 = .ok (.iconst 0, 1) := by decide +kernel
theorem dL_law_880 : decode cL_law 880 = .ok (.ireturn, 1) := by decide +kernel
theorem dL_law_881 : decode cL_law 881 = .ok (.iinc 3 5, 3) := by decide +kernel
theorem dL_law_884 : decode cL_law 884 = .ok (.goto (-866), 3) := by decide +kernel
theorem dL_law_887 : decode cL_law 887 = .ok (.iconst 1, 1) := by decide +kernel
theorem dL_law_888 : decode cL_law 888 = .ok (.ireturn, 1) := by decide +kernel
