theorem dX5_grow_49 : decode cX5_grow 49 = .ok (.if_icmp .ne 14, 3) := by decide +kernel
theorem dX5_grow_52 : decode cX5_grow 52 = .ok (.iload_n 3, 1) := by decide +kernel
theorem dX5_grow_53 : decode cX5_grow 53 = .ok (.iload_n 2, 1) := by decide +kernel
theorem dX5_grow_54 : decode cX5_grow 54 = .ok (.iand, 1) := by decide +kernel
theorem dX5_grow_55 : decode cX5_grow 55 = .ok (.ifCond .ne 8, 3) := by decide +kernel
theorem dX5_grow_58 : decode cX5_grow 58 = .ok (.aload_n 0, 1) := by decide +kernel
theorem dX5_grow_59 : decode cX5_grow 59 = .ok (.iload_n 3, 1) := by decide +kernel
theorem dX5_grow_60 : decode cX5_grow 60 = .ok (.invokevirtual 50, 3) := by decide +kernel
theorem dX5_grow_63 : decode cX5_grow 63 = .ok (.iinc 3 (-1), 3) := by decide +kernel
theorem dX5_grow_66 : decode cX5_grow 66 = .ok (.goto (-44), 3) := by decide +kernel
theorem dX5_grow_69 : decode cX5_grow 69 = .ok (.aload_n 0, 1) := by decide +kernel
theorem dX5_grow_70 : decode cX5_grow 70 = .ok (.getfield 11, 3) := by decide +kernel
theorem dX5_grow_73 : decode cX5_grow 73 = .ok (.aload_n 0, 1) := by decide +kernel
theorem dX5_grow_74 : decode cX5_grow 74 = .ok (.getfield 28, 3) := by decide +kernel
theorem dX5_grow_77 : decode cX5_grow 77 = .ok (.getfield 45, 3) := by decide +kernel
theorem dX5_grow_80 : decode cX5_grow 80 = .ok (.aload_n 0, 1) := by decide +kernel
theorem dX5_grow_81 : decode cX5_grow 81 = .ok (.invokevirtual 54, 3) := by decide +kernel
theorem dX5_grow_84 : decode cX5_grow 84 = .ok (.aload_n 0, 1) := by decide +kernel
theorem dX5_grow_85 : decode cX5_grow 85 = .ok (.getfield 28, 3) := by decide +kernel
theorem dX5_grow_88 : decode cX5_grow 88 = .ok (.getfield 58, 3) := by decide +kernel
theorem dX5_grow_91 : decode cX5_grow 91 = .ok (.invokestatic 61, 3) := by decide +kernel
theorem dX5_grow_94 : decode cX5_grow 94 = .ok (.iaload, 1) := by decide +kernel
theorem dX5_grow_95 : decode cX5_grow 95 = .ok (.ireturn, 1) := by decide +kernel
theorem dX5_growWith_0 : decode cX5_growWith 0 = .ok (.aload_n 0, 1) := by decide +kernel
theorem dX5_growWith_1 : decode cX5_growWith 1 = .ok (.invokevirtual 54, 3) := by decide +kernel
theorem dX5_growWith_4 : decode cX5_growWith 4 = .ok (.istore_n 2, 1) := by decide +kernel
theorem dX5_growWith_5 : decode cX5_growWith 5 = .ok (.iconst 1, 1) := by decide +kernel
theorem dX5_growWith_6 : decode cX5_growWith 6 = .ok (.aload_n 0, 1) := by decide +kernel
theorem dX5_growWith_7 : decode cX5_growWith 7 = .ok (.getfield 24, 3) := by decide +kernel
theorem dX5_growWith_10 : decode cX5_growWith 10 = .ok (.getfield 65, 3) := by decide +kernel
theorem dX5_growWith_13 : decode cX5_growWith 13 = .ok (.ishl, 1) := by decide +kernel
theorem dX5_growWith_14 : decode cX5_growWith 14 = .ok (.iconst 1, 1) := by decide +kernel
theorem dX5_growWith_15 : decode cX5_growWith 15 = .ok (.isub, 1) := by decide +kernel
theorem dX5_growWith_16 : decode cX5_growWith 16 = .ok (.istore_n 3, 1) := by decide +kernel
theorem dX5_growWith_17 : decode cX5_growWith 17 = .ok (.iload_n 3, 1) := by decide +kernel
theorem dX5_growWith_18 : decode cX5_growWith 18 = .ok (.aload_n 0, 1) := by decide +kernel
theorem dX5_growWith_19 : decode cX5_growWith 19 = .ok (.getfield 28, 3) := by decide +kernel
theorem dX5_growWith_22 : decode cX5_growWith 22 = .ok (.getfield 58, 3) := by decide +kernel
theorem dX5_growWith_25 : decode cX5_growWith 25 = .ok (.if_icmp .lt 126, 3) := by decide +kernel
theorem dX5_growWith_28 : decode cX5_growWith 28 = .ok (.iload_n 3, 1) := by decide +kernel
theorem dX5_growWith_29 : decode cX5_growWith 29 = .ok (.aload_n 0, 1) := by decide +kernel
theorem dX5_growWith_30 : decode cX5_growWith 30 = .ok (.getfield 28, 3) := by decide +kernel
theorem dX5_growWith_33 : decode cX5_growWith 33 = .ok (.getfield 58, 3) := by decide +kernel
theorem dX5_growWith_36 : decode cX5_growWith 36 = .ok (.iand, 1) := by decide +kernel
theorem dX5_growWith_37 : decode cX5_growWith 37 = .ok (.aload_n 0, 1) := by decide +kernel
theorem dX5_growWith_38 : decode cX5_growWith 38 = .ok (.getfield 28, 3) := by decide +kernel
theorem dX5_growWith_41 : decode cX5_growWith 41 = .ok (.getfield 58, 3) := by decide +kernel
theorem dX5_growWith_44 : decode cX5_growWith 44 = .ok (.if_icmp .eq 6, 3) := by decide +kernel
theorem dX5_growWith_47 : decode cX5_growWith 47 = .ok (.goto 98, 3) := by decide +kernel
theorem dX5_growWith_50 : decode cX5_growWith 50 = .ok (.aload_n 0, 1) := by decide +kernel
theorem dX5_growWith_51 : decode cX5_growWith 51 = .ok (.iload_n 1, 1) := by decide +kernel
theorem dX5_growWith_52 : decode cX5_growWith 52 = .ok (.aload_n 0, 1) := by decide +kernel
theorem dX5_growWith_53 : decode cX5_growWith 53 = .ok (.getfield 28, 3) := by decide +kernel
theorem dX5_growWith_56 : decode cX5_growWith 56 = .ok (.getfield 45, 3) := by decide +kernel
theorem dX5_growWith_59 : decode cX5_growWith 59 = .ok (.iconst (-1), 1) := by decide +kernel
theorem dX5_growWith_60 : decode cX5_growWith 60 = .ok (.ixor, 1) := by decide +kernel
theorem dX5_growWith_61 : decode cX5_growWith 61 = .ok (.iand, 1) := by decide +kernel
theorem dX5_growWith_62 : decode cX5_growWith 62 = .ok (.iload_n 3, 1) := by decide +kernel
theorem dX5_growWith_63 : decode cX5_growWith 63 = .ok (.aload_n 0, 1) := by decide +kernel
theorem dX5_growWith_64 : decode cX5_growWith 64 = .ok (.getfield 28, 3) := by decide +kernel
theorem dX5_growWith_67 : decode cX5_growWith 67 = .ok (.getfield 58, 3) := by decide +kernel
theorem dX5_growWith_70 : decode cX5_growWith 70 = .ok (.iconst (-1), 1) := by decide +kernel
theorem dX5_growWith_71 : decode cX5_growWith 71 = .ok (.ixor, 1) := by decide +kernel
theorem dX5_growWith_72 : decode cX5_growWith 72 = .ok (.iand, 1) := by decide +kernel
theorem dX5_growWith_73 : decode cX5_growWith 73 = .ok (.invokevirtual 68, 3) := by decide +kernel
theorem dX5_growWith_76 : decode cX5_growWith 76 = .ok (.istore 4, 2) := by decide +kernel
theorem dX5_growWith_78 : decode cX5_growWith 78 = .ok (.iload_n 2, 1) := by decide +kernel
theorem dX5_growWith_79 : decode cX5_growWith 79 = .ok (.istore 5, 2) := by decide +kernel
theorem dX5_growWith_81 : decode cX5_growWith 81 = .ok (.iload 5, 2) := by decide +kernel
theorem dX5_growWith_83 : decode cX5_growWith 83 = .ok (.iload_n 1, 1) := by decide +kernel
theorem dX5_growWith_84 : decode cX5_growWith 84 = .ok (.if_icmp .gt 61, 3) := by decide +kernel
theorem dX5_growWith_87 : decode cX5_growWith 87 = .ok (.iload 5, 2) := by decide +kernel
theorem dX5_growWith_89 : decode cX5_growWith 89 = .ok (.iload_n 1, 1) := by decide +kernel
theorem dX5_growWith_90 : decode cX5_growWith 90 = .ok (.iconst (-1), 1) := by decide +kernel
theorem dX5_growWith_91 : decode cX5_growWith 91 = .ok (.ixor, 1) := by decide +kernel
theorem dX5_growWith_92 : decode cX5_growWith 92 = .ok (.iand, 1) := by decide +kernel
theorem dX5_growWith_93 : decode cX5_growWith 93 = .ok (.ifCond .ne 46, 3) := by decide +kernel
theorem dX5_growWith_96 : decode cX5_growWith 96 = .ok (.iload 5, 2) := by decide +kernel
theorem dX5_growWith_98 : decode cX5_growWith 98 = .ok (.aload_n 0, 1) := by decide +kernel
theorem dX5_growWith_99 : decode cX5_growWith 99 = .ok (.getfield 28, 3) := by decide +kernel
theorem dX5_growWith_102 : decode cX5_growWith 102 = .ok (.getfield 45, 3) := by decide +kernel
theorem dX5_growWith_105 : decode cX5_growWith 105 = .ok (.iand, 1) := by decide +kernel
theorem dX5_growWith_106 : decode cX5_growWith 106 = .ok (.iload_n 2, 1) := by decide +kernel
theorem dX5_growWith_107 : decode cX5_growWith 107 = .ok (.if_icmp .ne 32, 3) := by decide +kernel
theorem dX5_growWith_110 : decode cX5_growWith 110 = .ok (.aload_n 0, 1) := by decide +kernel
theorem dX5_growWith_111 : decode cX5_growWith 111 = .ok (.getfield 11, 3) := by decide +kernel
theorem dX5_growWith_114 : decode cX5_growWith 114 = .ok (.iload_n 1, 1) := by decide +kernel
theorem dX5_growWith_115 : decode cX5_growWith 115 = .ok (.iload 5, 2) := by decide +kernel
theorem dX5_growWith_117 : decode cX5_growWith 117 = .ok (.iload_n 3, 1) := by decide +kernel
theorem dX5_growWith_118 : decode cX5_growWith 118 = .ok (.invokestatic 61, 3) := by decide +kernel
theorem dX5_growWith_121 : decode cX5_growWith 121 = .ok (.iload 4, 2) := by decide +kernel
theorem dX5_growWith_123 : decode cX5_growWith 123 = .ok (.ifCond .eq 14, 3) := by decide +kernel
theorem dX5_growWith_126 : decode cX5_growWith 126 = .ok (.aload_n 0, 1) := by decide +kernel
theorem dX5_growWith_127 : decode cX5_growWith 127 = .ok (.iload_n 1, 1) := by decide +kernel
theorem dX5_growWith_128 : decode cX5_growWith 128 = .ok (.iload 5, 2) := by decide +kernel
theorem dX5_growWith_130 : decode cX5_growWith 130 = .ok (.iload_n 3, 1) := by decide +kernel
theorem dX5_growWith_131 : decode cX5_growWith 131 = .ok (.invokevirtual 72, 3) := by decide +kernel
theorem dX5_growWith_134 : decode cX5_growWith 134 = .ok (.goto 4, 3) := by decide +kernel
theorem dX5_growWith_137 : decode cX5_growWith 137 = .ok (.iconst 0, 1) := by decide +kernel
theorem dX5_growWith_138 : decode cX5_growWith 138 = .ok (.iastore, 1) := by decide +kernel
theorem dX5_growWith_139 : decode cX5_growWith 139 = .ok (.iinc 5 1, 3) := by decide +kernel
theorem dX5_growWith_142 : decode cX5_growWith 142 = .ok (.goto (-61), 3) := by decide +kernel
theorem dX5_growWith_145 : decode cX5_growWith 145 = .ok (.iinc 3 (-1), 3) := by decide +kernel
theorem dX5_growWith_148 : decode cX5_growWith 148 = .ok (.goto (-131), 3) := by decide +kernel
theorem dX5_growWith_151 : decode cX5_growWith 151 = .ok (.return_, 1) := by decide +kernel
theorem dX5_onesNow_0 : decode cX5_onesNow 0 = .ok (.aload_n 0, 1) := by decide +kernel
theorem dX5_onesNow_1 : decode cX5_onesNow 1 = .ok (.getfield 24, 3) := by decide +kernel
theorem dX5_onesNow_4 : decode cX5_onesNow 4 = .ok (.getfield 75, 3) := by decide +kernel
theorem dX5_onesNow_7 : decode cX5_onesNow 7 = .ok (.aload_n 0, 1) := by decide +kernel
theorem dX5_onesNow_8 : decode cX5_onesNow 8 = .ok (.getfield 28, 3) := by decide +kernel
theorem dX5_onesNow_11 : decode cX5_onesNow 11 = .ok (.getfield 45, 3) := by decide +kernel
theorem dX5_onesNow_14 : decode cX5_onesNow 14 = .ok (.iand, 1) := by decide +kernel
theorem dX5_onesNow_15 : decode cX5_onesNow 15 = .ok (.ireturn, 1) := by decide +kernel
theorem dX5_place_0 : decode cX5_place 0 = .ok (.getstatic 78, 3) := by decide +kernel
theorem dX5_place_3 : decode cX5_place 3 = .ok (.iload_n 0, 1) := by decide +kernel
theorem dX5_place_4 : decode cX5_place 4 = .ok (.bipush 15, 2) := by decide +kernel
theorem dX5_place_6 : decode cX5_place 6 = .ok (.iand, 1) := by decide +kernel
theorem dX5_place_7 : decode cX5_place 7 = .ok (.iaload, 1) := by decide +kernel
theorem dX5_place_8 : decode cX5_place 8 = .ok (.getstatic 78, 3) := by decide +kernel
theorem dX5_place_11 : decode cX5_place 11 = .ok (.iload_n 1, 1) := by decide +kernel
theorem dX5_place_12 : decode cX5_place 12 = .ok (.iload_n 0, 1) := by decide +kernel
theorem dX5_place_13 : decode cX5_place 13 = .ok (.iand, 1) := by decide +kernel
theorem dX5_place_14 : decode cX5_place 14 = .ok (.bipush 15, 2) := by decide +kernel
theorem dX5_place_16 : decode cX5_place 16 = .ok (.iand, 1) := by decide +kernel
theorem dX5_place_17 : decode cX5_place 17 = .ok (.iaload, 1) := by decide +kernel
theorem dX5_place_18 : decode cX5_place 18 = .ok (.iadd, 1) := by decide +kernel
theorem dX5_place_19 : decode cX5_place 19 = .ok (.bipush 16, 2) := by decide +kernel
theorem dX5_place_21 : decode cX5_place 21 = .ok (.imul, 1) := by decide +kernel
theorem dX5_place_22 : decode cX5_place 22 = .ok (.iload_n 2, 1) := by decide +kernel
theorem dX5_place_23 : decode cX5_place 23 = .ok (.bipush 15, 2) := by decide +kernel
theorem dX5_place_25 : decode cX5_place 25 = .ok (.iand, 1) := by decide +kernel
theorem dX5_place_26 : decode cX5_place 26 = .ok (.iadd, 1) := by decide +kernel
theorem dX5_place_27 : decode cX5_place 27 = .ok (.ireturn, 1) := by decide +kernel
theorem dX5_layOut_0 : decode cX5_layOut 0 = .ok (.aload_n 0, 1) := by decide +kernel
theorem dX5_layOut_1 : decode cX5_layOut 1 = .ok (.getfield 28, 3) := by decide +kernel
theorem dX5_layOut_4 : decode cX5_layOut 4 = .ok (.getfield 81, 3) := by decide +kernel
theorem dX5_layOut_7 : decode cX5_layOut 7 = .ok (.iconst 0, 1) := by decide +kernel
theorem dX5_layOut_8 : decode cX5_layOut 8 = .ok (.aload_n 0, 1) := by decide +kernel
theorem dX5_layOut_9 : decode cX5_layOut 9 = .ok (.getfield 15, 3) := by decide +kernel
theorem dX5_layOut_12 : decode cX5_layOut 12 = .ok (.iconst 0, 1) := by decide +kernel
theorem dX5_layOut_13 : decode cX5_layOut 13 = .ok (.iconst 4, 1) := by decide +kernel
theorem dX5_layOut_14 : decode cX5_layOut 14 = .ok (.invokestatic 84, 3) := by decide +kernel
theorem dX5_layOut_17 : decode cX5_layOut 17 = .ok (.aload_n 0, 1) := by decide +kernel
theorem dX5_layOut_18 : decode cX5_layOut 18 = .ok (.getfield 18, 3) := by decide +kernel
theorem dX5_layOut_21 : decode cX5_layOut 21 = .ok (.iconst 0, 1) := by decide +kernel
theorem dX5_layOut_22 : decode cX5_layOut 22 = .ok (.invokestatic 90, 3) := by decide +kernel
theorem dX5_layOut_25 : decode cX5_layOut 25 = .ok (.iconst 0, 1) := by decide +kernel
theorem dX5_layOut_26 : decode cX5_layOut 26 = .ok (.istore_n 3, 1) := by decide +kernel
theorem dX5_layOut_27 : decode cX5_layOut 27 = .ok (.iload_n 3, 1) := by decide +kernel
theorem dX5_layOut_28 : decode cX5_layOut 28 = .ok (.aload_n 0, 1) := by decide +kernel
theorem dX5_layOut_29 : decode cX5_layOut 29 = .ok (.getfield 24, 3) := by decide +kernel
theorem dX5_layOut_32 : decode cX5_layOut 32 = .ok (.getfield 40, 3) := by decide +kernel
theorem dX5_layOut_35 : decode cX5_layOut 35 = .ok (.if_icmp .ge 44, 3) := by decide +kernel
theorem dX5_layOut_38 : decode cX5_layOut 38 = .ok (.iload_n 1, 1) := by decide +kernel
theorem dX5_layOut_39 : decode cX5_layOut 39 = .ok (.iload_n 3, 1) := by decide +kernel
theorem dX5_layOut_40 : decode cX5_layOut 40 = .ok (.ishr, 1) := by decide +kernel
theorem dX5_layOut_41 : decode cX5_layOut 41 = .ok (.iconst 1, 1) := by decide +kernel
theorem dX5_layOut_42 : decode cX5_layOut 42 = .ok (.iand, 1) := by decide +kernel
theorem dX5_layOut_43 : decode cX5_layOut 43 = .ok (.iconst 1, 1) := by decide +kernel
theorem dX5_layOut_44 : decode cX5_layOut 44 = .ok (.if_icmp .ne 29, 3) := by decide +kernel
theorem dX5_layOut_47 : decode cX5_layOut 47 = .ok (.aload_n 0, 1) := by decide +kernel
theorem dX5_layOut_48 : decode cX5_layOut 48 = .ok (.getfield 15, 3) := by decide +kernel
theorem dX5_layOut_51 : decode cX5_layOut 51 = .ok (.aload_n 0, 1) := by decide +kernel
theorem dX5_layOut_52 : decode cX5_layOut 52 = .ok (.getfield 24, 3) := by decide +kernel
theorem dX5_layOut_55 : decode cX5_layOut 55 = .ok (.getfield 96, 3) := by decide +kernel
theorem dX5_layOut_58 : decode cX5_layOut 58 = .ok (.iload_n 3, 1) := by decide +kernel
theorem dX5_layOut_59 : decode cX5_layOut 59 = .ok (.iaload, 1) := by decide +kernel
theorem dX5_layOut_60 : decode cX5_layOut 60 = .ok (.dup2, 1) := by decide +kernel
theorem dX5_layOut_61 : decode cX5_layOut 61 = .ok (.iaload, 1) := by decide +kernel
theorem dX5_layOut_62 : decode cX5_layOut 62 = .ok (.aload_n 0, 1) := by decide +kernel
theorem dX5_layOut_63 : decode cX5_layOut 63 = .ok (.getfield 24, 3) := by decide +kernel
theorem dX5_layOut_66 : decode cX5_layOut 66 = .ok (.getfield 99, 3) := by decide +kernel
theorem dX5_layOut_69 : decode cX5_layOut 69 = .ok (.iload_n 3, 1) := by decide +kernel
theorem dX5_layOut_70 : decode cX5_layOut 70 = .ok (.iaload, 1) := by decide +kernel
theorem dX5_layOut_71 : decode cX5_layOut 71 = .ok (.isub, 1) := by decide +kernel
theorem dX5_layOut_72 : decode cX5_layOut 72 = .ok (.iastore, 1) := by decide +kernel
theorem dX5_layOut_73 : decode cX5_layOut 73 = .ok (.iinc 3 1, 3) := by decide +kernel
theorem dX5_layOut_76 : decode cX5_layOut 76 = .ok (.goto (-49), 3) := by decide +kernel
theorem dX5_layOut_79 : decode cX5_layOut 79 = .ok (.iconst 0, 1) := by decide +kernel
theorem dX5_layOut_80 : decode cX5_layOut 80 = .ok (.istore_n 3, 1) := by decide +kernel
theorem dX5_layOut_81 : decode cX5_layOut 81 = .ok (.iload_n 3, 1) := by decide +kernel
theorem dX5_layOut_82 : decode cX5_layOut 82 = .ok (.aload_n 0, 1) := by decide +kernel
theorem dX5_layOut_83 : decode cX5_layOut 83 = .ok (.getfield 24, 3) := by decide +kernel
theorem dX5_layOut_86 : decode cX5_layOut 86 = .ok (.getfield 65, 3) := by decide +kernel
theorem dX5_layOut_89 : decode cX5_layOut 89 = .ok (.if_icmp .ge 69, 3) := by decide +kernel
theorem dX5_layOut_92 : decode cX5_layOut 92 = .ok (.iload_n 2, 1) := by decide +kernel
theorem dX5_layOut_93 : decode cX5_layOut 93 = .ok (.iload_n 3, 1) := by decide +kernel
theorem dX5_layOut_94 : decode cX5_layOut 94 = .ok (.ishr, 1) := by decide +kernel
theorem dX5_layOut_95 : decode cX5_layOut 95 = .ok (.iconst 1, 1) := by decide +kernel
theorem dX5_layOut_96 : decode cX5_layOut 96 = .ok (.iand, 1) := by decide +kernel
theorem dX5_layOut_97 : decode cX5_layOut 97 = .ok (.iconst 1, 1) := by decide +kernel
theorem dX5_layOut_98 : decode cX5_layOut 98 = .ok (.if_icmp .ne 54, 3) := by decide +kernel
theorem dX5_layOut_101 : decode cX5_layOut 101 = .ok (.aload_n 0, 1) := by decide +kernel
theorem dX5_layOut_102 : decode cX5_layOut 102 = .ok (.getfield 15, 3) := by decide +kernel
theorem dX5_layOut_105 : decode cX5_layOut 105 = .ok (.aload_n 0, 1) := by decide +kernel
theorem dX5_layOut_106 : decode cX5_layOut 106 = .ok (.getfield 24, 3) := by decide +kernel
theorem dX5_layOut_109 : decode cX5_layOut 109 = .ok (.getfield 102, 3) := by decide +kernel
theorem dX5_layOut_112 : decode cX5_layOut 112 = .ok (.iload_n 3, 1) := by decide +kernel
theorem dX5_layOut_113 : decode cX5_layOut 113 = .ok (.iaload, 1) := by decide +kernel
theorem dX5_layOut_114 : decode cX5_layOut 114 = .ok (.dup2, 1) := by decide +kernel
theorem dX5_layOut_115 : decode cX5_layOut 115 = .ok (.iaload, 1) := by decide +kernel
theorem dX5_layOut_116 : decode cX5_layOut 116 = .ok (.aload_n 0, 1) := by decide +kernel
theorem dX5_layOut_117 : decode cX5_layOut 117 = .ok (.getfield 24, 3) := by decide +kernel
theorem dX5_layOut_120 : decode cX5_layOut 120 = .ok (.getfield 105, 3) := by decide +kernel
theorem dX5_layOut_123 : decode cX5_layOut 123 = .ok (.iload_n 3, 1) := by decide +kernel
theorem dX5_layOut_124 : decode cX5_layOut 124 = .ok (.iaload, 1) := by decide +kernel
theorem dX5_layOut_125 : decode cX5_layOut 125 = .ok (.isub, 1) := by decide +kernel
theorem dX5_layOut_126 : decode cX5_layOut 126 = .ok (.iastore, 1) := by decide +kernel
theorem dX5_layOut_127 : decode cX5_layOut 127 = .ok (.aload_n 0, 1) := by decide +kernel
theorem dX5_layOut_128 : decode cX5_layOut 128 = .ok (.getfield 18, 3) := by decide +kernel
theorem dX5_layOut_131 : decode cX5_layOut 131 = .ok (.aload_n 0, 1) := by decide +kernel
theorem dX5_layOut_132 : decode cX5_layOut 132 = .ok (.getfield 24, 3) := by decide +kernel
theorem dX5_layOut_135 : decode cX5_layOut 135 = .ok (.getfield 108, 3) := by decide +kernel
theorem dX5_layOut_138 : decode cX5_layOut 138 = .ok (.iload_n 3, 1) := by decide +kernel
theorem dX5_layOut_139 : decode cX5_layOut 139 = .ok (.iaload, 1) := by decide +kernel
theorem dX5_layOut_140 : decode cX5_layOut 140 = .ok (.dup2, 1) := by decide +kernel
theorem dX5_layOut_141 : decode cX5_layOut 141 = .ok (.iaload, 1) := by decide +kernel
theorem dX5_layOut_142 : decode cX5_layOut 142 = .ok (.aload_n 0, 1) := by decide +kernel
theorem dX5_layOut_143 : decode cX5_layOut 143 = .ok (.getfield 24, 3) := by decide +kernel
theorem dX5_layOut_146 : decode cX5_layOut 146 = .ok (.iload_n 3, 1) := by decide +kernel
theorem dX5_layOut_147 : decode cX5_layOut 147 = .ok (.invokevirtual 111, 3) := by decide +kernel
theorem dX5_layOut_150 : decode cX5_layOut 150 = .ok (.iadd, 1) := by decide +kernel
theorem dX5_layOut_151 : decode cX5_layOut 151 = .ok (.iastore, 1) := by decide +kernel
theorem dX5_layOut_152 : decode cX5_layOut 152 = .ok (.iinc 3 1, 3) := by decide +kernel
theorem dX5_layOut_155 : decode cX5_layOut 155 = .ok (.goto (-74), 3) := by decide +kernel
theorem dX5_layOut_158 : decode cX5_layOut 158 = .ok (.iconst 0, 1) := by decide +kernel
theorem dX5_layOut_159 : decode cX5_layOut 159 = .ok (.istore_n 3, 1) := by decide +kernel
theorem dX5_layOut_160 : decode cX5_layOut 160 = .ok (.iload_n 3, 1) := by decide +kernel
theorem dX5_layOut_161 : decode cX5_layOut 161 = .ok (.aload_n 0, 1) := by decide +kernel
theorem dX5_layOut_162 : decode cX5_layOut 162 = .ok (.getfield 24, 3) := by decide +kernel
theorem dX5_layOut_165 : decode cX5_layOut 165 = .ok (.getfield 115, 3) := by decide +kernel
theorem dX5_layOut_168 : decode cX5_layOut 168 = .ok (.if_icmp .ge 20, 3) := by decide +kernel
theorem dX5_layOut_171 : decode cX5_layOut 171 = .ok (.aload_n 0, 1) := by decide +kernel
theorem dX5_layOut_172 : decode cX5_layOut 172 = .ok (.getfield 15, 3) := by decide +kernel
theorem dX5_layOut_175 : decode cX5_layOut 175 = .ok (.iload_n 3, 1) := by decide +kernel
theorem dX5_layOut_176 : decode cX5_layOut 176 = .ok (.iaload, 1) := by decide +kernel
theorem dX5_layOut_177 : decode cX5_layOut 177 = .ok (.ifCond .ge 5, 3) := by decide +kernel
theorem dX5_layOut_180 : decode cX5_layOut 180 = .ok (.iconst 0, 1) := by decide +kernel
theorem dX5_layOut_181 : decode cX5_layOut 181 = .ok (.ireturn, 1) := by decide +kernel
theorem dX5_layOut_182 : decode cX5_layOut 182 = .ok (.iinc 3 1, 3) := by decide +kernel
theorem dX5_layOut_185 : decode cX5_layOut 185 = .ok (.goto (-25), 3) := by decide +kernel
theorem dX5_layOut_188 : decode cX5_layOut 188 = .ok (.aload_n 0, 1) := by decide +kernel
theorem dX5_layOut_189 : decode cX5_layOut 189 = .ok (.aload_n 0, 1) := by decide +kernel
theorem dX5_layOut_190 : decode cX5_layOut 190 = .ok (.getfield 28, 3) := by decide +kernel
theorem dX5_layOut_193 : decode cX5_layOut 193 = .ok (.invokevirtual 118, 3) := by decide +kernel
theorem dX5_layOut_196 : decode cX5_layOut 196 = .ok (.aload_n 0, 1) := by decide +kernel
theorem dX5_layOut_197 : decode cX5_layOut 197 = .ok (.getfield 24, 3) := by decide +kernel
theorem dX5_layOut_200 : decode cX5_layOut 200 = .ok (.aload_n 0, 1) := by decide +kernel
theorem dX5_layOut_201 : decode cX5_layOut 201 = .ok (.getfield 15, 3) := by decide +kernel
theorem dX5_layOut_204 : decode cX5_layOut 204 = .ok (.invokevirtual 121, 3) := by decide +kernel
theorem dX5_layOut_207 : decode cX5_layOut 207 = .ok (.iadd, 1) := by decide +kernel
theorem dX5_layOut_208 : decode cX5_layOut 208 = .ok (.putfield 125, 3) := by decide +kernel
theorem dX5_layOut_211 : decode cX5_layOut 211 = .ok (.iconst 1, 1) := by decide +kernel
theorem dX5_layOut_212 : decode cX5_layOut 212 = .ok (.ireturn, 1) := by decide +kernel
theorem dX5_most_0 : decode cX5_most 0 = .ok (.aload_n 0, 1) := by decide +kernel
theorem dX5_most_1 : decode cX5_most 1 = .ok (.iload_n 1, 1) := by decide +kernel
theorem dX5_most_2 : decode cX5_most 2 = .ok (.iload_n 2, 1) := by decide +kernel
theorem dX5_most_3 : decode cX5_most 3 = .ok (.invokevirtual 127, 3) := by decide +kernel
theorem dX5_most_6 : decode cX5_most 6 = .ok (.istore 4, 2) := by decide +kernel
theorem dX5_most_8 : decode cX5_most 8 = .ok (.iconst 0, 1) := by decide +kernel
theorem dX5_most_9 : decode cX5_most 9 = .ok (.istore 5, 2) := by decide +kernel
theorem dX5_most_11 : decode cX5_most 11 = .ok (.iload 5, 2) := by decide +kernel
theorem dX5_most_13 : decode cX5_most 13 = .ok (.aload_n 0, 1) := by decide +kernel
theorem dX5_most_14 : decode cX5_most 14 = .ok (.getfield 24, 3) := by decide +kernel
theorem dX5_most_17 : decode cX5_most 17 = .ok (.getfield 40, 3) := by decide +kernel
theorem dX5_most_20 : decode cX5_most 20 = .ok (.if_icmp .ge 39, 3) := by decide +kernel
theorem dX5_most_23 : decode cX5_most 23 = .ok (.iload_n 1, 1) := by decide +kernel
theorem dX5_most_24 : decode cX5_most 24 = .ok (.aload_n 0, 1) := by decide +kernel
theorem dX5_most_25 : decode cX5_most 25 = .ok (.getfield 36, 3) := by decide +kernel
theorem dX5_most_28 : decode cX5_most 28 = .ok (.ior, 1) := by decide +kernel
theorem dX5_most_29 : decode cX5_most 29 = .ok (.iload 5, 2) := by decide +kernel
theorem dX5_most_31 : decode cX5_most 31 = .ok (.ishr, 1) := by decide +kernel
theorem dX5_most_32 : decode cX5_most 32 = .ok (.iconst 1, 1) := by decide +kernel
theorem dX5_most_33 : decode cX5_most 33 = .ok (.iand, 1) := by decide +kernel
theorem dX5_most_34 : decode cX5_most 34 = .ok (.ifCond .ne 19, 3) := by decide +kernel
theorem dX5_most_37 : decode cX5_most 37 = .ok (.iload 4, 2) := by decide +kernel
theorem dX5_most_39 : decode cX5_most 39 = .ok (.aload_n 0, 1) := by decide +kernel
theorem dX5_most_40 : decode cX5_most 40 = .ok (.iload 5, 2) := by decide +kernel
theorem dX5_most_42 : decode cX5_most 42 = .ok (.iload_n 1, 1) := by decide +kernel
theorem dX5_most_43 : decode cX5_most 43 = .ok (.iload_n 2, 1) := by decide +kernel
theorem dX5_most_44 : decode cX5_most 44 = .ok (.iload_n 3, 1) := by decide +kernel
theorem dX5_most_45 : decode cX5_most 45 = .ok (.invokevirtual 131, 3) := by decide +kernel
theorem dX5_most_48 : decode cX5_most 48 = .ok (.invokestatic 135, 3) := by decide +kernel
theorem dX5_most_51 : decode cX5_most 51 = .ok (.istore 4, 2) := by decide +kernel
theorem dX5_most_53 : decode cX5_most 53 = .ok (.iinc 5 1, 3) := by decide +kernel
theorem dX5_most_56 : decode cX5_most 56 = .ok (.goto (-45), 3) := by decide +kernel
theorem dX5_most_59 : decode cX5_most 59 = .ok (.iconst 0, 1) := by decide +kernel
theorem dX5_most_60 : decode cX5_most 60 = .ok (.istore 5, 2) := by decide +kernel
theorem dX5_most_62 : decode cX5_most 62 = .ok (.iload 5, 2) := by decide +kernel
theorem dX5_most_64 : decode cX5_most 64 = .ok (.aload_n 0, 1) := by decide +kernel
theorem dX5_most_65 : decode cX5_most 65 = .ok (.getfield 24, 3) := by decide +kernel
theorem dX5_most_68 : decode cX5_most 68 = .ok (.getfield 65, 3) := by decide +kernel
theorem dX5_most_71 : decode cX5_most 71 = .ok (.if_icmp .ge 41, 3) := by decide +kernel
theorem dX5_most_74 : decode cX5_most 74 = .ok (.iload_n 3, 1) := by decide +kernel
theorem dX5_most_75 : decode cX5_most 75 = .ok (.iload 5, 2) := by decide +kernel
theorem dX5_most_77 : decode cX5_most 77 = .ok (.ishr, 1) := by decide +kernel
theorem dX5_most_78 : decode cX5_most 78 = .ok (.iconst 1, 1) := by decide +kernel
theorem dX5_most_79 : decode cX5_most 79 = .ok (.iand, 1) := by decide +kernel
theorem dX5_most_80 : decode cX5_most 80 = .ok (.ifCond .ne 26, 3) := by decide +kernel
theorem dX5_most_83 : decode cX5_most 83 = .ok (.iload 4, 2) := by decide +kernel
theorem dX5_most_85 : decode cX5_most 85 = .ok (.aload_n 0, 1) := by decide +kernel
theorem dX5_most_86 : decode cX5_most 86 = .ok (.getfield 11, 3) := by decide +kernel
theorem dX5_most_89 : decode cX5_most 89 = .ok (.iload_n 1, 1) := by decide +kernel
theorem dX5_most_90 : decode cX5_most 90 = .ok (.iload_n 2, 1) := by decide +kernel
theorem dX5_most_91 : decode cX5_most 91 = .ok (.iload_n 3, 1) := by decide +kernel
theorem dX5_most_92 : decode cX5_most 92 = .ok (.iconst 1, 1) := by decide +kernel
theorem dX5_most_93 : decode cX5_most 93 = .ok (.iload 5, 2) := by decide +kernel
theorem dX5_most_95 : decode cX5_most 95 = .ok (.ishl, 1) := by decide +kernel
theorem dX5_most_96 : decode cX5_most 96 = .ok (.ior, 1) := by decide +kernel
theorem dX5_most_97 : decode cX5_most 97 = .ok (.invokestatic 61, 3) := by decide +kernel
theorem dX5_most_100 : decode cX5_most 100 = .ok (.iaload, 1) := by decide +kernel
theorem dX5_most_101 : decode cX5_most 101 = .ok (.invokestatic 135, 3) := by decide +kernel
theorem dX5_most_104 : decode cX5_most 104 = .ok (.istore 4, 2) := by decide +kernel
theorem dX5_most_106 : decode cX5_most 106 = .ok (.iinc 5 1, 3) := by decide +kernel
theorem dX5_most_109 : decode cX5_most 109 = .ok (.goto (-47), 3) := by decide +kernel
theorem dX5_most_112 : decode cX5_most 112 = .ok (.iload 4, 2) := by decide +kernel
theorem dX5_most_114 : decode cX5_most 114 = .ok (.ireturn, 1) := by decide +kernel
theorem dX5_ending_0 : decode cX5_ending 0 = .ok (.aload_n 0, 1) := by decide +kernel
theorem dX5_ending_1 : decode cX5_ending 1 = .ok (.getfield 125, 3) := by decide +kernel
theorem dX5_ending_4 : decode cX5_ending 4 = .ok (.istore_n 3, 1) := by decide +kernel
theorem dX5_ending_5 : decode cX5_ending 5 = .ok (.iconst 0, 1) := by decide +kernel
theorem dX5_ending_6 : decode cX5_ending 6 = .ok (.istore 4, 2) := by decide +kernel
theorem dX5_ending_8 : decode cX5_ending 8 = .ok (.iconst 1, 1) := by decide +kernel
theorem dX5_ending_9 : decode cX5_ending 9 = .ok (.istore 5, 2) := by decide +kernel
theorem dX5_ending_11 : decode cX5_ending 11 = .ok (.iconst 0, 1) := by decide +kernel
theorem dX5_ending_12 : decode cX5_ending 12 = .ok (.istore 6, 2) := by decide +kernel
theorem dX5_ending_14 : decode cX5_ending 14 = .ok (.iload 6, 2) := by decide +kernel
theorem dX5_ending_16 : decode cX5_ending 16 = .ok (.aload_n 0, 1) := by decide +kernel
theorem dX5_ending_17 : decode cX5_ending 17 = .ok (.getfield 24, 3) := by decide +kernel
theorem dX5_ending_20 : decode cX5_ending 20 = .ok (.getfield 40, 3) := by decide +kernel
theorem dX5_ending_23 : decode cX5_ending 23 = .ok (.if_icmp .ge 98, 3) := by decide +kernel
theorem dX5_ending_26 : decode cX5_ending 26 = .ok (.aload_n 0, 1) := by decide +kernel
theorem dX5_ending_27 : decode cX5_ending 27 = .ok (.getfield 18, 3) := by decide +kernel
theorem dX5_ending_30 : decode cX5_ending 30 = .ok (.iload 6, 2) := by decide +kernel
theorem dX5_ending_32 : decode cX5_ending 32 = .ok (.iaload, 1) := by decide +kernel
theorem dX5_ending_33 : decode cX5_ending 33 = .ok (.istore 7, 2) := by decide +kernel
theorem dX5_ending_35 : decode cX5_ending 35 = .ok (.iload_n 1, 1) := by decide +kernel
theorem dX5_ending_36 : decode cX5_ending 36 = .ok (.iload 6, 2) := by decide +kernel
theorem dX5_ending_38 : decode cX5_ending 38 = .ok (.ishr, 1) := by decide +kernel
theorem dX5_ending_39 : decode cX5_ending 39 = .ok (.iconst 1, 1) := by decide +kernel
theorem dX5_ending_40 : decode cX5_ending 40 = .ok (.iand, 1) := by decide +kernel
theorem dX5_ending_41 : decode cX5_ending 41 = .ok (.iconst 1, 1) := by decide +kernel
theorem dX5_ending_42 : decode cX5_ending 42 = .ok (.if_icmp .ne 27, 3) := by decide +kernel
theorem dX5_ending_45 : decode cX5_ending 45 = .ok (.iload_n 3, 1) := by decide +kernel
theorem dX5_ending_46 : decode cX5_ending 46 = .ok (.iload_n 2, 1) := by decide +kernel
theorem dX5_ending_47 : decode cX5_ending 47 = .ok (.iload 6, 2) := by decide +kernel
theorem dX5_ending_49 : decode cX5_ending 49 = .ok (.ishr, 1) := by decide +kernel
theorem dX5_ending_50 : decode cX5_ending 50 = .ok (.iconst 1, 1) := by decide +kernel
theorem dX5_ending_51 : decode cX5_ending 51 = .ok (.iand, 1) := by decide +kernel
theorem dX5_ending_52 : decode cX5_ending 52 = .ok (.iconst 1, 1) := by decide +kernel
theorem dX5_ending_53 : decode cX5_ending 53 = .ok (.if_icmp .ne 8, 3) := by decide +kernel
theorem dX5_ending_56 : decode cX5_ending 56 = .ok (.iload 7, 2) := by decide +kernel
theorem dX5_ending_58 : decode cX5_ending 58 = .ok (.goto 6, 3) := by decide +kernel
theorem dX5_ending_61 : decode cX5_ending 61 = .ok (.iload 7, 2) := by decide +kernel
theorem dX5_ending_63 : decode cX5_ending 63 = .ok (.ineg, 1) := by decide +kernel
theorem dX5_ending_64 : decode cX5_ending 64 = .ok (.iadd, 1) := by decide +kernel
theorem dX5_ending_65 : decode cX5_ending 65 = .ok (.istore_n 3, 1) := by decide +kernel
theorem dX5_ending_66 : decode cX5_ending 66 = .ok (.goto 49, 3) := by decide +kernel
theorem dX5_ending_69 : decode cX5_ending 69 = .ok (.iload 4, 2) := by decide +kernel
theorem dX5_ending_71 : decode cX5_ending 71 = .ok (.aload_n 0, 1) := by decide +kernel
theorem dX5_ending_72 : decode cX5_ending 72 = .ok (.getfield 32, 3) := by decide +kernel
theorem dX5_ending_75 : decode cX5_ending 75 = .ok (.ifCond .eq 24, 3) := by decide +kernel
theorem dX5_ending_78 : decode cX5_ending 78 = .ok (.iload 7, 2) := by decide +kernel
theorem dX5_ending_80 : decode cX5_ending 80 = .ok (.iconst 2, 1) := by decide +kernel
theorem dX5_ending_81 : decode cX5_ending 81 = .ok (.aload_n 0, 1) := by decide +kernel
theorem dX5_ending_82 : decode cX5_ending 82 = .ok (.getfield 24, 3) := by decide +kernel
theorem dX5_ending_85 : decode cX5_ending 85 = .ok (.getfield 140, 3) := by decide +kernel
theorem dX5_ending_88 : decode cX5_ending 88 = .ok (.iload 6, 2) := by decide +kernel
theorem dX5_ending_90 : decode cX5_ending 90 = .ok (.iaload, 1) := by decide +kernel
theorem dX5_ending_91 : decode cX5_ending 91 = .ok (.imul, 1) := by decide +kernel
theorem dX5_ending_92 : decode cX5_ending 92 = .ok (.bipush 10, 2) := by decide +kernel
theorem dX5_ending_94 : decode cX5_ending 94 = .ok (.isub, 1) := by decide +kernel
theorem dX5_ending_95 : decode cX5_ending 95 = .ok (.imul, 1) := by decide +kernel
theorem dX5_ending_96 : decode cX5_ending 96 = .ok (.goto 9, 3) := by decide +kernel
theorem dX5_ending_99 : decode cX5_ending 99 = .ok (.iload 7, 2) := by decide +kernel
theorem dX5_ending_101 : decode cX5_ending 101 = .ok (.invokestatic 143, 3) := by decide +kernel
theorem dX5_ending_104 : decode cX5_ending 104 = .ok (.ineg, 1) := by decide +kernel
theorem dX5_ending_105 : decode cX5_ending 105 = .ok (.iadd, 1) := by decide +kernel
theorem dX5_ending_106 : decode cX5_ending 106 = .ok (.istore 4, 2) := by decide +kernel
theorem dX5_ending_108 : decode cX5_ending 108 = .ok (.iload 5, 2) := by decide +kernel
theorem dX5_ending_110 : decode cX5_ending 110 = .ok (.bipush 10, 2) := by decide +kernel
theorem dX5_ending_112 : decode cX5_ending 112 = .ok (.imul, 1) := by decide +kernel
theorem dX5_ending_113 : decode cX5_ending 113 = .ok (.istore 5, 2) := by decide +kernel
theorem dX5_ending_115 : decode cX5_ending 115 = .ok (.iinc 6 1, 3) := by decide +kernel
theorem dX5_ending_118 : decode cX5_ending 118 = .ok (.goto (-104), 3) := by decide +kernel
theorem dX5_ending_121 : decode cX5_ending 121 = .ok (.aload_n 0, 1) := by decide +kernel
theorem dX5_ending_122 : decode cX5_ending 122 = .ok (.getfield 32, 3) := by decide +kernel
theorem dX5_ending_125 : decode cX5_ending 125 = .ok (.ifCond .eq 16, 3) := by decide +kernel
theorem dX5_ending_128 : decode cX5_ending 128 = .ok (.bipush 10, 2) := by decide +kernel
theorem dX5_ending_130 : decode cX5_ending 130 = .ok (.iload_n 3, 1) := by decide +kernel
theorem dX5_ending_131 : decode cX5_ending 131 = .ok (.imul, 1) := by decide +kernel
theorem dX5_ending_132 : decode cX5_ending 132 = .ok (.iload 4, 2) := by decide +kernel
theorem dX5_ending_134 : decode cX5_ending 134 = .ok (.iadd, 1) := by decide +kernel
theorem dX5_ending_135 : decode cX5_ending 135 = .ok (.iload 5, 2) := by decide +kernel
theorem dX5_ending_137 : decode cX5_ending 137 = .ok (.imul, 1) := by decide +kernel
theorem dX5_ending_138 : decode cX5_ending 138 = .ok (.goto 7, 3) := by decide +kernel
theorem dX5_ending_141 : decode cX5_ending 141 = .ok (.iload_n 3, 1) := by decide +kernel
theorem dX5_ending_142 : decode cX5_ending 142 = .ok (.iload 4, 2) := by decide +kernel
theorem dX5_ending_144 : decode cX5_ending 144 = .ok (.iadd, 1) := by decide +kernel
theorem dX5_ending_145 : decode cX5_ending 145 = .ok (.ireturn, 1) := by decide +kernel
theorem dX5_behind_0 : decode cX5_behind 0 = .ok (.iconst 1, 1) := by decide +kernel
theorem dX5_behind_1 : decode cX5_behind 1 = .ok (.iload_n 1, 1) := by decide +kernel
theorem dX5_behind_2 : decode cX5_behind 2 = .ok (.ishl, 1) := by decide +kernel
theorem dX5_behind_3 : decode cX5_behind 3 = .ok (.istore 5, 2) := by decide +kernel
theorem dX5_behind_5 : decode cX5_behind 5 = .ok (.aload_n 0, 1) := by decide +kernel
theorem dX5_behind_6 : decode cX5_behind 6 = .ok (.getfield 11, 3) := by decide +kernel
theorem dX5_behind_9 : decode cX5_behind 9 = .ok (.iload_n 2, 1) := by decide +kernel
theorem dX5_behind_10 : decode cX5_behind 10 = .ok (.iload 5, 2) := by decide +kernel
theorem dX5_behind_12 : decode cX5_behind 12 = .ok (.ior, 1) := by decide +kernel
theorem dX5_behind_13 : decode cX5_behind 13 = .ok (.iload_n 3, 1) := by decide +kernel
theorem dX5_behind_14 : decode cX5_behind 14 = .ok (.iload 4, 2) := by decide +kernel
theorem dX5_behind_16 : decode cX5_behind 16 = .ok (.invokestatic 61, 3) := by decide +kernel
theorem dX5_behind_19 : decode cX5_behind 19 = .ok (.iaload, 1) := by decide +kernel
theorem dX5_behind_20 : decode cX5_behind 20 = .ok (.istore 6, 2) := by decide +kernel
theorem dX5_behind_22 : decode cX5_behind 22 = .ok (.aload_n 0, 1) := by decide +kernel
theorem dX5_behind_23 : decode cX5_behind 23 = .ok (.getfield 11, 3) := by decide +kernel
theorem dX5_behind_26 : decode cX5_behind 26 = .ok (.iload_n 2, 1) := by decide +kernel
theorem dX5_behind_27 : decode cX5_behind 27 = .ok (.iload 5, 2) := by decide +kernel
theorem dX5_behind_29 : decode cX5_behind 29 = .ok (.ior, 1) := by decide +kernel
theorem dX5_behind_30 : decode cX5_behind 30 = .ok (.iload_n 3, 1) := by decide +kernel
theorem dX5_behind_31 : decode cX5_behind 31 = .ok (.iload 5, 2) := by decide +kernel
theorem dX5_behind_33 : decode cX5_behind 33 = .ok (.ior, 1) := by decide +kernel
theorem dX5_behind_34 : decode cX5_behind 34 = .ok (.iload 4, 2) := by decide +kernel
theorem dX5_behind_36 : decode cX5_behind 36 = .ok (.invokestatic 61, 3) := by decide +kernel
theorem dX5_behind_39 : decode cX5_behind 39 = .ok (.iaload, 1) := by decide +kernel
theorem dX5_behind_40 : decode cX5_behind 40 = .ok (.istore 7, 2) := by decide +kernel
theorem dX5_behind_42 : decode cX5_behind 42 = .ok (.aload_n 0, 1) := by decide +kernel
theorem dX5_behind_43 : decode cX5_behind 43 = .ok (.getfield 24, 3) := by decide +kernel
theorem dX5_behind_46 : decode cX5_behind 46 = .ok (.getfield 140, 3) := by decide +kernel
theorem dX5_behind_49 : decode cX5_behind 49 = .ok (.iload_n 1, 1) := by decide +kernel
theorem dX5_behind_50 : decode cX5_behind 50 = .ok (.iaload, 1) := by decide +kernel
theorem dX5_behind_51 : decode cX5_behind 51 = .ok (.istore 8, 2) := by decide +kernel
theorem dX5_behind_53 : decode cX5_behind 53 = .ok (.aload_n 0, 1) := by decide +kernel
theorem dX5_behind_54 : decode cX5_behind 54 = .ok (.getfield 32, 3) := by decide +kernel
theorem dX5_behind_57 : decode cX5_behind 57 = .ok (.ifCond .eq 20, 3) := by decide +kernel
theorem dX5_behind_60 : decode cX5_behind 60 = .ok (.iload 6, 2) := by decide +kernel
theorem dX5_behind_62 : decode cX5_behind 62 = .ok (.bipush 10, 2) := by decide +kernel
theorem dX5_behind_64 : decode cX5_behind 64 = .ok (.iload 8, 2) := by decide +kernel
theorem dX5_behind_66 : decode cX5_behind 66 = .ok (.isub, 1) := by decide +kernel
theorem dX5_behind_67 : decode cX5_behind 67 = .ok (.imul, 1) := by decide +kernel
theorem dX5_behind_68 : decode cX5_behind 68 = .ok (.iload 7, 2) := by decide +kernel
theorem dX5_behind_70 : decode cX5_behind 70 = .ok (.iload 8, 2) := by decide +kernel
theorem dX5_behind_72 : decode cX5_behind 72 = .ok (.imul, 1) := by decide +kernel
theorem dX5_behind_73 : decode cX5_behind 73 = .ok (.iadd, 1) := by decide +kernel
theorem dX5_behind_74 : decode cX5_behind 74 = .ok (.goto 10, 3) := by decide +kernel
theorem dX5_behind_77 : decode cX5_behind 77 = .ok (.iload 6, 2) := by decide +kernel
theorem dX5_behind_79 : decode cX5_behind 79 = .ok (.iload 7, 2) := by decide +kernel
theorem dX5_behind_81 : decode cX5_behind 81 = .ok (.invokestatic 146, 3) := by decide +kernel
theorem dX5_behind_84 : decode cX5_behind 84 = .ok (.ireturn, 1) := by decide +kernel
theorem dX5_behindNow_0 : decode cX5_behindNow 0 = .ok (.aload_n 0, 1) := by decide +kernel
theorem dX5_behindNow_1 : decode cX5_behindNow 1 = .ok (.iload_n 1, 1) := by decide +kernel
theorem dX5_behindNow_2 : decode cX5_behindNow 2 = .ok (.aload_n 0, 1) := by decide +kernel
theorem dX5_behindNow_3 : decode cX5_behindNow 3 = .ok (.getfield 28, 3) := by decide +kernel
theorem dX5_behindNow_6 : decode cX5_behindNow 6 = .ok (.getfield 45, 3) := by decide +kernel
theorem dX5_behindNow_9 : decode cX5_behindNow 9 = .ok (.aload_n 0, 1) := by decide +kernel
theorem dX5_behindNow_10 : decode cX5_behindNow 10 = .ok (.invokevirtual 54, 3) := by decide +kernel
theorem dX5_behindNow_13 : decode cX5_behindNow 13 = .ok (.aload_n 0, 1) := by decide +kernel
theorem dX5_behindNow_14 : decode cX5_behindNow 14 = .ok (.getfield 28, 3) := by decide +kernel
theorem dX5_behindNow_17 : decode cX5_behindNow 17 = .ok (.getfield 58, 3) := by decide +kernel
theorem dX5_behindNow_20 : decode cX5_behindNow 20 = .ok (.invokevirtual 131, 3) := by decide +kernel
theorem dX5_behindNow_23 : decode cX5_behindNow 23 = .ok (.ireturn, 1) := by decide +kernel
theorem dX5_first_0 : decode cX5_first 0 = .ok (.aload_n 0, 1) := by decide +kernel
theorem dX5_first_1 : decode cX5_first 1 = .ok (.invokevirtual 54, 3) := by decide +kernel
theorem dX5_first_4 : decode cX5_first 4 = .ok (.istore_n 1, 1) := by decide +kernel
theorem dX5_first_5 : decode cX5_first 5 = .ok (.aload_n 0, 1) := by decide +kernel
theorem dX5_first_6 : decode cX5_first 6 = .ok (.getfield 11, 3) := by decide +kernel
theorem dX5_first_9 : decode cX5_first 9 = .ok (.aload_n 0, 1) := by decide +kernel
theorem dX5_first_10 : decode cX5_first 10 = .ok (.getfield 28, 3) := by decide +kernel
theorem dX5_first_13 : decode cX5_first 13 = .ok (.getfield 45, 3) := by decide +kernel
theorem dX5_first_16 : decode cX5_first 16 = .ok (.iload_n 1, 1) := by decide +kernel
theorem dX5_first_17 : decode cX5_first 17 = .ok (.aload_n 0, 1) := by decide +kernel
theorem dX5_first_18 : decode cX5_first 18 = .ok (.getfield 28, 3) := by decide +kernel
theorem dX5_first_21 : decode cX5_first 21 = .ok (.getfield 58, 3) := by decide +kernel
theorem dX5_first_24 : decode cX5_first 24 = .ok (.invokestatic 61, 3) := by decide +kernel
theorem dX5_first_27 : decode cX5_first 27 = .ok (.iaload, 1) := by decide +kernel
theorem dX5_first_28 : decode cX5_first 28 = .ok (.istore_n 2, 1) := by decide +kernel
theorem dX5_first_29 : decode cX5_first 29 = .ok (.aload_n 0, 1) := by decide +kernel
theorem dX5_first_30 : decode cX5_first 30 = .ok (.iconst 0, 1) := by decide +kernel
theorem dX5_first_31 : decode cX5_first 31 = .ok (.iconst 0, 1) := by decide +kernel
theorem dX5_first_32 : decode cX5_first 32 = .ok (.invokevirtual 68, 3) := by decide +kernel
theorem dX5_first_35 : decode cX5_first 35 = .ok (.pop, 1) := by decide +kernel
theorem dX5_first_36 : decode cX5_first 36 = .ok (.aload_n 0, 1) := by decide +kernel
theorem dX5_first_37 : decode cX5_first 37 = .ok (.aload_n 0, 1) := by decide +kernel
theorem dX5_first_38 : decode cX5_first 38 = .ok (.getfield 28, 3) := by decide +kernel
theorem dX5_first_41 : decode cX5_first 41 = .ok (.getfield 45, 3) := by decide +kernel
theorem dX5_first_44 : decode cX5_first 44 = .ok (.iload_n 1, 1) := by decide +kernel
theorem dX5_first_45 : decode cX5_first 45 = .ok (.invokevirtual 127, 3) := by decide +kernel
theorem dX5_first_48 : decode cX5_first 48 = .ok (.iload_n 2, 1) := by decide +kernel
theorem dX5_first_49 : decode cX5_first 49 = .ok (.if_icmp .ne 5, 3) := by decide +kernel
theorem dX5_first_52 : decode cX5_first 52 = .ok (.iconst 0, 1) := by decide +kernel
theorem dX5_first_53 : decode cX5_first 53 = .ok (.ireturn, 1) := by decide +kernel
theorem dX5_first_54 : decode cX5_first 54 = .ok (.iconst 0, 1) := by decide +kernel
theorem dX5_first_55 : decode cX5_first 55 = .ok (.istore_n 3, 1) := by decide +kernel
theorem dX5_first_56 : decode cX5_first 56 = .ok (.iload_n 3, 1) := by decide +kernel
theorem dX5_first_57 : decode cX5_first 57 = .ok (.aload_n 0, 1) := by decide +kernel
theorem dX5_first_58 : decode cX5_first 58 = .ok (.getfield 24, 3) := by decide +kernel
theorem dX5_first_61 : decode cX5_first 61 = .ok (.getfield 40, 3) := by decide +kernel
theorem dX5_first_64 : decode cX5_first 64 = .ok (.if_icmp .ge 33, 3) := by decide +kernel
theorem dX5_first_67 : decode cX5_first 67 = .ok (.aload_n 0, 1) := by decide +kernel
theorem dX5_first_68 : decode cX5_first 68 = .ok (.getfield 28, 3) := by decide +kernel
theorem dX5_first_71 : decode cX5_first 71 = .ok (.iload_n 3, 1) := by decide +kernel
theorem dX5_first_72 : decode cX5_first 72 = .ok (.invokevirtual 149, 3) := by decide +kernel
theorem dX5_first_75 : decode cX5_first 75 = .ok (.ifCond .ne 16, 3) := by decide +kernel
theorem dX5_first_78 : decode cX5_first 78 = .ok (.aload_n 0, 1) := by decide +kernel
theorem dX5_first_79 : decode cX5_first 79 = .ok (.iload_n 3, 1) := by decide +kernel
theorem dX5_first_80 : decode cX5_first 80 = .ok (.invokevirtual 153, 3) := by decide +kernel
theorem dX5_first_83 : decode cX5_first 83 = .ok (.iload_n 2, 1) := by decide +kernel
theorem dX5_first_84 : decode cX5_first 84 = .ok (.if_icmp .ne 7, 3) := by decide +kernel
theorem dX5_first_87 : decode cX5_first 87 = .ok (.iconst 1, 1) := by decide +kernel
theorem dX5_first_88 : decode cX5_first 88 = .ok (.iload_n 3, 1) := by decide +kernel
theorem dX5_first_89 : decode cX5_first 89 = .ok (.iadd, 1) := by decide +kernel
theorem dX5_first_90 : decode cX5_first 90 = .ok (.ireturn, 1) := by decide +kernel
theorem dX5_first_91 : decode cX5_first 91 = .ok (.iinc 3 1, 3) := by decide +kernel
theorem dX5_first_94 : decode cX5_first 94 = .ok (.goto (-38), 3) := by decide +kernel
theorem dX5_first_97 : decode cX5_first 97 = .ok (.iconst 0, 1) := by decide +kernel
theorem dX5_first_98 : decode cX5_first 98 = .ok (.istore_n 3, 1) := by decide +kernel
theorem dX5_first_99 : decode cX5_first 99 = .ok (.iload_n 3, 1) := by decide +kernel
theorem dX5_first_100 : decode cX5_first 100 = .ok (.aload_n 0, 1) := by decide +kernel
theorem dX5_first_101 : decode cX5_first 101 = .ok (.getfield 24, 3) := by decide +kernel
theorem dX5_first_104 : decode cX5_first 104 = .ok (.getfield 65, 3) := by decide +kernel
theorem dX5_first_107 : decode cX5_first 107 = .ok (.if_icmp .ge 55, 3) := by decide +kernel
theorem dX5_first_110 : decode cX5_first 110 = .ok (.aload_n 0, 1) := by decide +kernel
theorem dX5_first_111 : decode cX5_first 111 = .ok (.getfield 28, 3) := by decide +kernel
theorem dX5_first_114 : decode cX5_first 114 = .ok (.iload_n 3, 1) := by decide +kernel
theorem dX5_first_115 : decode cX5_first 115 = .ok (.invokevirtual 156, 3) := by decide +kernel
theorem dX5_first_118 : decode cX5_first 118 = .ok (.ifCond .ne 38, 3) := by decide +kernel
theorem dX5_first_121 : decode cX5_first 121 = .ok (.aload_n 0, 1) := by decide +kernel
theorem dX5_first_122 : decode cX5_first 122 = .ok (.getfield 11, 3) := by decide +kernel
theorem dX5_first_125 : decode cX5_first 125 = .ok (.aload_n 0, 1) := by decide +kernel
theorem dX5_first_126 : decode cX5_first 126 = .ok (.getfield 28, 3) := by decide +kernel
theorem dX5_first_129 : decode cX5_first 129 = .ok (.getfield 45, 3) := by decide +kernel
theorem dX5_first_132 : decode cX5_first 132 = .ok (.iload_n 1, 1) := by decide +kernel
theorem dX5_first_133 : decode cX5_first 133 = .ok (.aload_n 0, 1) := by decide +kernel
theorem dX5_first_134 : decode cX5_first 134 = .ok (.getfield 28, 3) := by decide +kernel
theorem dX5_first_137 : decode cX5_first 137 = .ok (.getfield 58, 3) := by decide +kernel
theorem dX5_first_140 : decode cX5_first 140 = .ok (.iconst 1, 1) := by decide +kernel
theorem dX5_first_141 : decode cX5_first 141 = .ok (.iload_n 3, 1) := by decide +kernel
theorem dX5_first_142 : decode cX5_first 142 = .ok (.ishl, 1) := by decide +kernel
theorem dX5_first_143 : decode cX5_first 143 = .ok (.ior, 1) := by decide +kernel
theorem dX5_first_144 : decode cX5_first 144 = .ok (.invokestatic 61, 3) := by decide +kernel
theorem dX5_first_147 : decode cX5_first 147 = .ok (.iaload, 1) := by decide +kernel
theorem dX5_first_148 : decode cX5_first 148 = .ok (.iload_n 2, 1) := by decide +kernel
theorem dX5_first_149 : decode cX5_first 149 = .ok (.if_icmp .ne 7, 3) := by decide +kernel
theorem dX5_first_152 : decode cX5_first 152 = .ok (.iconst 5, 1) := by decide +kernel
theorem dX5_first_153 : decode cX5_first 153 = .ok (.iload_n 3, 1) := by decide +kernel
theorem dX5_first_154 : decode cX5_first 154 = .ok (.iadd, 1) := by decide +kernel
theorem dX5_first_155 : decode cX5_first 155 = .ok (.ireturn, 1) := by decide +kernel
theorem dX5_first_156 : decode cX5_first 156 = .ok (.iinc 3 1, 3) := by decide +kernel
theorem dX5_first_159 : decode cX5_first 159 = .ok (.goto (-60), 3) := by decide +kernel
theorem dX5_first_162 : decode cX5_first 162 = .ok (.iconst 0, 1) := by decide +kernel
theorem dX5_first_163 : decode cX5_first 163 = .ok (.ireturn, 1) := by decide +kernel
theorem dX5_unregretted_0 : decode cX5_unregretted 0 = .ok (.aload_n 0, 1) := by decide +kernel
theorem dX5_unregretted_1 : decode cX5_unregretted 1 = .ok (.getfield 28, 3) := by decide +kernel
theorem dX5_unregretted_4 : decode cX5_unregretted 4 = .ok (.invokevirtual 159, 3) := by decide +kernel
theorem dX5_unregretted_7 : decode cX5_unregretted 7 = .ok (.istore_n 1, 1) := by decide +kernel
theorem dX5_unregretted_8 : decode cX5_unregretted 8 = .ok (.aload_n 0, 1) := by decide +kernel
theorem dX5_unregretted_9 : decode cX5_unregretted 9 = .ok (.iconst 0, 1) := by decide +kernel
theorem dX5_unregretted_10 : decode cX5_unregretted 10 = .ok (.iconst 0, 1) := by decide +kernel
theorem dX5_unregretted_11 : decode cX5_unregretted 11 = .ok (.invokevirtual 162, 3) := by decide +kernel
theorem dX5_unregretted_14 : decode cX5_unregretted 14 = .ok (.pop, 1) := by decide +kernel
theorem dX5_unregretted_15 : decode cX5_unregretted 15 = .ok (.iconst 0, 1) := by decide +kernel
theorem dX5_unregretted_16 : decode cX5_unregretted 16 = .ok (.istore_n 2, 1) := by decide +kernel
theorem dX5_unregretted_17 : decode cX5_unregretted 17 = .ok (.iload_n 2, 1) := by decide +kernel
theorem dX5_unregretted_18 : decode cX5_unregretted 18 = .ok (.aload_n 0, 1) := by decide +kernel
theorem dX5_unregretted_19 : decode cX5_unregretted 19 = .ok (.getfield 24, 3) := by decide +kernel
theorem dX5_unregretted_22 : decode cX5_unregretted 22 = .ok (.getfield 40, 3) := by decide +kernel
theorem dX5_unregretted_25 : decode cX5_unregretted 25 = .ok (.if_icmp .ge 33, 3) := by decide +kernel
theorem dX5_unregretted_28 : decode cX5_unregretted 28 = .ok (.aload_n 0, 1) := by decide +kernel
theorem dX5_unregretted_29 : decode cX5_unregretted 29 = .ok (.getfield 21, 3) := by decide +kernel
theorem dX5_unregretted_32 : decode cX5_unregretted 32 = .ok (.iload_n 2, 1) := by decide +kernel
theorem dX5_unregretted_33 : decode cX5_unregretted 33 = .ok (.iload_n 1, 1) := by decide +kernel
theorem dX5_unregretted_34 : decode cX5_unregretted 34 = .ok (.iload_n 2, 1) := by decide +kernel
theorem dX5_unregretted_35 : decode cX5_unregretted 35 = .ok (.ishr, 1) := by decide +kernel
theorem dX5_unregretted_36 : decode cX5_unregretted 36 = .ok (.iconst 1, 1) := by decide +kernel
theorem dX5_unregretted_37 : decode cX5_unregretted 37 = .ok (.iand, 1) := by decide +kernel
theorem dX5_unregretted_38 : decode cX5_unregretted 38 = .ok (.iconst 1, 1) := by decide +kernel
theorem dX5_unregretted_39 : decode cX5_unregretted 39 = .ok (.if_icmp .ne 11, 3) := by decide +kernel
theorem dX5_unregretted_42 : decode cX5_unregretted 42 = .ok (.aload_n 0, 1) := by decide +kernel
theorem dX5_unregretted_43 : decode cX5_unregretted 43 = .ok (.iload_n 2, 1) := by decide +kernel
theorem dX5_unregretted_44 : decode cX5_unregretted 44 = .ok (.invokevirtual 153, 3) := by decide +kernel
theorem dX5_unregretted_47 : decode cX5_unregretted 47 = .ok (.goto 4, 3) := by decide +kernel
theorem dX5_unregretted_50 : decode cX5_unregretted 50 = .ok (.iconst 0, 1) := by decide +kernel
theorem dX5_unregretted_51 : decode cX5_unregretted 51 = .ok (.iastore, 1) := by decide +kernel
theorem dX5_unregretted_52 : decode cX5_unregretted 52 = .ok (.iinc 2 1, 3) := by decide +kernel
theorem dX5_unregretted_55 : decode cX5_unregretted 55 = .ok (.goto (-38), 3) := by decide +kernel
theorem dX5_unregretted_58 : decode cX5_unregretted 58 = .ok (.iconst 0, 1) := by decide +kernel
theorem dX5_unregretted_59 : decode cX5_unregretted 59 = .ok (.istore_n 2, 1) := by decide +kernel
theorem dX5_unregretted_60 : decode cX5_unregretted 60 = .ok (.iconst 0, 1) := by decide +kernel
theorem dX5_unregretted_61 : decode cX5_unregretted 61 = .ok (.istore_n 3, 1) := by decide +kernel
theorem dX5_unregretted_62 : decode cX5_unregretted 62 = .ok (.iload_n 3, 1) := by decide +kernel
theorem dX5_unregretted_63 : decode cX5_unregretted 63 = .ok (.aload_n 0, 1) := by decide +kernel
theorem dX5_unregretted_64 : decode cX5_unregretted 64 = .ok (.getfield 24, 3) := by decide +kernel
theorem dX5_unregretted_67 : decode cX5_unregretted 67 = .ok (.getfield 40, 3) := by decide +kernel
theorem dX5_unregretted_70 : decode cX5_unregretted 70 = .ok (.if_icmp .ge 41, 3) := by decide +kernel
theorem dX5_unregretted_73 : decode cX5_unregretted 73 = .ok (.iload_n 1, 1) := by decide +kernel
theorem dX5_unregretted_74 : decode cX5_unregretted 74 = .ok (.iload_n 3, 1) := by decide +kernel
theorem dX5_unregretted_75 : decode cX5_unregretted 75 = .ok (.ishr, 1) := by decide +kernel
theorem dX5_unregretted_76 : decode cX5_unregretted 76 = .ok (.iconst 1, 1) := by decide +kernel
theorem dX5_unregretted_77 : decode cX5_unregretted 77 = .ok (.iand, 1) := by decide +kernel
theorem dX5_unregretted_78 : decode cX5_unregretted 78 = .ok (.iconst 1, 1) := by decide +kernel
theorem dX5_unregretted_79 : decode cX5_unregretted 79 = .ok (.if_icmp .ne 26, 3) := by decide +kernel
theorem dX5_unregretted_82 : decode cX5_unregretted 82 = .ok (.aload_n 0, 1) := by decide +kernel
theorem dX5_unregretted_83 : decode cX5_unregretted 83 = .ok (.iconst 0, 1) := by decide +kernel
theorem dX5_unregretted_84 : decode cX5_unregretted 84 = .ok (.iconst 1, 1) := by decide +kernel
theorem dX5_unregretted_85 : decode cX5_unregretted 85 = .ok (.iload_n 3, 1) := by decide +kernel
theorem dX5_unregretted_86 : decode cX5_unregretted 86 = .ok (.ishl, 1) := by decide +kernel
theorem dX5_unregretted_87 : decode cX5_unregretted 87 = .ok (.invokevirtual 162, 3) := by decide +kernel
theorem dX5_unregretted_90 : decode cX5_unregretted 90 = .ok (.aload_n 0, 1) := by decide +kernel
theorem dX5_unregretted_91 : decode cX5_unregretted 91 = .ok (.getfield 21, 3) := by decide +kernel
theorem dX5_unregretted_94 : decode cX5_unregretted 94 = .ok (.iload_n 3, 1) := by decide +kernel
theorem dX5_unregretted_95 : decode cX5_unregretted 95 = .ok (.iaload, 1) := by decide +kernel
theorem dX5_unregretted_96 : decode cX5_unregretted 96 = .ok (.if_icmp .gt 9, 3) := by decide +kernel
theorem dX5_unregretted_99 : decode cX5_unregretted 99 = .ok (.iload_n 2, 1) := by decide +kernel
theorem dX5_unregretted_100 : decode cX5_unregretted 100 = .ok (.iconst 1, 1) := by decide +kernel
theorem dX5_unregretted_101 : decode cX5_unregretted 101 = .ok (.iload_n 3, 1) := by decide +kernel
theorem dX5_unregretted_102 : decode cX5_unregretted 102 = .ok (.ishl, 1) := by decide +kernel
theorem dX5_unregretted_103 : decode cX5_unregretted 103 = .ok (.ior, 1) := by decide +kernel
theorem dX5_unregretted_104 : decode cX5_unregretted 104 = .ok (.istore_n 2, 1) := by decide +kernel
theorem dX5_unregretted_105 : decode cX5_unregretted 105 = .ok (.iinc 3 1, 3) := by decide +kernel
theorem dX5_unregretted_108 : decode cX5_unregretted 108 = .ok (.goto (-46), 3) := by decide +kernel
theorem dX5_unregretted_111 : decode cX5_unregretted 111 = .ok (.iload_n 2, 1) := by decide +kernel
theorem dX5_unregretted_112 : decode cX5_unregretted 112 = .ok (.ireturn, 1) := by decide +kernel
theorem dX6_init_0 : decode cX6_init 0 = .ok (.aload_n 0, 1) := by decide +kernel
theorem dX6_init_1 : decode cX6_init 1 = .ok (.invokespecial 3, 3) := by decide +kernel
theorem dX6_init_4 : decode cX6_init 4 = .ok (.aload_n 0, 1) := by decide +kernel
theorem dX6_init_5 : decode cX6_init 5 = .ok (.iconst 4, 1) := by decide +kernel
theorem dX6_init_6 : decode cX6_init 6 = .ok (.newarray .int, 2) := by decide +kernel
theorem dX6_init_8 : decode cX6_init 8 = .ok (.putfield 9, 3) := by decide +kernel
theorem dX6_init_11 : decode cX6_init 11 = .ok (.aload_n 0, 1) := by decide +kernel
theorem dX6_init_12 : decode cX6_init 12 = .ok (.iconst 4, 1) := by decide +kernel
theorem dX6_init_13 : decode cX6_init 13 = .ok (.newarray .int, 2) := by decide +kernel
theorem dX6_init_15 : decode cX6_init 15 = .ok (.putfield 15, 3) := by decide +kernel
theorem dX6_init_18 : decode cX6_init 18 = .ok (.aload_n 0, 1) := by decide +kernel
theorem dX6_init_19 : decode cX6_init 19 = .ok (.iconst 4, 1) := by decide +kernel
theorem dX6_init_20 : decode cX6_init 20 = .ok (.newarray .int, 2) := by decide +kernel
theorem dX6_init_22 : decode cX6_init 22 = .ok (.putfield 18, 3) := by decide +kernel
theorem dX6_init_25 : decode cX6_init 25 = .ok (.aload_n 0, 1) := by decide +kernel
theorem dX6_init_26 : decode cX6_init 26 = .ok (.iconst 4, 1) := by decide +kernel
theorem dX6_init_27 : decode cX6_init 27 = .ok (.newarray .int, 2) := by decide +kernel
theorem dX6_init_29 : decode cX6_init 29 = .ok (.putfield 21, 3) := by decide +kernel
theorem dX6_init_32 : decode cX6_init 32 = .ok (.aload_n 0, 1) := by decide +kernel
theorem dX6_init_33 : decode cX6_init 33 = .ok (.iconst 4, 1) := by decide +kernel
theorem dX6_init_34 : decode cX6_init 34 = .ok (.newarray .int, 2) := by decide +kernel
theorem dX6_init_36 : decode cX6_init 36 = .ok (.putfield 24, 3) := by decide +kernel
theorem dX6_init_39 : decode cX6_init 39 = .ok (.aload_n 0, 1) := by decide +kernel
theorem dX6_init_40 : decode cX6_init 40 = .ok (.iconst 4, 1) := by decide +kernel
theorem dX6_init_41 : decode cX6_init 41 = .ok (.newarray .int, 2) := by decide +kernel
theorem dX6_init_43 : decode cX6_init 43 = .ok (.putfield 27, 3) := by decide +kernel
theorem dX6_init_46 : decode cX6_init 46 = .ok (.aload_n 0, 1) := by decide +kernel
theorem dX6_init_47 : decode cX6_init 47 = .ok (.iconst 4, 1) := by decide +kernel
theorem dX6_init_48 : decode cX6_init 48 = .ok (.newarray .int, 2) := by decide +kernel
theorem dX6_init_50 : decode cX6_init 50 = .ok (.putfield 30, 3) := by decide +kernel
theorem dX6_init_53 : decode cX6_init 53 = .ok (.aload_n 0, 1) := by decide +kernel
theorem dX6_init_54 : decode cX6_init 54 = .ok (.iconst 4, 1) := by decide +kernel
theorem dX6_init_55 : decode cX6_init 55 = .ok (.newarray .int, 2) := by decide +kernel
theorem dX6_init_57 : decode cX6_init 57 = .ok (.putfield 33, 3) := by decide +kernel
theorem dX6_init_60 : decode cX6_init 60 = .ok (.aload_n 0, 1) := by decide +kernel
theorem dX6_init_61 : decode cX6_init 61 = .ok (.iconst 4, 1) := by decide +kernel
theorem dX6_init_62 : decode cX6_init 62 = .ok (.newarray .int, 2) := by decide +kernel
theorem dX6_init_64 : decode cX6_init 64 = .ok (.putfield 36, 3) := by decide +kernel
theorem dX6_init_67 : decode cX6_init 67 = .ok (.aload_n 0, 1) := by decide +kernel
theorem dX6_init_68 : decode cX6_init 68 = .ok (.iconst 4, 1) := by decide +kernel
theorem dX6_init_69 : decode cX6_init 69 = .ok (.newarray .int, 2) := by decide +kernel
theorem dX6_init_71 : decode cX6_init 71 = .ok (.putfield 39, 3) := by decide +kernel
theorem dX6_init_74 : decode cX6_init 74 = .ok (.aload_n 0, 1) := by decide +kernel
theorem dX6_init_75 : decode cX6_init 75 = .ok (.iconst 4, 1) := by decide +kernel
theorem dX6_init_76 : decode cX6_init 76 = .ok (.newarray .int, 2) := by decide +kernel
theorem dX6_init_78 : decode cX6_init 78 = .ok (.putfield 42, 3) := by decide +kernel
theorem dX6_init_81 : decode cX6_init 81 = .ok (.return_, 1) := by decide +kernel
theorem dX6_clear_0 : decode cX6_clear 0 = .ok (.aload_n 0, 1) := by decide +kernel
theorem dX6_clear_1 : decode cX6_clear 1 = .ok (.iconst 0, 1) := by decide +kernel
theorem dX6_clear_2 : decode cX6_clear 2 = .ok (.putfield 45, 3) := by decide +kernel
theorem dX6_clear_5 : decode cX6_clear 5 = .ok (.aload_n 0, 1) := by decide +kernel
theorem dX6_clear_6 : decode cX6_clear 6 = .ok (.iconst 0, 1) := by decide +kernel
theorem dX6_clear_7 : decode cX6_clear 7 = .ok (.putfield 49, 3) := by decide +kernel
theorem dX6_clear_10 : decode cX6_clear 10 = .ok (.aload_n 0, 1) := by decide +kernel
theorem dX6_clear_11 : decode cX6_clear 11 = .ok (.iconst 0, 1) := by decide +kernel
theorem dX6_clear_12 : decode cX6_clear 12 = .ok (.putfield 52, 3) := by decide +kernel
theorem dX6_clear_15 : decode cX6_clear 15 = .ok (.aload_n 0, 1) := by decide +kernel
theorem dX6_clear_16 : decode cX6_clear 16 = .ok (.iconst 0, 1) := by decide +kernel
theorem dX6_clear_17 : decode cX6_clear 17 = .ok (.putfield 55, 3) := by decide +kernel
theorem dX6_clear_20 : decode cX6_clear 20 = .ok (.return_, 1) := by decide +kernel
theorem dX6_mayBegin_0 : decode cX6_mayBegin 0 = .ok (.iload_n 1, 1) := by decide +kernel
theorem dX6_mayBegin_1 : decode cX6_mayBegin 1 = .ok (.lookupswitch 91 #[(68, 70), (81, 49), (84, 35)], 35) := by decide +kernel
theorem dX6_mayBegin_36 : decode cX6_mayBegin 36 = .ok (.aload_n 0, 1) := by decide +kernel
theorem dX6_mayBegin_37 : decode cX6_mayBegin 37 = .ok (.getfield 45, 3) := by decide +kernel
theorem dX6_mayBegin_40 : decode cX6_mayBegin 40 = .ok (.iconst 4, 1) := by decide +kernel
theorem dX6_mayBegin_41 : decode cX6_mayBegin 41 = .ok (.if_icmp .ge 7, 3) := by decide +kernel
theorem dX6_mayBegin_44 : decode cX6_mayBegin 44 = .ok (.iconst 1, 1) := by decide +kernel
theorem dX6_mayBegin_45 : decode cX6_mayBegin 45 = .ok (.goto 4, 3) := by decide +kernel
theorem dX6_mayBegin_48 : decode cX6_mayBegin 48 = .ok (.iconst 0, 1) := by decide +kernel
theorem dX6_mayBegin_49 : decode cX6_mayBegin 49 = .ok (.ireturn, 1) := by decide +kernel
theorem dX6_mayBegin_50 : decode cX6_mayBegin 50 = .ok (.aload_n 0, 1) := by decide +kernel
theorem dX6_mayBegin_51 : decode cX6_mayBegin 51 = .ok (.getfield 49, 3) := by decide +kernel
theorem dX6_mayBegin_54 : decode cX6_mayBegin 54 = .ok (.iconst 4, 1) := by decide +kernel
theorem dX6_mayBegin_55 : decode cX6_mayBegin 55 = .ok (.if_icmp .ge 14, 3) := by decide +kernel
theorem dX6_mayBegin_58 : decode cX6_mayBegin 58 = .ok (.aload_n 0, 1) := by decide +kernel
theorem dX6_mayBegin_59 : decode cX6_mayBegin 59 = .ok (.getfield 45, 3) := by decide +kernel
theorem dX6_mayBegin_62 : decode cX6_mayBegin 62 = .ok (.ifCond .le 7, 3) := by decide +kernel
theorem dX6_mayBegin_65 : decode cX6_mayBegin 65 = .ok (.iconst 1, 1) := by decide +kernel
theorem dX6_mayBegin_66 : decode cX6_mayBegin 66 = .ok (.goto 4, 3) := by decide +kernel
theorem dX6_mayBegin_69 : decode cX6_mayBegin 69 = .ok (.iconst 0, 1) := by decide +kernel
theorem dX6_mayBegin_70 : decode cX6_mayBegin 70 = .ok (.ireturn, 1) := by decide +kernel
theorem dX6_mayBegin_71 : decode cX6_mayBegin 71 = .ok (.aload_n 0, 1) := by decide +kernel
theorem dX6_mayBegin_72 : decode cX6_mayBegin 72 = .ok (.getfield 52, 3) := by decide +kernel
theorem dX6_mayBegin_75 : decode cX6_mayBegin 75 = .ok (.iconst 4, 1) := by decide +kernel
theorem dX6_mayBegin_76 : decode cX6_mayBegin 76 = .ok (.if_icmp .ge 14, 3) := by decide +kernel
theorem dX6_mayBegin_79 : decode cX6_mayBegin 79 = .ok (.aload_n 0, 1) := by decide +kernel
theorem dX6_mayBegin_80 : decode cX6_mayBegin 80 = .ok (.getfield 49, 3) := by decide +kernel
theorem dX6_mayBegin_83 : decode cX6_mayBegin 83 = .ok (.ifCond .le 7, 3) := by decide +kernel
theorem dX6_mayBegin_86 : decode cX6_mayBegin 86 = .ok (.iconst 1, 1) := by decide +kernel
theorem dX6_mayBegin_87 : decode cX6_mayBegin 87 = .ok (.goto 4, 3) := by decide +kernel
theorem dX6_mayBegin_90 : decode cX6_mayBegin 90 = .ok (.iconst 0, 1) := by decide +kernel
theorem dX6_mayBegin_91 : decode cX6_mayBegin 91 = .ok (.ireturn, 1) := by decide +kernel
theorem dX6_mayBegin_92 : decode cX6_mayBegin 92 = .ok (.iconst 0, 1) := by decide +kernel
theorem dX6_mayBegin_93 : decode cX6_mayBegin 93 = .ok (.ireturn, 1) := by decide +kernel
theorem dX6_figuresOf_0 : decode cX6_figuresOf 0 = .ok (.iload_n 0, 1) := by decide +kernel
theorem dX6_figuresOf_1 : decode cX6_figuresOf 1 = .ok (.lookupswitch 31 #[(81, 29), (84, 27)], 27) := by decide +kernel
theorem dX6_figuresOf_28 : decode cX6_figuresOf 28 = .ok (.iconst 3, 1) := by decide +kernel
theorem dX6_figuresOf_29 : decode cX6_figuresOf 29 = .ok (.ireturn, 1) := by decide +kernel
theorem dX6_figuresOf_30 : decode cX6_figuresOf 30 = .ok (.iconst 4, 1) := by decide +kernel
theorem dX6_figuresOf_31 : decode cX6_figuresOf 31 = .ok (.ireturn, 1) := by decide +kernel
theorem dX6_figuresOf_32 : decode cX6_figuresOf 32 = .ok (.iconst 5, 1) := by decide +kernel
theorem dX6_figuresOf_33 : decode cX6_figuresOf 33 = .ok (.ireturn, 1) := by decide +kernel
theorem dX6_lowest_0 : decode cX6_lowest 0 = .ok (.iload_n 0, 1) := by decide +kernel
theorem dX6_lowest_1 : decode cX6_lowest 1 = .ok (.bipush 84, 2) := by decide +kernel
theorem dX6_lowest_3 : decode cX6_lowest 3 = .ok (.if_icmp .ne 11, 3) := by decide +kernel
theorem dX6_lowest_6 : decode cX6_lowest 6 = .ok (.iload_n 1, 1) := by decide +kernel
theorem dX6_lowest_7 : decode cX6_lowest 7 = .ok (.ifCond .ne 7, 3) := by decide +kernel
theorem dX6_lowest_10 : decode cX6_lowest 10 = .ok (.iconst 1, 1) := by decide +kernel
theorem dX6_lowest_11 : decode cX6_lowest 11 = .ok (.goto 4, 3) := by decide +kernel
theorem dX6_lowest_14 : decode cX6_lowest 14 = .ok (.iconst 0, 1) := by decide +kernel
theorem dX6_lowest_15 : decode cX6_lowest 15 = .ok (.istore_n 2, 1) := by decide +kernel
theorem dX6_lowest_16 : decode cX6_lowest 16 = .ok (.iload_n 0, 1) := by decide +kernel
theorem dX6_lowest_17 : decode cX6_lowest 17 = .ok (.bipush 81, 2) := by decide +kernel
theorem dX6_lowest_19 : decode cX6_lowest 19 = .ok (.if_icmp .ne 12, 3) := by decide +kernel
theorem dX6_lowest_22 : decode cX6_lowest 22 = .ok (.iload_n 1, 1) := by decide +kernel
theorem dX6_lowest_23 : decode cX6_lowest 23 = .ok (.iconst 1, 1) := by decide +kernel
theorem dX6_lowest_24 : decode cX6_lowest 24 = .ok (.if_icmp .ne 7, 3) := by decide +kernel
theorem dX6_lowest_27 : decode cX6_lowest 27 = .ok (.iconst 1, 1) := by decide +kernel
theorem dX6_lowest_28 : decode cX6_lowest 28 = .ok (.goto 4, 3) := by decide +kernel
theorem dX6_lowest_31 : decode cX6_lowest 31 = .ok (.iconst 0, 1) := by decide +kernel
theorem dX6_lowest_32 : decode cX6_lowest 32 = .ok (.istore_n 3, 1) := by decide +kernel
theorem dX6_lowest_33 : decode cX6_lowest 33 = .ok (.iload_n 2, 1) := by decide +kernel
theorem dX6_lowest_34 : decode cX6_lowest 34 = .ok (.ifCond .ne 7, 3) := by decide +kernel
theorem dX6_lowest_37 : decode cX6_lowest 37 = .ok (.iload_n 3, 1) := by decide +kernel
theorem dX6_lowest_38 : decode cX6_lowest 38 = .ok (.ifCond .eq 7, 3) := by decide +kernel
theorem dX6_lowest_41 : decode cX6_lowest 41 = .ok (.iconst 1, 1) := by decide +kernel
theorem dX6_lowest_42 : decode cX6_lowest 42 = .ok (.goto 4, 3) := by decide +kernel
theorem dX6_lowest_45 : decode cX6_lowest 45 = .ok (.iconst 0, 1) := by decide +kernel
theorem dX6_lowest_46 : decode cX6_lowest 46 = .ok (.ireturn, 1) := by decide +kernel
theorem dX6_highest_0 : decode cX6_highest 0 = .ok (.iload_n 1, 1) := by decide +kernel
theorem dX6_highest_1 : decode cX6_highest 1 = .ok (.lookupswitch 64 #[(81, 39), (84, 27)], 27) := by decide +kernel
theorem dX6_highest_28 : decode cX6_highest 28 = .ok (.iload_n 2, 1) := by decide +kernel
theorem dX6_highest_29 : decode cX6_highest 29 = .ok (.iconst 2, 1) := by decide +kernel
theorem dX6_highest_30 : decode cX6_highest 30 = .ok (.if_icmp .ne 7, 3) := by decide +kernel
theorem dX6_highest_33 : decode cX6_highest 33 = .ok (.iconst 3, 1) := by decide +kernel
theorem dX6_highest_34 : decode cX6_highest 34 = .ok (.goto 5, 3) := by decide +kernel
theorem dX6_highest_37 : decode cX6_highest 37 = .ok (.bipush 9, 2) := by decide +kernel
theorem dX6_highest_39 : decode cX6_highest 39 = .ok (.ireturn, 1) := by decide +kernel
theorem dX6_highest_40 : decode cX6_highest 40 = .ok (.iload_n 2, 1) := by decide +kernel
theorem dX6_highest_41 : decode cX6_highest 41 = .ok (.ifCond .ne 12, 3) := by decide +kernel
theorem dX6_highest_44 : decode cX6_highest 44 = .ok (.aload_n 0, 1) := by decide +kernel
theorem dX6_highest_45 : decode cX6_highest 45 = .ok (.getfield 45, 3) := by decide +kernel
theorem dX6_highest_48 : decode cX6_highest 48 = .ok (.iconst 1, 1) := by decide +kernel
theorem dX6_highest_49 : decode cX6_highest 49 = .ok (.isub, 1) := by decide +kernel
theorem dX6_highest_50 : decode cX6_highest 50 = .ok (.goto 14, 3) := by decide +kernel
theorem dX6_highest_53 : decode cX6_highest 53 = .ok (.iload_n 2, 1) := by decide +kernel
theorem dX6_highest_54 : decode cX6_highest 54 = .ok (.iconst 2, 1) := by decide +kernel
theorem dX6_highest_55 : decode cX6_highest 55 = .ok (.if_icmp .ne 7, 3) := by decide +kernel
theorem dX6_highest_58 : decode cX6_highest 58 = .ok (.iconst 1, 1) := by decide +kernel
theorem dX6_highest_59 : decode cX6_highest 59 = .ok (.goto 5, 3) := by decide +kernel
theorem dX6_highest_62 : decode cX6_highest 62 = .ok (.bipush 9, 2) := by decide +kernel
theorem dX6_highest_64 : decode cX6_highest 64 = .ok (.ireturn, 1) := by decide +kernel
theorem dX6_highest_65 : decode cX6_highest 65 = .ok (.iload_n 2, 1) := by decide +kernel
theorem dX6_highest_66 : decode cX6_highest 66 = .ok (.ifCond .ne 12, 3) := by decide +kernel
theorem dX6_highest_69 : decode cX6_highest 69 = .ok (.aload_n 0, 1) := by decide +kernel
theorem dX6_highest_70 : decode cX6_highest 70 = .ok (.getfield 49, 3) := by decide +kernel
theorem dX6_highest_73 : decode cX6_highest 73 = .ok (.iconst 1, 1) := by decide +kernel
theorem dX6_highest_74 : decode cX6_highest 74 = .ok (.isub, 1) := by decide +kernel
theorem dX6_highest_75 : decode cX6_highest 75 = .ok (.goto 28, 3) := by decide +kernel
theorem dX6_highest_78 : decode cX6_highest 78 = .ok (.iload_n 2, 1) := by decide +kernel
theorem dX6_highest_79 : decode cX6_highest 79 = .ok (.iconst 1, 1) := by decide +kernel
theorem dX6_highest_80 : decode cX6_highest 80 = .ok (.if_icmp .ne 7, 3) := by decide +kernel
theorem dX6_highest_83 : decode cX6_highest 83 = .ok (.iconst 1, 1) := by decide +kernel
theorem dX6_highest_84 : decode cX6_highest 84 = .ok (.goto 19, 3) := by decide +kernel
theorem dX6_highest_87 : decode cX6_highest 87 = .ok (.iload_n 2, 1) := by decide +kernel
theorem dX6_highest_88 : decode cX6_highest 88 = .ok (.iconst 3, 1) := by decide +kernel
theorem dX6_highest_89 : decode cX6_highest 89 = .ok (.if_icmp .ne 12, 3) := by decide +kernel
theorem dX6_highest_92 : decode cX6_highest 92 = .ok (.aload_n 0, 1) := by decide +kernel
theorem dX6_highest_93 : decode cX6_highest 93 = .ok (.getfield 45, 3) := by decide +kernel
theorem dX6_highest_96 : decode cX6_highest 96 = .ok (.iconst 1, 1) := by decide +kernel
theorem dX6_highest_97 : decode cX6_highest 97 = .ok (.isub, 1) := by decide +kernel
theorem dX6_highest_98 : decode cX6_highest 98 = .ok (.goto 5, 3) := by decide +kernel
theorem dX6_highest_101 : decode cX6_highest 101 = .ok (.bipush 9, 2) := by decide +kernel
theorem dX6_highest_103 : decode cX6_highest 103 = .ok (.ireturn, 1) := by decide +kernel
theorem dX6_add_0 : decode cX6_add 0 = .ok (.aload_n 0, 1) := by decide +kernel
theorem dX6_add_1 : decode cX6_add 1 = .ok (.iload_n 1, 1) := by decide +kernel
theorem dX6_add_2 : decode cX6_add 2 = .ok (.invokevirtual 58, 3) := by decide +kernel
theorem dX6_add_5 : decode cX6_add 5 = .ok (.ifCond .eq 12, 3) := by decide +kernel
theorem dX6_add_8 : decode cX6_add 8 = .ok (.aload_n 2, 1) := by decide +kernel
theorem dX6_add_9 : decode cX6_add 9 = .ok (.arraylength, 1) := by decide +kernel
theorem dX6_add_10 : decode cX6_add 10 = .ok (.iload_n 1, 1) := by decide +kernel
theorem dX6_add_11 : decode cX6_add 11 = .ok (.invokestatic 62, 3) := by decide +kernel
theorem dX6_add_14 : decode cX6_add 14 = .ok (.if_icmp .ge 4, 3) := by decide +kernel
theorem dX6_add_17 : decode cX6_add 17 = .ok (.return_, 1) := by decide +kernel
theorem dX6_add_18 : decode cX6_add 18 = .ok (.iload_n 1, 1) := by decide +kernel
theorem dX6_add_19 : decode cX6_add 19 = .ok (.lookupswitch 41 #[(81, 33), (84, 25)], 25) := by decide +kernel
theorem dX6_add_44 : decode cX6_add 44 = .ok (.aload_n 0, 1) := by decide +kernel
theorem dX6_add_45 : decode cX6_add 45 = .ok (.aload_n 2, 1) := by decide +kernel
theorem dX6_add_46 : decode cX6_add 46 = .ok (.invokevirtual 66, 3) := by decide +kernel
theorem dX6_add_49 : decode cX6_add 49 = .ok (.goto 16, 3) := by decide +kernel
theorem dX6_add_52 : decode cX6_add 52 = .ok (.aload_n 0, 1) := by decide +kernel
theorem dX6_add_53 : decode cX6_add 53 = .ok (.aload_n 2, 1) := by decide +kernel
theorem dX6_add_54 : decode cX6_add 54 = .ok (.invokevirtual 70, 3) := by decide +kernel
theorem dX6_add_57 : decode cX6_add 57 = .ok (.goto 8, 3) := by decide +kernel
theorem dX6_add_60 : decode cX6_add 60 = .ok (.aload_n 0, 1) := by decide +kernel
theorem dX6_add_61 : decode cX6_add 61 = .ok (.aload_n 2, 1) := by decide +kernel
theorem dX6_add_62 : decode cX6_add 62 = .ok (.invokevirtual 73, 3) := by decide +kernel
theorem dX6_add_65 : decode cX6_add 65 = .ok (.return_, 1) := by decide +kernel
theorem dX6_addThing_0 : decode cX6_addThing 0 = .ok (.aload_n 0, 1) := by decide +kernel
theorem dX6_addThing_1 : decode cX6_addThing 1 = .ok (.getfield 9, 3) := by decide +kernel
theorem dX6_addThing_4 : decode cX6_addThing 4 = .ok (.aload_n 0, 1) := by decide +kernel
theorem dX6_addThing_5 : decode cX6_addThing 5 = .ok (.getfield 45, 3) := by decide +kernel
theorem dX6_addThing_8 : decode cX6_addThing 8 = .ok (.aload_n 1, 1) := by decide +kernel
theorem dX6_addThing_9 : decode cX6_addThing 9 = .ok (.iconst 0, 1) := by decide +kernel
theorem dX6_addThing_10 : decode cX6_addThing 10 = .ok (.iaload, 1) := by decide +kernel
theorem dX6_addThing_11 : decode cX6_addThing 11 = .ok (.iastore, 1) := by decide +kernel
theorem dX6_addThing_12 : decode cX6_addThing 12 = .ok (.aload_n 0, 1) := by decide +kernel
theorem dX6_addThing_13 : decode cX6_addThing 13 = .ok (.getfield 15, 3) := by decide +kernel
theorem dX6_addThing_16 : decode cX6_addThing 16 = .ok (.aload_n 0, 1) := by decide +kernel
theorem dX6_addThing_17 : decode cX6_addThing 17 = .ok (.getfield 45, 3) := by decide +kernel
theorem dX6_addThing_20 : decode cX6_addThing 20 = .ok (.aload_n 1, 1) := by decide +kernel
theorem dX6_addThing_21 : decode cX6_addThing 21 = .ok (.iconst 1, 1) := by decide +kernel
theorem dX6_addThing_22 : decode cX6_addThing 22 = .ok (.iaload, 1) := by decide +kernel
theorem dX6_addThing_23 : decode cX6_addThing 23 = .ok (.iastore, 1) := by decide +kernel
theorem dX6_addThing_24 : decode cX6_addThing 24 = .ok (.aload_n 0, 1) := by decide +kernel
theorem dX6_addThing_25 : decode cX6_addThing 25 = .ok (.getfield 18, 3) := by decide +kernel
theorem dX6_addThing_28 : decode cX6_addThing 28 = .ok (.aload_n 0, 1) := by decide +kernel
theorem dX6_addThing_29 : decode cX6_addThing 29 = .ok (.getfield 45, 3) := by decide +kernel
theorem dX6_addThing_32 : decode cX6_addThing 32 = .ok (.aload_n 1, 1) := by decide +kernel
theorem dX6_addThing_33 : decode cX6_addThing 33 = .ok (.iconst 2, 1) := by decide +kernel
theorem dX6_addThing_34 : decode cX6_addThing 34 = .ok (.iaload, 1) := by decide +kernel
theorem dX6_addThing_35 : decode cX6_addThing 35 = .ok (.iastore, 1) := by decide +kernel
theorem dX6_addThing_36 : decode cX6_addThing 36 = .ok (.aload_n 0, 1) := by decide +kernel
theorem dX6_addThing_37 : decode cX6_addThing 37 = .ok (.dup, 1) := by decide +kernel
theorem dX6_addThing_38 : decode cX6_addThing 38 = .ok (.getfield 45, 3) := by decide +kernel
theorem dX6_addThing_41 : decode cX6_addThing 41 = .ok (.iconst 1, 1) := by decide +kernel
theorem dX6_addThing_42 : decode cX6_addThing 42 = .ok (.iadd, 1) := by decide +kernel
theorem dX6_addThing_43 : decode cX6_addThing 43 = .ok (.putfield 45, 3) := by decide +kernel
theorem dX6_addThing_46 : decode cX6_addThing 46 = .ok (.return_, 1) := by decide +kernel
theorem dX6_addQuestion_0 : decode cX6_addQuestion 0 = .ok (.aload_n 0, 1) := by decide +kernel
theorem dX6_addQuestion_1 : decode cX6_addQuestion 1 = .ok (.getfield 21, 3) := by decide +kernel
theorem dX6_addQuestion_4 : decode cX6_addQuestion 4 = .ok (.aload_n 0, 1) := by decide +kernel
theorem dX6_addQuestion_5 : decode cX6_addQuestion 5 = .ok (.getfield 49, 3) := by decide +kernel
theorem dX6_addQuestion_8 : decode cX6_addQuestion 8 = .ok (.aload_n 1, 1) := by decide +kernel
theorem dX6_addQuestion_9 : decode cX6_addQuestion 9 = .ok (.iconst 0, 1) := by decide +kernel
theorem dX6_addQuestion_10 : decode cX6_addQuestion 10 = .ok (.iaload, 1) := by decide +kernel
theorem dX6_addQuestion_11 : decode cX6_addQuestion 11 = .ok (.iastore, 1) := by decide +kernel
theorem dX6_addQuestion_12 : decode cX6_addQuestion 12 = .ok (.aload_n 0, 1) := by decide +kernel
theorem dX6_addQuestion_13 : decode cX6_addQuestion 13 = .ok (.getfield 24, 3) := by decide +kernel
theorem dX6_addQuestion_16 : decode cX6_addQuestion 16 = .ok (.aload_n 0, 1) := by decide +kernel
theorem dX6_addQuestion_17 : decode cX6_addQuestion 17 = .ok (.getfield 49, 3) := by decide +kernel
theorem dX6_addQuestion_20 : decode cX6_addQuestion 20 = .ok (.aload_n 1, 1) := by decide +kernel
theorem dX6_addQuestion_21 : decode cX6_addQuestion 21 = .ok (.iconst 1, 1) := by decide +kernel
theorem dX6_addQuestion_22 : decode cX6_addQuestion 22 = .ok (.iaload, 1) := by decide +kernel
theorem dX6_addQuestion_23 : decode cX6_addQuestion 23 = .ok (.iastore, 1) := by decide +kernel
theorem dX6_addQuestion_24 : decode cX6_addQuestion 24 = .ok (.aload_n 0, 1) := by decide +kernel
theorem dX6_addQuestion_25 : decode cX6_addQuestion 25 = .ok (.dup, 1) := by decide +kernel
theorem dX6_addQuestion_26 : decode cX6_addQuestion 26 = .ok (.getfield 55, 3) := by decide +kernel
theorem dX6_addQuestion_29 : decode cX6_addQuestion 29 = .ok (.aload_n 1, 1) := by decide +kernel
theorem dX6_addQuestion_30 : decode cX6_addQuestion 30 = .ok (.iconst 2, 1) := by decide +kernel
theorem dX6_addQuestion_31 : decode cX6_addQuestion 31 = .ok (.iaload, 1) := by decide +kernel
theorem dX6_addQuestion_32 : decode cX6_addQuestion 32 = .ok (.aload_n 0, 1) := by decide +kernel
theorem dX6_addQuestion_33 : decode cX6_addQuestion 33 = .ok (.getfield 49, 3) := by decide +kernel
theorem dX6_addQuestion_36 : decode cX6_addQuestion 36 = .ok (.ishl, 1) := by decide +kernel
theorem dX6_addQuestion_37 : decode cX6_addQuestion 37 = .ok (.ior, 1) := by decide +kernel
theorem dX6_addQuestion_38 : decode cX6_addQuestion 38 = .ok (.putfield 55, 3) := by decide +kernel
theorem dX6_addQuestion_41 : decode cX6_addQuestion 41 = .ok (.aload_n 0, 1) := by decide +kernel
theorem dX6_addQuestion_42 : decode cX6_addQuestion 42 = .ok (.getfield 27, 3) := by decide +kernel
theorem dX6_addQuestion_45 : decode cX6_addQuestion 45 = .ok (.aload_n 0, 1) := by decide +kernel
theorem dX6_addQuestion_46 : decode cX6_addQuestion 46 = .ok (.getfield 49, 3) := by decide +kernel
theorem dX6_addQuestion_49 : decode cX6_addQuestion 49 = .ok (.aload_n 1, 1) := by decide +kernel
theorem dX6_addQuestion_50 : decode cX6_addQuestion 50 = .ok (.iconst 3, 1) := by decide +kernel
theorem dX6_addQuestion_51 : decode cX6_addQuestion 51 = .ok (.iaload, 1) := by decide +kernel
theorem dX6_addQuestion_52 : decode cX6_addQuestion 52 = .ok (.iastore, 1) := by decide +kernel
theorem dX6_addQuestion_53 : decode cX6_addQuestion 53 = .ok (.aload_n 0, 1) := by decide +kernel
theorem dX6_addQuestion_54 : decode cX6_addQuestion 54 = .ok (.dup, 1) := by decide +kernel
theorem dX6_addQuestion_55 : decode cX6_addQuestion 55 = .ok (.getfield 49, 3) := by decide +kernel
theorem dX6_addQuestion_58 : decode cX6_addQuestion 58 = .ok (.iconst 1, 1) := by decide +kernel
theorem dX6_addQuestion_59 : decode cX6_addQuestion 59 = .ok (.iadd, 1) := by decide +kernel
theorem dX6_addQuestion_60 : decode cX6_addQuestion 60 = .ok (.putfield 49, 3) := by decide +kernel
theorem dX6_addQuestion_63 : decode cX6_addQuestion 63 = .ok (.return_, 1) := by decide +kernel
theorem dX6_addDeed_0 : decode cX6_addDeed 0 = .ok (.aload_n 0, 1) := by decide +kernel
theorem dX6_addDeed_1 : decode cX6_addDeed 1 = .ok (.getfield 30, 3) := by decide +kernel
theorem dX6_addDeed_4 : decode cX6_addDeed 4 = .ok (.aload_n 0, 1) := by decide +kernel
theorem dX6_addDeed_5 : decode cX6_addDeed 5 = .ok (.getfield 52, 3) := by decide +kernel
theorem dX6_addDeed_8 : decode cX6_addDeed 8 = .ok (.aload_n 1, 1) := by decide +kernel
theorem dX6_addDeed_9 : decode cX6_addDeed 9 = .ok (.iconst 0, 1) := by decide +kernel
theorem dX6_addDeed_10 : decode cX6_addDeed 10 = .ok (.iaload, 1) := by decide +kernel
theorem dX6_addDeed_11 : decode cX6_addDeed 11 = .ok (.iastore, 1) := by decide +kernel
theorem dX6_addDeed_12 : decode cX6_addDeed 12 = .ok (.aload_n 0, 1) := by decide +kernel
theorem dX6_addDeed_13 : decode cX6_addDeed 13 = .ok (.getfield 33, 3) := by decide +kernel
theorem dX6_addDeed_16 : decode cX6_addDeed 16 = .ok (.aload_n 0, 1) := by decide +kernel
theorem dX6_addDeed_17 : decode cX6_addDeed 17 = .ok (.getfield 52, 3) := by decide +kernel
theorem dX6_addDeed_20 : decode cX6_addDeed 20 = .ok (.aload_n 1, 1) := by decide +kernel
theorem dX6_addDeed_21 : decode cX6_addDeed 21 = .ok (.iconst 1, 1) := by decide +kernel
theorem dX6_addDeed_22 : decode cX6_addDeed 22 = .ok (.iaload, 1) := by decide +kernel
theorem dX6_addDeed_23 : decode cX6_addDeed 23 = .ok (.iastore, 1) := by decide +kernel
theorem dX6_addDeed_24 : decode cX6_addDeed 24 = .ok (.aload_n 0, 1) := by decide +kernel
theorem dX6_addDeed_25 : decode cX6_addDeed 25 = .ok (.getfield 36, 3) := by decide +kernel
theorem dX6_addDeed_28 : decode cX6_addDeed 28 = .ok (.aload_n 0, 1) := by decide +kernel
theorem dX6_addDeed_29 : decode cX6_addDeed 29 = .ok (.getfield 52, 3) := by decide +kernel
theorem dX6_addDeed_32 : decode cX6_addDeed 32 = .ok (.aload_n 1, 1) := by decide +kernel
theorem dX6_addDeed_33 : decode cX6_addDeed 33 = .ok (.iconst 2, 1) := by decide +kernel
theorem dX6_addDeed_34 : decode cX6_addDeed 34 = .ok (.iaload, 1) := by decide +kernel
theorem dX6_addDeed_35 : decode cX6_addDeed 35 = .ok (.iastore, 1) := by decide +kernel
theorem dX6_addDeed_36 : decode cX6_addDeed 36 = .ok (.aload_n 0, 1) := by decide +kernel
theorem dX6_addDeed_37 : decode cX6_addDeed 37 = .ok (.getfield 39, 3) := by decide +kernel
theorem dX6_addDeed_40 : decode cX6_addDeed 40 = .ok (.aload_n 0, 1) := by decide +kernel
theorem dX6_addDeed_41 : decode cX6_addDeed 41 = .ok (.getfield 52, 3) := by decide +kernel
theorem dX6_addDeed_44 : decode cX6_addDeed 44 = .ok (.aload_n 1, 1) := by decide +kernel
theorem dX6_addDeed_45 : decode cX6_addDeed 45 = .ok (.iconst 3, 1) := by decide +kernel
theorem dX6_addDeed_46 : decode cX6_addDeed 46 = .ok (.iaload, 1) := by decide +kernel
theorem dX6_addDeed_47 : decode cX6_addDeed 47 = .ok (.iastore, 1) := by decide +kernel
theorem dX6_addDeed_48 : decode cX6_addDeed 48 = .ok (.aload_n 0, 1) := by decide +kernel
theorem dX6_addDeed_49 : decode cX6_addDeed 49 = .ok (.getfield 42, 3) := by decide +kernel
theorem dX6_addDeed_52 : decode cX6_addDeed 52 = .ok (.aload_n 0, 1) := by decide +kernel
theorem dX6_addDeed_53 : decode cX6_addDeed 53 = .ok (.getfield 52, 3) := by decide +kernel
theorem dX6_addDeed_56 : decode cX6_addDeed 56 = .ok (.aload_n 1, 1) := by decide +kernel
theorem dX6_addDeed_57 : decode cX6_addDeed 57 = .ok (.iconst 4, 1) := by decide +kernel
theorem dX6_addDeed_58 : decode cX6_addDeed 58 = .ok (.iaload, 1) := by decide +kernel
theorem dX6_addDeed_59 : decode cX6_addDeed 59 = .ok (.iastore, 1) := by decide +kernel
theorem dX6_addDeed_60 : decode cX6_addDeed 60 = .ok (.aload_n 0, 1) := by decide +kernel
theorem dX6_addDeed_61 : decode cX6_addDeed 61 = .ok (.dup, 1) := by decide +kernel
theorem dX6_addDeed_62 : decode cX6_addDeed 62 = .ok (.getfield 52, 3) := by decide +kernel
theorem dX6_addDeed_65 : decode cX6_addDeed 65 = .ok (.iconst 1, 1) := by decide +kernel
theorem dX6_addDeed_66 : decode cX6_addDeed 66 = .ok (.iadd, 1) := by decide +kernel
theorem dX6_addDeed_67 : decode cX6_addDeed 67 = .ok (.putfield 52, 3) := by decide +kernel
theorem dX6_addDeed_70 : decode cX6_addDeed 70 = .ok (.return_, 1) := by decide +kernel
theorem dX6_answer_0 : decode cX6_answer 0 = .ok (.aload_n 0, 1) := by decide +kernel
theorem dX6_answer_1 : decode cX6_answer 1 = .ok (.getfield 55, 3) := by decide +kernel
theorem dX6_answer_4 : decode cX6_answer 4 = .ok (.iload_n 1, 1) := by decide +kernel
theorem dX6_answer_5 : decode cX6_answer 5 = .ok (.ishr, 1) := by decide +kernel
theorem dX6_answer_6 : decode cX6_answer 6 = .ok (.iconst 1, 1) := by decide +kernel
theorem dX6_answer_7 : decode cX6_answer 7 = .ok (.iand, 1) := by decide +kernel
theorem dX6_answer_8 : decode cX6_answer 8 = .ok (.ireturn, 1) := by decide +kernel
theorem dX6_swing_0 : decode cX6_swing 0 = .ok (.aload_n 0, 1) := by decide +kernel
theorem dX6_swing_1 : decode cX6_swing 1 = .ok (.getfield 33, 3) := by decide +kernel
theorem dX6_swing_4 : decode cX6_swing 4 = .ok (.iload_n 1, 1) := by decide +kernel
theorem dX6_swing_5 : decode cX6_swing 5 = .ok (.iaload, 1) := by decide +kernel
theorem dX6_swing_6 : decode cX6_swing 6 = .ok (.iconst 1, 1) := by decide +kernel
theorem dX6_swing_7 : decode cX6_swing 7 = .ok (.if_icmp .ne 12, 3) := by decide +kernel
theorem dX6_swing_10 : decode cX6_swing 10 = .ok (.aload_n 0, 1) := by decide +kernel
theorem dX6_swing_11 : decode cX6_swing 11 = .ok (.getfield 36, 3) := by decide +kernel
theorem dX6_swing_14 : decode cX6_swing 14 = .ok (.iload_n 1, 1) := by decide +kernel
theorem dX6_swing_15 : decode cX6_swing 15 = .ok (.iaload, 1) := by decide +kernel
theorem dX6_swing_16 : decode cX6_swing 16 = .ok (.goto 10, 3) := by decide +kernel
theorem dX6_swing_19 : decode cX6_swing 19 = .ok (.aload_n 0, 1) := by decide +kernel
theorem dX6_swing_20 : decode cX6_swing 20 = .ok (.getfield 36, 3) := by decide +kernel
theorem dX6_swing_23 : decode cX6_swing 23 = .ok (.iload_n 1, 1) := by decide +kernel
theorem dX6_swing_24 : decode cX6_swing 24 = .ok (.iaload, 1) := by decide +kernel
theorem dX6_swing_25 : decode cX6_swing 25 = .ok (.ineg, 1) := by decide +kernel
theorem dX6_swing_26 : decode cX6_swing 26 = .ok (.ireturn, 1) := by decide +kernel
theorem dX6_worthOf_0 : decode cX6_worthOf 0 = .ok (.iconst 0, 1) := by decide +kernel
theorem dX6_worthOf_1 : decode cX6_worthOf 1 = .ok (.istore_n 2, 1) := by decide +kernel
theorem dX6_worthOf_2 : decode cX6_worthOf 2 = .ok (.iconst 0, 1) := by decide +kernel
theorem dX6_worthOf_3 : decode cX6_worthOf 3 = .ok (.istore_n 3, 1) := by decide +kernel
theorem dX6_worthOf_4 : decode cX6_worthOf 4 = .ok (.iload_n 3, 1) := by decide +kernel
theorem dX6_worthOf_5 : decode cX6_worthOf 5 = .ok (.aload_n 0, 1) := by decide +kernel
theorem dX6_worthOf_6 : decode cX6_worthOf 6 = .ok (.getfield 45, 3) := by decide +kernel
theorem dX6_worthOf_9 : decode cX6_worthOf 9 = .ok (.if_icmp .ge 44, 3) := by decide +kernel
theorem dX6_worthOf_12 : decode cX6_worthOf 12 = .ok (.aload_n 0, 1) := by decide +kernel
theorem dX6_worthOf_13 : decode cX6_worthOf 13 = .ok (.getfield 18, 3) := by decide +kernel
theorem dX6_worthOf_16 : decode cX6_worthOf 16 = .ok (.iload_n 3, 1) := by decide +kernel
theorem dX6_worthOf_17 : decode cX6_worthOf 17 = .ok (.iaload, 1) := by decide +kernel
theorem dX6_worthOf_18 : decode cX6_worthOf 18 = .ok (.iconst 3, 1) := by decide +kernel
theorem dX6_worthOf_19 : decode cX6_worthOf 19 = .ok (.if_icmp .ne 15, 3) := by decide +kernel
theorem dX6_worthOf_22 : decode cX6_worthOf 22 = .ok (.aload_n 1, 1) := by decide +kernel
theorem dX6_worthOf_23 : decode cX6_worthOf 23 = .ok (.iload_n 3, 1) := by decide +kernel
theorem dX6_worthOf_24 : decode cX6_worthOf 24 = .ok (.iaload, 1) := by decide +kernel
theorem dX6_worthOf_25 : decode cX6_worthOf 25 = .ok (.aload_n 0, 1) := by decide +kernel
theorem dX6_worthOf_26 : decode cX6_worthOf 26 = .ok (.getfield 9, 3) := by decide +kernel
theorem dX6_worthOf_29 : decode cX6_worthOf 29 = .ok (.iload_n 3, 1) := by decide +kernel
theorem dX6_worthOf_30 : decode cX6_worthOf 30 = .ok (.iaload, 1) := by decide +kernel
theorem dX6_worthOf_31 : decode cX6_worthOf 31 = .ok (.if_icmp .lt 16, 3) := by decide +kernel
theorem dX6_worthOf_34 : decode cX6_worthOf 34 = .ok (.iload_n 2, 1) := by decide +kernel
theorem dX6_worthOf_35 : decode cX6_worthOf 35 = .ok (.aload_n 0, 1) := by decide +kernel
theorem dX6_worthOf_36 : decode cX6_worthOf 36 = .ok (.getfield 15, 3) := by decide +kernel
theorem dX6_worthOf_39 : decode cX6_worthOf 39 = .ok (.iload_n 3, 1) := by decide +kernel
theorem dX6_worthOf_40 : decode cX6_worthOf 40 = .ok (.iaload, 1) := by decide +kernel
theorem dX6_worthOf_41 : decode cX6_worthOf 41 = .ok (.aload_n 1, 1) := by decide +kernel
theorem dX6_worthOf_42 : decode cX6_worthOf 42 = .ok (.iload_n 3, 1) := by decide +kernel
theorem dX6_worthOf_43 : decode cX6_worthOf 43 = .ok (.iaload, 1) := by decide +kernel
theorem dX6_worthOf_44 : decode cX6_worthOf 44 = .ok (.imul, 1) := by decide +kernel
theorem dX6_worthOf_45 : decode cX6_worthOf 45 = .ok (.iadd, 1) := by decide +kernel
theorem dX6_worthOf_46 : decode cX6_worthOf 46 = .ok (.istore_n 2, 1) := by decide +kernel
theorem dX6_worthOf_47 : decode cX6_worthOf 47 = .ok (.iinc 3 1, 3) := by decide +kernel
theorem dX6_worthOf_50 : decode cX6_worthOf 50 = .ok (.goto (-46), 3) := by decide +kernel
theorem dX6_worthOf_53 : decode cX6_worthOf 53 = .ok (.iload_n 2, 1) := by decide +kernel
theorem dX6_worthOf_54 : decode cX6_worthOf 54 = .ok (.ireturn, 1) := by decide +kernel
theorem dX7_init_0 : decode cX7_init 0 = .ok (.aload_n 0, 1) := by decide +kernel
theorem dX7_init_1 : decode cX7_init 1 = .ok (.invokespecial 1, 3) := by decide +kernel
theorem dX7_init_4 : decode cX7_init 4 = .ok (.aload_n 0, 1) := by decide +kernel
theorem dX7_init_5 : decode cX7_init 5 = .ok (.new 7, 3) := by decide +kernel
theorem dX7_init_8 : decode cX7_init 8 = .ok (.dup, 1) := by decide +kernel
theorem dX7_init_9 : decode cX7_init 9 = .ok (.invokespecial 9, 3) := by decide +kernel
theorem dX7_init_12 : decode cX7_init 12 = .ok (.putfield 10, 3) := by decide +kernel
theorem dX7_init_15 : decode cX7_init 15 = .ok (.aload_n 0, 1) := by decide +kernel
theorem dX7_init_16 : decode cX7_init 16 = .ok (.new 16, 3) := by decide +kernel
theorem dX7_init_19 : decode cX7_init 19 = .ok (.dup, 1) := by decide +kernel
theorem dX7_init_20 : decode cX7_init 20 = .ok (.invokespecial 18, 3) := by decide +kernel
theorem dX7_init_23 : decode cX7_init 23 = .ok (.putfield 19, 3) := by decide +kernel
theorem dX7_init_26 : decode cX7_init 26 = .ok (.aload_n 0, 1) := by decide +kernel
theorem dX7_init_27 : decode cX7_init 27 = .ok (.new 16, 3) := by decide +kernel
theorem dX7_init_30 : decode cX7_init 30 = .ok (.dup, 1) := by decide +kernel
theorem dX7_init_31 : decode cX7_init 31 = .ok (.invokespecial 18, 3) := by decide +kernel
theorem dX7_init_34 : decode cX7_init 34 = .ok (.putfield 23, 3) := by decide +kernel
theorem dX7_init_37 : decode cX7_init 37 = .ok (.aload_n 0, 1) := by decide +kernel
theorem dX7_init_38 : decode cX7_init 38 = .ok (.new 26, 3) := by decide +kernel
theorem dX7_init_41 : decode cX7_init 41 = .ok (.dup, 1) := by decide +kernel
theorem dX7_init_42 : decode cX7_init 42 = .ok (.aload_n 0, 1) := by decide +kernel
theorem dX7_init_43 : decode cX7_init 43 = .ok (.getfield 23, 3) := by decide +kernel
theorem dX7_init_46 : decode cX7_init 46 = .ok (.invokespecial 28, 3) := by decide +kernel
theorem dX7_init_49 : decode cX7_init 49 = .ok (.putfield 31, 3) := by decide +kernel
theorem dX7_init_52 : decode cX7_init 52 = .ok (.aload_n 0, 1) := by decide +kernel
theorem dX7_init_53 : decode cX7_init 53 = .ok (.new 26, 3) := by decide +kernel
theorem dX7_init_56 : decode cX7_init 56 = .ok (.dup, 1) := by decide +kernel
theorem dX7_init_57 : decode cX7_init 57 = .ok (.aload_n 0, 1) := by decide +kernel
theorem dX7_init_58 : decode cX7_init 58 = .ok (.getfield 23, 3) := by decide +kernel
theorem dX7_init_61 : decode cX7_init 61 = .ok (.invokespecial 28, 3) := by decide +kernel
theorem dX7_init_64 : decode cX7_init 64 = .ok (.putfield 35, 3) := by decide +kernel
theorem dX7_init_67 : decode cX7_init 67 = .ok (.aload_n 0, 1) := by decide +kernel
theorem dX7_init_68 : decode cX7_init 68 = .ok (.new 38, 3) := by decide +kernel
theorem dX7_init_71 : decode cX7_init 71 = .ok (.dup, 1) := by decide +kernel
theorem dX7_init_72 : decode cX7_init 72 = .ok (.aload_n 0, 1) := by decide +kernel
theorem dX7_init_73 : decode cX7_init 73 = .ok (.getfield 23, 3) := by decide +kernel
theorem dX7_init_76 : decode cX7_init 76 = .ok (.invokespecial 40, 3) := by decide +kernel
theorem dX7_init_79 : decode cX7_init 79 = .ok (.putfield 41, 3) := by decide +kernel
theorem dX7_init_82 : decode cX7_init 82 = .ok (.aload_n 0, 1) := by decide +kernel
theorem dX7_init_83 : decode cX7_init 83 = .ok (.new 45, 3) := by decide +kernel
theorem dX7_init_86 : decode cX7_init 86 = .ok (.dup, 1) := by decide +kernel
theorem dX7_init_87 : decode cX7_init 87 = .ok (.aload_n 0, 1) := by decide +kernel
theorem dX7_init_88 : decode cX7_init 88 = .ok (.getfield 23, 3) := by decide +kernel
theorem dX7_init_91 : decode cX7_init 91 = .ok (.aload_n 0, 1) := by decide +kernel
theorem dX7_init_92 : decode cX7_init 92 = .ok (.getfield 31, 3) := by decide +kernel
theorem dX7_init_95 : decode cX7_init 95 = .ok (.invokespecial 47, 3) := by decide +kernel
theorem dX7_init_98 : decode cX7_init 98 = .ok (.putfield 50, 3) := by decide +kernel
theorem dX7_init_101 : decode cX7_init 101 = .ok (.aload_n 0, 1) := by decide +kernel
theorem dX7_init_102 : decode cX7_init 102 = .ok (.new 54, 3) := by decide +kernel
theorem dX7_init_105 : decode cX7_init 105 = .ok (.dup, 1) := by decide +kernel
theorem dX7_init_106 : decode cX7_init 106 = .ok (.aload_n 0, 1) := by decide +kernel
theorem dX7_init_107 : decode cX7_init 107 = .ok (.getfield 23, 3) := by decide +kernel
theorem dX7_init_110 : decode cX7_init 110 = .ok (.invokespecial 56, 3) := by decide +kernel
theorem dX7_init_113 : decode cX7_init 113 = .ok (.putfield 57, 3) := by decide +kernel
theorem dX7_init_116 : decode cX7_init 116 = .ok (.aload_n 0, 1) := by decide +kernel
theorem dX7_init_117 : decode cX7_init 117 = .ok (.iconst 2, 1) := by decide +kernel
theorem dX7_init_118 : decode cX7_init 118 = .ok (.anewarray 26, 3) := by decide +kernel
theorem dX7_init_121 : decode cX7_init 121 = .ok (.putfield 61, 3) := by decide +kernel
theorem dX7_init_124 : decode cX7_init 124 = .ok (.iconst 0, 1) := by decide +kernel
theorem dX7_init_125 : decode cX7_init 125 = .ok (.istore_n 1, 1) := by decide +kernel
theorem dX7_init_126 : decode cX7_init 126 = .ok (.iload_n 1, 1) := by decide +kernel
theorem dX7_init_127 : decode cX7_init 127 = .ok (.iconst 2, 1) := by decide +kernel
theorem dX7_init_128 : decode cX7_init 128 = .ok (.if_icmp .ge 26, 3) := by decide +kernel
theorem dX7_init_131 : decode cX7_init 131 = .ok (.aload_n 0, 1) := by decide +kernel
theorem dX7_init_132 : decode cX7_init 132 = .ok (.getfield 61, 3) := by decide +kernel
theorem dX7_init_135 : decode cX7_init 135 = .ok (.iload_n 1, 1) := by decide +kernel
theorem dX7_init_136 : decode cX7_init 136 = .ok (.new 26, 3) := by decide +kernel
theorem dX7_init_139 : decode cX7_init 139 = .ok (.dup, 1) := by decide +kernel
theorem dX7_init_140 : decode cX7_init 140 = .ok (.aload_n 0, 1) := by decide +kernel
theorem dX7_init_141 : decode cX7_init 141 = .ok (.getfield 23, 3) := by decide +kernel
theorem dX7_init_144 : decode cX7_init 144 = .ok (.invokespecial 28, 3) := by decide +kernel
theorem dX7_init_147 : decode cX7_init 147 = .ok (.aastore, 1) := by decide +kernel
theorem dX7_init_148 : decode cX7_init 148 = .ok (.iinc 1 1, 3) := by decide +kernel
theorem dX7_init_151 : decode cX7_init 151 = .ok (.goto (-25), 3) := by decide +kernel
theorem dX7_init_154 : decode cX7_init 154 = .ok (.return_, 1) := by decide +kernel
theorem dX7_write_0 : decode cX7_write 0 = .ok (.iload_n 1, 1) := by decide +kernel
theorem dX7_write_1 : decode cX7_write 1 = .ok (.ifCond .lt 10, 3) := by decide +kernel
theorem dX7_write_4 : decode cX7_write 4 = .ok (.iload_n 1, 1) := by decide +kernel
theorem dX7_write_5 : decode cX7_write 5 = .ok (.sipush 255, 3) := by decide +kernel
theorem dX7_write_8 : decode cX7_write 8 = .ok (.if_icmp .le 6, 3) := by decide +kernel
theorem dX7_write_11 : decode cX7_write 11 = .ok (.bipush (-2), 2) := by decide +kernel
theorem dX7_write_13 : decode cX7_write 13 = .ok (.ireturn, 1) := by decide +kernel
theorem dX7_write_14 : decode cX7_write 14 = .ok (.aload_n 0, 1) := by decide +kernel
theorem dX7_write_15 : decode cX7_write 15 = .ok (.getfield 10, 3) := by decide +kernel
theorem dX7_write_18 : decode cX7_write 18 = .ok (.iload_n 1, 1) := by decide +kernel
theorem dX7_write_19 : decode cX7_write 19 = .ok (.invokevirtual 65, 3) := by decide +kernel
theorem dX7_write_22 : decode cX7_write 22 = .ok (.ifCond .eq 13, 3) := by decide +kernel
theorem dX7_write_25 : decode cX7_write 25 = .ok (.aload_n 0, 1) := by decide +kernel
theorem dX7_write_26 : decode cX7_write 26 = .ok (.getfield 10, 3) := by decide +kernel
theorem dX7_write_29 : decode cX7_write 29 = .ok (.getfield 69, 3) := by decide +kernel
theorem dX7_write_32 : decode cX7_write 32 = .ok (.goto 5, 3) := by decide +kernel
theorem dX7_write_35 : decode cX7_write 35 = .ok (.bipush (-4), 2) := by decide +kernel
theorem dX7_write_37 : decode cX7_write 37 = .ok (.ireturn, 1) := by decide +kernel
theorem dX7_wipe_0 : decode cX7_wipe 0 = .ok (.aload_n 0, 1) := by decide +kernel
theorem dX7_wipe_1 : decode cX7_wipe 1 = .ok (.getfield 10, 3) := by decide +kernel
theorem dX7_wipe_4 : decode cX7_wipe 4 = .ok (.getfield 69, 3) := by decide +kernel
theorem dX7_wipe_7 : decode cX7_wipe 7 = .ok (.istore_n 1, 1) := by decide +kernel
theorem dX7_wipe_8 : decode cX7_wipe 8 = .ok (.aload_n 0, 1) := by decide +kernel
theorem dX7_wipe_9 : decode cX7_wipe 9 = .ok (.getfield 10, 3) := by decide +kernel
