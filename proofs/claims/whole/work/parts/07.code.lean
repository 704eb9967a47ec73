theorem dX8_readWell_7 : decode cX8_readWell 7 = .ok (.putfield 85, 3) := by decide +kernel
theorem dX8_readWell_10 : decode cX8_readWell 10 = .ok (.aload_n 0, 1) := by decide +kernel
theorem dX8_readWell_11 : decode cX8_readWell 11 = .ok (.iconst 0, 1) := by decide +kernel
theorem dX8_readWell_12 : decode cX8_readWell 12 = .ok (.putfield 88, 3) := by decide +kernel
theorem dX8_readWell_15 : decode cX8_readWell 15 = .ok (.aload_n 0, 1) := by decide +kernel
theorem dX8_readWell_16 : decode cX8_readWell 16 = .ok (.iconst 0, 1) := by decide +kernel
theorem dX8_readWell_17 : decode cX8_readWell 17 = .ok (.putfield 91, 3) := by decide +kernel
theorem dX8_readWell_20 : decode cX8_readWell 20 = .ok (.aload_n 0, 1) := by decide +kernel
theorem dX8_readWell_21 : decode cX8_readWell 21 = .ok (.getfield 75, 3) := by decide +kernel
theorem dX8_readWell_24 : decode cX8_readWell 24 = .ok (.ifCond .eq 14, 3) := by decide +kernel
theorem dX8_readWell_27 : decode cX8_readWell 27 = .ok (.aload_n 0, 1) := by decide +kernel
theorem dX8_readWell_28 : decode cX8_readWell 28 = .ok (.getfield 7, 3) := by decide +kernel
theorem dX8_readWell_31 : decode cX8_readWell 31 = .ok (.iconst 0, 1) := by decide +kernel
theorem dX8_readWell_32 : decode cX8_readWell 32 = .ok (.iaload, 1) := by decide +kernel
theorem dX8_readWell_33 : decode cX8_readWell 33 = .ok (.bipush 69, 2) := by decide +kernel
theorem dX8_readWell_35 : decode cX8_readWell 35 = .ok (.if_icmp .eq 5, 3) := by decide +kernel
theorem dX8_readWell_38 : decode cX8_readWell 38 = .ok (.iconst 0, 1) := by decide +kernel
theorem dX8_readWell_39 : decode cX8_readWell 39 = .ok (.ireturn, 1) := by decide +kernel
theorem dX8_readWell_40 : decode cX8_readWell 40 = .ok (.aload_n 0, 1) := by decide +kernel
theorem dX8_readWell_41 : decode cX8_readWell 41 = .ok (.iconst 1, 1) := by decide +kernel
theorem dX8_readWell_42 : decode cX8_readWell 42 = .ok (.putfield 78, 3) := by decide +kernel
theorem dX8_readWell_45 : decode cX8_readWell 45 = .ok (.aload_n 0, 1) := by decide +kernel
theorem dX8_readWell_46 : decode cX8_readWell 46 = .ok (.getfield 78, 3) := by decide +kernel
theorem dX8_readWell_49 : decode cX8_readWell 49 = .ok (.aload_n 0, 1) := by decide +kernel
theorem dX8_readWell_50 : decode cX8_readWell 50 = .ok (.getfield 75, 3) := by decide +kernel
theorem dX8_readWell_53 : decode cX8_readWell 53 = .ok (.if_icmp .ge 15, 3) := by decide +kernel
theorem dX8_readWell_56 : decode cX8_readWell 56 = .ok (.aload_n 0, 1) := by decide +kernel
theorem dX8_readWell_57 : decode cX8_readWell 57 = .ok (.invokevirtual 101, 3) := by decide +kernel
theorem dX8_readWell_60 : decode cX8_readWell 60 = .ok (.ifCond .ne (-15), 3) := by decide +kernel
theorem dX8_readWell_63 : decode cX8_readWell 63 = .ok (.aload_n 0, 1) := by decide +kernel
theorem dX8_readWell_64 : decode cX8_readWell 64 = .ok (.getfield 78, 3) := by decide +kernel
theorem dX8_readWell_67 : decode cX8_readWell 67 = .ok (.ireturn, 1) := by decide +kernel
theorem dX8_readWell_68 : decode cX8_readWell 68 = .ok (.bipush (-9), 2) := by decide +kernel
theorem dX8_readWell_70 : decode cX8_readWell 70 = .ok (.ireturn, 1) := by decide +kernel
theorem dX8_fault_0 : decode cX8_fault 0 = .ok (.aload_n 0, 1) := by decide +kernel
theorem dX8_fault_1 : decode cX8_fault 1 = .ok (.iconst 0, 1) := by decide +kernel
theorem dX8_fault_2 : decode cX8_fault 2 = .ok (.putfield 59, 3) := by decide +kernel
theorem dX8_fault_5 : decode cX8_fault 5 = .ok (.aload_n 0, 1) := by decide +kernel
theorem dX8_fault_6 : decode cX8_fault 6 = .ok (.invokevirtual 104, 3) := by decide +kernel
theorem dX8_fault_9 : decode cX8_fault 9 = .ok (.ireturn, 1) := by decide +kernel
theorem dX8_well_0 : decode cX8_well 0 = .ok (.aload_n 0, 1) := by decide +kernel
theorem dX8_well_1 : decode cX8_well 1 = .ok (.iconst 0, 1) := by decide +kernel
theorem dX8_well_2 : decode cX8_well 2 = .ok (.putfield 59, 3) := by decide +kernel
theorem dX8_well_5 : decode cX8_well 5 = .ok (.aload_n 0, 1) := by decide +kernel
theorem dX8_well_6 : decode cX8_well 6 = .ok (.invokevirtual 104, 3) := by decide +kernel
theorem dX8_well_9 : decode cX8_well 9 = .ok (.bipush (-9), 2) := by decide +kernel
theorem dX8_well_11 : decode cX8_well 11 = .ok (.if_icmp .eq 6, 3) := by decide +kernel
theorem dX8_well_14 : decode cX8_well 14 = .ok (.bipush (-3), 2) := by decide +kernel
theorem dX8_well_16 : decode cX8_well 16 = .ok (.ireturn, 1) := by decide +kernel
theorem dX8_well_17 : decode cX8_well 17 = .ok (.aload_n 0, 1) := by decide +kernel
theorem dX8_well_18 : decode cX8_well 18 = .ok (.aload_n 0, 1) := by decide +kernel
theorem dX8_well_19 : decode cX8_well 19 = .ok (.getfield 85, 3) := by decide +kernel
theorem dX8_well_22 : decode cX8_well 22 = .ok (.putfield 108, 3) := by decide +kernel
theorem dX8_well_25 : decode cX8_well 25 = .ok (.aload_n 0, 1) := by decide +kernel
theorem dX8_well_26 : decode cX8_well 26 = .ok (.aload_n 0, 1) := by decide +kernel
theorem dX8_well_27 : decode cX8_well 27 = .ok (.getfield 88, 3) := by decide +kernel
theorem dX8_well_30 : decode cX8_well 30 = .ok (.putfield 63, 3) := by decide +kernel
theorem dX8_well_33 : decode cX8_well 33 = .ok (.aload_n 0, 1) := by decide +kernel
theorem dX8_well_34 : decode cX8_well 34 = .ok (.aload_n 0, 1) := by decide +kernel
theorem dX8_well_35 : decode cX8_well 35 = .ok (.getfield 91, 3) := by decide +kernel
theorem dX8_well_38 : decode cX8_well 38 = .ok (.putfield 70, 3) := by decide +kernel
theorem dX8_well_41 : decode cX8_well 41 = .ok (.iconst 0, 1) := by decide +kernel
theorem dX8_well_42 : decode cX8_well 42 = .ok (.istore_n 1, 1) := by decide +kernel
theorem dX8_well_43 : decode cX8_well 43 = .ok (.iload_n 1, 1) := by decide +kernel
theorem dX8_well_44 : decode cX8_well 44 = .ok (.iconst 3, 1) := by decide +kernel
theorem dX8_well_45 : decode cX8_well 45 = .ok (.aload_n 0, 1) := by decide +kernel
theorem dX8_well_46 : decode cX8_well 46 = .ok (.getfield 108, 3) := by decide +kernel
theorem dX8_well_49 : decode cX8_well 49 = .ok (.imul, 1) := by decide +kernel
theorem dX8_well_50 : decode cX8_well 50 = .ok (.if_icmp .ge 21, 3) := by decide +kernel
theorem dX8_well_53 : decode cX8_well 53 = .ok (.aload_n 0, 1) := by decide +kernel
theorem dX8_well_54 : decode cX8_well 54 = .ok (.getfield 13, 3) := by decide +kernel
theorem dX8_well_57 : decode cX8_well 57 = .ok (.iload_n 1, 1) := by decide +kernel
theorem dX8_well_58 : decode cX8_well 58 = .ok (.aload_n 0, 1) := by decide +kernel
theorem dX8_well_59 : decode cX8_well 59 = .ok (.getfield 22, 3) := by decide +kernel
theorem dX8_well_62 : decode cX8_well 62 = .ok (.iload_n 1, 1) := by decide +kernel
theorem dX8_well_63 : decode cX8_well 63 = .ok (.iaload, 1) := by decide +kernel
theorem dX8_well_64 : decode cX8_well 64 = .ok (.iastore, 1) := by decide +kernel
theorem dX8_well_65 : decode cX8_well 65 = .ok (.iinc 1 1, 3) := by decide +kernel
theorem dX8_well_68 : decode cX8_well 68 = .ok (.goto (-25), 3) := by decide +kernel
theorem dX8_well_71 : decode cX8_well 71 = .ok (.iconst 0, 1) := by decide +kernel
theorem dX8_well_72 : decode cX8_well 72 = .ok (.istore_n 1, 1) := by decide +kernel
theorem dX8_well_73 : decode cX8_well 73 = .ok (.iload_n 1, 1) := by decide +kernel
theorem dX8_well_74 : decode cX8_well 74 = .ok (.iconst 4, 1) := by decide +kernel
theorem dX8_well_75 : decode cX8_well 75 = .ok (.aload_n 0, 1) := by decide +kernel
theorem dX8_well_76 : decode cX8_well 76 = .ok (.getfield 63, 3) := by decide +kernel
theorem dX8_well_79 : decode cX8_well 79 = .ok (.imul, 1) := by decide +kernel
theorem dX8_well_80 : decode cX8_well 80 = .ok (.if_icmp .ge 21, 3) := by decide +kernel
theorem dX8_well_83 : decode cX8_well 83 = .ok (.aload_n 0, 1) := by decide +kernel
theorem dX8_well_84 : decode cX8_well 84 = .ok (.getfield 16, 3) := by decide +kernel
theorem dX8_well_87 : decode cX8_well 87 = .ok (.iload_n 1, 1) := by decide +kernel
theorem dX8_well_88 : decode cX8_well 88 = .ok (.aload_n 0, 1) := by decide +kernel
theorem dX8_well_89 : decode cX8_well 89 = .ok (.getfield 25, 3) := by decide +kernel
theorem dX8_well_92 : decode cX8_well 92 = .ok (.iload_n 1, 1) := by decide +kernel
theorem dX8_well_93 : decode cX8_well 93 = .ok (.iaload, 1) := by decide +kernel
theorem dX8_well_94 : decode cX8_well 94 = .ok (.iastore, 1) := by decide +kernel
theorem dX8_well_95 : decode cX8_well 95 = .ok (.iinc 1 1, 3) := by decide +kernel
theorem dX8_well_98 : decode cX8_well 98 = .ok (.goto (-25), 3) := by decide +kernel
theorem dX8_well_101 : decode cX8_well 101 = .ok (.iconst 0, 1) := by decide +kernel
theorem dX8_well_102 : decode cX8_well 102 = .ok (.istore_n 1, 1) := by decide +kernel
theorem dX8_well_103 : decode cX8_well 103 = .ok (.iload_n 1, 1) := by decide +kernel
theorem dX8_well_104 : decode cX8_well 104 = .ok (.iconst 5, 1) := by decide +kernel
theorem dX8_well_105 : decode cX8_well 105 = .ok (.aload_n 0, 1) := by decide +kernel
theorem dX8_well_106 : decode cX8_well 106 = .ok (.getfield 70, 3) := by decide +kernel
theorem dX8_well_109 : decode cX8_well 109 = .ok (.imul, 1) := by decide +kernel
theorem dX8_well_110 : decode cX8_well 110 = .ok (.if_icmp .ge 21, 3) := by decide +kernel
theorem dX8_well_113 : decode cX8_well 113 = .ok (.aload_n 0, 1) := by decide +kernel
theorem dX8_well_114 : decode cX8_well 114 = .ok (.getfield 19, 3) := by decide +kernel
theorem dX8_well_117 : decode cX8_well 117 = .ok (.iload_n 1, 1) := by decide +kernel
theorem dX8_well_118 : decode cX8_well 118 = .ok (.aload_n 0, 1) := by decide +kernel
theorem dX8_well_119 : decode cX8_well 119 = .ok (.getfield 28, 3) := by decide +kernel
theorem dX8_well_122 : decode cX8_well 122 = .ok (.iload_n 1, 1) := by decide +kernel
theorem dX8_well_123 : decode cX8_well 123 = .ok (.iaload, 1) := by decide +kernel
theorem dX8_well_124 : decode cX8_well 124 = .ok (.iastore, 1) := by decide +kernel
theorem dX8_well_125 : decode cX8_well 125 = .ok (.iinc 1 1, 3) := by decide +kernel
theorem dX8_well_128 : decode cX8_well 128 = .ok (.goto (-25), 3) := by decide +kernel
theorem dX8_well_131 : decode cX8_well 131 = .ok (.iconst 0, 1) := by decide +kernel
theorem dX8_well_132 : decode cX8_well 132 = .ok (.istore_n 1, 1) := by decide +kernel
theorem dX8_well_133 : decode cX8_well 133 = .ok (.iload_n 1, 1) := by decide +kernel
theorem dX8_well_134 : decode cX8_well 134 = .ok (.bipush 16, 2) := by decide +kernel
theorem dX8_well_136 : decode cX8_well 136 = .ok (.if_icmp .ge 35, 3) := by decide +kernel
theorem dX8_well_139 : decode cX8_well 139 = .ok (.aload_n 0, 1) := by decide +kernel
theorem dX8_well_140 : decode cX8_well 140 = .ok (.getfield 31, 3) := by decide +kernel
theorem dX8_well_143 : decode cX8_well 143 = .ok (.iload_n 1, 1) := by decide +kernel
theorem dX8_well_144 : decode cX8_well 144 = .ok (.iload_n 1, 1) := by decide +kernel
theorem dX8_well_145 : decode cX8_well 145 = .ok (.aload_n 0, 1) := by decide +kernel
theorem dX8_well_146 : decode cX8_well 146 = .ok (.getfield 108, 3) := by decide +kernel
theorem dX8_well_149 : decode cX8_well 149 = .ok (.if_icmp .ge 14, 3) := by decide +kernel
theorem dX8_well_152 : decode cX8_well 152 = .ok (.aload_n 0, 1) := by decide +kernel
theorem dX8_well_153 : decode cX8_well 153 = .ok (.getfield 13, 3) := by decide +kernel
theorem dX8_well_156 : decode cX8_well 156 = .ok (.iconst 3, 1) := by decide +kernel
theorem dX8_well_157 : decode cX8_well 157 = .ok (.iload_n 1, 1) := by decide +kernel
theorem dX8_well_158 : decode cX8_well 158 = .ok (.imul, 1) := by decide +kernel
theorem dX8_well_159 : decode cX8_well 159 = .ok (.iaload, 1) := by decide +kernel
theorem dX8_well_160 : decode cX8_well 160 = .ok (.goto 4, 3) := by decide +kernel
theorem dX8_well_163 : decode cX8_well 163 = .ok (.iconst 0, 1) := by decide +kernel
theorem dX8_well_164 : decode cX8_well 164 = .ok (.iastore, 1) := by decide +kernel
theorem dX8_well_165 : decode cX8_well 165 = .ok (.iinc 1 1, 3) := by decide +kernel
theorem dX8_well_168 : decode cX8_well 168 = .ok (.goto (-35), 3) := by decide +kernel
theorem dX8_well_171 : decode cX8_well 171 = .ok (.aload_n 0, 1) := by decide +kernel
theorem dX8_well_172 : decode cX8_well 172 = .ok (.iconst 0, 1) := by decide +kernel
theorem dX8_well_173 : decode cX8_well 173 = .ok (.putfield 111, 3) := by decide +kernel
theorem dX8_well_176 : decode cX8_well 176 = .ok (.aload_n 0, 1) := by decide +kernel
theorem dX8_well_177 : decode cX8_well 177 = .ok (.getfield 43, 3) := by decide +kernel
theorem dX8_well_180 : decode cX8_well 180 = .ok (.iconst 0, 1) := by decide +kernel
theorem dX8_well_181 : decode cX8_well 181 = .ok (.iconst 0, 1) := by decide +kernel
theorem dX8_well_182 : decode cX8_well 182 = .ok (.bastore, 1) := by decide +kernel
theorem dX8_well_183 : decode cX8_well 183 = .ok (.aload_n 0, 1) := by decide +kernel
theorem dX8_well_184 : decode cX8_well 184 = .ok (.getfield 43, 3) := by decide +kernel
theorem dX8_well_187 : decode cX8_well 187 = .ok (.iconst 1, 1) := by decide +kernel
theorem dX8_well_188 : decode cX8_well 188 = .ok (.iconst 0, 1) := by decide +kernel
theorem dX8_well_189 : decode cX8_well 189 = .ok (.bastore, 1) := by decide +kernel
theorem dX8_well_190 : decode cX8_well 190 = .ok (.bipush 100, 2) := by decide +kernel
theorem dX8_well_192 : decode cX8_well 192 = .ok (.aload_n 0, 1) := by decide +kernel
theorem dX8_well_193 : decode cX8_well 193 = .ok (.getfield 108, 3) := by decide +kernel
theorem dX8_well_196 : decode cX8_well 196 = .ok (.imul, 1) := by decide +kernel
theorem dX8_well_197 : decode cX8_well 197 = .ok (.bipush 10, 2) := by decide +kernel
theorem dX8_well_199 : decode cX8_well 199 = .ok (.aload_n 0, 1) := by decide +kernel
theorem dX8_well_200 : decode cX8_well 200 = .ok (.getfield 63, 3) := by decide +kernel
theorem dX8_well_203 : decode cX8_well 203 = .ok (.imul, 1) := by decide +kernel
theorem dX8_well_204 : decode cX8_well 204 = .ok (.iadd, 1) := by decide +kernel
theorem dX8_well_205 : decode cX8_well 205 = .ok (.aload_n 0, 1) := by decide +kernel
theorem dX8_well_206 : decode cX8_well 206 = .ok (.getfield 70, 3) := by decide +kernel
theorem dX8_well_209 : decode cX8_well 209 = .ok (.iadd, 1) := by decide +kernel
theorem dX8_well_210 : decode cX8_well 210 = .ok (.ireturn, 1) := by decide +kernel
theorem dX8_worthOf_0 : decode cX8_worthOf 0 = .ok (.iconst 0, 1) := by decide +kernel
theorem dX8_worthOf_1 : decode cX8_worthOf 1 = .ok (.istore_n 2, 1) := by decide +kernel
theorem dX8_worthOf_2 : decode cX8_worthOf 2 = .ok (.iconst 0, 1) := by decide +kernel
theorem dX8_worthOf_3 : decode cX8_worthOf 3 = .ok (.istore_n 3, 1) := by decide +kernel
theorem dX8_worthOf_4 : decode cX8_worthOf 4 = .ok (.iload_n 3, 1) := by decide +kernel
theorem dX8_worthOf_5 : decode cX8_worthOf 5 = .ok (.aload_n 0, 1) := by decide +kernel
theorem dX8_worthOf_6 : decode cX8_worthOf 6 = .ok (.getfield 108, 3) := by decide +kernel
theorem dX8_worthOf_9 : decode cX8_worthOf 9 = .ok (.if_icmp .ge 70, 3) := by decide +kernel
theorem dX8_worthOf_12 : decode cX8_worthOf 12 = .ok (.aload_n 0, 1) := by decide +kernel
theorem dX8_worthOf_13 : decode cX8_worthOf 13 = .ok (.getfield 13, 3) := by decide +kernel
theorem dX8_worthOf_16 : decode cX8_worthOf 16 = .ok (.iconst 3, 1) := by decide +kernel
theorem dX8_worthOf_17 : decode cX8_worthOf 17 = .ok (.iload_n 3, 1) := by decide +kernel
theorem dX8_worthOf_18 : decode cX8_worthOf 18 = .ok (.imul, 1) := by decide +kernel
theorem dX8_worthOf_19 : decode cX8_worthOf 19 = .ok (.iconst 2, 1) := by decide +kernel
theorem dX8_worthOf_20 : decode cX8_worthOf 20 = .ok (.iadd, 1) := by decide +kernel
theorem dX8_worthOf_21 : decode cX8_worthOf 21 = .ok (.iaload, 1) := by decide +kernel
theorem dX8_worthOf_22 : decode cX8_worthOf 22 = .ok (.iconst 3, 1) := by decide +kernel
theorem dX8_worthOf_23 : decode cX8_worthOf 23 = .ok (.if_icmp .ne 21, 3) := by decide +kernel
theorem dX8_worthOf_26 : decode cX8_worthOf 26 = .ok (.aload_n 1, 1) := by decide +kernel
theorem dX8_worthOf_27 : decode cX8_worthOf 27 = .ok (.iload_n 3, 1) := by decide +kernel
theorem dX8_worthOf_28 : decode cX8_worthOf 28 = .ok (.iaload, 1) := by decide +kernel
theorem dX8_worthOf_29 : decode cX8_worthOf 29 = .ok (.aload_n 0, 1) := by decide +kernel
theorem dX8_worthOf_30 : decode cX8_worthOf 30 = .ok (.getfield 13, 3) := by decide +kernel
theorem dX8_worthOf_33 : decode cX8_worthOf 33 = .ok (.iconst 3, 1) := by decide +kernel
theorem dX8_worthOf_34 : decode cX8_worthOf 34 = .ok (.iload_n 3, 1) := by decide +kernel
theorem dX8_worthOf_35 : decode cX8_worthOf 35 = .ok (.imul, 1) := by decide +kernel
theorem dX8_worthOf_36 : decode cX8_worthOf 36 = .ok (.iaload, 1) := by decide +kernel
theorem dX8_worthOf_37 : decode cX8_worthOf 37 = .ok (.if_icmp .ge 7, 3) := by decide +kernel
theorem dX8_worthOf_40 : decode cX8_worthOf 40 = .ok (.iconst 1, 1) := by decide +kernel
theorem dX8_worthOf_41 : decode cX8_worthOf 41 = .ok (.goto 4, 3) := by decide +kernel
theorem dX8_worthOf_44 : decode cX8_worthOf 44 = .ok (.iconst 0, 1) := by decide +kernel
theorem dX8_worthOf_45 : decode cX8_worthOf 45 = .ok (.istore 4, 2) := by decide +kernel
theorem dX8_worthOf_47 : decode cX8_worthOf 47 = .ok (.iload_n 2, 1) := by decide +kernel
theorem dX8_worthOf_48 : decode cX8_worthOf 48 = .ok (.iload 4, 2) := by decide +kernel
theorem dX8_worthOf_50 : decode cX8_worthOf 50 = .ok (.ifCond .eq 7, 3) := by decide +kernel
theorem dX8_worthOf_53 : decode cX8_worthOf 53 = .ok (.iconst 0, 1) := by decide +kernel
theorem dX8_worthOf_54 : decode cX8_worthOf 54 = .ok (.goto 17, 3) := by decide +kernel
theorem dX8_worthOf_57 : decode cX8_worthOf 57 = .ok (.aload_n 1, 1) := by decide +kernel
theorem dX8_worthOf_58 : decode cX8_worthOf 58 = .ok (.iload_n 3, 1) := by decide +kernel
theorem dX8_worthOf_59 : decode cX8_worthOf 59 = .ok (.iaload, 1) := by decide +kernel
theorem dX8_worthOf_60 : decode cX8_worthOf 60 = .ok (.aload_n 0, 1) := by decide +kernel
theorem dX8_worthOf_61 : decode cX8_worthOf 61 = .ok (.getfield 13, 3) := by decide +kernel
theorem dX8_worthOf_64 : decode cX8_worthOf 64 = .ok (.iconst 3, 1) := by decide +kernel
theorem dX8_worthOf_65 : decode cX8_worthOf 65 = .ok (.iload_n 3, 1) := by decide +kernel
theorem dX8_worthOf_66 : decode cX8_worthOf 66 = .ok (.imul, 1) := by decide +kernel
theorem dX8_worthOf_67 : decode cX8_worthOf 67 = .ok (.iconst 1, 1) := by decide +kernel
theorem dX8_worthOf_68 : decode cX8_worthOf 68 = .ok (.iadd, 1) := by decide +kernel
theorem dX8_worthOf_69 : decode cX8_worthOf 69 = .ok (.iaload, 1) := by decide +kernel
theorem dX8_worthOf_70 : decode cX8_worthOf 70 = .ok (.imul, 1) := by decide +kernel
theorem dX8_worthOf_71 : decode cX8_worthOf 71 = .ok (.iadd, 1) := by decide +kernel
theorem dX8_worthOf_72 : decode cX8_worthOf 72 = .ok (.istore_n 2, 1) := by decide +kernel
theorem dX8_worthOf_73 : decode cX8_worthOf 73 = .ok (.iinc 3 1, 3) := by decide +kernel
theorem dX8_worthOf_76 : decode cX8_worthOf 76 = .ok (.goto (-72), 3) := by decide +kernel
theorem dX8_worthOf_79 : decode cX8_worthOf 79 = .ok (.iload_n 2, 1) := by decide +kernel
theorem dX8_worthOf_80 : decode cX8_worthOf 80 = .ok (.ireturn, 1) := by decide +kernel
theorem dX8_estateOf_0 : decode cX8_estateOf 0 = .ok (.sipush 1000, 3) := by decide +kernel
theorem dX8_estateOf_3 : decode cX8_estateOf 3 = .ok (.aload_n 1, 1) := by decide +kernel
theorem dX8_estateOf_4 : decode cX8_estateOf 4 = .ok (.bipush 15, 2) := by decide +kernel
theorem dX8_estateOf_6 : decode cX8_estateOf 6 = .ok (.iaload, 1) := by decide +kernel
theorem dX8_estateOf_7 : decode cX8_estateOf 7 = .ok (.iadd, 1) := by decide +kernel
theorem dX8_estateOf_8 : decode cX8_estateOf 8 = .ok (.aload_n 0, 1) := by decide +kernel
theorem dX8_estateOf_9 : decode cX8_estateOf 9 = .ok (.aload_n 1, 1) := by decide +kernel
theorem dX8_estateOf_10 : decode cX8_estateOf 10 = .ok (.invokevirtual 114, 3) := by decide +kernel
theorem dX8_estateOf_13 : decode cX8_estateOf 13 = .ok (.iadd, 1) := by decide +kernel
theorem dX8_estateOf_14 : decode cX8_estateOf 14 = .ok (.ireturn, 1) := by decide +kernel
theorem dX8_about_0 : decode cX8_about 0 = .ok (.aload_n 0, 1) := by decide +kernel
theorem dX8_about_1 : decode cX8_about 1 = .ok (.iconst 0, 1) := by decide +kernel
theorem dX8_about_2 : decode cX8_about 2 = .ok (.putfield 59, 3) := by decide +kernel
theorem dX8_about_5 : decode cX8_about 5 = .ok (.iload_n 1, 1) := by decide +kernel
theorem dX8_about_6 : decode cX8_about 6 = .ok (.tableswitch 117 0 9 #[54, 59, 64, 69, 77, 85, 93, 102, 107, 112], 54) := by decide +kernel
theorem dX8_about_60 : decode cX8_about 60 = .ok (.aload_n 0, 1) := by decide +kernel
theorem dX8_about_61 : decode cX8_about 61 = .ok (.getfield 108, 3) := by decide +kernel
theorem dX8_about_64 : decode cX8_about 64 = .ok (.ireturn, 1) := by decide +kernel
theorem dX8_about_65 : decode cX8_about 65 = .ok (.aload_n 0, 1) := by decide +kernel
theorem dX8_about_66 : decode cX8_about 66 = .ok (.getfield 63, 3) := by decide +kernel
theorem dX8_about_69 : decode cX8_about 69 = .ok (.ireturn, 1) := by decide +kernel
theorem dX8_about_70 : decode cX8_about 70 = .ok (.aload_n 0, 1) := by decide +kernel
theorem dX8_about_71 : decode cX8_about 71 = .ok (.getfield 70, 3) := by decide +kernel
theorem dX8_about_74 : decode cX8_about 74 = .ok (.ireturn, 1) := by decide +kernel
theorem dX8_about_75 : decode cX8_about 75 = .ok (.aload_n 0, 1) := by decide +kernel
theorem dX8_about_76 : decode cX8_about 76 = .ok (.getfield 31, 3) := by decide +kernel
theorem dX8_about_79 : decode cX8_about 79 = .ok (.bipush 14, 2) := by decide +kernel
theorem dX8_about_81 : decode cX8_about 81 = .ok (.iaload, 1) := by decide +kernel
theorem dX8_about_82 : decode cX8_about 82 = .ok (.ireturn, 1) := by decide +kernel
theorem dX8_about_83 : decode cX8_about 83 = .ok (.aload_n 0, 1) := by decide +kernel
theorem dX8_about_84 : decode cX8_about 84 = .ok (.getfield 31, 3) := by decide +kernel
theorem dX8_about_87 : decode cX8_about 87 = .ok (.bipush 12, 2) := by decide +kernel
theorem dX8_about_89 : decode cX8_about 89 = .ok (.iaload, 1) := by decide +kernel
theorem dX8_about_90 : decode cX8_about 90 = .ok (.ireturn, 1) := by decide +kernel
theorem dX8_about_91 : decode cX8_about 91 = .ok (.aload_n 0, 1) := by decide +kernel
theorem dX8_about_92 : decode cX8_about 92 = .ok (.getfield 31, 3) := by decide +kernel
theorem dX8_about_95 : decode cX8_about 95 = .ok (.bipush 13, 2) := by decide +kernel
theorem dX8_about_97 : decode cX8_about 97 = .ok (.iaload, 1) := by decide +kernel
theorem dX8_about_98 : decode cX8_about 98 = .ok (.ireturn, 1) := by decide +kernel
theorem dX8_about_99 : decode cX8_about 99 = .ok (.aload_n 0, 1) := by decide +kernel
theorem dX8_about_100 : decode cX8_about 100 = .ok (.aload_n 0, 1) := by decide +kernel
theorem dX8_about_101 : decode cX8_about 101 = .ok (.getfield 31, 3) := by decide +kernel
theorem dX8_about_104 : decode cX8_about 104 = .ok (.invokevirtual 118, 3) := by decide +kernel
theorem dX8_about_107 : decode cX8_about 107 = .ok (.ireturn, 1) := by decide +kernel
theorem dX8_about_108 : decode cX8_about 108 = .ok (.aload_n 0, 1) := by decide +kernel
theorem dX8_about_109 : decode cX8_about 109 = .ok (.getfield 111, 3) := by decide +kernel
theorem dX8_about_112 : decode cX8_about 112 = .ok (.ireturn, 1) := by decide +kernel
theorem dX8_about_113 : decode cX8_about 113 = .ok (.aload_n 0, 1) := by decide +kernel
theorem dX8_about_114 : decode cX8_about 114 = .ok (.getfield 121, 3) := by decide +kernel
theorem dX8_about_117 : decode cX8_about 117 = .ok (.ireturn, 1) := by decide +kernel
theorem dX8_about_118 : decode cX8_about 118 = .ok (.aload_n 0, 1) := by decide +kernel
theorem dX8_about_119 : decode cX8_about 119 = .ok (.getfield 75, 3) := by decide +kernel
theorem dX8_about_122 : decode cX8_about 122 = .ok (.ireturn, 1) := by decide +kernel
theorem dX8_about_123 : decode cX8_about 123 = .ok (.bipush (-2), 2) := by decide +kernel
theorem dX8_about_125 : decode cX8_about 125 = .ok (.ireturn, 1) := by decide +kernel
theorem dX8_thing_0 : decode cX8_thing 0 = .ok (.aload_n 0, 1) := by decide +kernel
theorem dX8_thing_1 : decode cX8_thing 1 = .ok (.iconst 0, 1) := by decide +kernel
theorem dX8_thing_2 : decode cX8_thing 2 = .ok (.putfield 59, 3) := by decide +kernel
theorem dX8_thing_5 : decode cX8_thing 5 = .ok (.iload_n 1, 1) := by decide +kernel
theorem dX8_thing_6 : decode cX8_thing 6 = .ok (.i2l, 1) := by decide +kernel
theorem dX8_thing_7 : decode cX8_thing 7 = .ok (.lconst 0, 1) := by decide +kernel
theorem dX8_thing_8 : decode cX8_thing 8 = .ok (.aload_n 0, 1) := by decide +kernel
theorem dX8_thing_9 : decode cX8_thing 9 = .ok (.getfield 108, 3) := by decide +kernel
theorem dX8_thing_12 : decode cX8_thing 12 = .ok (.iconst 1, 1) := by decide +kernel
theorem dX8_thing_13 : decode cX8_thing 13 = .ok (.isub, 1) := by decide +kernel
theorem dX8_thing_14 : decode cX8_thing 14 = .ok (.i2l, 1) := by decide +kernel
theorem dX8_thing_15 : decode cX8_thing 15 = .ok (.invokestatic 66, 3) := by decide +kernel
theorem dX8_thing_18 : decode cX8_thing 18 = .ok (.ifCond .ne 5, 3) := by decide +kernel
theorem dX8_thing_21 : decode cX8_thing 21 = .ok (.iconst (-1), 1) := by decide +kernel
theorem dX8_thing_22 : decode cX8_thing 22 = .ok (.ireturn, 1) := by decide +kernel
theorem dX8_thing_23 : decode cX8_thing 23 = .ok (.iload_n 2, 1) := by decide +kernel
theorem dX8_thing_24 : decode cX8_thing 24 = .ok (.i2l, 1) := by decide +kernel
theorem dX8_thing_25 : decode cX8_thing 25 = .ok (.lconst 0, 1) := by decide +kernel
theorem dX8_thing_26 : decode cX8_thing 26 = .ok (.ldc2_w 124, 3) := by decide +kernel
theorem dX8_thing_29 : decode cX8_thing 29 = .ok (.invokestatic 66, 3) := by decide +kernel
theorem dX8_thing_32 : decode cX8_thing 32 = .ok (.ifCond .eq 14, 3) := by decide +kernel
theorem dX8_thing_35 : decode cX8_thing 35 = .ok (.aload_n 0, 1) := by decide +kernel
theorem dX8_thing_36 : decode cX8_thing 36 = .ok (.getfield 13, 3) := by decide +kernel
theorem dX8_thing_39 : decode cX8_thing 39 = .ok (.iconst 3, 1) := by decide +kernel
theorem dX8_thing_40 : decode cX8_thing 40 = .ok (.iload_n 1, 1) := by decide +kernel
theorem dX8_thing_41 : decode cX8_thing 41 = .ok (.imul, 1) := by decide +kernel
theorem dX8_thing_42 : decode cX8_thing 42 = .ok (.iload_n 2, 1) := by decide +kernel
theorem dX8_thing_43 : decode cX8_thing 43 = .ok (.iadd, 1) := by decide +kernel
theorem dX8_thing_44 : decode cX8_thing 44 = .ok (.iaload, 1) := by decide +kernel
theorem dX8_thing_45 : decode cX8_thing 45 = .ok (.ireturn, 1) := by decide +kernel
theorem dX8_thing_46 : decode cX8_thing 46 = .ok (.iload_n 2, 1) := by decide +kernel
theorem dX8_thing_47 : decode cX8_thing 47 = .ok (.iconst 3, 1) := by decide +kernel
theorem dX8_thing_48 : decode cX8_thing 48 = .ok (.if_icmp .ne 12, 3) := by decide +kernel
theorem dX8_thing_51 : decode cX8_thing 51 = .ok (.aload_n 0, 1) := by decide +kernel
theorem dX8_thing_52 : decode cX8_thing 52 = .ok (.getfield 31, 3) := by decide +kernel
theorem dX8_thing_55 : decode cX8_thing 55 = .ok (.iload_n 1, 1) := by decide +kernel
theorem dX8_thing_56 : decode cX8_thing 56 = .ok (.iaload, 1) := by decide +kernel
theorem dX8_thing_57 : decode cX8_thing 57 = .ok (.goto 49, 3) := by decide +kernel
theorem dX8_thing_60 : decode cX8_thing 60 = .ok (.iload_n 2, 1) := by decide +kernel
theorem dX8_thing_61 : decode cX8_thing 61 = .ok (.iconst 4, 1) := by decide +kernel
theorem dX8_thing_62 : decode cX8_thing 62 = .ok (.if_icmp .eq 8, 3) := by decide +kernel
theorem dX8_thing_65 : decode cX8_thing 65 = .ok (.bipush (-2), 2) := by decide +kernel
theorem dX8_thing_67 : decode cX8_thing 67 = .ok (.goto 39, 3) := by decide +kernel
theorem dX8_thing_70 : decode cX8_thing 70 = .ok (.aload_n 0, 1) := by decide +kernel
theorem dX8_thing_71 : decode cX8_thing 71 = .ok (.getfield 13, 3) := by decide +kernel
theorem dX8_thing_74 : decode cX8_thing 74 = .ok (.iconst 3, 1) := by decide +kernel
theorem dX8_thing_75 : decode cX8_thing 75 = .ok (.iload_n 1, 1) := by decide +kernel
theorem dX8_thing_76 : decode cX8_thing 76 = .ok (.imul, 1) := by decide +kernel
theorem dX8_thing_77 : decode cX8_thing 77 = .ok (.iconst 2, 1) := by decide +kernel
theorem dX8_thing_78 : decode cX8_thing 78 = .ok (.iadd, 1) := by decide +kernel
theorem dX8_thing_79 : decode cX8_thing 79 = .ok (.iaload, 1) := by decide +kernel
theorem dX8_thing_80 : decode cX8_thing 80 = .ok (.iconst 1, 1) := by decide +kernel
theorem dX8_thing_81 : decode cX8_thing 81 = .ok (.if_icmp .ne 24, 3) := by decide +kernel
theorem dX8_thing_84 : decode cX8_thing 84 = .ok (.aload_n 0, 1) := by decide +kernel
theorem dX8_thing_85 : decode cX8_thing 85 = .ok (.getfield 31, 3) := by decide +kernel
theorem dX8_thing_88 : decode cX8_thing 88 = .ok (.iconst 4, 1) := by decide +kernel
theorem dX8_thing_89 : decode cX8_thing 89 = .ok (.iload_n 1, 1) := by decide +kernel
theorem dX8_thing_90 : decode cX8_thing 90 = .ok (.iadd, 1) := by decide +kernel
theorem dX8_thing_91 : decode cX8_thing 91 = .ok (.iaload, 1) := by decide +kernel
theorem dX8_thing_92 : decode cX8_thing 92 = .ok (.aload_n 0, 1) := by decide +kernel
theorem dX8_thing_93 : decode cX8_thing 93 = .ok (.getfield 31, 3) := by decide +kernel
theorem dX8_thing_96 : decode cX8_thing 96 = .ok (.bipush 8, 2) := by decide +kernel
theorem dX8_thing_98 : decode cX8_thing 98 = .ok (.iload_n 1, 1) := by decide +kernel
theorem dX8_thing_99 : decode cX8_thing 99 = .ok (.iadd, 1) := by decide +kernel
theorem dX8_thing_100 : decode cX8_thing 100 = .ok (.iaload, 1) := by decide +kernel
theorem dX8_thing_101 : decode cX8_thing 101 = .ok (.iadd, 1) := by decide +kernel
theorem dX8_thing_102 : decode cX8_thing 102 = .ok (.goto 4, 3) := by decide +kernel
theorem dX8_thing_105 : decode cX8_thing 105 = .ok (.iconst 0, 1) := by decide +kernel
theorem dX8_thing_106 : decode cX8_thing 106 = .ok (.ireturn, 1) := by decide +kernel
theorem dX8_question_0 : decode cX8_question 0 = .ok (.aload_n 0, 1) := by decide +kernel
theorem dX8_question_1 : decode cX8_question 1 = .ok (.iconst 0, 1) := by decide +kernel
theorem dX8_question_2 : decode cX8_question 2 = .ok (.putfield 59, 3) := by decide +kernel
theorem dX8_question_5 : decode cX8_question 5 = .ok (.aload_n 0, 1) := by decide +kernel
theorem dX8_question_6 : decode cX8_question 6 = .ok (.iload_n 1, 1) := by decide +kernel
theorem dX8_question_7 : decode cX8_question 7 = .ok (.invokevirtual 126, 3) := by decide +kernel
theorem dX8_question_10 : decode cX8_question 10 = .ok (.ifCond .eq 5, 3) := by decide +kernel
theorem dX8_question_13 : decode cX8_question 13 = .ok (.iconst (-1), 1) := by decide +kernel
theorem dX8_question_14 : decode cX8_question 14 = .ok (.ireturn, 1) := by decide +kernel
theorem dX8_question_15 : decode cX8_question 15 = .ok (.iload_n 2, 1) := by decide +kernel
theorem dX8_question_16 : decode cX8_question 16 = .ok (.tableswitch 84 0 3 #[32, 32, 43, 54], 32) := by decide +kernel
theorem dX8_question_48 : decode cX8_question 48 = .ok (.aload_n 0, 1) := by decide +kernel
theorem dX8_question_49 : decode cX8_question 49 = .ok (.getfield 16, 3) := by decide +kernel
theorem dX8_question_52 : decode cX8_question 52 = .ok (.iconst 4, 1) := by decide +kernel
theorem dX8_question_53 : decode cX8_question 53 = .ok (.iload_n 1, 1) := by decide +kernel
theorem dX8_question_54 : decode cX8_question 54 = .ok (.imul, 1) := by decide +kernel
theorem dX8_question_55 : decode cX8_question 55 = .ok (.iload_n 2, 1) := by decide +kernel
theorem dX8_question_56 : decode cX8_question 56 = .ok (.iadd, 1) := by decide +kernel
theorem dX8_question_57 : decode cX8_question 57 = .ok (.iaload, 1) := by decide +kernel
theorem dX8_question_58 : decode cX8_question 58 = .ok (.ireturn, 1) := by decide +kernel
theorem dX8_question_59 : decode cX8_question 59 = .ok (.aload_n 0, 1) := by decide +kernel
theorem dX8_question_60 : decode cX8_question 60 = .ok (.getfield 16, 3) := by decide +kernel
theorem dX8_question_63 : decode cX8_question 63 = .ok (.iconst 4, 1) := by decide +kernel
theorem dX8_question_64 : decode cX8_question 64 = .ok (.iload_n 1, 1) := by decide +kernel
theorem dX8_question_65 : decode cX8_question 65 = .ok (.imul, 1) := by decide +kernel
theorem dX8_question_66 : decode cX8_question 66 = .ok (.iconst 3, 1) := by decide +kernel
theorem dX8_question_67 : decode cX8_question 67 = .ok (.iadd, 1) := by decide +kernel
theorem dX8_question_68 : decode cX8_question 68 = .ok (.iaload, 1) := by decide +kernel
theorem dX8_question_69 : decode cX8_question 69 = .ok (.ireturn, 1) := by decide +kernel
theorem dX8_question_70 : decode cX8_question 70 = .ok (.aload_n 0, 1) := by decide +kernel
theorem dX8_question_71 : decode cX8_question 71 = .ok (.getfield 31, 3) := by decide +kernel
theorem dX8_question_74 : decode cX8_question 74 = .ok (.bipush 12, 2) := by decide +kernel
theorem dX8_question_76 : decode cX8_question 76 = .ok (.iaload, 1) := by decide +kernel
theorem dX8_question_77 : decode cX8_question 77 = .ok (.iload_n 1, 1) := by decide +kernel
theorem dX8_question_78 : decode cX8_question 78 = .ok (.invokestatic 130, 3) := by decide +kernel
theorem dX8_question_81 : decode cX8_question 81 = .ok (.ifCond .eq 16, 3) := by decide +kernel
theorem dX8_question_84 : decode cX8_question 84 = .ok (.aload_n 0, 1) := by decide +kernel
theorem dX8_question_85 : decode cX8_question 85 = .ok (.getfield 16, 3) := by decide +kernel
theorem dX8_question_88 : decode cX8_question 88 = .ok (.iconst 4, 1) := by decide +kernel
theorem dX8_question_89 : decode cX8_question 89 = .ok (.iload_n 1, 1) := by decide +kernel
theorem dX8_question_90 : decode cX8_question 90 = .ok (.imul, 1) := by decide +kernel
theorem dX8_question_91 : decode cX8_question 91 = .ok (.iconst 2, 1) := by decide +kernel
theorem dX8_question_92 : decode cX8_question 92 = .ok (.iadd, 1) := by decide +kernel
theorem dX8_question_93 : decode cX8_question 93 = .ok (.iaload, 1) := by decide +kernel
theorem dX8_question_94 : decode cX8_question 94 = .ok (.goto 5, 3) := by decide +kernel
theorem dX8_question_97 : decode cX8_question 97 = .ok (.bipush (-9), 2) := by decide +kernel
theorem dX8_question_99 : decode cX8_question 99 = .ok (.ireturn, 1) := by decide +kernel
theorem dX8_question_100 : decode cX8_question 100 = .ok (.bipush (-2), 2) := by decide +kernel
theorem dX8_question_102 : decode cX8_question 102 = .ok (.ireturn, 1) := by decide +kernel
theorem dX8_deed_0 : decode cX8_deed 0 = .ok (.aload_n 0, 1) := by decide +kernel
theorem dX8_deed_1 : decode cX8_deed 1 = .ok (.iconst 0, 1) := by decide +kernel
theorem dX8_deed_2 : decode cX8_deed 2 = .ok (.putfield 59, 3) := by decide +kernel
theorem dX8_deed_5 : decode cX8_deed 5 = .ok (.aload_n 0, 1) := by decide +kernel
theorem dX8_deed_6 : decode cX8_deed 6 = .ok (.iload_n 1, 1) := by decide +kernel
theorem dX8_deed_7 : decode cX8_deed 7 = .ok (.invokevirtual 134, 3) := by decide +kernel
theorem dX8_deed_10 : decode cX8_deed 10 = .ok (.ifCond .eq 5, 3) := by decide +kernel
theorem dX8_deed_13 : decode cX8_deed 13 = .ok (.iconst (-1), 1) := by decide +kernel
theorem dX8_deed_14 : decode cX8_deed 14 = .ok (.ireturn, 1) := by decide +kernel
theorem dX8_deed_15 : decode cX8_deed 15 = .ok (.iload_n 2, 1) := by decide +kernel
theorem dX8_deed_16 : decode cX8_deed 16 = .ok (.i2l, 1) := by decide +kernel
theorem dX8_deed_17 : decode cX8_deed 17 = .ok (.lconst 0, 1) := by decide +kernel
theorem dX8_deed_18 : decode cX8_deed 18 = .ok (.ldc2_w 137, 3) := by decide +kernel
theorem dX8_deed_21 : decode cX8_deed 21 = .ok (.invokestatic 66, 3) := by decide +kernel
theorem dX8_deed_24 : decode cX8_deed 24 = .ok (.ifCond .eq 16, 3) := by decide +kernel
theorem dX8_deed_27 : decode cX8_deed 27 = .ok (.aload_n 0, 1) := by decide +kernel
theorem dX8_deed_28 : decode cX8_deed 28 = .ok (.getfield 19, 3) := by decide +kernel
theorem dX8_deed_31 : decode cX8_deed 31 = .ok (.iconst 5, 1) := by decide +kernel
theorem dX8_deed_32 : decode cX8_deed 32 = .ok (.iload_n 1, 1) := by decide +kernel
theorem dX8_deed_33 : decode cX8_deed 33 = .ok (.imul, 1) := by decide +kernel
theorem dX8_deed_34 : decode cX8_deed 34 = .ok (.iload_n 2, 1) := by decide +kernel
theorem dX8_deed_35 : decode cX8_deed 35 = .ok (.iadd, 1) := by decide +kernel
theorem dX8_deed_36 : decode cX8_deed 36 = .ok (.iaload, 1) := by decide +kernel
theorem dX8_deed_37 : decode cX8_deed 37 = .ok (.goto 24, 3) := by decide +kernel
theorem dX8_deed_40 : decode cX8_deed 40 = .ok (.iload_n 2, 1) := by decide +kernel
theorem dX8_deed_41 : decode cX8_deed 41 = .ok (.iconst 5, 1) := by decide +kernel
theorem dX8_deed_42 : decode cX8_deed 42 = .ok (.if_icmp .ne 17, 3) := by decide +kernel
theorem dX8_deed_45 : decode cX8_deed 45 = .ok (.aload_n 0, 1) := by decide +kernel
theorem dX8_deed_46 : decode cX8_deed 46 = .ok (.getfield 31, 3) := by decide +kernel
theorem dX8_deed_49 : decode cX8_deed 49 = .ok (.bipush 13, 2) := by decide +kernel
theorem dX8_deed_51 : decode cX8_deed 51 = .ok (.iaload, 1) := by decide +kernel
theorem dX8_deed_52 : decode cX8_deed 52 = .ok (.iload_n 1, 1) := by decide +kernel
theorem dX8_deed_53 : decode cX8_deed 53 = .ok (.ishr, 1) := by decide +kernel
theorem dX8_deed_54 : decode cX8_deed 54 = .ok (.iconst 1, 1) := by decide +kernel
theorem dX8_deed_55 : decode cX8_deed 55 = .ok (.iand, 1) := by decide +kernel
theorem dX8_deed_56 : decode cX8_deed 56 = .ok (.goto 5, 3) := by decide +kernel
theorem dX8_deed_59 : decode cX8_deed 59 = .ok (.bipush (-2), 2) := by decide +kernel
theorem dX8_deed_61 : decode cX8_deed 61 = .ok (.ireturn, 1) := by decide +kernel
theorem dX8_note_0 : decode cX8_note 0 = .ok (.aload_n 0, 1) := by decide +kernel
theorem dX8_note_1 : decode cX8_note 1 = .ok (.getfield 111, 3) := by decide +kernel
theorem dX8_note_4 : decode cX8_note 4 = .ok (.bipush 14, 2) := by decide +kernel
theorem dX8_note_6 : decode cX8_note 6 = .ok (.if_icmp .ne 43, 3) := by decide +kernel
theorem dX8_note_9 : decode cX8_note 9 = .ok (.iconst 0, 1) := by decide +kernel
theorem dX8_note_10 : decode cX8_note 10 = .ok (.istore_n 1, 1) := by decide +kernel
theorem dX8_note_11 : decode cX8_note 11 = .ok (.iload_n 1, 1) := by decide +kernel
theorem dX8_note_12 : decode cX8_note 12 = .ok (.sipush 208, 3) := by decide +kernel
theorem dX8_note_15 : decode cX8_note 15 = .ok (.if_icmp .ge 24, 3) := by decide +kernel
theorem dX8_note_18 : decode cX8_note 18 = .ok (.aload_n 0, 1) := by decide +kernel
theorem dX8_note_19 : decode cX8_note 19 = .ok (.getfield 37, 3) := by decide +kernel
theorem dX8_note_22 : decode cX8_note 22 = .ok (.iload_n 1, 1) := by decide +kernel
theorem dX8_note_23 : decode cX8_note 23 = .ok (.aload_n 0, 1) := by decide +kernel
theorem dX8_note_24 : decode cX8_note 24 = .ok (.getfield 37, 3) := by decide +kernel
theorem dX8_note_27 : decode cX8_note 27 = .ok (.iload_n 1, 1) := by decide +kernel
theorem dX8_note_28 : decode cX8_note 28 = .ok (.bipush 16, 2) := by decide +kernel
theorem dX8_note_30 : decode cX8_note 30 = .ok (.iadd, 1) := by decide +kernel
theorem dX8_note_31 : decode cX8_note 31 = .ok (.iaload, 1) := by decide +kernel
theorem dX8_note_32 : decode cX8_note 32 = .ok (.iastore, 1) := by decide +kernel
theorem dX8_note_33 : decode cX8_note 33 = .ok (.iinc 1 1, 3) := by decide +kernel
theorem dX8_note_36 : decode cX8_note 36 = .ok (.goto (-25), 3) := by decide +kernel
theorem dX8_note_39 : decode cX8_note 39 = .ok (.aload_n 0, 1) := by decide +kernel
theorem dX8_note_40 : decode cX8_note 40 = .ok (.dup, 1) := by decide +kernel
theorem dX8_note_41 : decode cX8_note 41 = .ok (.getfield 111, 3) := by decide +kernel
theorem dX8_note_44 : decode cX8_note 44 = .ok (.iconst 1, 1) := by decide +kernel
theorem dX8_note_45 : decode cX8_note 45 = .ok (.isub, 1) := by decide +kernel
theorem dX8_note_46 : decode cX8_note 46 = .ok (.putfield 111, 3) := by decide +kernel
theorem dX8_note_49 : decode cX8_note 49 = .ok (.iconst 0, 1) := by decide +kernel
theorem dX8_note_50 : decode cX8_note 50 = .ok (.istore_n 1, 1) := by decide +kernel
theorem dX8_note_51 : decode cX8_note 51 = .ok (.iload_n 1, 1) := by decide +kernel
theorem dX8_note_52 : decode cX8_note 52 = .ok (.bipush 16, 2) := by decide +kernel
theorem dX8_note_54 : decode cX8_note 54 = .ok (.if_icmp .ge 29, 3) := by decide +kernel
theorem dX8_note_57 : decode cX8_note 57 = .ok (.aload_n 0, 1) := by decide +kernel
theorem dX8_note_58 : decode cX8_note 58 = .ok (.getfield 37, 3) := by decide +kernel
theorem dX8_note_61 : decode cX8_note 61 = .ok (.bipush 16, 2) := by decide +kernel
theorem dX8_note_63 : decode cX8_note 63 = .ok (.aload_n 0, 1) := by decide +kernel
theorem dX8_note_64 : decode cX8_note 64 = .ok (.getfield 111, 3) := by decide +kernel
theorem dX8_note_67 : decode cX8_note 67 = .ok (.imul, 1) := by decide +kernel
theorem dX8_note_68 : decode cX8_note 68 = .ok (.iload_n 1, 1) := by decide +kernel
theorem dX8_note_69 : decode cX8_note 69 = .ok (.iadd, 1) := by decide +kernel
theorem dX8_note_70 : decode cX8_note 70 = .ok (.aload_n 0, 1) := by decide +kernel
theorem dX8_note_71 : decode cX8_note 71 = .ok (.getfield 31, 3) := by decide +kernel
theorem dX8_note_74 : decode cX8_note 74 = .ok (.iload_n 1, 1) := by decide +kernel
theorem dX8_note_75 : decode cX8_note 75 = .ok (.iaload, 1) := by decide +kernel
theorem dX8_note_76 : decode cX8_note 76 = .ok (.iastore, 1) := by decide +kernel
theorem dX8_note_77 : decode cX8_note 77 = .ok (.iinc 1 1, 3) := by decide +kernel
theorem dX8_note_80 : decode cX8_note 80 = .ok (.goto (-29), 3) := by decide +kernel
theorem dX8_note_83 : decode cX8_note 83 = .ok (.aload_n 0, 1) := by decide +kernel
theorem dX8_note_84 : decode cX8_note 84 = .ok (.dup, 1) := by decide +kernel
theorem dX8_note_85 : decode cX8_note 85 = .ok (.getfield 111, 3) := by decide +kernel
theorem dX8_note_88 : decode cX8_note 88 = .ok (.iconst 1, 1) := by decide +kernel
theorem dX8_note_89 : decode cX8_note 89 = .ok (.iadd, 1) := by decide +kernel
theorem dX8_note_90 : decode cX8_note 90 = .ok (.putfield 111, 3) := by decide +kernel
theorem dX8_note_93 : decode cX8_note 93 = .ok (.return_, 1) := by decide +kernel
theorem dX8_give_0 : decode cX8_give 0 = .ok (.aload_n 1, 1) := by decide +kernel
theorem dX8_give_1 : decode cX8_give 1 = .ok (.iload_n 2, 1) := by decide +kernel
theorem dX8_give_2 : decode cX8_give 2 = .ok (.dup2, 1) := by decide +kernel
theorem dX8_give_3 : decode cX8_give 3 = .ok (.iaload, 1) := by decide +kernel
theorem dX8_give_4 : decode cX8_give 4 = .ok (.iload_n 3, 1) := by decide +kernel
theorem dX8_give_5 : decode cX8_give 5 = .ok (.isub, 1) := by decide +kernel
theorem dX8_give_6 : decode cX8_give 6 = .ok (.iastore, 1) := by decide +kernel
theorem dX8_give_7 : decode cX8_give 7 = .ok (.aload_n 1, 1) := by decide +kernel
theorem dX8_give_8 : decode cX8_give 8 = .ok (.iconst 4, 1) := by decide +kernel
theorem dX8_give_9 : decode cX8_give 9 = .ok (.iload_n 2, 1) := by decide +kernel
theorem dX8_give_10 : decode cX8_give 10 = .ok (.iadd, 1) := by decide +kernel
theorem dX8_give_11 : decode cX8_give 11 = .ok (.dup2, 1) := by decide +kernel
theorem dX8_give_12 : decode cX8_give 12 = .ok (.iaload, 1) := by decide +kernel
theorem dX8_give_13 : decode cX8_give 13 = .ok (.iload_n 3, 1) := by decide +kernel
theorem dX8_give_14 : decode cX8_give 14 = .ok (.iadd, 1) := by decide +kernel
theorem dX8_give_15 : decode cX8_give 15 = .ok (.iastore, 1) := by decide +kernel
theorem dX8_give_16 : decode cX8_give 16 = .ok (.return_, 1) := by decide +kernel
theorem dX8_noDrink_0 : decode cX8_noDrink 0 = .ok (.aload_n 1, 1) := by decide +kernel
theorem dX8_noDrink_1 : decode cX8_noDrink 1 = .ok (.bipush 12, 2) := by decide +kernel
theorem dX8_noDrink_3 : decode cX8_noDrink 3 = .ok (.iaload, 1) := by decide +kernel
theorem dX8_noDrink_4 : decode cX8_noDrink 4 = .ok (.iload_n 2, 1) := by decide +kernel
theorem dX8_noDrink_5 : decode cX8_noDrink 5 = .ok (.invokestatic 130, 3) := by decide +kernel
theorem dX8_noDrink_8 : decode cX8_noDrink 8 = .ok (.ifCond .eq 8, 3) := by decide +kernel
theorem dX8_noDrink_11 : decode cX8_noDrink 11 = .ok (.bipush (-3), 2) := by decide +kernel
theorem dX8_noDrink_13 : decode cX8_noDrink 13 = .ok (.goto 32, 3) := by decide +kernel
theorem dX8_noDrink_16 : decode cX8_noDrink 16 = .ok (.aload_n 1, 1) := by decide +kernel
theorem dX8_noDrink_17 : decode cX8_noDrink 17 = .ok (.aload_n 0, 1) := by decide +kernel
theorem dX8_noDrink_18 : decode cX8_noDrink 18 = .ok (.getfield 16, 3) := by decide +kernel
theorem dX8_noDrink_21 : decode cX8_noDrink 21 = .ok (.iconst 4, 1) := by decide +kernel
theorem dX8_noDrink_22 : decode cX8_noDrink 22 = .ok (.iload_n 2, 1) := by decide +kernel
theorem dX8_noDrink_23 : decode cX8_noDrink 23 = .ok (.imul, 1) := by decide +kernel
theorem dX8_noDrink_24 : decode cX8_noDrink 24 = .ok (.iaload, 1) := by decide +kernel
theorem dX8_noDrink_25 : decode cX8_noDrink 25 = .ok (.iaload, 1) := by decide +kernel
theorem dX8_noDrink_26 : decode cX8_noDrink 26 = .ok (.aload_n 0, 1) := by decide +kernel
theorem dX8_noDrink_27 : decode cX8_noDrink 27 = .ok (.getfield 16, 3) := by decide +kernel
theorem dX8_noDrink_30 : decode cX8_noDrink 30 = .ok (.iconst 4, 1) := by decide +kernel
theorem dX8_noDrink_31 : decode cX8_noDrink 31 = .ok (.iload_n 2, 1) := by decide +kernel
theorem dX8_noDrink_32 : decode cX8_noDrink 32 = .ok (.imul, 1) := by decide +kernel
theorem dX8_noDrink_33 : decode cX8_noDrink 33 = .ok (.iconst 1, 1) := by decide +kernel
theorem dX8_noDrink_34 : decode cX8_noDrink 34 = .ok (.iadd, 1) := by decide +kernel
theorem dX8_noDrink_35 : decode cX8_noDrink 35 = .ok (.iaload, 1) := by decide +kernel
theorem dX8_noDrink_36 : decode cX8_noDrink 36 = .ok (.if_icmp .ge 8, 3) := by decide +kernel
theorem dX8_noDrink_39 : decode cX8_noDrink 39 = .ok (.bipush (-4), 2) := by decide +kernel
theorem dX8_noDrink_41 : decode cX8_noDrink 41 = .ok (.goto 4, 3) := by decide +kernel
theorem dX8_noDrink_44 : decode cX8_noDrink 44 = .ok (.iconst 0, 1) := by decide +kernel
theorem dX8_noDrink_45 : decode cX8_noDrink 45 = .ok (.ireturn, 1) := by decide +kernel
theorem dX8_noAct_0 : decode cX8_noAct 0 = .ok (.aload_n 1, 1) := by decide +kernel
theorem dX8_noAct_1 : decode cX8_noAct 1 = .ok (.bipush 13, 2) := by decide +kernel
theorem dX8_noAct_3 : decode cX8_noAct 3 = .ok (.iaload, 1) := by decide +kernel
theorem dX8_noAct_4 : decode cX8_noAct 4 = .ok (.iload_n 2, 1) := by decide +kernel
theorem dX8_noAct_5 : decode cX8_noAct 5 = .ok (.invokestatic 130, 3) := by decide +kernel
theorem dX8_noAct_8 : decode cX8_noAct 8 = .ok (.ifCond .eq 8, 3) := by decide +kernel
theorem dX8_noAct_11 : decode cX8_noAct 11 = .ok (.bipush (-3), 2) := by decide +kernel
theorem dX8_noAct_13 : decode cX8_noAct 13 = .ok (.goto 34, 3) := by decide +kernel
theorem dX8_noAct_16 : decode cX8_noAct 16 = .ok (.aload_n 1, 1) := by decide +kernel
theorem dX8_noAct_17 : decode cX8_noAct 17 = .ok (.aload_n 0, 1) := by decide +kernel
theorem dX8_noAct_18 : decode cX8_noAct 18 = .ok (.getfield 19, 3) := by decide +kernel
theorem dX8_noAct_21 : decode cX8_noAct 21 = .ok (.iconst 5, 1) := by decide +kernel
theorem dX8_noAct_22 : decode cX8_noAct 22 = .ok (.iload_n 2, 1) := by decide +kernel
theorem dX8_noAct_23 : decode cX8_noAct 23 = .ok (.imul, 1) := by decide +kernel
theorem dX8_noAct_24 : decode cX8_noAct 24 = .ok (.iconst 3, 1) := by decide +kernel
theorem dX8_noAct_25 : decode cX8_noAct 25 = .ok (.iadd, 1) := by decide +kernel
theorem dX8_noAct_26 : decode cX8_noAct 26 = .ok (.iaload, 1) := by decide +kernel
theorem dX8_noAct_27 : decode cX8_noAct 27 = .ok (.iaload, 1) := by decide +kernel
theorem dX8_noAct_28 : decode cX8_noAct 28 = .ok (.aload_n 0, 1) := by decide +kernel
theorem dX8_noAct_29 : decode cX8_noAct 29 = .ok (.getfield 19, 3) := by decide +kernel
theorem dX8_noAct_32 : decode cX8_noAct 32 = .ok (.iconst 5, 1) := by decide +kernel
theorem dX8_noAct_33 : decode cX8_noAct 33 = .ok (.iload_n 2, 1) := by decide +kernel
theorem dX8_noAct_34 : decode cX8_noAct 34 = .ok (.imul, 1) := by decide +kernel
theorem dX8_noAct_35 : decode cX8_noAct 35 = .ok (.iconst 4, 1) := by decide +kernel
theorem dX8_noAct_36 : decode cX8_noAct 36 = .ok (.iadd, 1) := by decide +kernel
theorem dX8_noAct_37 : decode cX8_noAct 37 = .ok (.iaload, 1) := by decide +kernel
theorem dX8_noAct_38 : decode cX8_noAct 38 = .ok (.if_icmp .ge 8, 3) := by decide +kernel
theorem dX8_noAct_41 : decode cX8_noAct 41 = .ok (.bipush (-4), 2) := by decide +kernel
theorem dX8_noAct_43 : decode cX8_noAct 43 = .ok (.goto 4, 3) := by decide +kernel
theorem dX8_noAct_46 : decode cX8_noAct 46 = .ok (.iconst 0, 1) := by decide +kernel
theorem dX8_noAct_47 : decode cX8_noAct 47 = .ok (.ireturn, 1) := by decide +kernel
theorem dX8_goDrink_0 : decode cX8_goDrink 0 = .ok (.aload_n 0, 1) := by decide +kernel
theorem dX8_goDrink_1 : decode cX8_goDrink 1 = .ok (.aload_n 1, 1) := by decide +kernel
theorem dX8_goDrink_2 : decode cX8_goDrink 2 = .ok (.aload_n 0, 1) := by decide +kernel
theorem dX8_goDrink_3 : decode cX8_goDrink 3 = .ok (.getfield 16, 3) := by decide +kernel
theorem dX8_goDrink_6 : decode cX8_goDrink 6 = .ok (.iconst 4, 1) := by decide +kernel
theorem dX8_goDrink_7 : decode cX8_goDrink 7 = .ok (.iload_n 2, 1) := by decide +kernel
theorem dX8_goDrink_8 : decode cX8_goDrink 8 = .ok (.imul, 1) := by decide +kernel
theorem dX8_goDrink_9 : decode cX8_goDrink 9 = .ok (.iaload, 1) := by decide +kernel
theorem dX8_goDrink_10 : decode cX8_goDrink 10 = .ok (.aload_n 0, 1) := by decide +kernel
theorem dX8_goDrink_11 : decode cX8_goDrink 11 = .ok (.getfield 16, 3) := by decide +kernel
theorem dX8_goDrink_14 : decode cX8_goDrink 14 = .ok (.iconst 4, 1) := by decide +kernel
theorem dX8_goDrink_15 : decode cX8_goDrink 15 = .ok (.iload_n 2, 1) := by decide +kernel
theorem dX8_goDrink_16 : decode cX8_goDrink 16 = .ok (.imul, 1) := by decide +kernel
theorem dX8_goDrink_17 : decode cX8_goDrink 17 = .ok (.iconst 1, 1) := by decide +kernel
theorem dX8_goDrink_18 : decode cX8_goDrink 18 = .ok (.iadd, 1) := by decide +kernel
theorem dX8_goDrink_19 : decode cX8_goDrink 19 = .ok (.iaload, 1) := by decide +kernel
theorem dX8_goDrink_20 : decode cX8_goDrink 20 = .ok (.invokevirtual 139, 3) := by decide +kernel
theorem dX8_goDrink_23 : decode cX8_goDrink 23 = .ok (.aload_n 1, 1) := by decide +kernel
theorem dX8_goDrink_24 : decode cX8_goDrink 24 = .ok (.bipush 12, 2) := by decide +kernel
theorem dX8_goDrink_26 : decode cX8_goDrink 26 = .ok (.dup2, 1) := by decide +kernel
theorem dX8_goDrink_27 : decode cX8_goDrink 27 = .ok (.iaload, 1) := by decide +kernel
theorem dX8_goDrink_28 : decode cX8_goDrink 28 = .ok (.iconst 1, 1) := by decide +kernel
theorem dX8_goDrink_29 : decode cX8_goDrink 29 = .ok (.iload_n 2, 1) := by decide +kernel
theorem dX8_goDrink_30 : decode cX8_goDrink 30 = .ok (.ishl, 1) := by decide +kernel
theorem dX8_goDrink_31 : decode cX8_goDrink 31 = .ok (.ior, 1) := by decide +kernel
theorem dX8_goDrink_32 : decode cX8_goDrink 32 = .ok (.iastore, 1) := by decide +kernel
theorem dX8_goDrink_33 : decode cX8_goDrink 33 = .ok (.return_, 1) := by decide +kernel
theorem dX8_goAct_0 : decode cX8_goAct 0 = .ok (.aload_n 0, 1) := by decide +kernel
theorem dX8_goAct_1 : decode cX8_goAct 1 = .ok (.aload_n 1, 1) := by decide +kernel
theorem dX8_goAct_2 : decode cX8_goAct 2 = .ok (.aload_n 0, 1) := by decide +kernel
theorem dX8_goAct_3 : decode cX8_goAct 3 = .ok (.getfield 19, 3) := by decide +kernel
theorem dX8_goAct_6 : decode cX8_goAct 6 = .ok (.iconst 5, 1) := by decide +kernel
theorem dX8_goAct_7 : decode cX8_goAct 7 = .ok (.iload_n 2, 1) := by decide +kernel
theorem dX8_goAct_8 : decode cX8_goAct 8 = .ok (.imul, 1) := by decide +kernel
theorem dX8_goAct_9 : decode cX8_goAct 9 = .ok (.iconst 3, 1) := by decide +kernel
theorem dX8_goAct_10 : decode cX8_goAct 10 = .ok (.iadd, 1) := by decide +kernel
theorem dX8_goAct_11 : decode cX8_goAct 11 = .ok (.iaload, 1) := by decide +kernel
theorem dX8_goAct_12 : decode cX8_goAct 12 = .ok (.aload_n 0, 1) := by decide +kernel
theorem dX8_goAct_13 : decode cX8_goAct 13 = .ok (.getfield 19, 3) := by decide +kernel
theorem dX8_goAct_16 : decode cX8_goAct 16 = .ok (.iconst 5, 1) := by decide +kernel
theorem dX8_goAct_17 : decode cX8_goAct 17 = .ok (.iload_n 2, 1) := by decide +kernel
theorem dX8_goAct_18 : decode cX8_goAct 18 = .ok (.imul, 1) := by decide +kernel
theorem dX8_goAct_19 : decode cX8_goAct 19 = .ok (.iconst 4, 1) := by decide +kernel
theorem dX8_goAct_20 : decode cX8_goAct 20 = .ok (.iadd, 1) := by decide +kernel
theorem dX8_goAct_21 : decode cX8_goAct 21 = .ok (.iaload, 1) := by decide +kernel
theorem dX8_goAct_22 : decode cX8_goAct 22 = .ok (.invokevirtual 139, 3) := by decide +kernel
theorem dX8_goAct_25 : decode cX8_goAct 25 = .ok (.aload_n 1, 1) := by decide +kernel
theorem dX8_goAct_26 : decode cX8_goAct 26 = .ok (.bipush 13, 2) := by decide +kernel
theorem dX8_goAct_28 : decode cX8_goAct 28 = .ok (.dup2, 1) := by decide +kernel
theorem dX8_goAct_29 : decode cX8_goAct 29 = .ok (.iaload, 1) := by decide +kernel
theorem dX8_goAct_30 : decode cX8_goAct 30 = .ok (.iconst 1, 1) := by decide +kernel
theorem dX8_goAct_31 : decode cX8_goAct 31 = .ok (.iload_n 2, 1) := by decide +kernel
theorem dX8_goAct_32 : decode cX8_goAct 32 = .ok (.ishl, 1) := by decide +kernel
theorem dX8_goAct_33 : decode cX8_goAct 33 = .ok (.ior, 1) := by decide +kernel
theorem dX8_goAct_34 : decode cX8_goAct 34 = .ok (.iastore, 1) := by decide +kernel
theorem dX8_goAct_35 : decode cX8_goAct 35 = .ok (.aload_n 0, 1) := by decide +kernel
theorem dX8_goAct_36 : decode cX8_goAct 36 = .ok (.getfield 16, 3) := by decide +kernel
theorem dX8_goAct_39 : decode cX8_goAct 39 = .ok (.iconst 4, 1) := by decide +kernel
theorem dX8_goAct_40 : decode cX8_goAct 40 = .ok (.aload_n 0, 1) := by decide +kernel
theorem dX8_goAct_41 : decode cX8_goAct 41 = .ok (.getfield 19, 3) := by decide +kernel
theorem dX8_goAct_44 : decode cX8_goAct 44 = .ok (.iconst 5, 1) := by decide +kernel
theorem dX8_goAct_45 : decode cX8_goAct 45 = .ok (.iload_n 2, 1) := by decide +kernel
theorem dX8_goAct_46 : decode cX8_goAct 46 = .ok (.imul, 1) := by decide +kernel
theorem dX8_goAct_47 : decode cX8_goAct 47 = .ok (.iaload, 1) := by decide +kernel
theorem dX8_goAct_48 : decode cX8_goAct 48 = .ok (.imul, 1) := by decide +kernel
theorem dX8_goAct_49 : decode cX8_goAct 49 = .ok (.iconst 2, 1) := by decide +kernel
theorem dX8_goAct_50 : decode cX8_goAct 50 = .ok (.iadd, 1) := by decide +kernel
theorem dX8_goAct_51 : decode cX8_goAct 51 = .ok (.iaload, 1) := by decide +kernel
theorem dX8_goAct_52 : decode cX8_goAct 52 = .ok (.aload_n 0, 1) := by decide +kernel
theorem dX8_goAct_53 : decode cX8_goAct 53 = .ok (.getfield 19, 3) := by decide +kernel
theorem dX8_goAct_56 : decode cX8_goAct 56 = .ok (.iconst 5, 1) := by decide +kernel
theorem dX8_goAct_57 : decode cX8_goAct 57 = .ok (.iload_n 2, 1) := by decide +kernel
theorem dX8_goAct_58 : decode cX8_goAct 58 = .ok (.imul, 1) := by decide +kernel
theorem dX8_goAct_59 : decode cX8_goAct 59 = .ok (.iconst 1, 1) := by decide +kernel
theorem dX8_goAct_60 : decode cX8_goAct 60 = .ok (.iadd, 1) := by decide +kernel
theorem dX8_goAct_61 : decode cX8_goAct 61 = .ok (.iaload, 1) := by decide +kernel
theorem dX8_goAct_62 : decode cX8_goAct 62 = .ok (.if_icmp .ne 7, 3) := by decide +kernel
theorem dX8_goAct_65 : decode cX8_goAct 65 = .ok (.iconst 1, 1) := by decide +kernel
theorem dX8_goAct_66 : decode cX8_goAct 66 = .ok (.goto 4, 3) := by decide +kernel
theorem dX8_goAct_69 : decode cX8_goAct 69 = .ok (.iconst 0, 1) := by decide +kernel
theorem dX8_goAct_70 : decode cX8_goAct 70 = .ok (.istore_n 3, 1) := by decide +kernel
theorem dX8_goAct_71 : decode cX8_goAct 71 = .ok (.aload_n 1, 1) := by decide +kernel
theorem dX8_goAct_72 : decode cX8_goAct 72 = .ok (.bipush 15, 2) := by decide +kernel
theorem dX8_goAct_74 : decode cX8_goAct 74 = .ok (.dup2, 1) := by decide +kernel
theorem dX8_goAct_75 : decode cX8_goAct 75 = .ok (.iaload, 1) := by decide +kernel
theorem dX8_goAct_76 : decode cX8_goAct 76 = .ok (.iload_n 3, 1) := by decide +kernel
theorem dX8_goAct_77 : decode cX8_goAct 77 = .ok (.ifCond .eq 16, 3) := by decide +kernel
theorem dX8_goAct_80 : decode cX8_goAct 80 = .ok (.aload_n 0, 1) := by decide +kernel
theorem dX8_goAct_81 : decode cX8_goAct 81 = .ok (.getfield 19, 3) := by decide +kernel
theorem dX8_goAct_84 : decode cX8_goAct 84 = .ok (.iconst 5, 1) := by decide +kernel
theorem dX8_goAct_85 : decode cX8_goAct 85 = .ok (.iload_n 2, 1) := by decide +kernel
theorem dX8_goAct_86 : decode cX8_goAct 86 = .ok (.imul, 1) := by decide +kernel
theorem dX8_goAct_87 : decode cX8_goAct 87 = .ok (.iconst 2, 1) := by decide +kernel
theorem dX8_goAct_88 : decode cX8_goAct 88 = .ok (.iadd, 1) := by decide +kernel
theorem dX8_goAct_89 : decode cX8_goAct 89 = .ok (.iaload, 1) := by decide +kernel
theorem dX8_goAct_90 : decode cX8_goAct 90 = .ok (.goto 14, 3) := by decide +kernel
theorem dX8_goAct_93 : decode cX8_goAct 93 = .ok (.aload_n 0, 1) := by decide +kernel
theorem dX8_goAct_94 : decode cX8_goAct 94 = .ok (.getfield 19, 3) := by decide +kernel
theorem dX8_goAct_97 : decode cX8_goAct 97 = .ok (.iconst 5, 1) := by decide +kernel
theorem dX8_goAct_98 : decode cX8_goAct 98 = .ok (.iload_n 2, 1) := by decide +kernel
theorem dX8_goAct_99 : decode cX8_goAct 99 = .ok (.imul, 1) := by decide +kernel
theorem dX8_goAct_100 : decode cX8_goAct 100 = .ok (.iconst 2, 1) := by decide +kernel
theorem dX8_goAct_101 : decode cX8_goAct 101 = .ok (.iadd, 1) := by decide +kernel
theorem dX8_goAct_102 : decode cX8_goAct 102 = .ok (.iaload, 1) := by decide +kernel
theorem dX8_goAct_103 : decode cX8_goAct 103 = .ok (.ineg, 1) := by decide +kernel
theorem dX8_goAct_104 : decode cX8_goAct 104 = .ok (.iadd, 1) := by decide +kernel
theorem dX8_goAct_105 : decode cX8_goAct 105 = .ok (.iastore, 1) := by decide +kernel
theorem dX8_goAct_106 : decode cX8_goAct 106 = .ok (.return_, 1) := by decide +kernel
theorem dX8_goDay_0 : decode cX8_goDay 0 = .ok (.iconst 0, 1) := by decide +kernel
theorem dX8_goDay_1 : decode cX8_goDay 1 = .ok (.istore_n 2, 1) := by decide +kernel
theorem dX8_goDay_2 : decode cX8_goDay 2 = .ok (.iconst 0, 1) := by decide +kernel
theorem dX8_goDay_3 : decode cX8_goDay 3 = .ok (.istore_n 3, 1) := by decide +kernel
theorem dX8_goDay_4 : decode cX8_goDay 4 = .ok (.iload_n 3, 1) := by decide +kernel
theorem dX8_goDay_5 : decode cX8_goDay 5 = .ok (.aload_n 0, 1) := by decide +kernel
theorem dX8_goDay_6 : decode cX8_goDay 6 = .ok (.getfield 108, 3) := by decide +kernel
theorem dX8_goDay_9 : decode cX8_goDay 9 = .ok (.if_icmp .ge 91, 3) := by decide +kernel
theorem dX8_goDay_12 : decode cX8_goDay 12 = .ok (.aload_n 0, 1) := by decide +kernel
theorem dX8_goDay_13 : decode cX8_goDay 13 = .ok (.getfield 13, 3) := by decide +kernel
theorem dX8_goDay_16 : decode cX8_goDay 16 = .ok (.iconst 3, 1) := by decide +kernel
theorem dX8_goDay_17 : decode cX8_goDay 17 = .ok (.iload_n 3, 1) := by decide +kernel
theorem dX8_goDay_18 : decode cX8_goDay 18 = .ok (.imul, 1) := by decide +kernel
theorem dX8_goDay_19 : decode cX8_goDay 19 = .ok (.iconst 2, 1) := by decide +kernel
theorem dX8_goDay_20 : decode cX8_goDay 20 = .ok (.iadd, 1) := by decide +kernel
theorem dX8_goDay_21 : decode cX8_goDay 21 = .ok (.iaload, 1) := by decide +kernel
theorem dX8_goDay_22 : decode cX8_goDay 22 = .ok (.iconst 1, 1) := by decide +kernel
theorem dX8_goDay_23 : decode cX8_goDay 23 = .ok (.if_icmp .ne 12, 3) := by decide +kernel
theorem dX8_goDay_26 : decode cX8_goDay 26 = .ok (.aload_n 1, 1) := by decide +kernel
theorem dX8_goDay_27 : decode cX8_goDay 27 = .ok (.bipush 8, 2) := by decide +kernel
theorem dX8_goDay_29 : decode cX8_goDay 29 = .ok (.iload_n 3, 1) := by decide +kernel
theorem dX8_goDay_30 : decode cX8_goDay 30 = .ok (.iadd, 1) := by decide +kernel
theorem dX8_goDay_31 : decode cX8_goDay 31 = .ok (.iaload, 1) := by decide +kernel
theorem dX8_goDay_32 : decode cX8_goDay 32 = .ok (.goto 30, 3) := by decide +kernel
theorem dX8_goDay_35 : decode cX8_goDay 35 = .ok (.aload_n 0, 1) := by decide +kernel
theorem dX8_goDay_36 : decode cX8_goDay 36 = .ok (.getfield 13, 3) := by decide +kernel
theorem dX8_goDay_39 : decode cX8_goDay 39 = .ok (.iconst 3, 1) := by decide +kernel
theorem dX8_goDay_40 : decode cX8_goDay 40 = .ok (.iload_n 3, 1) := by decide +kernel
theorem dX8_goDay_41 : decode cX8_goDay 41 = .ok (.imul, 1) := by decide +kernel
theorem dX8_goDay_42 : decode cX8_goDay 42 = .ok (.iconst 2, 1) := by decide +kernel
theorem dX8_goDay_43 : decode cX8_goDay 43 = .ok (.iadd, 1) := by decide +kernel
theorem dX8_goDay_44 : decode cX8_goDay 44 = .ok (.iaload, 1) := by decide +kernel
theorem dX8_goDay_45 : decode cX8_goDay 45 = .ok (.iconst 2, 1) := by decide +kernel
theorem dX8_goDay_46 : decode cX8_goDay 46 = .ok (.if_icmp .ne 15, 3) := by decide +kernel
theorem dX8_goDay_49 : decode cX8_goDay 49 = .ok (.aload_n 1, 1) := by decide +kernel
theorem dX8_goDay_50 : decode cX8_goDay 50 = .ok (.iload_n 3, 1) := by decide +kernel
theorem dX8_goDay_51 : decode cX8_goDay 51 = .ok (.iaload, 1) := by decide +kernel
theorem dX8_goDay_52 : decode cX8_goDay 52 = .ok (.bipush 9, 2) := by decide +kernel
theorem dX8_goDay_54 : decode cX8_goDay 54 = .ok (.if_icmp .ge 7, 3) := by decide +kernel
theorem dX8_goDay_57 : decode cX8_goDay 57 = .ok (.iconst 1, 1) := by decide +kernel
theorem dX8_goDay_58 : decode cX8_goDay 58 = .ok (.goto 4, 3) := by decide +kernel
theorem dX8_goDay_61 : decode cX8_goDay 61 = .ok (.iconst 0, 1) := by decide +kernel
theorem dX8_goDay_62 : decode cX8_goDay 62 = .ok (.istore 4, 2) := by decide +kernel
theorem dX8_goDay_64 : decode cX8_goDay 64 = .ok (.aload_n 1, 1) := by decide +kernel
theorem dX8_goDay_65 : decode cX8_goDay 65 = .ok (.iload_n 3, 1) := by decide +kernel
theorem dX8_goDay_66 : decode cX8_goDay 66 = .ok (.dup2, 1) := by decide +kernel
theorem dX8_goDay_67 : decode cX8_goDay 67 = .ok (.iaload, 1) := by decide +kernel
theorem dX8_goDay_68 : decode cX8_goDay 68 = .ok (.iload 4, 2) := by decide +kernel
theorem dX8_goDay_70 : decode cX8_goDay 70 = .ok (.iadd, 1) := by decide +kernel
theorem dX8_goDay_71 : decode cX8_goDay 71 = .ok (.iastore, 1) := by decide +kernel
theorem dX8_goDay_72 : decode cX8_goDay 72 = .ok (.iload_n 2, 1) := by decide +kernel
theorem dX8_goDay_73 : decode cX8_goDay 73 = .ok (.iload 4, 2) := by decide +kernel
theorem dX8_goDay_75 : decode cX8_goDay 75 = .ok (.iadd, 1) := by decide +kernel
theorem dX8_goDay_76 : decode cX8_goDay 76 = .ok (.istore_n 2, 1) := by decide +kernel
theorem dX8_goDay_77 : decode cX8_goDay 77 = .ok (.aload_n 1, 1) := by decide +kernel
theorem dX8_goDay_78 : decode cX8_goDay 78 = .ok (.bipush 8, 2) := by decide +kernel
theorem dX8_goDay_80 : decode cX8_goDay 80 = .ok (.iload_n 3, 1) := by decide +kernel
theorem dX8_goDay_81 : decode cX8_goDay 81 = .ok (.iadd, 1) := by decide +kernel
theorem dX8_goDay_82 : decode cX8_goDay 82 = .ok (.aload_n 1, 1) := by decide +kernel
theorem dX8_goDay_83 : decode cX8_goDay 83 = .ok (.iconst 4, 1) := by decide +kernel
theorem dX8_goDay_84 : decode cX8_goDay 84 = .ok (.iload_n 3, 1) := by decide +kernel
theorem dX8_goDay_85 : decode cX8_goDay 85 = .ok (.iadd, 1) := by decide +kernel
theorem dX8_goDay_86 : decode cX8_goDay 86 = .ok (.iaload, 1) := by decide +kernel
theorem dX8_goDay_87 : decode cX8_goDay 87 = .ok (.iastore, 1) := by decide +kernel
theorem dX8_goDay_88 : decode cX8_goDay 88 = .ok (.aload_n 1, 1) := by decide +kernel
theorem dX8_goDay_89 : decode cX8_goDay 89 = .ok (.iconst 4, 1) := by decide +kernel
theorem dX8_goDay_90 : decode cX8_goDay 90 = .ok (.iload_n 3, 1) := by decide +kernel
theorem dX8_goDay_91 : decode cX8_goDay 91 = .ok (.iadd, 1) := by decide +kernel
theorem dX8_goDay_92 : decode cX8_goDay 92 = .ok (.iconst 0, 1) := by decide +kernel
theorem dX8_goDay_93 : decode cX8_goDay 93 = .ok (.iastore, 1) := by decide +kernel
theorem dX8_goDay_94 : decode cX8_goDay 94 = .ok (.iinc 3 1, 3) := by decide +kernel
theorem dX8_goDay_97 : decode cX8_goDay 97 = .ok (.goto (-93), 3) := by decide +kernel
theorem dX8_goDay_100 : decode cX8_goDay 100 = .ok (.aload_n 1, 1) := by decide +kernel
theorem dX8_goDay_101 : decode cX8_goDay 101 = .ok (.bipush 14, 2) := by decide +kernel
theorem dX8_goDay_103 : decode cX8_goDay 103 = .ok (.dup2, 1) := by decide +kernel
theorem dX8_goDay_104 : decode cX8_goDay 104 = .ok (.iaload, 1) := by decide +kernel
theorem dX8_goDay_105 : decode cX8_goDay 105 = .ok (.iconst 1, 1) := by decide +kernel
theorem dX8_goDay_106 : decode cX8_goDay 106 = .ok (.iadd, 1) := by decide +kernel
theorem dX8_goDay_107 : decode cX8_goDay 107 = .ok (.iastore, 1) := by decide +kernel
theorem dX8_goDay_108 : decode cX8_goDay 108 = .ok (.iload_n 2, 1) := by decide +kernel
theorem dX8_goDay_109 : decode cX8_goDay 109 = .ok (.ireturn, 1) := by decide +kernel
theorem dX8_drink_0 : decode cX8_drink 0 = .ok (.aload_n 0, 1) := by decide +kernel
theorem dX8_drink_1 : decode cX8_drink 1 = .ok (.iconst 0, 1) := by decide +kernel
theorem dX8_drink_2 : decode cX8_drink 2 = .ok (.putfield 59, 3) := by decide +kernel
theorem dX8_drink_5 : decode cX8_drink 5 = .ok (.aload_n 0, 1) := by decide +kernel
theorem dX8_drink_6 : decode cX8_drink 6 = .ok (.iload_n 1, 1) := by decide +kernel
theorem dX8_drink_7 : decode cX8_drink 7 = .ok (.invokevirtual 126, 3) := by decide +kernel
theorem dX8_drink_10 : decode cX8_drink 10 = .ok (.ifCond .eq 5, 3) := by decide +kernel
theorem dX8_drink_13 : decode cX8_drink 13 = .ok (.iconst (-1), 1) := by decide +kernel
theorem dX8_drink_14 : decode cX8_drink 14 = .ok (.ireturn, 1) := by decide +kernel
theorem dX8_drink_15 : decode cX8_drink 15 = .ok (.aload_n 0, 1) := by decide +kernel
theorem dX8_drink_16 : decode cX8_drink 16 = .ok (.aload_n 0, 1) := by decide +kernel
theorem dX8_drink_17 : decode cX8_drink 17 = .ok (.getfield 31, 3) := by decide +kernel
theorem dX8_drink_20 : decode cX8_drink 20 = .ok (.iload_n 1, 1) := by decide +kernel
theorem dX8_drink_21 : decode cX8_drink 21 = .ok (.invokevirtual 143, 3) := by decide +kernel
theorem dX8_drink_24 : decode cX8_drink 24 = .ok (.istore_n 2, 1) := by decide +kernel
theorem dX8_drink_25 : decode cX8_drink 25 = .ok (.iload_n 2, 1) := by decide +kernel
theorem dX8_drink_26 : decode cX8_drink 26 = .ok (.ifCond .eq 5, 3) := by decide +kernel
theorem dX8_drink_29 : decode cX8_drink 29 = .ok (.iload_n 2, 1) := by decide +kernel
theorem dX8_drink_30 : decode cX8_drink 30 = .ok (.ireturn, 1) := by decide +kernel
theorem dX8_drink_31 : decode cX8_drink 31 = .ok (.aload_n 0, 1) := by decide +kernel
theorem dX8_drink_32 : decode cX8_drink 32 = .ok (.invokevirtual 147, 3) := by decide +kernel
theorem dX8_drink_35 : decode cX8_drink 35 = .ok (.aload_n 0, 1) := by decide +kernel
theorem dX8_drink_36 : decode cX8_drink 36 = .ok (.aload_n 0, 1) := by decide +kernel
theorem dX8_drink_37 : decode cX8_drink 37 = .ok (.getfield 31, 3) := by decide +kernel
theorem dX8_drink_40 : decode cX8_drink 40 = .ok (.iload_n 1, 1) := by decide +kernel
theorem dX8_drink_41 : decode cX8_drink 41 = .ok (.invokevirtual 150, 3) := by decide +kernel
theorem dX8_drink_44 : decode cX8_drink 44 = .ok (.aload_n 0, 1) := by decide +kernel
theorem dX8_drink_45 : decode cX8_drink 45 = .ok (.getfield 16, 3) := by decide +kernel
theorem dX8_drink_48 : decode cX8_drink 48 = .ok (.iconst 4, 1) := by decide +kernel
theorem dX8_drink_49 : decode cX8_drink 49 = .ok (.iload_n 1, 1) := by decide +kernel
theorem dX8_drink_50 : decode cX8_drink 50 = .ok (.imul, 1) := by decide +kernel
theorem dX8_drink_51 : decode cX8_drink 51 = .ok (.iconst 2, 1) := by decide +kernel
theorem dX8_drink_52 : decode cX8_drink 52 = .ok (.iadd, 1) := by decide +kernel
theorem dX8_drink_53 : decode cX8_drink 53 = .ok (.iaload, 1) := by decide +kernel
theorem dX8_drink_54 : decode cX8_drink 54 = .ok (.ireturn, 1) := by decide +kernel
theorem dX8_act_0 : decode cX8_act 0 = .ok (.aload_n 0, 1) := by decide +kernel
theorem dX8_act_1 : decode cX8_act 1 = .ok (.iconst 0, 1) := by decide +kernel
theorem dX8_act_2 : decode cX8_act 2 = .ok (.putfield 59, 3) := by decide +kernel
theorem dX8_act_5 : decode cX8_act 5 = .ok (.aload_n 0, 1) := by decide +kernel
theorem dX8_act_6 : decode cX8_act 6 = .ok (.iload_n 1, 1) := by decide +kernel
theorem dX8_act_7 : decode cX8_act 7 = .ok (.invokevirtual 134, 3) := by decide +kernel
theorem dX8_act_10 : decode cX8_act 10 = .ok (.ifCond .eq 5, 3) := by decide +kernel
theorem dX8_act_13 : decode cX8_act 13 = .ok (.iconst (-1), 1) := by decide +kernel
theorem dX8_act_14 : decode cX8_act 14 = .ok (.ireturn, 1) := by decide +kernel
theorem dX8_act_15 : decode cX8_act 15 = .ok (.aload_n 0, 1) := by decide +kernel
theorem dX8_act_16 : decode cX8_act 16 = .ok (.aload_n 0, 1) := by decide +kernel
theorem dX8_act_17 : decode cX8_act 17 = .ok (.getfield 31, 3) := by decide +kernel
theorem dX8_act_20 : decode cX8_act 20 = .ok (.iload_n 1, 1) := by decide +kernel
theorem dX8_act_21 : decode cX8_act 21 = .ok (.invokevirtual 154, 3) := by decide +kernel
theorem dX8_act_24 : decode cX8_act 24 = .ok (.istore_n 2, 1) := by decide +kernel
theorem dX8_act_25 : decode cX8_act 25 = .ok (.iload_n 2, 1) := by decide +kernel
theorem dX8_act_26 : decode cX8_act 26 = .ok (.ifCond .eq 5, 3) := by decide +kernel
theorem dX8_act_29 : decode cX8_act 29 = .ok (.iload_n 2, 1) := by decide +kernel
theorem dX8_act_30 : decode cX8_act 30 = .ok (.ireturn, 1) := by decide +kernel
theorem dX8_act_31 : decode cX8_act 31 = .ok (.aload_n 0, 1) := by decide +kernel
theorem dX8_act_32 : decode cX8_act 32 = .ok (.invokevirtual 147, 3) := by decide +kernel
theorem dX8_act_35 : decode cX8_act 35 = .ok (.aload_n 0, 1) := by decide +kernel
theorem dX8_act_36 : decode cX8_act 36 = .ok (.aload_n 0, 1) := by decide +kernel
theorem dX8_act_37 : decode cX8_act 37 = .ok (.getfield 31, 3) := by decide +kernel
theorem dX8_act_40 : decode cX8_act 40 = .ok (.iload_n 1, 1) := by decide +kernel
theorem dX8_act_41 : decode cX8_act 41 = .ok (.invokevirtual 157, 3) := by decide +kernel
theorem dX8_act_44 : decode cX8_act 44 = .ok (.aload_n 0, 1) := by decide +kernel
theorem dX8_act_45 : decode cX8_act 45 = .ok (.aload_n 0, 1) := by decide +kernel
theorem dX8_act_46 : decode cX8_act 46 = .ok (.getfield 31, 3) := by decide +kernel
theorem dX8_act_49 : decode cX8_act 49 = .ok (.invokevirtual 118, 3) := by decide +kernel
theorem dX8_act_52 : decode cX8_act 52 = .ok (.ireturn, 1) := by decide +kernel
theorem dX8_day_0 : decode cX8_day 0 = .ok (.aload_n 0, 1) := by decide +kernel
theorem dX8_day_1 : decode cX8_day 1 = .ok (.iconst 0, 1) := by decide +kernel
theorem dX8_day_2 : decode cX8_day 2 = .ok (.putfield 59, 3) := by decide +kernel
theorem dX8_day_5 : decode cX8_day 5 = .ok (.aload_n 0, 1) := by decide +kernel
theorem dX8_day_6 : decode cX8_day 6 = .ok (.invokevirtual 147, 3) := by decide +kernel
theorem dX8_day_9 : decode cX8_day 9 = .ok (.aload_n 0, 1) := by decide +kernel
theorem dX8_day_10 : decode cX8_day 10 = .ok (.aload_n 0, 1) := by decide +kernel
theorem dX8_day_11 : decode cX8_day 11 = .ok (.getfield 31, 3) := by decide +kernel
theorem dX8_day_14 : decode cX8_day 14 = .ok (.invokevirtual 160, 3) := by decide +kernel
theorem dX8_day_17 : decode cX8_day 17 = .ok (.ireturn, 1) := by decide +kernel
theorem dX8_undo_0 : decode cX8_undo 0 = .ok (.aload_n 0, 1) := by decide +kernel
theorem dX8_undo_1 : decode cX8_undo 1 = .ok (.iconst 0, 1) := by decide +kernel
theorem dX8_undo_2 : decode cX8_undo 2 = .ok (.putfield 59, 3) := by decide +kernel
theorem dX8_undo_5 : decode cX8_undo 5 = .ok (.aload_n 0, 1) := by decide +kernel
theorem dX8_undo_6 : decode cX8_undo 6 = .ok (.getfield 111, 3) := by decide +kernel
theorem dX8_undo_9 : decode cX8_undo 9 = .ok (.ifCond .ne 6, 3) := by decide +kernel
theorem dX8_undo_12 : decode cX8_undo 12 = .ok (.bipush (-3), 2) := by decide +kernel
theorem dX8_undo_14 : decode cX8_undo 14 = .ok (.ireturn, 1) := by decide +kernel
theorem dX8_undo_15 : decode cX8_undo 15 = .ok (.aload_n 0, 1) := by decide +kernel
theorem dX8_undo_16 : decode cX8_undo 16 = .ok (.dup, 1) := by decide +kernel
theorem dX8_undo_17 : decode cX8_undo 17 = .ok (.getfield 111, 3) := by decide +kernel
theorem dX8_undo_20 : decode cX8_undo 20 = .ok (.iconst 1, 1) := by decide +kernel
theorem dX8_undo_21 : decode cX8_undo 21 = .ok (.isub, 1) := by decide +kernel
theorem dX8_undo_22 : decode cX8_undo 22 = .ok (.putfield 111, 3) := by decide +kernel
theorem dX8_undo_25 : decode cX8_undo 25 = .ok (.iconst 0, 1) := by decide +kernel
theorem dX8_undo_26 : decode cX8_undo 26 = .ok (.istore_n 1, 1) := by decide +kernel
theorem dX8_undo_27 : decode cX8_undo 27 = .ok (.iload_n 1, 1) := by decide +kernel
theorem dX8_undo_28 : decode cX8_undo 28 = .ok (.bipush 16, 2) := by decide +kernel
theorem dX8_undo_30 : decode cX8_undo 30 = .ok (.if_icmp .ge 29, 3) := by decide +kernel
theorem dX8_undo_33 : decode cX8_undo 33 = .ok (.aload_n 0, 1) := by decide +kernel
theorem dX8_undo_34 : decode cX8_undo 34 = .ok (.getfield 31, 3) := by decide +kernel
theorem dX8_undo_37 : decode cX8_undo 37 = .ok (.iload_n 1, 1) := by decide +kernel
theorem dX8_undo_38 : decode cX8_undo 38 = .ok (.aload_n 0, 1) := by decide +kernel
theorem dX8_undo_39 : decode cX8_undo 39 = .ok (.getfield 37, 3) := by decide +kernel
theorem dX8_undo_42 : decode cX8_undo 42 = .ok (.bipush 16, 2) := by decide +kernel
theorem dX8_undo_44 : decode cX8_undo 44 = .ok (.aload_n 0, 1) := by decide +kernel
theorem dX8_undo_45 : decode cX8_undo 45 = .ok (.getfield 111, 3) := by decide +kernel
theorem dX8_undo_48 : decode cX8_undo 48 = .ok (.imul, 1) := by decide +kernel
theorem dX8_undo_49 : decode cX8_undo 49 = .ok (.iload_n 1, 1) := by decide +kernel
theorem dX8_undo_50 : decode cX8_undo 50 = .ok (.iadd, 1) := by decide +kernel
theorem dX8_undo_51 : decode cX8_undo 51 = .ok (.iaload, 1) := by decide +kernel
theorem dX8_undo_52 : decode cX8_undo 52 = .ok (.iastore, 1) := by decide +kernel
theorem dX8_undo_53 : decode cX8_undo 53 = .ok (.iinc 1 1, 3) := by decide +kernel
theorem dX8_undo_56 : decode cX8_undo 56 = .ok (.goto (-29), 3) := by decide +kernel
theorem dX8_undo_59 : decode cX8_undo 59 = .ok (.aload_n 0, 1) := by decide +kernel
theorem dX8_undo_60 : decode cX8_undo 60 = .ok (.getfield 111, 3) := by decide +kernel
theorem dX8_undo_63 : decode cX8_undo 63 = .ok (.ireturn, 1) := by decide +kernel
theorem dX8_canDrink_0 : decode cX8_canDrink 0 = .ok (.iconst 0, 1) := by decide +kernel
theorem dX8_canDrink_1 : decode cX8_canDrink 1 = .ok (.istore_n 1, 1) := by decide +kernel
theorem dX8_canDrink_2 : decode cX8_canDrink 2 = .ok (.iconst 0, 1) := by decide +kernel
theorem dX8_canDrink_3 : decode cX8_canDrink 3 = .ok (.istore_n 2, 1) := by decide +kernel
theorem dX8_canDrink_4 : decode cX8_canDrink 4 = .ok (.iload_n 2, 1) := by decide +kernel
theorem dX8_canDrink_5 : decode cX8_canDrink 5 = .ok (.aload_n 0, 1) := by decide +kernel
theorem dX8_canDrink_6 : decode cX8_canDrink 6 = .ok (.getfield 63, 3) := by decide +kernel
theorem dX8_canDrink_9 : decode cX8_canDrink 9 = .ok (.if_icmp .ge 31, 3) := by decide +kernel
theorem dX8_canDrink_12 : decode cX8_canDrink 12 = .ok (.iload_n 1, 1) := by decide +kernel
theorem dX8_canDrink_13 : decode cX8_canDrink 13 = .ok (.aload_n 0, 1) := by decide +kernel
theorem dX8_canDrink_14 : decode cX8_canDrink 14 = .ok (.aload_n 0, 1) := by decide +kernel
theorem dX8_canDrink_15 : decode cX8_canDrink 15 = .ok (.getfield 31, 3) := by decide +kernel
theorem dX8_canDrink_18 : decode cX8_canDrink 18 = .ok (.iload_n 2, 1) := by decide +kernel
theorem dX8_canDrink_19 : decode cX8_canDrink 19 = .ok (.invokevirtual 143, 3) := by decide +kernel
theorem dX8_canDrink_22 : decode cX8_canDrink 22 = .ok (.ifCond .ne 9, 3) := by decide +kernel
theorem dX8_canDrink_25 : decode cX8_canDrink 25 = .ok (.iconst 1, 1) := by decide +kernel
theorem dX8_canDrink_26 : decode cX8_canDrink 26 = .ok (.iload_n 2, 1) := by decide +kernel
theorem dX8_canDrink_27 : decode cX8_canDrink 27 = .ok (.ishl, 1) := by decide +kernel
theorem dX8_canDrink_28 : decode cX8_canDrink 28 = .ok (.goto 4, 3) := by decide +kernel
theorem dX8_canDrink_31 : decode cX8_canDrink 31 = .ok (.iconst 0, 1) := by decide +kernel
theorem dX8_canDrink_32 : decode cX8_canDrink 32 = .ok (.ior, 1) := by decide +kernel
theorem dX8_canDrink_33 : decode cX8_canDrink 33 = .ok (.istore_n 1, 1) := by decide +kernel
theorem dX8_canDrink_34 : decode cX8_canDrink 34 = .ok (.iinc 2 1, 3) := by decide +kernel
theorem dX8_canDrink_37 : decode cX8_canDrink 37 = .ok (.goto (-33), 3) := by decide +kernel
theorem dX8_canDrink_40 : decode cX8_canDrink 40 = .ok (.iload_n 1, 1) := by decide +kernel
theorem dX8_canDrink_41 : decode cX8_canDrink 41 = .ok (.ireturn, 1) := by decide +kernel
theorem dX8_can_0 : decode cX8_can 0 = .ok (.aload_n 0, 1) := by decide +kernel
theorem dX8_can_1 : decode cX8_can 1 = .ok (.iconst 0, 1) := by decide +kernel
theorem dX8_can_2 : decode cX8_can 2 = .ok (.putfield 59, 3) := by decide +kernel
theorem dX8_can_5 : decode cX8_can 5 = .ok (.iload_n 1, 1) := by decide +kernel
theorem dX8_can_6 : decode cX8_can 6 = .ok (.i2l, 1) := by decide +kernel
theorem dX8_can_7 : decode cX8_can 7 = .ok (.lconst 0, 1) := by decide +kernel
theorem dX8_can_8 : decode cX8_can 8 = .ok (.lconst 1, 1) := by decide +kernel
theorem dX8_can_9 : decode cX8_can 9 = .ok (.invokestatic 66, 3) := by decide +kernel
theorem dX8_can_12 : decode cX8_can 12 = .ok (.ifCond .ne 6, 3) := by decide +kernel
theorem dX8_can_15 : decode cX8_can 15 = .ok (.bipush (-2), 2) := by decide +kernel
theorem dX8_can_17 : decode cX8_can 17 = .ok (.ireturn, 1) := by decide +kernel
theorem dX8_can_18 : decode cX8_can 18 = .ok (.iconst 0, 1) := by decide +kernel
theorem dX8_can_19 : decode cX8_can 19 = .ok (.istore_n 2, 1) := by decide +kernel
theorem dX8_can_20 : decode cX8_can 20 = .ok (.iconst 0, 1) := by decide +kernel
theorem dX8_can_21 : decode cX8_can 21 = .ok (.istore_n 3, 1) := by decide +kernel
theorem dX8_can_22 : decode cX8_can 22 = .ok (.iload_n 3, 1) := by decide +kernel
theorem dX8_can_23 : decode cX8_can 23 = .ok (.aload_n 0, 1) := by decide +kernel
theorem dX8_can_24 : decode cX8_can 24 = .ok (.getfield 70, 3) := by decide +kernel
theorem dX8_can_27 : decode cX8_can 27 = .ok (.if_icmp .ge 31, 3) := by decide +kernel
theorem dX8_can_30 : decode cX8_can 30 = .ok (.iload_n 2, 1) := by decide +kernel
theorem dX8_can_31 : decode cX8_can 31 = .ok (.aload_n 0, 1) := by decide +kernel
theorem dX8_can_32 : decode cX8_can 32 = .ok (.aload_n 0, 1) := by decide +kernel
theorem dX8_can_33 : decode cX8_can 33 = .ok (.getfield 31, 3) := by decide +kernel
theorem dX8_can_36 : decode cX8_can 36 = .ok (.iload_n 3, 1) := by decide +kernel
theorem dX8_can_37 : decode cX8_can 37 = .ok (.invokevirtual 154, 3) := by decide +kernel
theorem dX8_can_40 : decode cX8_can 40 = .ok (.ifCond .ne 9, 3) := by decide +kernel
theorem dX8_can_43 : decode cX8_can 43 = .ok (.iconst 1, 1) := by decide +kernel
theorem dX8_can_44 : decode cX8_can 44 = .ok (.iload_n 3, 1) := by decide +kernel
theorem dX8_can_45 : decode cX8_can 45 = .ok (.ishl, 1) := by decide +kernel
theorem dX8_can_46 : decode cX8_can 46 = .ok (.goto 4, 3) := by decide +kernel
theorem dX8_can_49 : decode cX8_can 49 = .ok (.iconst 0, 1) := by decide +kernel
theorem dX8_can_50 : decode cX8_can 50 = .ok (.ior, 1) := by decide +kernel
theorem dX8_can_51 : decode cX8_can 51 = .ok (.istore_n 2, 1) := by decide +kernel
theorem dX8_can_52 : decode cX8_can 52 = .ok (.iinc 3 1, 3) := by decide +kernel
theorem dX8_can_55 : decode cX8_can 55 = .ok (.goto (-33), 3) := by decide +kernel
theorem dX8_can_58 : decode cX8_can 58 = .ok (.iload_n 1, 1) := by decide +kernel
theorem dX8_can_59 : decode cX8_can 59 = .ok (.ifCond .ne 10, 3) := by decide +kernel
theorem dX8_can_62 : decode cX8_can 62 = .ok (.aload_n 0, 1) := by decide +kernel
theorem dX8_can_63 : decode cX8_can 63 = .ok (.invokevirtual 163, 3) := by decide +kernel
theorem dX8_can_66 : decode cX8_can 66 = .ok (.goto 4, 3) := by decide +kernel
theorem dX8_can_69 : decode cX8_can 69 = .ok (.iload_n 2, 1) := by decide +kernel
theorem dX8_can_70 : decode cX8_can 70 = .ok (.ireturn, 1) := by decide +kernel
theorem dX8_three_0 : decode cX8_three 0 = .ok (.iconst 1, 1) := by decide +kernel
theorem dX8_three_1 : decode cX8_three 1 = .ok (.istore_n 1, 1) := by decide +kernel
theorem dX8_three_2 : decode cX8_three 2 = .ok (.iconst 0, 1) := by decide +kernel
theorem dX8_three_3 : decode cX8_three 3 = .ok (.istore_n 2, 1) := by decide +kernel
theorem dX8_three_4 : decode cX8_three 4 = .ok (.iload_n 2, 1) := by decide +kernel
theorem dX8_three_5 : decode cX8_three 5 = .ok (.iload_n 0, 1) := by decide +kernel
theorem dX8_three_6 : decode cX8_three 6 = .ok (.if_icmp .ge 13, 3) := by decide +kernel
theorem dX8_three_9 : decode cX8_three 9 = .ok (.iload_n 1, 1) := by decide +kernel
theorem dX8_three_10 : decode cX8_three 10 = .ok (.iconst 3, 1) := by decide +kernel
theorem dX8_three_11 : decode cX8_three 11 = .ok (.imul, 1) := by decide +kernel
theorem dX8_three_12 : decode cX8_three 12 = .ok (.istore_n 1, 1) := by decide +kernel
theorem dX8_three_13 : decode cX8_three 13 = .ok (.iinc 2 1, 3) := by decide +kernel
theorem dX8_three_16 : decode cX8_three 16 = .ok (.goto (-12), 3) := by decide +kernel
theorem dX8_three_19 : decode cX8_three 19 = .ok (.iload_n 1, 1) := by decide +kernel
theorem dX8_three_20 : decode cX8_three 20 = .ok (.ireturn, 1) := by decide +kernel
theorem dX8_ten_0 : decode cX8_ten 0 = .ok (.iconst 1, 1) := by decide +kernel
theorem dX8_ten_1 : decode cX8_ten 1 = .ok (.istore_n 1, 1) := by decide +kernel
theorem dX8_ten_2 : decode cX8_ten 2 = .ok (.iconst 0, 1) := by decide +kernel
theorem dX8_ten_3 : decode cX8_ten 3 = .ok (.istore_n 2, 1) := by decide +kernel
theorem dX8_ten_4 : decode cX8_ten 4 = .ok (.iload_n 2, 1) := by decide +kernel
theorem dX8_ten_5 : decode cX8_ten 5 = .ok (.iload_n 0, 1) := by decide +kernel
theorem dX8_ten_6 : decode cX8_ten 6 = .ok (.if_icmp .ge 14, 3) := by decide +kernel
theorem dX8_ten_9 : decode cX8_ten 9 = .ok (.iload_n 1, 1) := by decide +kernel
theorem dX8_ten_10 : decode cX8_ten 10 = .ok (.bipush 10, 2) := by decide +kernel
theorem dX8_ten_12 : decode cX8_ten 12 = .ok (.imul, 1) := by decide +kernel
theorem dX8_ten_13 : decode cX8_ten 13 = .ok (.istore_n 1, 1) := by decide +kernel
theorem dX8_ten_14 : decode cX8_ten 14 = .ok (.iinc 2 1, 3) := by decide +kernel
theorem dX8_ten_17 : decode cX8_ten 17 = .ok (.goto (-13), 3) := by decide +kernel
theorem dX8_ten_20 : decode cX8_ten 20 = .ok (.iload_n 1, 1) := by decide +kernel
theorem dX8_ten_21 : decode cX8_ten 21 = .ok (.ireturn, 1) := by decide +kernel
theorem dX8_knows_0 : decode cX8_knows 0 = .ok (.iload_n 0, 1) := by decide +kernel
theorem dX8_knows_1 : decode cX8_knows 1 = .ok (.iload_n 1, 1) := by decide +kernel
theorem dX8_knows_2 : decode cX8_knows 2 = .ok (.invokestatic 166, 3) := by decide +kernel
theorem dX8_knows_5 : decode cX8_knows 5 = .ok (.idiv, 1) := by decide +kernel
theorem dX8_knows_6 : decode cX8_knows 6 = .ok (.iconst 3, 1) := by decide +kernel
theorem dX8_knows_7 : decode cX8_knows 7 = .ok (.irem, 1) := by decide +kernel
theorem dX8_knows_8 : decode cX8_knows 8 = .ok (.ireturn, 1) := by decide +kernel
theorem dX8_codeNow_0 : decode cX8_codeNow 0 = .ok (.iconst 0, 1) := by decide +kernel
theorem dX8_codeNow_1 : decode cX8_codeNow 1 = .ok (.istore_n 1, 1) := by decide +kernel
theorem dX8_codeNow_2 : decode cX8_codeNow 2 = .ok (.iconst 0, 1) := by decide +kernel
theorem dX8_codeNow_3 : decode cX8_codeNow 3 = .ok (.istore_n 2, 1) := by decide +kernel
theorem dX8_codeNow_4 : decode cX8_codeNow 4 = .ok (.iload_n 2, 1) := by decide +kernel
theorem dX8_codeNow_5 : decode cX8_codeNow 5 = .ok (.aload_n 0, 1) := by decide +kernel
theorem dX8_codeNow_6 : decode cX8_codeNow 6 = .ok (.getfield 63, 3) := by decide +kernel
theorem dX8_codeNow_9 : decode cX8_codeNow 9 = .ok (.if_icmp .ge 47, 3) := by decide +kernel
theorem dX8_codeNow_12 : decode cX8_codeNow 12 = .ok (.iload_n 1, 1) := by decide +kernel
theorem dX8_codeNow_13 : decode cX8_codeNow 13 = .ok (.aload_n 0, 1) := by decide +kernel
theorem dX8_codeNow_14 : decode cX8_codeNow 14 = .ok (.getfield 31, 3) := by decide +kernel
theorem dX8_codeNow_17 : decode cX8_codeNow 17 = .ok (.bipush 12, 2) := by decide +kernel
theorem dX8_codeNow_19 : decode cX8_codeNow 19 = .ok (.iaload, 1) := by decide +kernel
theorem dX8_codeNow_20 : decode cX8_codeNow 20 = .ok (.iload_n 2, 1) := by decide +kernel
theorem dX8_codeNow_21 : decode cX8_codeNow 21 = .ok (.invokestatic 130, 3) := by decide +kernel
theorem dX8_codeNow_24 : decode cX8_codeNow 24 = .ok (.ifCond .eq 23, 3) := by decide +kernel
theorem dX8_codeNow_27 : decode cX8_codeNow 27 = .ok (.iload_n 2, 1) := by decide +kernel
theorem dX8_codeNow_28 : decode cX8_codeNow 28 = .ok (.invokestatic 166, 3) := by decide +kernel
theorem dX8_codeNow_31 : decode cX8_codeNow 31 = .ok (.iconst 1, 1) := by decide +kernel
theorem dX8_codeNow_32 : decode cX8_codeNow 32 = .ok (.aload_n 0, 1) := by decide +kernel
theorem dX8_codeNow_33 : decode cX8_codeNow 33 = .ok (.getfield 16, 3) := by decide +kernel
theorem dX8_codeNow_36 : decode cX8_codeNow 36 = .ok (.iconst 4, 1) := by decide +kernel
theorem dX8_codeNow_37 : decode cX8_codeNow 37 = .ok (.iload_n 2, 1) := by decide +kernel
theorem dX8_codeNow_38 : decode cX8_codeNow 38 = .ok (.imul, 1) := by decide +kernel
theorem dX8_codeNow_39 : decode cX8_codeNow 39 = .ok (.iconst 2, 1) := by decide +kernel
theorem dX8_codeNow_40 : decode cX8_codeNow 40 = .ok (.iadd, 1) := by decide +kernel
theorem dX8_codeNow_41 : decode cX8_codeNow 41 = .ok (.iaload, 1) := by decide +kernel
theorem dX8_codeNow_42 : decode cX8_codeNow 42 = .ok (.iadd, 1) := by decide +kernel
theorem dX8_codeNow_43 : decode cX8_codeNow 43 = .ok (.imul, 1) := by decide +kernel
theorem dX8_codeNow_44 : decode cX8_codeNow 44 = .ok (.goto 4, 3) := by decide +kernel
theorem dX8_codeNow_47 : decode cX8_codeNow 47 = .ok (.iconst 0, 1) := by decide +kernel
theorem dX8_codeNow_48 : decode cX8_codeNow 48 = .ok (.iadd, 1) := by decide +kernel
theorem dX8_codeNow_49 : decode cX8_codeNow 49 = .ok (.istore_n 1, 1) := by decide +kernel
theorem dX8_codeNow_50 : decode cX8_codeNow 50 = .ok (.iinc 2 1, 3) := by decide +kernel
theorem dX8_codeNow_53 : decode cX8_codeNow 53 = .ok (.goto (-49), 3) := by decide +kernel
theorem dX8_codeNow_56 : decode cX8_codeNow 56 = .ok (.iload_n 1, 1) := by decide +kernel
theorem dX8_codeNow_57 : decode cX8_codeNow 57 = .ok (.ireturn, 1) := by decide +kernel
theorem dX8_knownBy_0 : decode cX8_knownBy 0 = .ok (.iconst 0, 1) := by decide +kernel
theorem dX8_knownBy_1 : decode cX8_knownBy 1 = .ok (.istore_n 2, 1) := by decide +kernel
theorem dX8_knownBy_2 : decode cX8_knownBy 2 = .ok (.iconst 0, 1) := by decide +kernel
theorem dX8_knownBy_3 : decode cX8_knownBy 3 = .ok (.istore_n 3, 1) := by decide +kernel
theorem dX8_knownBy_4 : decode cX8_knownBy 4 = .ok (.iload_n 3, 1) := by decide +kernel
theorem dX8_knownBy_5 : decode cX8_knownBy 5 = .ok (.aload_n 0, 1) := by decide +kernel
theorem dX8_knownBy_6 : decode cX8_knownBy 6 = .ok (.getfield 63, 3) := by decide +kernel
theorem dX8_knownBy_9 : decode cX8_knownBy 9 = .ok (.if_icmp .ge 27, 3) := by decide +kernel
theorem dX8_knownBy_12 : decode cX8_knownBy 12 = .ok (.iload_n 2, 1) := by decide +kernel
theorem dX8_knownBy_13 : decode cX8_knownBy 13 = .ok (.iload_n 1, 1) := by decide +kernel
theorem dX8_knownBy_14 : decode cX8_knownBy 14 = .ok (.iload_n 3, 1) := by decide +kernel
theorem dX8_knownBy_15 : decode cX8_knownBy 15 = .ok (.invokestatic 170, 3) := by decide +kernel
theorem dX8_knownBy_18 : decode cX8_knownBy 18 = .ok (.ifCond .ne 7, 3) := by decide +kernel
theorem dX8_knownBy_21 : decode cX8_knownBy 21 = .ok (.iconst 0, 1) := by decide +kernel
theorem dX8_knownBy_22 : decode cX8_knownBy 22 = .ok (.goto 6, 3) := by decide +kernel
theorem dX8_knownBy_25 : decode cX8_knownBy 25 = .ok (.iconst 1, 1) := by decide +kernel
theorem dX8_knownBy_26 : decode cX8_knownBy 26 = .ok (.iload_n 3, 1) := by decide +kernel
theorem dX8_knownBy_27 : decode cX8_knownBy 27 = .ok (.ishl, 1) := by decide +kernel
theorem dX8_knownBy_28 : decode cX8_knownBy 28 = .ok (.ior, 1) := by decide +kernel
theorem dX8_knownBy_29 : decode cX8_knownBy 29 = .ok (.istore_n 2, 1) := by decide +kernel
theorem dX8_knownBy_30 : decode cX8_knownBy 30 = .ok (.iinc 3 1, 3) := by decide +kernel
theorem dX8_knownBy_33 : decode cX8_knownBy 33 = .ok (.goto (-29), 3) := by decide +kernel
theorem dX8_knownBy_36 : decode cX8_knownBy 36 = .ok (.iload_n 2, 1) := by decide +kernel
theorem dX8_knownBy_37 : decode cX8_knownBy 37 = .ok (.ireturn, 1) := by decide +kernel
theorem dX8_layThere_0 : decode cX8_layThere 0 = .ok (.aload_n 0, 1) := by decide +kernel
theorem dX8_layThere_1 : decode cX8_layThere 1 = .ok (.iload_n 1, 1) := by decide +kernel
theorem dX8_layThere_2 : decode cX8_layThere 2 = .ok (.invokevirtual 173, 3) := by decide +kernel
theorem dX8_layThere_5 : decode cX8_layThere 5 = .ok (.aload_n 0, 1) := by decide +kernel
theorem dX8_layThere_6 : decode cX8_layThere 6 = .ok (.getfield 31, 3) := by decide +kernel
theorem dX8_layThere_9 : decode cX8_layThere 9 = .ok (.bipush 12, 2) := by decide +kernel
theorem dX8_layThere_11 : decode cX8_layThere 11 = .ok (.iaload, 1) := by decide +kernel
theorem dX8_layThere_12 : decode cX8_layThere 12 = .ok (.iconst (-1), 1) := by decide +kernel
theorem dX8_layThere_13 : decode cX8_layThere 13 = .ok (.ixor, 1) := by decide +kernel
theorem dX8_layThere_14 : decode cX8_layThere 14 = .ok (.iand, 1) := by decide +kernel
theorem dX8_layThere_15 : decode cX8_layThere 15 = .ok (.istore_n 3, 1) := by decide +kernel
theorem dX8_layThere_16 : decode cX8_layThere 16 = .ok (.iconst 0, 1) := by decide +kernel
theorem dX8_layThere_17 : decode cX8_layThere 17 = .ok (.istore 4, 2) := by decide +kernel
theorem dX8_layThere_19 : decode cX8_layThere 19 = .ok (.iload 4, 2) := by decide +kernel
theorem dX8_layThere_21 : decode cX8_layThere 21 = .ok (.iconst 4, 1) := by decide +kernel
theorem dX8_layThere_22 : decode cX8_layThere 22 = .ok (.if_icmp .ge 23, 3) := by decide +kernel
theorem dX8_layThere_25 : decode cX8_layThere 25 = .ok (.aload_n 0, 1) := by decide +kernel
theorem dX8_layThere_26 : decode cX8_layThere 26 = .ok (.getfield 56, 3) := by decide +kernel
theorem dX8_layThere_29 : decode cX8_layThere 29 = .ok (.iload 4, 2) := by decide +kernel
theorem dX8_layThere_31 : decode cX8_layThere 31 = .ok (.aload_n 0, 1) := by decide +kernel
theorem dX8_layThere_32 : decode cX8_layThere 32 = .ok (.getfield 31, 3) := by decide +kernel
theorem dX8_layThere_35 : decode cX8_layThere 35 = .ok (.iload 4, 2) := by decide +kernel
theorem dX8_layThere_37 : decode cX8_layThere 37 = .ok (.iaload, 1) := by decide +kernel
theorem dX8_layThere_38 : decode cX8_layThere 38 = .ok (.iastore, 1) := by decide +kernel
theorem dX8_layThere_39 : decode cX8_layThere 39 = .ok (.iinc 4 1, 3) := by decide +kernel
theorem dX8_layThere_42 : decode cX8_layThere 42 = .ok (.goto (-23), 3) := by decide +kernel
theorem dX8_layThere_45 : decode cX8_layThere 45 = .ok (.iconst 0, 1) := by decide +kernel
theorem dX8_layThere_46 : decode cX8_layThere 46 = .ok (.istore 4, 2) := by decide +kernel
theorem dX8_layThere_48 : decode cX8_layThere 48 = .ok (.iload 4, 2) := by decide +kernel
theorem dX8_layThere_50 : decode cX8_layThere 50 = .ok (.aload_n 0, 1) := by decide +kernel
theorem dX8_layThere_51 : decode cX8_layThere 51 = .ok (.getfield 63, 3) := by decide +kernel
theorem dX8_layThere_54 : decode cX8_layThere 54 = .ok (.if_icmp .ge 50, 3) := by decide +kernel
theorem dX8_layThere_57 : decode cX8_layThere 57 = .ok (.aload_n 0, 1) := by decide +kernel
theorem dX8_layThere_58 : decode cX8_layThere 58 = .ok (.getfield 56, 3) := by decide +kernel
theorem dX8_layThere_61 : decode cX8_layThere 61 = .ok (.aload_n 0, 1) := by decide +kernel
theorem dX8_layThere_62 : decode cX8_layThere 62 = .ok (.getfield 16, 3) := by decide +kernel
theorem dX8_layThere_65 : decode cX8_layThere 65 = .ok (.iconst 4, 1) := by decide +kernel
theorem dX8_layThere_66 : decode cX8_layThere 66 = .ok (.iload 4, 2) := by decide +kernel
theorem dX8_layThere_68 : decode cX8_layThere 68 = .ok (.imul, 1) := by decide +kernel
theorem dX8_layThere_69 : decode cX8_layThere 69 = .ok (.iaload, 1) := by decide +kernel
theorem dX8_layThere_70 : decode cX8_layThere 70 = .ok (.dup2, 1) := by decide +kernel
theorem dX8_layThere_71 : decode cX8_layThere 71 = .ok (.iaload, 1) := by decide +kernel
theorem dX8_layThere_72 : decode cX8_layThere 72 = .ok (.iload_n 3, 1) := by decide +kernel
theorem dX8_layThere_73 : decode cX8_layThere 73 = .ok (.iload 4, 2) := by decide +kernel
theorem dX8_layThere_75 : decode cX8_layThere 75 = .ok (.invokestatic 130, 3) := by decide +kernel
theorem dX8_layThere_78 : decode cX8_layThere 78 = .ok (.ifCond .eq 17, 3) := by decide +kernel
theorem dX8_layThere_81 : decode cX8_layThere 81 = .ok (.aload_n 0, 1) := by decide +kernel
theorem dX8_layThere_82 : decode cX8_layThere 82 = .ok (.getfield 16, 3) := by decide +kernel
theorem dX8_layThere_85 : decode cX8_layThere 85 = .ok (.iconst 4, 1) := by decide +kernel
theorem dX8_layThere_86 : decode cX8_layThere 86 = .ok (.iload 4, 2) := by decide +kernel
theorem dX8_layThere_88 : decode cX8_layThere 88 = .ok (.imul, 1) := by decide +kernel
theorem dX8_layThere_89 : decode cX8_layThere 89 = .ok (.iconst 1, 1) := by decide +kernel
theorem dX8_layThere_90 : decode cX8_layThere 90 = .ok (.iadd, 1) := by decide +kernel
theorem dX8_layThere_91 : decode cX8_layThere 91 = .ok (.iaload, 1) := by decide +kernel
theorem dX8_layThere_92 : decode cX8_layThere 92 = .ok (.goto 4, 3) := by decide +kernel
theorem dX8_layThere_95 : decode cX8_layThere 95 = .ok (.iconst 0, 1) := by decide +kernel
theorem dX8_layThere_96 : decode cX8_layThere 96 = .ok (.isub, 1) := by decide +kernel
theorem dX8_layThere_97 : decode cX8_layThere 97 = .ok (.iastore, 1) := by decide +kernel
theorem dX8_layThere_98 : decode cX8_layThere 98 = .ok (.iinc 4 1, 3) := by decide +kernel
theorem dX8_layThere_101 : decode cX8_layThere 101 = .ok (.goto (-53), 3) := by decide +kernel
theorem dX8_layThere_104 : decode cX8_layThere 104 = .ok (.iconst 0, 1) := by decide +kernel
theorem dX8_layThere_105 : decode cX8_layThere 105 = .ok (.istore 4, 2) := by decide +kernel
theorem dX8_layThere_107 : decode cX8_layThere 107 = .ok (.iload 4, 2) := by decide +kernel
theorem dX8_layThere_109 : decode cX8_layThere 109 = .ok (.aload_n 0, 1) := by decide +kernel
theorem dX8_layThere_110 : decode cX8_layThere 110 = .ok (.getfield 70, 3) := by decide +kernel
theorem dX8_layThere_113 : decode cX8_layThere 113 = .ok (.if_icmp .ge 62, 3) := by decide +kernel
theorem dX8_layThere_116 : decode cX8_layThere 116 = .ok (.aload_n 0, 1) := by decide +kernel
theorem dX8_layThere_117 : decode cX8_layThere 117 = .ok (.getfield 56, 3) := by decide +kernel
theorem dX8_layThere_120 : decode cX8_layThere 120 = .ok (.aload_n 0, 1) := by decide +kernel
theorem dX8_layThere_121 : decode cX8_layThere 121 = .ok (.getfield 19, 3) := by decide +kernel
theorem dX8_layThere_124 : decode cX8_layThere 124 = .ok (.iconst 5, 1) := by decide +kernel
