theorem dX8_layThere_125 : decode cX8_layThere 125 = .ok (.iload 4, 2) := by decide +kernel
theorem dX8_layThere_127 : decode cX8_layThere 127 = .ok (.imul, 1) := by decide +kernel
theorem dX8_layThere_128 : decode cX8_layThere 128 = .ok (.iconst 3, 1) := by decide +kernel
theorem dX8_layThere_129 : decode cX8_layThere 129 = .ok (.iadd, 1) := by decide +kernel
theorem dX8_layThere_130 : decode cX8_layThere 130 = .ok (.iaload, 1) := by decide +kernel
theorem dX8_layThere_131 : decode cX8_layThere 131 = .ok (.dup2, 1) := by decide +kernel
theorem dX8_layThere_132 : decode cX8_layThere 132 = .ok (.iaload, 1) := by decide +kernel
theorem dX8_layThere_133 : decode cX8_layThere 133 = .ok (.iload_n 2, 1) := by decide +kernel
theorem dX8_layThere_134 : decode cX8_layThere 134 = .ok (.aload_n 0, 1) := by decide +kernel
theorem dX8_layThere_135 : decode cX8_layThere 135 = .ok (.getfield 31, 3) := by decide +kernel
theorem dX8_layThere_138 : decode cX8_layThere 138 = .ok (.bipush 13, 2) := by decide +kernel
theorem dX8_layThere_140 : decode cX8_layThere 140 = .ok (.iaload, 1) := by decide +kernel
theorem dX8_layThere_141 : decode cX8_layThere 141 = .ok (.iconst (-1), 1) := by decide +kernel
theorem dX8_layThere_142 : decode cX8_layThere 142 = .ok (.ixor, 1) := by decide +kernel
theorem dX8_layThere_143 : decode cX8_layThere 143 = .ok (.iand, 1) := by decide +kernel
theorem dX8_layThere_144 : decode cX8_layThere 144 = .ok (.iload 4, 2) := by decide +kernel
theorem dX8_layThere_146 : decode cX8_layThere 146 = .ok (.invokestatic 130, 3) := by decide +kernel
theorem dX8_layThere_149 : decode cX8_layThere 149 = .ok (.ifCond .eq 17, 3) := by decide +kernel
theorem dX8_layThere_152 : decode cX8_layThere 152 = .ok (.aload_n 0, 1) := by decide +kernel
theorem dX8_layThere_153 : decode cX8_layThere 153 = .ok (.getfield 19, 3) := by decide +kernel
theorem dX8_layThere_156 : decode cX8_layThere 156 = .ok (.iconst 5, 1) := by decide +kernel
theorem dX8_layThere_157 : decode cX8_layThere 157 = .ok (.iload 4, 2) := by decide +kernel
theorem dX8_layThere_159 : decode cX8_layThere 159 = .ok (.imul, 1) := by decide +kernel
theorem dX8_layThere_160 : decode cX8_layThere 160 = .ok (.iconst 4, 1) := by decide +kernel
theorem dX8_layThere_161 : decode cX8_layThere 161 = .ok (.iadd, 1) := by decide +kernel
theorem dX8_layThere_162 : decode cX8_layThere 162 = .ok (.iaload, 1) := by decide +kernel
theorem dX8_layThere_163 : decode cX8_layThere 163 = .ok (.goto 4, 3) := by decide +kernel
theorem dX8_layThere_166 : decode cX8_layThere 166 = .ok (.iconst 0, 1) := by decide +kernel
theorem dX8_layThere_167 : decode cX8_layThere 167 = .ok (.isub, 1) := by decide +kernel
theorem dX8_layThere_168 : decode cX8_layThere 168 = .ok (.iastore, 1) := by decide +kernel
theorem dX8_layThere_169 : decode cX8_layThere 169 = .ok (.iinc 4 1, 3) := by decide +kernel
theorem dX8_layThere_172 : decode cX8_layThere 172 = .ok (.goto (-65), 3) := by decide +kernel
theorem dX8_layThere_175 : decode cX8_layThere 175 = .ok (.return_, 1) := by decide +kernel
theorem dX8_winsBy_0 : decode cX8_winsBy 0 = .ok (.iconst 0, 1) := by decide +kernel
theorem dX8_winsBy_1 : decode cX8_winsBy 1 = .ok (.istore 4, 2) := by decide +kernel
theorem dX8_winsBy_3 : decode cX8_winsBy 3 = .ok (.iconst 0, 1) := by decide +kernel
theorem dX8_winsBy_4 : decode cX8_winsBy 4 = .ok (.istore 5, 2) := by decide +kernel
theorem dX8_winsBy_6 : decode cX8_winsBy 6 = .ok (.iload 5, 2) := by decide +kernel
theorem dX8_winsBy_8 : decode cX8_winsBy 8 = .ok (.aload_n 0, 1) := by decide +kernel
theorem dX8_winsBy_9 : decode cX8_winsBy 9 = .ok (.getfield 70, 3) := by decide +kernel
theorem dX8_winsBy_12 : decode cX8_winsBy 12 = .ok (.if_icmp .ge 103, 3) := by decide +kernel
theorem dX8_winsBy_15 : decode cX8_winsBy 15 = .ok (.iload_n 1, 1) := by decide +kernel
theorem dX8_winsBy_16 : decode cX8_winsBy 16 = .ok (.aload_n 0, 1) := by decide +kernel
theorem dX8_winsBy_17 : decode cX8_winsBy 17 = .ok (.getfield 31, 3) := by decide +kernel
theorem dX8_winsBy_20 : decode cX8_winsBy 20 = .ok (.bipush 13, 2) := by decide +kernel
theorem dX8_winsBy_22 : decode cX8_winsBy 22 = .ok (.iaload, 1) := by decide +kernel
theorem dX8_winsBy_23 : decode cX8_winsBy 23 = .ok (.iconst (-1), 1) := by decide +kernel
theorem dX8_winsBy_24 : decode cX8_winsBy 24 = .ok (.ixor, 1) := by decide +kernel
theorem dX8_winsBy_25 : decode cX8_winsBy 25 = .ok (.iand, 1) := by decide +kernel
theorem dX8_winsBy_26 : decode cX8_winsBy 26 = .ok (.iload 5, 2) := by decide +kernel
theorem dX8_winsBy_28 : decode cX8_winsBy 28 = .ok (.invokestatic 130, 3) := by decide +kernel
theorem dX8_winsBy_31 : decode cX8_winsBy 31 = .ok (.ifCond .eq 20, 3) := by decide +kernel
theorem dX8_winsBy_34 : decode cX8_winsBy 34 = .ok (.aload_n 0, 1) := by decide +kernel
theorem dX8_winsBy_35 : decode cX8_winsBy 35 = .ok (.getfield 19, 3) := by decide +kernel
theorem dX8_winsBy_38 : decode cX8_winsBy 38 = .ok (.iconst 5, 1) := by decide +kernel
theorem dX8_winsBy_39 : decode cX8_winsBy 39 = .ok (.iload 5, 2) := by decide +kernel
theorem dX8_winsBy_41 : decode cX8_winsBy 41 = .ok (.imul, 1) := by decide +kernel
theorem dX8_winsBy_42 : decode cX8_winsBy 42 = .ok (.iaload, 1) := by decide +kernel
theorem dX8_winsBy_43 : decode cX8_winsBy 43 = .ok (.iload_n 2, 1) := by decide +kernel
theorem dX8_winsBy_44 : decode cX8_winsBy 44 = .ok (.if_icmp .ne 7, 3) := by decide +kernel
theorem dX8_winsBy_47 : decode cX8_winsBy 47 = .ok (.iconst 1, 1) := by decide +kernel
theorem dX8_winsBy_48 : decode cX8_winsBy 48 = .ok (.goto 4, 3) := by decide +kernel
theorem dX8_winsBy_51 : decode cX8_winsBy 51 = .ok (.iconst 0, 1) := by decide +kernel
theorem dX8_winsBy_52 : decode cX8_winsBy 52 = .ok (.istore 6, 2) := by decide +kernel
theorem dX8_winsBy_54 : decode cX8_winsBy 54 = .ok (.iload 4, 2) := by decide +kernel
theorem dX8_winsBy_56 : decode cX8_winsBy 56 = .ok (.iload 6, 2) := by decide +kernel
theorem dX8_winsBy_58 : decode cX8_winsBy 58 = .ok (.ifCond .ne 7, 3) := by decide +kernel
theorem dX8_winsBy_61 : decode cX8_winsBy 61 = .ok (.iconst 0, 1) := by decide +kernel
theorem dX8_winsBy_62 : decode cX8_winsBy 62 = .ok (.goto 44, 3) := by decide +kernel
theorem dX8_winsBy_65 : decode cX8_winsBy 65 = .ok (.aload_n 0, 1) := by decide +kernel
theorem dX8_winsBy_66 : decode cX8_winsBy 66 = .ok (.getfield 19, 3) := by decide +kernel
theorem dX8_winsBy_69 : decode cX8_winsBy 69 = .ok (.iconst 5, 1) := by decide +kernel
theorem dX8_winsBy_70 : decode cX8_winsBy 70 = .ok (.iload 5, 2) := by decide +kernel
theorem dX8_winsBy_72 : decode cX8_winsBy 72 = .ok (.imul, 1) := by decide +kernel
theorem dX8_winsBy_73 : decode cX8_winsBy 73 = .ok (.iconst 1, 1) := by decide +kernel
theorem dX8_winsBy_74 : decode cX8_winsBy 74 = .ok (.iadd, 1) := by decide +kernel
theorem dX8_winsBy_75 : decode cX8_winsBy 75 = .ok (.iaload, 1) := by decide +kernel
theorem dX8_winsBy_76 : decode cX8_winsBy 76 = .ok (.iload_n 3, 1) := by decide +kernel
theorem dX8_winsBy_77 : decode cX8_winsBy 77 = .ok (.if_icmp .ne 17, 3) := by decide +kernel
theorem dX8_winsBy_80 : decode cX8_winsBy 80 = .ok (.aload_n 0, 1) := by decide +kernel
theorem dX8_winsBy_81 : decode cX8_winsBy 81 = .ok (.getfield 19, 3) := by decide +kernel
theorem dX8_winsBy_84 : decode cX8_winsBy 84 = .ok (.iconst 5, 1) := by decide +kernel
theorem dX8_winsBy_85 : decode cX8_winsBy 85 = .ok (.iload 5, 2) := by decide +kernel
theorem dX8_winsBy_87 : decode cX8_winsBy 87 = .ok (.imul, 1) := by decide +kernel
theorem dX8_winsBy_88 : decode cX8_winsBy 88 = .ok (.iconst 2, 1) := by decide +kernel
theorem dX8_winsBy_89 : decode cX8_winsBy 89 = .ok (.iadd, 1) := by decide +kernel
theorem dX8_winsBy_90 : decode cX8_winsBy 90 = .ok (.iaload, 1) := by decide +kernel
theorem dX8_winsBy_91 : decode cX8_winsBy 91 = .ok (.goto 15, 3) := by decide +kernel
theorem dX8_winsBy_94 : decode cX8_winsBy 94 = .ok (.aload_n 0, 1) := by decide +kernel
theorem dX8_winsBy_95 : decode cX8_winsBy 95 = .ok (.getfield 19, 3) := by decide +kernel
theorem dX8_winsBy_98 : decode cX8_winsBy 98 = .ok (.iconst 5, 1) := by decide +kernel
theorem dX8_winsBy_99 : decode cX8_winsBy 99 = .ok (.iload 5, 2) := by decide +kernel
theorem dX8_winsBy_101 : decode cX8_winsBy 101 = .ok (.imul, 1) := by decide +kernel
theorem dX8_winsBy_102 : decode cX8_winsBy 102 = .ok (.iconst 2, 1) := by decide +kernel
theorem dX8_winsBy_103 : decode cX8_winsBy 103 = .ok (.iadd, 1) := by decide +kernel
theorem dX8_winsBy_104 : decode cX8_winsBy 104 = .ok (.iaload, 1) := by decide +kernel
theorem dX8_winsBy_105 : decode cX8_winsBy 105 = .ok (.ineg, 1) := by decide +kernel
theorem dX8_winsBy_106 : decode cX8_winsBy 106 = .ok (.iadd, 1) := by decide +kernel
theorem dX8_winsBy_107 : decode cX8_winsBy 107 = .ok (.istore 4, 2) := by decide +kernel
theorem dX8_winsBy_109 : decode cX8_winsBy 109 = .ok (.iinc 5 1, 3) := by decide +kernel
theorem dX8_winsBy_112 : decode cX8_winsBy 112 = .ok (.goto (-106), 3) := by decide +kernel
theorem dX8_winsBy_115 : decode cX8_winsBy 115 = .ok (.iload 4, 2) := by decide +kernel
theorem dX8_winsBy_117 : decode cX8_winsBy 117 = .ok (.ireturn, 1) := by decide +kernel
theorem dX8_endOf_0 : decode cX8_endOf 0 = .ok (.aload_n 0, 1) := by decide +kernel
theorem dX8_endOf_1 : decode cX8_endOf 1 = .ok (.getfield 63, 3) := by decide +kernel
theorem dX8_endOf_4 : decode cX8_endOf 4 = .ok (.aload_n 0, 1) := by decide +kernel
theorem dX8_endOf_5 : decode cX8_endOf 5 = .ok (.iload_n 1, 1) := by decide +kernel
theorem dX8_endOf_6 : decode cX8_endOf 6 = .ok (.invokevirtual 173, 3) := by decide +kernel
theorem dX8_endOf_9 : decode cX8_endOf 9 = .ok (.invokestatic 176, 3) := by decide +kernel
theorem dX8_endOf_12 : decode cX8_endOf 12 = .ok (.isub, 1) := by decide +kernel
theorem dX8_endOf_13 : decode cX8_endOf 13 = .ok (.istore 4, 2) := by decide +kernel
theorem dX8_endOf_15 : decode cX8_endOf 15 = .ok (.sipush 1000, 3) := by decide +kernel
theorem dX8_endOf_18 : decode cX8_endOf 18 = .ok (.aload_n 0, 1) := by decide +kernel
theorem dX8_endOf_19 : decode cX8_endOf 19 = .ok (.getfield 31, 3) := by decide +kernel
theorem dX8_endOf_22 : decode cX8_endOf 22 = .ok (.bipush 15, 2) := by decide +kernel
theorem dX8_endOf_24 : decode cX8_endOf 24 = .ok (.iaload, 1) := by decide +kernel
theorem dX8_endOf_25 : decode cX8_endOf 25 = .ok (.iadd, 1) := by decide +kernel
theorem dX8_endOf_26 : decode cX8_endOf 26 = .ok (.aload_n 0, 1) := by decide +kernel
theorem dX8_endOf_27 : decode cX8_endOf 27 = .ok (.aload_n 0, 1) := by decide +kernel
theorem dX8_endOf_28 : decode cX8_endOf 28 = .ok (.getfield 56, 3) := by decide +kernel
theorem dX8_endOf_31 : decode cX8_endOf 31 = .ok (.invokevirtual 114, 3) := by decide +kernel
theorem dX8_endOf_34 : decode cX8_endOf 34 = .ok (.iadd, 1) := by decide +kernel
theorem dX8_endOf_35 : decode cX8_endOf 35 = .ok (.istore 5, 2) := by decide +kernel
theorem dX8_endOf_37 : decode cX8_endOf 37 = .ok (.iload_n 3, 1) := by decide +kernel
theorem dX8_endOf_38 : decode cX8_endOf 38 = .ok (.ifCond .eq 8, 3) := by decide +kernel
theorem dX8_endOf_41 : decode cX8_endOf 41 = .ok (.iload 5, 2) := by decide +kernel
theorem dX8_endOf_43 : decode cX8_endOf 43 = .ok (.goto 11, 3) := by decide +kernel
theorem dX8_endOf_46 : decode cX8_endOf 46 = .ok (.iload 5, 2) := by decide +kernel
theorem dX8_endOf_48 : decode cX8_endOf 48 = .ok (.iload 4, 2) := by decide +kernel
theorem dX8_endOf_50 : decode cX8_endOf 50 = .ok (.invokestatic 179, 3) := by decide +kernel
theorem dX8_endOf_53 : decode cX8_endOf 53 = .ok (.imul, 1) := by decide +kernel
theorem dX8_endOf_54 : decode cX8_endOf 54 = .ok (.istore 5, 2) := by decide +kernel
theorem dX8_endOf_56 : decode cX8_endOf 56 = .ok (.iconst 0, 1) := by decide +kernel
theorem dX8_endOf_57 : decode cX8_endOf 57 = .ok (.istore 6, 2) := by decide +kernel
theorem dX8_endOf_59 : decode cX8_endOf 59 = .ok (.iload 6, 2) := by decide +kernel
theorem dX8_endOf_61 : decode cX8_endOf 61 = .ok (.aload_n 0, 1) := by decide +kernel
theorem dX8_endOf_62 : decode cX8_endOf 62 = .ok (.getfield 63, 3) := by decide +kernel
theorem dX8_endOf_65 : decode cX8_endOf 65 = .ok (.if_icmp .ge 148, 3) := by decide +kernel
theorem dX8_endOf_68 : decode cX8_endOf 68 = .ok (.aload_n 0, 1) := by decide +kernel
theorem dX8_endOf_69 : decode cX8_endOf 69 = .ok (.iload_n 2, 1) := by decide +kernel
theorem dX8_endOf_70 : decode cX8_endOf 70 = .ok (.iload 6, 2) := by decide +kernel
theorem dX8_endOf_72 : decode cX8_endOf 72 = .ok (.iconst 0, 1) := by decide +kernel
theorem dX8_endOf_73 : decode cX8_endOf 73 = .ok (.invokevirtual 182, 3) := by decide +kernel
theorem dX8_endOf_76 : decode cX8_endOf 76 = .ok (.istore 7, 2) := by decide +kernel
theorem dX8_endOf_78 : decode cX8_endOf 78 = .ok (.aload_n 0, 1) := by decide +kernel
theorem dX8_endOf_79 : decode cX8_endOf 79 = .ok (.iload_n 2, 1) := by decide +kernel
theorem dX8_endOf_80 : decode cX8_endOf 80 = .ok (.iload 6, 2) := by decide +kernel
theorem dX8_endOf_82 : decode cX8_endOf 82 = .ok (.iconst 1, 1) := by decide +kernel
theorem dX8_endOf_83 : decode cX8_endOf 83 = .ok (.invokevirtual 182, 3) := by decide +kernel
theorem dX8_endOf_86 : decode cX8_endOf 86 = .ok (.istore 8, 2) := by decide +kernel
theorem dX8_endOf_88 : decode cX8_endOf 88 = .ok (.iload_n 1, 1) := by decide +kernel
theorem dX8_endOf_89 : decode cX8_endOf 89 = .ok (.iload 6, 2) := by decide +kernel
theorem dX8_endOf_91 : decode cX8_endOf 91 = .ok (.invokestatic 170, 3) := by decide +kernel
theorem dX8_endOf_94 : decode cX8_endOf 94 = .ok (.istore 9, 2) := by decide +kernel
theorem dX8_endOf_96 : decode cX8_endOf 96 = .ok (.aload_n 0, 1) := by decide +kernel
theorem dX8_endOf_97 : decode cX8_endOf 97 = .ok (.getfield 16, 3) := by decide +kernel
theorem dX8_endOf_100 : decode cX8_endOf 100 = .ok (.iconst 4, 1) := by decide +kernel
theorem dX8_endOf_101 : decode cX8_endOf 101 = .ok (.iload 6, 2) := by decide +kernel
theorem dX8_endOf_103 : decode cX8_endOf 103 = .ok (.imul, 1) := by decide +kernel
theorem dX8_endOf_104 : decode cX8_endOf 104 = .ok (.iconst 3, 1) := by decide +kernel
theorem dX8_endOf_105 : decode cX8_endOf 105 = .ok (.iadd, 1) := by decide +kernel
theorem dX8_endOf_106 : decode cX8_endOf 106 = .ok (.iaload, 1) := by decide +kernel
theorem dX8_endOf_107 : decode cX8_endOf 107 = .ok (.istore 10, 2) := by decide +kernel
theorem dX8_endOf_109 : decode cX8_endOf 109 = .ok (.iload 7, 2) := by decide +kernel
theorem dX8_endOf_111 : decode cX8_endOf 111 = .ok (.iload 8, 2) := by decide +kernel
theorem dX8_endOf_113 : decode cX8_endOf 113 = .ok (.if_icmp .ge 8, 3) := by decide +kernel
theorem dX8_endOf_116 : decode cX8_endOf 116 = .ok (.iload 7, 2) := by decide +kernel
theorem dX8_endOf_118 : decode cX8_endOf 118 = .ok (.goto 5, 3) := by decide +kernel
theorem dX8_endOf_121 : decode cX8_endOf 121 = .ok (.iload 8, 2) := by decide +kernel
theorem dX8_endOf_123 : decode cX8_endOf 123 = .ok (.istore 11, 2) := by decide +kernel
theorem dX8_endOf_125 : decode cX8_endOf 125 = .ok (.iload 9, 2) := by decide +kernel
theorem dX8_endOf_127 : decode cX8_endOf 127 = .ok (.iconst 1, 1) := by decide +kernel
theorem dX8_endOf_128 : decode cX8_endOf 128 = .ok (.if_icmp .ne 8, 3) := by decide +kernel
theorem dX8_endOf_131 : decode cX8_endOf 131 = .ok (.iload 7, 2) := by decide +kernel
theorem dX8_endOf_133 : decode cX8_endOf 133 = .ok (.goto 5, 3) := by decide +kernel
theorem dX8_endOf_136 : decode cX8_endOf 136 = .ok (.iload 8, 2) := by decide +kernel
theorem dX8_endOf_138 : decode cX8_endOf 138 = .ok (.istore 12, 2) := by decide +kernel
theorem dX8_endOf_140 : decode cX8_endOf 140 = .ok (.iload_n 3, 1) := by decide +kernel
theorem dX8_endOf_141 : decode cX8_endOf 141 = .ok (.ifCond .eq 23, 3) := by decide +kernel
theorem dX8_endOf_144 : decode cX8_endOf 144 = .ok (.iload 5, 2) := by decide +kernel
theorem dX8_endOf_146 : decode cX8_endOf 146 = .ok (.iload 9, 2) := by decide +kernel
theorem dX8_endOf_148 : decode cX8_endOf 148 = .ok (.ifCond .ne 8, 3) := by decide +kernel
theorem dX8_endOf_151 : decode cX8_endOf 151 = .ok (.iload 11, 2) := by decide +kernel
theorem dX8_endOf_153 : decode cX8_endOf 153 = .ok (.goto 5, 3) := by decide +kernel
theorem dX8_endOf_156 : decode cX8_endOf 156 = .ok (.iload 12, 2) := by decide +kernel
theorem dX8_endOf_158 : decode cX8_endOf 158 = .ok (.iadd, 1) := by decide +kernel
theorem dX8_endOf_159 : decode cX8_endOf 159 = .ok (.istore 5, 2) := by decide +kernel
theorem dX8_endOf_161 : decode cX8_endOf 161 = .ok (.goto 46, 3) := by decide +kernel
theorem dX8_endOf_164 : decode cX8_endOf 164 = .ok (.iload 5, 2) := by decide +kernel
theorem dX8_endOf_166 : decode cX8_endOf 166 = .ok (.iload 9, 2) := by decide +kernel
theorem dX8_endOf_168 : decode cX8_endOf 168 = .ok (.ifCond .ne 28, 3) := by decide +kernel
theorem dX8_endOf_171 : decode cX8_endOf 171 = .ok (.bipush 10, 2) := by decide +kernel
theorem dX8_endOf_173 : decode cX8_endOf 173 = .ok (.iload 10, 2) := by decide +kernel
theorem dX8_endOf_175 : decode cX8_endOf 175 = .ok (.isub, 1) := by decide +kernel
theorem dX8_endOf_176 : decode cX8_endOf 176 = .ok (.iload 7, 2) := by decide +kernel
theorem dX8_endOf_178 : decode cX8_endOf 178 = .ok (.imul, 1) := by decide +kernel
theorem dX8_endOf_179 : decode cX8_endOf 179 = .ok (.iload 10, 2) := by decide +kernel
theorem dX8_endOf_181 : decode cX8_endOf 181 = .ok (.iload 8, 2) := by decide +kernel
theorem dX8_endOf_183 : decode cX8_endOf 183 = .ok (.imul, 1) := by decide +kernel
theorem dX8_endOf_184 : decode cX8_endOf 184 = .ok (.iadd, 1) := by decide +kernel
theorem dX8_endOf_185 : decode cX8_endOf 185 = .ok (.iload 4, 2) := by decide +kernel
theorem dX8_endOf_187 : decode cX8_endOf 187 = .ok (.iconst 1, 1) := by decide +kernel
theorem dX8_endOf_188 : decode cX8_endOf 188 = .ok (.isub, 1) := by decide +kernel
theorem dX8_endOf_189 : decode cX8_endOf 189 = .ok (.invokestatic 179, 3) := by decide +kernel
theorem dX8_endOf_192 : decode cX8_endOf 192 = .ok (.imul, 1) := by decide +kernel
theorem dX8_endOf_193 : decode cX8_endOf 193 = .ok (.goto 11, 3) := by decide +kernel
theorem dX8_endOf_196 : decode cX8_endOf 196 = .ok (.iload 12, 2) := by decide +kernel
theorem dX8_endOf_198 : decode cX8_endOf 198 = .ok (.iload 4, 2) := by decide +kernel
theorem dX8_endOf_200 : decode cX8_endOf 200 = .ok (.invokestatic 179, 3) := by decide +kernel
theorem dX8_endOf_203 : decode cX8_endOf 203 = .ok (.imul, 1) := by decide +kernel
theorem dX8_endOf_204 : decode cX8_endOf 204 = .ok (.iadd, 1) := by decide +kernel
theorem dX8_endOf_205 : decode cX8_endOf 205 = .ok (.istore 5, 2) := by decide +kernel
theorem dX8_endOf_207 : decode cX8_endOf 207 = .ok (.iinc 6 1, 3) := by decide +kernel
theorem dX8_endOf_210 : decode cX8_endOf 210 = .ok (.goto (-151), 3) := by decide +kernel
theorem dX8_endOf_213 : decode cX8_endOf 213 = .ok (.iload 5, 2) := by decide +kernel
theorem dX8_endOf_215 : decode cX8_endOf 215 = .ok (.ireturn, 1) := by decide +kernel
theorem dX8_behind_0 : decode cX8_behind 0 = .ok (.aload_n 0, 1) := by decide +kernel
theorem dX8_behind_1 : decode cX8_behind 1 = .ok (.getfield 53, 3) := by decide +kernel
theorem dX8_behind_4 : decode cX8_behind 4 = .ok (.bipush 16, 2) := by decide +kernel
theorem dX8_behind_6 : decode cX8_behind 6 = .ok (.iload_n 1, 1) := by decide +kernel
theorem dX8_behind_7 : decode cX8_behind 7 = .ok (.iload_n 3, 1) := by decide +kernel
theorem dX8_behind_8 : decode cX8_behind 8 = .ok (.invokestatic 166, 3) := by decide +kernel
theorem dX8_behind_11 : decode cX8_behind 11 = .ok (.iadd, 1) := by decide +kernel
theorem dX8_behind_12 : decode cX8_behind 12 = .ok (.imul, 1) := by decide +kernel
theorem dX8_behind_13 : decode cX8_behind 13 = .ok (.iload_n 2, 1) := by decide +kernel
theorem dX8_behind_14 : decode cX8_behind 14 = .ok (.iadd, 1) := by decide +kernel
theorem dX8_behind_15 : decode cX8_behind 15 = .ok (.iaload, 1) := by decide +kernel
theorem dX8_behind_16 : decode cX8_behind 16 = .ok (.istore 5, 2) := by decide +kernel
theorem dX8_behind_18 : decode cX8_behind 18 = .ok (.aload_n 0, 1) := by decide +kernel
theorem dX8_behind_19 : decode cX8_behind 19 = .ok (.getfield 53, 3) := by decide +kernel
theorem dX8_behind_22 : decode cX8_behind 22 = .ok (.bipush 16, 2) := by decide +kernel
theorem dX8_behind_24 : decode cX8_behind 24 = .ok (.iload_n 1, 1) := by decide +kernel
theorem dX8_behind_25 : decode cX8_behind 25 = .ok (.iconst 2, 1) := by decide +kernel
theorem dX8_behind_26 : decode cX8_behind 26 = .ok (.iload_n 3, 1) := by decide +kernel
theorem dX8_behind_27 : decode cX8_behind 27 = .ok (.invokestatic 166, 3) := by decide +kernel
theorem dX8_behind_30 : decode cX8_behind 30 = .ok (.imul, 1) := by decide +kernel
theorem dX8_behind_31 : decode cX8_behind 31 = .ok (.iadd, 1) := by decide +kernel
theorem dX8_behind_32 : decode cX8_behind 32 = .ok (.imul, 1) := by decide +kernel
theorem dX8_behind_33 : decode cX8_behind 33 = .ok (.iload_n 2, 1) := by decide +kernel
theorem dX8_behind_34 : decode cX8_behind 34 = .ok (.iadd, 1) := by decide +kernel
theorem dX8_behind_35 : decode cX8_behind 35 = .ok (.iaload, 1) := by decide +kernel
theorem dX8_behind_36 : decode cX8_behind 36 = .ok (.istore 6, 2) := by decide +kernel
theorem dX8_behind_38 : decode cX8_behind 38 = .ok (.aload_n 0, 1) := by decide +kernel
theorem dX8_behind_39 : decode cX8_behind 39 = .ok (.getfield 16, 3) := by decide +kernel
theorem dX8_behind_42 : decode cX8_behind 42 = .ok (.iconst 4, 1) := by decide +kernel
theorem dX8_behind_43 : decode cX8_behind 43 = .ok (.iload_n 3, 1) := by decide +kernel
theorem dX8_behind_44 : decode cX8_behind 44 = .ok (.imul, 1) := by decide +kernel
theorem dX8_behind_45 : decode cX8_behind 45 = .ok (.iconst 3, 1) := by decide +kernel
theorem dX8_behind_46 : decode cX8_behind 46 = .ok (.iadd, 1) := by decide +kernel
theorem dX8_behind_47 : decode cX8_behind 47 = .ok (.iaload, 1) := by decide +kernel
theorem dX8_behind_48 : decode cX8_behind 48 = .ok (.istore 7, 2) := by decide +kernel
theorem dX8_behind_50 : decode cX8_behind 50 = .ok (.iload 4, 2) := by decide +kernel
theorem dX8_behind_52 : decode cX8_behind 52 = .ok (.ifCond .ne 20, 3) := by decide +kernel
theorem dX8_behind_55 : decode cX8_behind 55 = .ok (.bipush 10, 2) := by decide +kernel
theorem dX8_behind_57 : decode cX8_behind 57 = .ok (.iload 7, 2) := by decide +kernel
theorem dX8_behind_59 : decode cX8_behind 59 = .ok (.isub, 1) := by decide +kernel
theorem dX8_behind_60 : decode cX8_behind 60 = .ok (.iload 5, 2) := by decide +kernel
theorem dX8_behind_62 : decode cX8_behind 62 = .ok (.imul, 1) := by decide +kernel
theorem dX8_behind_63 : decode cX8_behind 63 = .ok (.iload 7, 2) := by decide +kernel
theorem dX8_behind_65 : decode cX8_behind 65 = .ok (.iload 6, 2) := by decide +kernel
theorem dX8_behind_67 : decode cX8_behind 67 = .ok (.imul, 1) := by decide +kernel
theorem dX8_behind_68 : decode cX8_behind 68 = .ok (.iadd, 1) := by decide +kernel
theorem dX8_behind_69 : decode cX8_behind 69 = .ok (.goto 17, 3) := by decide +kernel
theorem dX8_behind_72 : decode cX8_behind 72 = .ok (.iload 5, 2) := by decide +kernel
theorem dX8_behind_74 : decode cX8_behind 74 = .ok (.iload 6, 2) := by decide +kernel
theorem dX8_behind_76 : decode cX8_behind 76 = .ok (.if_icmp .ge 8, 3) := by decide +kernel
theorem dX8_behind_79 : decode cX8_behind 79 = .ok (.iload 5, 2) := by decide +kernel
theorem dX8_behind_81 : decode cX8_behind 81 = .ok (.goto 5, 3) := by decide +kernel
theorem dX8_behind_84 : decode cX8_behind 84 = .ok (.iload 6, 2) := by decide +kernel
theorem dX8_behind_86 : decode cX8_behind 86 = .ok (.ireturn, 1) := by decide +kernel
theorem dX8_isBehind_0 : decode cX8_isBehind 0 = .ok (.iload_n 2, 1) := by decide +kernel
theorem dX8_isBehind_1 : decode cX8_isBehind 1 = .ok (.aload_n 0, 1) := by decide +kernel
theorem dX8_isBehind_2 : decode cX8_isBehind 2 = .ok (.getfield 31, 3) := by decide +kernel
theorem dX8_isBehind_5 : decode cX8_isBehind 5 = .ok (.bipush 13, 2) := by decide +kernel
theorem dX8_isBehind_7 : decode cX8_isBehind 7 = .ok (.iaload, 1) := by decide +kernel
theorem dX8_isBehind_8 : decode cX8_isBehind 8 = .ok (.iand, 1) := by decide +kernel
theorem dX8_isBehind_9 : decode cX8_isBehind 9 = .ok (.aload_n 0, 1) := by decide +kernel
theorem dX8_isBehind_10 : decode cX8_isBehind 10 = .ok (.getfield 31, 3) := by decide +kernel
theorem dX8_isBehind_13 : decode cX8_isBehind 13 = .ok (.bipush 13, 2) := by decide +kernel
theorem dX8_isBehind_15 : decode cX8_isBehind 15 = .ok (.iaload, 1) := by decide +kernel
theorem dX8_isBehind_16 : decode cX8_isBehind 16 = .ok (.if_icmp .ne 17, 3) := by decide +kernel
theorem dX8_isBehind_19 : decode cX8_isBehind 19 = .ok (.iload_n 2, 1) := by decide +kernel
theorem dX8_isBehind_20 : decode cX8_isBehind 20 = .ok (.iconst 1, 1) := by decide +kernel
theorem dX8_isBehind_21 : decode cX8_isBehind 21 = .ok (.aload_n 0, 1) := by decide +kernel
theorem dX8_isBehind_22 : decode cX8_isBehind 22 = .ok (.getfield 70, 3) := by decide +kernel
theorem dX8_isBehind_25 : decode cX8_isBehind 25 = .ok (.ishl, 1) := by decide +kernel
theorem dX8_isBehind_26 : decode cX8_isBehind 26 = .ok (.if_icmp .ge 7, 3) := by decide +kernel
theorem dX8_isBehind_29 : decode cX8_isBehind 29 = .ok (.iconst 1, 1) := by decide +kernel
theorem dX8_isBehind_30 : decode cX8_isBehind 30 = .ok (.goto 4, 3) := by decide +kernel
theorem dX8_isBehind_33 : decode cX8_isBehind 33 = .ok (.iconst 0, 1) := by decide +kernel
theorem dX8_isBehind_34 : decode cX8_isBehind 34 = .ok (.istore_n 3, 1) := by decide +kernel
theorem dX8_isBehind_35 : decode cX8_isBehind 35 = .ok (.aload_n 0, 1) := by decide +kernel
theorem dX8_isBehind_36 : decode cX8_isBehind 36 = .ok (.invokevirtual 186, 3) := by decide +kernel
theorem dX8_isBehind_39 : decode cX8_isBehind 39 = .ok (.istore 4, 2) := by decide +kernel
theorem dX8_isBehind_41 : decode cX8_isBehind 41 = .ok (.iconst 0, 1) := by decide +kernel
theorem dX8_isBehind_42 : decode cX8_isBehind 42 = .ok (.istore 5, 2) := by decide +kernel
theorem dX8_isBehind_44 : decode cX8_isBehind 44 = .ok (.iload 5, 2) := by decide +kernel
theorem dX8_isBehind_46 : decode cX8_isBehind 46 = .ok (.iconst 4, 1) := by decide +kernel
theorem dX8_isBehind_47 : decode cX8_isBehind 47 = .ok (.if_icmp .ge 71, 3) := by decide +kernel
theorem dX8_isBehind_50 : decode cX8_isBehind 50 = .ok (.iload_n 3, 1) := by decide +kernel
theorem dX8_isBehind_51 : decode cX8_isBehind 51 = .ok (.ifCond .eq 67, 3) := by decide +kernel
theorem dX8_isBehind_54 : decode cX8_isBehind 54 = .ok (.iload 5, 2) := by decide +kernel
theorem dX8_isBehind_56 : decode cX8_isBehind 56 = .ok (.aload_n 0, 1) := by decide +kernel
theorem dX8_isBehind_57 : decode cX8_isBehind 57 = .ok (.getfield 63, 3) := by decide +kernel
theorem dX8_isBehind_60 : decode cX8_isBehind 60 = .ok (.if_icmp .ge 37, 3) := by decide +kernel
theorem dX8_isBehind_63 : decode cX8_isBehind 63 = .ok (.iload 4, 2) := by decide +kernel
theorem dX8_isBehind_65 : decode cX8_isBehind 65 = .ok (.iload 5, 2) := by decide +kernel
theorem dX8_isBehind_67 : decode cX8_isBehind 67 = .ok (.invokestatic 170, 3) := by decide +kernel
theorem dX8_isBehind_70 : decode cX8_isBehind 70 = .ok (.ifCond .eq 19, 3) := by decide +kernel
theorem dX8_isBehind_73 : decode cX8_isBehind 73 = .ok (.iload 4, 2) := by decide +kernel
theorem dX8_isBehind_75 : decode cX8_isBehind 75 = .ok (.iload 5, 2) := by decide +kernel
theorem dX8_isBehind_77 : decode cX8_isBehind 77 = .ok (.invokestatic 170, 3) := by decide +kernel
theorem dX8_isBehind_80 : decode cX8_isBehind 80 = .ok (.iload_n 1, 1) := by decide +kernel
theorem dX8_isBehind_81 : decode cX8_isBehind 81 = .ok (.iload 5, 2) := by decide +kernel
theorem dX8_isBehind_83 : decode cX8_isBehind 83 = .ok (.invokestatic 170, 3) := by decide +kernel
theorem dX8_isBehind_86 : decode cX8_isBehind 86 = .ok (.if_icmp .ne 7, 3) := by decide +kernel
theorem dX8_isBehind_89 : decode cX8_isBehind 89 = .ok (.iconst 1, 1) := by decide +kernel
theorem dX8_isBehind_90 : decode cX8_isBehind 90 = .ok (.goto 21, 3) := by decide +kernel
theorem dX8_isBehind_93 : decode cX8_isBehind 93 = .ok (.iconst 0, 1) := by decide +kernel
theorem dX8_isBehind_94 : decode cX8_isBehind 94 = .ok (.goto 17, 3) := by decide +kernel
theorem dX8_isBehind_97 : decode cX8_isBehind 97 = .ok (.iload_n 1, 1) := by decide +kernel
theorem dX8_isBehind_98 : decode cX8_isBehind 98 = .ok (.iload 5, 2) := by decide +kernel
theorem dX8_isBehind_100 : decode cX8_isBehind 100 = .ok (.invokestatic 170, 3) := by decide +kernel
theorem dX8_isBehind_103 : decode cX8_isBehind 103 = .ok (.ifCond .ne 7, 3) := by decide +kernel
theorem dX8_isBehind_106 : decode cX8_isBehind 106 = .ok (.iconst 1, 1) := by decide +kernel
theorem dX8_isBehind_107 : decode cX8_isBehind 107 = .ok (.goto 4, 3) := by decide +kernel
theorem dX8_isBehind_110 : decode cX8_isBehind 110 = .ok (.iconst 0, 1) := by decide +kernel
theorem dX8_isBehind_111 : decode cX8_isBehind 111 = .ok (.istore_n 3, 1) := by decide +kernel
theorem dX8_isBehind_112 : decode cX8_isBehind 112 = .ok (.iinc 5 1, 3) := by decide +kernel
theorem dX8_isBehind_115 : decode cX8_isBehind 115 = .ok (.goto (-71), 3) := by decide +kernel
theorem dX8_isBehind_118 : decode cX8_isBehind 118 = .ok (.iload_n 3, 1) := by decide +kernel
theorem dX8_isBehind_119 : decode cX8_isBehind 119 = .ok (.ireturn, 1) := by decide +kernel
theorem dX8_layBest_0 : decode cX8_layBest 0 = .ok (.iconst 0, 1) := by decide +kernel
theorem dX8_layBest_1 : decode cX8_layBest 1 = .ok (.istore_n 3, 1) := by decide +kernel
theorem dX8_layBest_2 : decode cX8_layBest 2 = .ok (.iload_n 3, 1) := by decide +kernel
theorem dX8_layBest_3 : decode cX8_layBest 3 = .ok (.aload_n 0, 1) := by decide +kernel
theorem dX8_layBest_4 : decode cX8_layBest 4 = .ok (.getfield 63, 3) := by decide +kernel
theorem dX8_layBest_7 : decode cX8_layBest 7 = .ok (.if_icmp .gt 79, 3) := by decide +kernel
theorem dX8_layBest_10 : decode cX8_layBest 10 = .ok (.iconst 0, 1) := by decide +kernel
theorem dX8_layBest_11 : decode cX8_layBest 11 = .ok (.istore 4, 2) := by decide +kernel
theorem dX8_layBest_13 : decode cX8_layBest 13 = .ok (.iload 4, 2) := by decide +kernel
theorem dX8_layBest_15 : decode cX8_layBest 15 = .ok (.bipush 81, 2) := by decide +kernel
theorem dX8_layBest_17 : decode cX8_layBest 17 = .ok (.if_icmp .ge 63, 3) := by decide +kernel
theorem dX8_layBest_20 : decode cX8_layBest 20 = .ok (.bipush 15, 2) := by decide +kernel
theorem dX8_layBest_22 : decode cX8_layBest 22 = .ok (.istore 5, 2) := by decide +kernel
theorem dX8_layBest_24 : decode cX8_layBest 24 = .ok (.iload 5, 2) := by decide +kernel
theorem dX8_layBest_26 : decode cX8_layBest 26 = .ok (.ifCond .lt 48, 3) := by decide +kernel
theorem dX8_layBest_29 : decode cX8_layBest 29 = .ok (.aload_n 0, 1) := by decide +kernel
theorem dX8_layBest_30 : decode cX8_layBest 30 = .ok (.iload 4, 2) := by decide +kernel
theorem dX8_layBest_32 : decode cX8_layBest 32 = .ok (.iload 5, 2) := by decide +kernel
theorem dX8_layBest_34 : decode cX8_layBest 34 = .ok (.invokevirtual 189, 3) := by decide +kernel
theorem dX8_layBest_37 : decode cX8_layBest 37 = .ok (.ifCond .eq 31, 3) := by decide +kernel
theorem dX8_layBest_40 : decode cX8_layBest 40 = .ok (.aload_n 0, 1) := by decide +kernel
theorem dX8_layBest_41 : decode cX8_layBest 41 = .ok (.getfield 63, 3) := by decide +kernel
theorem dX8_layBest_44 : decode cX8_layBest 44 = .ok (.aload_n 0, 1) := by decide +kernel
theorem dX8_layBest_45 : decode cX8_layBest 45 = .ok (.iload 4, 2) := by decide +kernel
theorem dX8_layBest_47 : decode cX8_layBest 47 = .ok (.invokevirtual 173, 3) := by decide +kernel
theorem dX8_layBest_50 : decode cX8_layBest 50 = .ok (.invokestatic 176, 3) := by decide +kernel
theorem dX8_layBest_53 : decode cX8_layBest 53 = .ok (.isub, 1) := by decide +kernel
theorem dX8_layBest_54 : decode cX8_layBest 54 = .ok (.iload_n 3, 1) := by decide +kernel
theorem dX8_layBest_55 : decode cX8_layBest 55 = .ok (.if_icmp .ne 13, 3) := by decide +kernel
theorem dX8_layBest_58 : decode cX8_layBest 58 = .ok (.aload_n 0, 1) := by decide +kernel
theorem dX8_layBest_59 : decode cX8_layBest 59 = .ok (.iload 4, 2) := by decide +kernel
theorem dX8_layBest_61 : decode cX8_layBest 61 = .ok (.iload 5, 2) := by decide +kernel
theorem dX8_layBest_63 : decode cX8_layBest 63 = .ok (.iload_n 1, 1) := by decide +kernel
theorem dX8_layBest_64 : decode cX8_layBest 64 = .ok (.iload_n 2, 1) := by decide +kernel
theorem dX8_layBest_65 : decode cX8_layBest 65 = .ok (.invokevirtual 192, 3) := by decide +kernel
theorem dX8_layBest_68 : decode cX8_layBest 68 = .ok (.iinc 5 (-1), 3) := by decide +kernel
theorem dX8_layBest_71 : decode cX8_layBest 71 = .ok (.goto (-47), 3) := by decide +kernel
theorem dX8_layBest_74 : decode cX8_layBest 74 = .ok (.iinc 4 1, 3) := by decide +kernel
theorem dX8_layBest_77 : decode cX8_layBest 77 = .ok (.goto (-64), 3) := by decide +kernel
theorem dX8_layBest_80 : decode cX8_layBest 80 = .ok (.iinc 3 1, 3) := by decide +kernel
theorem dX8_layBest_83 : decode cX8_layBest 83 = .ok (.goto (-81), 3) := by decide +kernel
theorem dX8_layBest_86 : decode cX8_layBest 86 = .ok (.return_, 1) := by decide +kernel
theorem dX8_layState_0 : decode cX8_layState 0 = .ok (.aload_n 0, 1) := by decide +kernel
theorem dX8_layState_1 : decode cX8_layState 1 = .ok (.iload_n 1, 1) := by decide +kernel
theorem dX8_layState_2 : decode cX8_layState 2 = .ok (.iload_n 2, 1) := by decide +kernel
theorem dX8_layState_3 : decode cX8_layState 3 = .ok (.invokevirtual 196, 3) := by decide +kernel
theorem dX8_layState_6 : decode cX8_layState 6 = .ok (.aload_n 0, 1) := by decide +kernel
theorem dX8_layState_7 : decode cX8_layState 7 = .ok (.iload_n 1, 1) := by decide +kernel
theorem dX8_layState_8 : decode cX8_layState 8 = .ok (.iload_n 2, 1) := by decide +kernel
theorem dX8_layState_9 : decode cX8_layState 9 = .ok (.iload_n 3, 1) := by decide +kernel
theorem dX8_layState_10 : decode cX8_layState 10 = .ok (.invokevirtual 200, 3) := by decide +kernel
theorem dX8_layState_13 : decode cX8_layState 13 = .ok (.istore 5, 2) := by decide +kernel
theorem dX8_layState_15 : decode cX8_layState 15 = .ok (.iconst 0, 1) := by decide +kernel
theorem dX8_layState_16 : decode cX8_layState 16 = .ok (.istore 6, 2) := by decide +kernel
theorem dX8_layState_18 : decode cX8_layState 18 = .ok (.iload 6, 2) := by decide +kernel
theorem dX8_layState_20 : decode cX8_layState 20 = .ok (.aload_n 0, 1) := by decide +kernel
theorem dX8_layState_21 : decode cX8_layState 21 = .ok (.getfield 63, 3) := by decide +kernel
theorem dX8_layState_24 : decode cX8_layState 24 = .ok (.if_icmp .ge 97, 3) := by decide +kernel
theorem dX8_layState_27 : decode cX8_layState 27 = .ok (.iload 6, 2) := by decide +kernel
theorem dX8_layState_29 : decode cX8_layState 29 = .ok (.iload 4, 2) := by decide +kernel
theorem dX8_layState_31 : decode cX8_layState 31 = .ok (.if_icmp .eq 44, 3) := by decide +kernel
theorem dX8_layState_34 : decode cX8_layState 34 = .ok (.iload_n 1, 1) := by decide +kernel
theorem dX8_layState_35 : decode cX8_layState 35 = .ok (.iload 6, 2) := by decide +kernel
theorem dX8_layState_37 : decode cX8_layState 37 = .ok (.invokestatic 170, 3) := by decide +kernel
theorem dX8_layState_40 : decode cX8_layState 40 = .ok (.ifCond .ne 35, 3) := by decide +kernel
theorem dX8_layState_43 : decode cX8_layState 43 = .ok (.aload_n 0, 1) := by decide +kernel
theorem dX8_layState_44 : decode cX8_layState 44 = .ok (.getfield 56, 3) := by decide +kernel
theorem dX8_layState_47 : decode cX8_layState 47 = .ok (.aload_n 0, 1) := by decide +kernel
theorem dX8_layState_48 : decode cX8_layState 48 = .ok (.getfield 16, 3) := by decide +kernel
theorem dX8_layState_51 : decode cX8_layState 51 = .ok (.iconst 4, 1) := by decide +kernel
theorem dX8_layState_52 : decode cX8_layState 52 = .ok (.iload 6, 2) := by decide +kernel
theorem dX8_layState_54 : decode cX8_layState 54 = .ok (.imul, 1) := by decide +kernel
theorem dX8_layState_55 : decode cX8_layState 55 = .ok (.iaload, 1) := by decide +kernel
theorem dX8_layState_56 : decode cX8_layState 56 = .ok (.iaload, 1) := by decide +kernel
theorem dX8_layState_57 : decode cX8_layState 57 = .ok (.aload_n 0, 1) := by decide +kernel
theorem dX8_layState_58 : decode cX8_layState 58 = .ok (.getfield 16, 3) := by decide +kernel
theorem dX8_layState_61 : decode cX8_layState 61 = .ok (.iconst 4, 1) := by decide +kernel
theorem dX8_layState_62 : decode cX8_layState 62 = .ok (.iload 6, 2) := by decide +kernel
theorem dX8_layState_64 : decode cX8_layState 64 = .ok (.imul, 1) := by decide +kernel
theorem dX8_layState_65 : decode cX8_layState 65 = .ok (.iconst 1, 1) := by decide +kernel
theorem dX8_layState_66 : decode cX8_layState 66 = .ok (.iadd, 1) := by decide +kernel
theorem dX8_layState_67 : decode cX8_layState 67 = .ok (.iaload, 1) := by decide +kernel
theorem dX8_layState_68 : decode cX8_layState 68 = .ok (.if_icmp .lt 7, 3) := by decide +kernel
theorem dX8_layState_71 : decode cX8_layState 71 = .ok (.iconst 1, 1) := by decide +kernel
theorem dX8_layState_72 : decode cX8_layState 72 = .ok (.goto 4, 3) := by decide +kernel
theorem dX8_layState_75 : decode cX8_layState 75 = .ok (.iconst 0, 1) := by decide +kernel
theorem dX8_layState_76 : decode cX8_layState 76 = .ok (.istore 7, 2) := by decide +kernel
theorem dX8_layState_78 : decode cX8_layState 78 = .ok (.iload 7, 2) := by decide +kernel
theorem dX8_layState_80 : decode cX8_layState 80 = .ok (.ifCond .eq 15, 3) := by decide +kernel
theorem dX8_layState_83 : decode cX8_layState 83 = .ok (.aload_n 0, 1) := by decide +kernel
theorem dX8_layState_84 : decode cX8_layState 84 = .ok (.iload_n 1, 1) := by decide +kernel
theorem dX8_layState_85 : decode cX8_layState 85 = .ok (.iload_n 2, 1) := by decide +kernel
theorem dX8_layState_86 : decode cX8_layState 86 = .ok (.iload 6, 2) := by decide +kernel
theorem dX8_layState_88 : decode cX8_layState 88 = .ok (.iload_n 3, 1) := by decide +kernel
theorem dX8_layState_89 : decode cX8_layState 89 = .ok (.invokevirtual 204, 3) := by decide +kernel
theorem dX8_layState_92 : decode cX8_layState 92 = .ok (.goto 5, 3) := by decide +kernel
theorem dX8_layState_95 : decode cX8_layState 95 = .ok (.iload 5, 2) := by decide +kernel
theorem dX8_layState_97 : decode cX8_layState 97 = .ok (.istore 8, 2) := by decide +kernel
theorem dX8_layState_99 : decode cX8_layState 99 = .ok (.iload 8, 2) := by decide +kernel
theorem dX8_layState_101 : decode cX8_layState 101 = .ok (.iload 5, 2) := by decide +kernel
theorem dX8_layState_103 : decode cX8_layState 103 = .ok (.if_icmp .le 8, 3) := by decide +kernel
theorem dX8_layState_106 : decode cX8_layState 106 = .ok (.iload 8, 2) := by decide +kernel
theorem dX8_layState_108 : decode cX8_layState 108 = .ok (.goto 5, 3) := by decide +kernel
theorem dX8_layState_111 : decode cX8_layState 111 = .ok (.iload 5, 2) := by decide +kernel
theorem dX8_layState_113 : decode cX8_layState 113 = .ok (.istore 5, 2) := by decide +kernel
theorem dX8_layState_115 : decode cX8_layState 115 = .ok (.iinc 6 1, 3) := by decide +kernel
theorem dX8_layState_118 : decode cX8_layState 118 = .ok (.goto (-100), 3) := by decide +kernel
theorem dX8_layState_121 : decode cX8_layState 121 = .ok (.iconst 0, 1) := by decide +kernel
theorem dX8_layState_122 : decode cX8_layState 122 = .ok (.istore 6, 2) := by decide +kernel
theorem dX8_layState_124 : decode cX8_layState 124 = .ok (.iload 6, 2) := by decide +kernel
theorem dX8_layState_126 : decode cX8_layState 126 = .ok (.aload_n 0, 1) := by decide +kernel
theorem dX8_layState_127 : decode cX8_layState 127 = .ok (.getfield 70, 3) := by decide +kernel
theorem dX8_layState_130 : decode cX8_layState 130 = .ok (.if_icmp .ge 99, 3) := by decide +kernel
theorem dX8_layState_133 : decode cX8_layState 133 = .ok (.iload_n 2, 1) := by decide +kernel
theorem dX8_layState_134 : decode cX8_layState 134 = .ok (.iload 6, 2) := by decide +kernel
theorem dX8_layState_136 : decode cX8_layState 136 = .ok (.invokestatic 130, 3) := by decide +kernel
theorem dX8_layState_139 : decode cX8_layState 139 = .ok (.ifCond .ne 37, 3) := by decide +kernel
theorem dX8_layState_142 : decode cX8_layState 142 = .ok (.aload_n 0, 1) := by decide +kernel
theorem dX8_layState_143 : decode cX8_layState 143 = .ok (.getfield 56, 3) := by decide +kernel
theorem dX8_layState_146 : decode cX8_layState 146 = .ok (.aload_n 0, 1) := by decide +kernel
theorem dX8_layState_147 : decode cX8_layState 147 = .ok (.getfield 19, 3) := by decide +kernel
theorem dX8_layState_150 : decode cX8_layState 150 = .ok (.iconst 5, 1) := by decide +kernel
theorem dX8_layState_151 : decode cX8_layState 151 = .ok (.iload 6, 2) := by decide +kernel
theorem dX8_layState_153 : decode cX8_layState 153 = .ok (.imul, 1) := by decide +kernel
theorem dX8_layState_154 : decode cX8_layState 154 = .ok (.iconst 3, 1) := by decide +kernel
theorem dX8_layState_155 : decode cX8_layState 155 = .ok (.iadd, 1) := by decide +kernel
theorem dX8_layState_156 : decode cX8_layState 156 = .ok (.iaload, 1) := by decide +kernel
theorem dX8_layState_157 : decode cX8_layState 157 = .ok (.iaload, 1) := by decide +kernel
theorem dX8_layState_158 : decode cX8_layState 158 = .ok (.aload_n 0, 1) := by decide +kernel
theorem dX8_layState_159 : decode cX8_layState 159 = .ok (.getfield 19, 3) := by decide +kernel
theorem dX8_layState_162 : decode cX8_layState 162 = .ok (.iconst 5, 1) := by decide +kernel
theorem dX8_layState_163 : decode cX8_layState 163 = .ok (.iload 6, 2) := by decide +kernel
theorem dX8_layState_165 : decode cX8_layState 165 = .ok (.imul, 1) := by decide +kernel
theorem dX8_layState_166 : decode cX8_layState 166 = .ok (.iconst 4, 1) := by decide +kernel
theorem dX8_layState_167 : decode cX8_layState 167 = .ok (.iadd, 1) := by decide +kernel
theorem dX8_layState_168 : decode cX8_layState 168 = .ok (.iaload, 1) := by decide +kernel
theorem dX8_layState_169 : decode cX8_layState 169 = .ok (.if_icmp .lt 7, 3) := by decide +kernel
theorem dX8_layState_172 : decode cX8_layState 172 = .ok (.iconst 1, 1) := by decide +kernel
theorem dX8_layState_173 : decode cX8_layState 173 = .ok (.goto 4, 3) := by decide +kernel
theorem dX8_layState_176 : decode cX8_layState 176 = .ok (.iconst 0, 1) := by decide +kernel
theorem dX8_layState_177 : decode cX8_layState 177 = .ok (.istore 7, 2) := by decide +kernel
theorem dX8_layState_179 : decode cX8_layState 179 = .ok (.iload 7, 2) := by decide +kernel
theorem dX8_layState_181 : decode cX8_layState 181 = .ok (.ifCond .eq 22, 3) := by decide +kernel
theorem dX8_layState_184 : decode cX8_layState 184 = .ok (.aload_n 0, 1) := by decide +kernel
theorem dX8_layState_185 : decode cX8_layState 185 = .ok (.getfield 53, 3) := by decide +kernel
theorem dX8_layState_188 : decode cX8_layState 188 = .ok (.bipush 16, 2) := by decide +kernel
theorem dX8_layState_190 : decode cX8_layState 190 = .ok (.iload_n 1, 1) := by decide +kernel
theorem dX8_layState_191 : decode cX8_layState 191 = .ok (.imul, 1) := by decide +kernel
theorem dX8_layState_192 : decode cX8_layState 192 = .ok (.iload_n 2, 1) := by decide +kernel
theorem dX8_layState_193 : decode cX8_layState 193 = .ok (.iconst 1, 1) := by decide +kernel
theorem dX8_layState_194 : decode cX8_layState 194 = .ok (.iload 6, 2) := by decide +kernel
theorem dX8_layState_196 : decode cX8_layState 196 = .ok (.ishl, 1) := by decide +kernel
theorem dX8_layState_197 : decode cX8_layState 197 = .ok (.ior, 1) := by decide +kernel
theorem dX8_layState_198 : decode cX8_layState 198 = .ok (.iadd, 1) := by decide +kernel
theorem dX8_layState_199 : decode cX8_layState 199 = .ok (.iaload, 1) := by decide +kernel
theorem dX8_layState_200 : decode cX8_layState 200 = .ok (.goto 5, 3) := by decide +kernel
theorem dX8_layState_203 : decode cX8_layState 203 = .ok (.iload 5, 2) := by decide +kernel
theorem dX8_layState_205 : decode cX8_layState 205 = .ok (.istore 8, 2) := by decide +kernel
theorem dX8_layState_207 : decode cX8_layState 207 = .ok (.iload 8, 2) := by decide +kernel
theorem dX8_layState_209 : decode cX8_layState 209 = .ok (.iload 5, 2) := by decide +kernel
theorem dX8_layState_211 : decode cX8_layState 211 = .ok (.if_icmp .le 8, 3) := by decide +kernel
theorem dX8_layState_214 : decode cX8_layState 214 = .ok (.iload 8, 2) := by decide +kernel
theorem dX8_layState_216 : decode cX8_layState 216 = .ok (.goto 5, 3) := by decide +kernel
theorem dX8_layState_219 : decode cX8_layState 219 = .ok (.iload 5, 2) := by decide +kernel
theorem dX8_layState_221 : decode cX8_layState 221 = .ok (.istore 5, 2) := by decide +kernel
theorem dX8_layState_223 : decode cX8_layState 223 = .ok (.iinc 6 1, 3) := by decide +kernel
theorem dX8_layState_226 : decode cX8_layState 226 = .ok (.goto (-102), 3) := by decide +kernel
theorem dX8_layState_229 : decode cX8_layState 229 = .ok (.aload_n 0, 1) := by decide +kernel
theorem dX8_layState_230 : decode cX8_layState 230 = .ok (.getfield 53, 3) := by decide +kernel
theorem dX8_layState_233 : decode cX8_layState 233 = .ok (.bipush 16, 2) := by decide +kernel
theorem dX8_layState_235 : decode cX8_layState 235 = .ok (.iload_n 1, 1) := by decide +kernel
theorem dX8_layState_236 : decode cX8_layState 236 = .ok (.imul, 1) := by decide +kernel
theorem dX8_layState_237 : decode cX8_layState 237 = .ok (.iload_n 2, 1) := by decide +kernel
theorem dX8_layState_238 : decode cX8_layState 238 = .ok (.iadd, 1) := by decide +kernel
theorem dX8_layState_239 : decode cX8_layState 239 = .ok (.iload 5, 2) := by decide +kernel
theorem dX8_layState_241 : decode cX8_layState 241 = .ok (.iastore, 1) := by decide +kernel
theorem dX8_layState_242 : decode cX8_layState 242 = .ok (.return_, 1) := by decide +kernel
theorem dX8_firstOf_0 : decode cX8_firstOf 0 = .ok (.aload_n 0, 1) := by decide +kernel
theorem dX8_firstOf_1 : decode cX8_firstOf 1 = .ok (.invokevirtual 186, 3) := by decide +kernel
theorem dX8_firstOf_4 : decode cX8_firstOf 4 = .ok (.istore_n 2, 1) := by decide +kernel
theorem dX8_firstOf_5 : decode cX8_firstOf 5 = .ok (.aload_n 0, 1) := by decide +kernel
theorem dX8_firstOf_6 : decode cX8_firstOf 6 = .ok (.getfield 31, 3) := by decide +kernel
theorem dX8_firstOf_9 : decode cX8_firstOf 9 = .ok (.bipush 13, 2) := by decide +kernel
theorem dX8_firstOf_11 : decode cX8_firstOf 11 = .ok (.iaload, 1) := by decide +kernel
theorem dX8_firstOf_12 : decode cX8_firstOf 12 = .ok (.istore_n 3, 1) := by decide +kernel
theorem dX8_firstOf_13 : decode cX8_firstOf 13 = .ok (.aload_n 0, 1) := by decide +kernel
theorem dX8_firstOf_14 : decode cX8_firstOf 14 = .ok (.getfield 53, 3) := by decide +kernel
theorem dX8_firstOf_17 : decode cX8_firstOf 17 = .ok (.bipush 16, 2) := by decide +kernel
theorem dX8_firstOf_19 : decode cX8_firstOf 19 = .ok (.iload_n 2, 1) := by decide +kernel
theorem dX8_firstOf_20 : decode cX8_firstOf 20 = .ok (.imul, 1) := by decide +kernel
theorem dX8_firstOf_21 : decode cX8_firstOf 21 = .ok (.iload_n 3, 1) := by decide +kernel
theorem dX8_firstOf_22 : decode cX8_firstOf 22 = .ok (.iadd, 1) := by decide +kernel
theorem dX8_firstOf_23 : decode cX8_firstOf 23 = .ok (.iaload, 1) := by decide +kernel
theorem dX8_firstOf_24 : decode cX8_firstOf 24 = .ok (.istore 4, 2) := by decide +kernel
theorem dX8_firstOf_26 : decode cX8_firstOf 26 = .ok (.aload_n 0, 1) := by decide +kernel
theorem dX8_firstOf_27 : decode cX8_firstOf 27 = .ok (.iload_n 2, 1) := by decide +kernel
theorem dX8_firstOf_28 : decode cX8_firstOf 28 = .ok (.iload_n 3, 1) := by decide +kernel
theorem dX8_firstOf_29 : decode cX8_firstOf 29 = .ok (.invokevirtual 196, 3) := by decide +kernel
theorem dX8_firstOf_32 : decode cX8_firstOf 32 = .ok (.aload_n 0, 1) := by decide +kernel
theorem dX8_firstOf_33 : decode cX8_firstOf 33 = .ok (.iload_n 2, 1) := by decide +kernel
theorem dX8_firstOf_34 : decode cX8_firstOf 34 = .ok (.iload_n 3, 1) := by decide +kernel
theorem dX8_firstOf_35 : decode cX8_firstOf 35 = .ok (.iload_n 1, 1) := by decide +kernel
theorem dX8_firstOf_36 : decode cX8_firstOf 36 = .ok (.invokevirtual 200, 3) := by decide +kernel
theorem dX8_firstOf_39 : decode cX8_firstOf 39 = .ok (.iload 4, 2) := by decide +kernel
theorem dX8_firstOf_41 : decode cX8_firstOf 41 = .ok (.if_icmp .ne 5, 3) := by decide +kernel
theorem dX8_firstOf_44 : decode cX8_firstOf 44 = .ok (.iconst 0, 1) := by decide +kernel
theorem dX8_firstOf_45 : decode cX8_firstOf 45 = .ok (.ireturn, 1) := by decide +kernel
theorem dX8_firstOf_46 : decode cX8_firstOf 46 = .ok (.iconst 0, 1) := by decide +kernel
theorem dX8_firstOf_47 : decode cX8_firstOf 47 = .ok (.istore 5, 2) := by decide +kernel
theorem dX8_firstOf_49 : decode cX8_firstOf 49 = .ok (.iload 5, 2) := by decide +kernel
theorem dX8_firstOf_51 : decode cX8_firstOf 51 = .ok (.aload_n 0, 1) := by decide +kernel
theorem dX8_firstOf_52 : decode cX8_firstOf 52 = .ok (.getfield 63, 3) := by decide +kernel
theorem dX8_firstOf_55 : decode cX8_firstOf 55 = .ok (.if_icmp .ge 41, 3) := by decide +kernel
theorem dX8_firstOf_58 : decode cX8_firstOf 58 = .ok (.aload_n 0, 1) := by decide +kernel
theorem dX8_firstOf_59 : decode cX8_firstOf 59 = .ok (.aload_n 0, 1) := by decide +kernel
theorem dX8_firstOf_60 : decode cX8_firstOf 60 = .ok (.getfield 31, 3) := by decide +kernel
theorem dX8_firstOf_63 : decode cX8_firstOf 63 = .ok (.iload 5, 2) := by decide +kernel
theorem dX8_firstOf_65 : decode cX8_firstOf 65 = .ok (.invokevirtual 143, 3) := by decide +kernel
theorem dX8_firstOf_68 : decode cX8_firstOf 68 = .ok (.ifCond .ne 22, 3) := by decide +kernel
theorem dX8_firstOf_71 : decode cX8_firstOf 71 = .ok (.aload_n 0, 1) := by decide +kernel
theorem dX8_firstOf_72 : decode cX8_firstOf 72 = .ok (.iload_n 2, 1) := by decide +kernel
theorem dX8_firstOf_73 : decode cX8_firstOf 73 = .ok (.iload_n 3, 1) := by decide +kernel
theorem dX8_firstOf_74 : decode cX8_firstOf 74 = .ok (.iload 5, 2) := by decide +kernel
theorem dX8_firstOf_76 : decode cX8_firstOf 76 = .ok (.iload_n 1, 1) := by decide +kernel
theorem dX8_firstOf_77 : decode cX8_firstOf 77 = .ok (.invokevirtual 204, 3) := by decide +kernel
theorem dX8_firstOf_80 : decode cX8_firstOf 80 = .ok (.iload 4, 2) := by decide +kernel
theorem dX8_firstOf_82 : decode cX8_firstOf 82 = .ok (.if_icmp .ne 8, 3) := by decide +kernel
theorem dX8_firstOf_85 : decode cX8_firstOf 85 = .ok (.iload 5, 2) := by decide +kernel
theorem dX8_firstOf_87 : decode cX8_firstOf 87 = .ok (.iconst 1, 1) := by decide +kernel
theorem dX8_firstOf_88 : decode cX8_firstOf 88 = .ok (.iadd, 1) := by decide +kernel
theorem dX8_firstOf_89 : decode cX8_firstOf 89 = .ok (.ireturn, 1) := by decide +kernel
theorem dX8_firstOf_90 : decode cX8_firstOf 90 = .ok (.iinc 5 1, 3) := by decide +kernel
theorem dX8_firstOf_93 : decode cX8_firstOf 93 = .ok (.goto (-44), 3) := by decide +kernel
theorem dX8_firstOf_96 : decode cX8_firstOf 96 = .ok (.iconst 0, 1) := by decide +kernel
theorem dX8_firstOf_97 : decode cX8_firstOf 97 = .ok (.istore 5, 2) := by decide +kernel
theorem dX8_firstOf_99 : decode cX8_firstOf 99 = .ok (.iload 5, 2) := by decide +kernel
theorem dX8_firstOf_101 : decode cX8_firstOf 101 = .ok (.aload_n 0, 1) := by decide +kernel
theorem dX8_firstOf_102 : decode cX8_firstOf 102 = .ok (.getfield 70, 3) := by decide +kernel
theorem dX8_firstOf_105 : decode cX8_firstOf 105 = .ok (.if_icmp .ge 48, 3) := by decide +kernel
theorem dX8_firstOf_108 : decode cX8_firstOf 108 = .ok (.aload_n 0, 1) := by decide +kernel
theorem dX8_firstOf_109 : decode cX8_firstOf 109 = .ok (.aload_n 0, 1) := by decide +kernel
theorem dX8_firstOf_110 : decode cX8_firstOf 110 = .ok (.getfield 31, 3) := by decide +kernel
theorem dX8_firstOf_113 : decode cX8_firstOf 113 = .ok (.iload 5, 2) := by decide +kernel
theorem dX8_firstOf_115 : decode cX8_firstOf 115 = .ok (.invokevirtual 154, 3) := by decide +kernel
theorem dX8_firstOf_118 : decode cX8_firstOf 118 = .ok (.ifCond .ne 29, 3) := by decide +kernel
theorem dX8_firstOf_121 : decode cX8_firstOf 121 = .ok (.aload_n 0, 1) := by decide +kernel
theorem dX8_firstOf_122 : decode cX8_firstOf 122 = .ok (.getfield 53, 3) := by decide +kernel
theorem dX8_firstOf_125 : decode cX8_firstOf 125 = .ok (.bipush 16, 2) := by decide +kernel
theorem dX8_firstOf_127 : decode cX8_firstOf 127 = .ok (.iload_n 2, 1) := by decide +kernel
theorem dX8_firstOf_128 : decode cX8_firstOf 128 = .ok (.imul, 1) := by decide +kernel
theorem dX8_firstOf_129 : decode cX8_firstOf 129 = .ok (.iload_n 3, 1) := by decide +kernel
theorem dX8_firstOf_130 : decode cX8_firstOf 130 = .ok (.iconst 1, 1) := by decide +kernel
theorem dX8_firstOf_131 : decode cX8_firstOf 131 = .ok (.iload 5, 2) := by decide +kernel
theorem dX8_firstOf_133 : decode cX8_firstOf 133 = .ok (.ishl, 1) := by decide +kernel
theorem dX8_firstOf_134 : decode cX8_firstOf 134 = .ok (.ior, 1) := by decide +kernel
theorem dX8_firstOf_135 : decode cX8_firstOf 135 = .ok (.iadd, 1) := by decide +kernel
theorem dX8_firstOf_136 : decode cX8_firstOf 136 = .ok (.iaload, 1) := by decide +kernel
theorem dX8_firstOf_137 : decode cX8_firstOf 137 = .ok (.iload 4, 2) := by decide +kernel
theorem dX8_firstOf_139 : decode cX8_firstOf 139 = .ok (.if_icmp .ne 8, 3) := by decide +kernel
theorem dX8_firstOf_142 : decode cX8_firstOf 142 = .ok (.iload 5, 2) := by decide +kernel
theorem dX8_firstOf_144 : decode cX8_firstOf 144 = .ok (.iconst 5, 1) := by decide +kernel
theorem dX8_firstOf_145 : decode cX8_firstOf 145 = .ok (.iadd, 1) := by decide +kernel
theorem dX8_firstOf_146 : decode cX8_firstOf 146 = .ok (.ireturn, 1) := by decide +kernel
theorem dX8_firstOf_147 : decode cX8_firstOf 147 = .ok (.iinc 5 1, 3) := by decide +kernel
theorem dX8_firstOf_150 : decode cX8_firstOf 150 = .ok (.goto (-51), 3) := by decide +kernel
theorem dX8_firstOf_153 : decode cX8_firstOf 153 = .ok (.iconst 0, 1) := by decide +kernel
theorem dX8_firstOf_154 : decode cX8_firstOf 154 = .ok (.ireturn, 1) := by decide +kernel
theorem dX8_bestNow_0 : decode cX8_bestNow 0 = .ok (.aload_n 0, 1) := by decide +kernel
theorem dX8_bestNow_1 : decode cX8_bestNow 1 = .ok (.getfield 53, 3) := by decide +kernel
theorem dX8_bestNow_4 : decode cX8_bestNow 4 = .ok (.bipush 16, 2) := by decide +kernel
theorem dX8_bestNow_6 : decode cX8_bestNow 6 = .ok (.aload_n 0, 1) := by decide +kernel
theorem dX8_bestNow_7 : decode cX8_bestNow 7 = .ok (.invokevirtual 186, 3) := by decide +kernel
theorem dX8_bestNow_10 : decode cX8_bestNow 10 = .ok (.imul, 1) := by decide +kernel
theorem dX8_bestNow_11 : decode cX8_bestNow 11 = .ok (.aload_n 0, 1) := by decide +kernel
theorem dX8_bestNow_12 : decode cX8_bestNow 12 = .ok (.getfield 31, 3) := by decide +kernel
theorem dX8_bestNow_15 : decode cX8_bestNow 15 = .ok (.bipush 13, 2) := by decide +kernel
theorem dX8_bestNow_17 : decode cX8_bestNow 17 = .ok (.iaload, 1) := by decide +kernel
theorem dX8_bestNow_18 : decode cX8_bestNow 18 = .ok (.iadd, 1) := by decide +kernel
theorem dX8_bestNow_19 : decode cX8_bestNow 19 = .ok (.iaload, 1) := by decide +kernel
theorem dX8_bestNow_20 : decode cX8_bestNow 20 = .ok (.ireturn, 1) := by decide +kernel
theorem dX8_mean_0 : decode cX8_mean 0 = .ok (.aload_n 0, 1) := by decide +kernel
theorem dX8_mean_1 : decode cX8_mean 1 = .ok (.iconst 0, 1) := by decide +kernel
theorem dX8_mean_2 : decode cX8_mean 2 = .ok (.putfield 59, 3) := by decide +kernel
theorem dX8_mean_5 : decode cX8_mean 5 = .ok (.iload_n 1, 1) := by decide +kernel
theorem dX8_mean_6 : decode cX8_mean 6 = .ok (.i2l, 1) := by decide +kernel
theorem dX8_mean_7 : decode cX8_mean 7 = .ok (.lconst 0, 1) := by decide +kernel
theorem dX8_mean_8 : decode cX8_mean 8 = .ok (.lconst 1, 1) := by decide +kernel
theorem dX8_mean_9 : decode cX8_mean 9 = .ok (.invokestatic 66, 3) := by decide +kernel
theorem dX8_mean_12 : decode cX8_mean 12 = .ok (.ifCond .ne 6, 3) := by decide +kernel
theorem dX8_mean_15 : decode cX8_mean 15 = .ok (.bipush (-2), 2) := by decide +kernel
theorem dX8_mean_17 : decode cX8_mean 17 = .ok (.ireturn, 1) := by decide +kernel
theorem dX8_mean_18 : decode cX8_mean 18 = .ok (.aload_n 0, 1) := by decide +kernel
theorem dX8_mean_19 : decode cX8_mean 19 = .ok (.iconst 0, 1) := by decide +kernel
theorem dX8_mean_20 : decode cX8_mean 20 = .ok (.bipush (-9), 2) := by decide +kernel
theorem dX8_mean_22 : decode cX8_mean 22 = .ok (.invokevirtual 208, 3) := by decide +kernel
theorem dX8_mean_25 : decode cX8_mean 25 = .ok (.iload_n 1, 1) := by decide +kernel
theorem dX8_mean_26 : decode cX8_mean 26 = .ok (.ifCond .ne 13, 3) := by decide +kernel
theorem dX8_mean_29 : decode cX8_mean 29 = .ok (.bipush 10, 2) := by decide +kernel
theorem dX8_mean_31 : decode cX8_mean 31 = .ok (.aload_n 0, 1) := by decide +kernel
theorem dX8_mean_32 : decode cX8_mean 32 = .ok (.invokevirtual 212, 3) := by decide +kernel
theorem dX8_mean_35 : decode cX8_mean 35 = .ok (.imul, 1) := by decide +kernel
theorem dX8_mean_36 : decode cX8_mean 36 = .ok (.goto 8, 3) := by decide +kernel
theorem dX8_mean_39 : decode cX8_mean 39 = .ok (.aload_n 0, 1) := by decide +kernel
theorem dX8_mean_40 : decode cX8_mean 40 = .ok (.iconst 0, 1) := by decide +kernel
theorem dX8_mean_41 : decode cX8_mean 41 = .ok (.invokevirtual 215, 3) := by decide +kernel
theorem dX8_mean_44 : decode cX8_mean 44 = .ok (.ireturn, 1) := by decide +kernel
theorem dX8_worst_0 : decode cX8_worst 0 = .ok (.aload_n 0, 1) := by decide +kernel
theorem dX8_worst_1 : decode cX8_worst 1 = .ok (.iconst 0, 1) := by decide +kernel
theorem dX8_worst_2 : decode cX8_worst 2 = .ok (.putfield 59, 3) := by decide +kernel
theorem dX8_worst_5 : decode cX8_worst 5 = .ok (.iload_n 1, 1) := by decide +kernel
theorem dX8_worst_6 : decode cX8_worst 6 = .ok (.i2l, 1) := by decide +kernel
theorem dX8_worst_7 : decode cX8_worst 7 = .ok (.lconst 0, 1) := by decide +kernel
theorem dX8_worst_8 : decode cX8_worst 8 = .ok (.lconst 1, 1) := by decide +kernel
theorem dX8_worst_9 : decode cX8_worst 9 = .ok (.invokestatic 66, 3) := by decide +kernel
theorem dX8_worst_12 : decode cX8_worst 12 = .ok (.ifCond .ne 6, 3) := by decide +kernel
theorem dX8_worst_15 : decode cX8_worst 15 = .ok (.bipush (-2), 2) := by decide +kernel
theorem dX8_worst_17 : decode cX8_worst 17 = .ok (.ireturn, 1) := by decide +kernel
theorem dX8_worst_18 : decode cX8_worst 18 = .ok (.aload_n 0, 1) := by decide +kernel
theorem dX8_worst_19 : decode cX8_worst 19 = .ok (.iconst 1, 1) := by decide +kernel
theorem dX8_worst_20 : decode cX8_worst 20 = .ok (.bipush (-9), 2) := by decide +kernel
theorem dX8_worst_22 : decode cX8_worst 22 = .ok (.invokevirtual 208, 3) := by decide +kernel
theorem dX8_worst_25 : decode cX8_worst 25 = .ok (.iload_n 1, 1) := by decide +kernel
theorem dX8_worst_26 : decode cX8_worst 26 = .ok (.ifCond .ne 10, 3) := by decide +kernel
theorem dX8_worst_29 : decode cX8_worst 29 = .ok (.aload_n 0, 1) := by decide +kernel
theorem dX8_worst_30 : decode cX8_worst 30 = .ok (.invokevirtual 212, 3) := by decide +kernel
theorem dX8_worst_33 : decode cX8_worst 33 = .ok (.goto 8, 3) := by decide +kernel
theorem dX8_worst_36 : decode cX8_worst 36 = .ok (.aload_n 0, 1) := by decide +kernel
theorem dX8_worst_37 : decode cX8_worst 37 = .ok (.iconst 1, 1) := by decide +kernel
theorem dX8_worst_38 : decode cX8_worst 38 = .ok (.invokevirtual 215, 3) := by decide +kernel
theorem dX8_worst_41 : decode cX8_worst 41 = .ok (.ireturn, 1) := by decide +kernel
theorem dX8_regretOf_0 : decode cX8_regretOf 0 = .ok (.aload_n 0, 1) := by decide +kernel
theorem dX8_regretOf_1 : decode cX8_regretOf 1 = .ok (.iconst 1, 1) := by decide +kernel
theorem dX8_regretOf_2 : decode cX8_regretOf 2 = .ok (.iload_n 1, 1) := by decide +kernel
theorem dX8_regretOf_3 : decode cX8_regretOf 3 = .ok (.invokevirtual 208, 3) := by decide +kernel
theorem dX8_regretOf_6 : decode cX8_regretOf 6 = .ok (.aload_n 0, 1) := by decide +kernel
theorem dX8_regretOf_7 : decode cX8_regretOf 7 = .ok (.invokevirtual 212, 3) := by decide +kernel
theorem dX8_regretOf_10 : decode cX8_regretOf 10 = .ok (.istore_n 2, 1) := by decide +kernel
theorem dX8_regretOf_11 : decode cX8_regretOf 11 = .ok (.aload_n 0, 1) := by decide +kernel
theorem dX8_regretOf_12 : decode cX8_regretOf 12 = .ok (.iconst 1, 1) := by decide +kernel
theorem dX8_regretOf_13 : decode cX8_regretOf 13 = .ok (.bipush (-9), 2) := by decide +kernel
theorem dX8_regretOf_15 : decode cX8_regretOf 15 = .ok (.invokevirtual 208, 3) := by decide +kernel
theorem dX8_regretOf_18 : decode cX8_regretOf 18 = .ok (.aload_n 0, 1) := by decide +kernel
theorem dX8_regretOf_19 : decode cX8_regretOf 19 = .ok (.aload_n 0, 1) := by decide +kernel
theorem dX8_regretOf_20 : decode cX8_regretOf 20 = .ok (.invokevirtual 186, 3) := by decide +kernel
theorem dX8_regretOf_23 : decode cX8_regretOf 23 = .ok (.aload_n 0, 1) := by decide +kernel
theorem dX8_regretOf_24 : decode cX8_regretOf 24 = .ok (.getfield 31, 3) := by decide +kernel
theorem dX8_regretOf_27 : decode cX8_regretOf 27 = .ok (.bipush 13, 2) := by decide +kernel
theorem dX8_regretOf_29 : decode cX8_regretOf 29 = .ok (.iaload, 1) := by decide +kernel
theorem dX8_regretOf_30 : decode cX8_regretOf 30 = .ok (.iload_n 1, 1) := by decide +kernel
theorem dX8_regretOf_31 : decode cX8_regretOf 31 = .ok (.iconst 1, 1) := by decide +kernel
theorem dX8_regretOf_32 : decode cX8_regretOf 32 = .ok (.invokevirtual 204, 3) := by decide +kernel
theorem dX8_regretOf_35 : decode cX8_regretOf 35 = .ok (.istore_n 3, 1) := by decide +kernel
theorem dX8_regretOf_36 : decode cX8_regretOf 36 = .ok (.iload_n 2, 1) := by decide +kernel
theorem dX8_regretOf_37 : decode cX8_regretOf 37 = .ok (.iload_n 3, 1) := by decide +kernel
theorem dX8_regretOf_38 : decode cX8_regretOf 38 = .ok (.if_icmp .le 9, 3) := by decide +kernel
theorem dX8_regretOf_41 : decode cX8_regretOf 41 = .ok (.iload_n 2, 1) := by decide +kernel
theorem dX8_regretOf_42 : decode cX8_regretOf 42 = .ok (.iload_n 3, 1) := by decide +kernel
theorem dX8_regretOf_43 : decode cX8_regretOf 43 = .ok (.isub, 1) := by decide +kernel
theorem dX8_regretOf_44 : decode cX8_regretOf 44 = .ok (.goto 4, 3) := by decide +kernel
theorem dX8_regretOf_47 : decode cX8_regretOf 47 = .ok (.iconst 0, 1) := by decide +kernel
theorem dX8_regretOf_48 : decode cX8_regretOf 48 = .ok (.ireturn, 1) := by decide +kernel
theorem dX8_regret_0 : decode cX8_regret 0 = .ok (.aload_n 0, 1) := by decide +kernel
theorem dX8_regret_1 : decode cX8_regret 1 = .ok (.iconst 0, 1) := by decide +kernel
theorem dX8_regret_2 : decode cX8_regret 2 = .ok (.putfield 59, 3) := by decide +kernel
theorem dX8_regret_5 : decode cX8_regret 5 = .ok (.aload_n 0, 1) := by decide +kernel
theorem dX8_regret_6 : decode cX8_regret 6 = .ok (.iload_n 1, 1) := by decide +kernel
theorem dX8_regret_7 : decode cX8_regret 7 = .ok (.invokevirtual 126, 3) := by decide +kernel
theorem dX8_regret_10 : decode cX8_regret 10 = .ok (.ifCond .eq 5, 3) := by decide +kernel
theorem dX8_regret_13 : decode cX8_regret 13 = .ok (.iconst (-1), 1) := by decide +kernel
theorem dX8_regret_14 : decode cX8_regret 14 = .ok (.ireturn, 1) := by decide +kernel
theorem dX8_regret_15 : decode cX8_regret 15 = .ok (.aload_n 0, 1) := by decide +kernel
theorem dX8_regret_16 : decode cX8_regret 16 = .ok (.aload_n 0, 1) := by decide +kernel
theorem dX8_regret_17 : decode cX8_regret 17 = .ok (.getfield 31, 3) := by decide +kernel
theorem dX8_regret_20 : decode cX8_regret 20 = .ok (.iload_n 1, 1) := by decide +kernel
theorem dX8_regret_21 : decode cX8_regret 21 = .ok (.invokevirtual 143, 3) := by decide +kernel
theorem dX8_regret_24 : decode cX8_regret 24 = .ok (.istore_n 2, 1) := by decide +kernel
theorem dX8_regret_25 : decode cX8_regret 25 = .ok (.iload_n 2, 1) := by decide +kernel
theorem dX8_regret_26 : decode cX8_regret 26 = .ok (.ifCond .eq 7, 3) := by decide +kernel
theorem dX8_regret_29 : decode cX8_regret 29 = .ok (.iload_n 2, 1) := by decide +kernel
theorem dX8_regret_30 : decode cX8_regret 30 = .ok (.goto 8, 3) := by decide +kernel
theorem dX8_regret_33 : decode cX8_regret 33 = .ok (.aload_n 0, 1) := by decide +kernel
theorem dX8_regret_34 : decode cX8_regret 34 = .ok (.iload_n 1, 1) := by decide +kernel
theorem dX8_regret_35 : decode cX8_regret 35 = .ok (.invokevirtual 219, 3) := by decide +kernel
theorem dX8_regret_38 : decode cX8_regret 38 = .ok (.ireturn, 1) := by decide +kernel
theorem dX8_never_0 : decode cX8_never 0 = .ok (.aload_n 0, 1) := by decide +kernel
theorem dX8_never_1 : decode cX8_never 1 = .ok (.iconst 0, 1) := by decide +kernel
theorem dX8_never_2 : decode cX8_never 2 = .ok (.putfield 59, 3) := by decide +kernel
theorem dX8_never_5 : decode cX8_never 5 = .ok (.iconst 0, 1) := by decide +kernel
theorem dX8_never_6 : decode cX8_never 6 = .ok (.istore_n 1, 1) := by decide +kernel
theorem dX8_never_7 : decode cX8_never 7 = .ok (.iconst 0, 1) := by decide +kernel
theorem dX8_never_8 : decode cX8_never 8 = .ok (.istore_n 2, 1) := by decide +kernel
theorem dX8_never_9 : decode cX8_never 9 = .ok (.iload_n 2, 1) := by decide +kernel
theorem dX8_never_10 : decode cX8_never 10 = .ok (.aload_n 0, 1) := by decide +kernel
theorem dX8_never_11 : decode cX8_never 11 = .ok (.getfield 63, 3) := by decide +kernel
theorem dX8_never_14 : decode cX8_never 14 = .ok (.if_icmp .ge 39, 3) := by decide +kernel
theorem dX8_never_17 : decode cX8_never 17 = .ok (.iload_n 1, 1) := by decide +kernel
theorem dX8_never_18 : decode cX8_never 18 = .ok (.aload_n 0, 1) := by decide +kernel
theorem dX8_never_19 : decode cX8_never 19 = .ok (.aload_n 0, 1) := by decide +kernel
theorem dX8_never_20 : decode cX8_never 20 = .ok (.getfield 31, 3) := by decide +kernel
theorem dX8_never_23 : decode cX8_never 23 = .ok (.iload_n 2, 1) := by decide +kernel
theorem dX8_never_24 : decode cX8_never 24 = .ok (.invokevirtual 143, 3) := by decide +kernel
theorem dX8_never_27 : decode cX8_never 27 = .ok (.ifCond .ne 17, 3) := by decide +kernel
theorem dX8_never_30 : decode cX8_never 30 = .ok (.aload_n 0, 1) := by decide +kernel
theorem dX8_never_31 : decode cX8_never 31 = .ok (.iload_n 2, 1) := by decide +kernel
theorem dX8_never_32 : decode cX8_never 32 = .ok (.invokevirtual 219, 3) := by decide +kernel
theorem dX8_never_35 : decode cX8_never 35 = .ok (.ifCond .ne 9, 3) := by decide +kernel
theorem dX8_never_38 : decode cX8_never 38 = .ok (.iconst 1, 1) := by decide +kernel
theorem dX8_never_39 : decode cX8_never 39 = .ok (.iload_n 2, 1) := by decide +kernel
theorem dX8_never_40 : decode cX8_never 40 = .ok (.ishl, 1) := by decide +kernel
theorem dX8_never_41 : decode cX8_never 41 = .ok (.goto 4, 3) := by decide +kernel
theorem dX8_never_44 : decode cX8_never 44 = .ok (.iconst 0, 1) := by decide +kernel
theorem dX8_never_45 : decode cX8_never 45 = .ok (.ior, 1) := by decide +kernel
theorem dX8_never_46 : decode cX8_never 46 = .ok (.istore_n 1, 1) := by decide +kernel
theorem dX8_never_47 : decode cX8_never 47 = .ok (.iinc 2 1, 3) := by decide +kernel
theorem dX8_never_50 : decode cX8_never 50 = .ok (.goto (-41), 3) := by decide +kernel
theorem dX8_never_53 : decode cX8_never 53 = .ok (.iload_n 1, 1) := by decide +kernel
theorem dX8_never_54 : decode cX8_never 54 = .ok (.ireturn, 1) := by decide +kernel
theorem dX8_shortFor_0 : decode cX8_shortFor 0 = .ok (.aload_n 0, 1) := by decide +kernel
theorem dX8_shortFor_1 : decode cX8_shortFor 1 = .ok (.iconst 0, 1) := by decide +kernel
theorem dX8_shortFor_2 : decode cX8_shortFor 2 = .ok (.putfield 59, 3) := by decide +kernel
theorem dX8_shortFor_5 : decode cX8_shortFor 5 = .ok (.iload_n 1, 1) := by decide +kernel
theorem dX8_shortFor_6 : decode cX8_shortFor 6 = .ok (.i2l, 1) := by decide +kernel
theorem dX8_shortFor_7 : decode cX8_shortFor 7 = .ok (.lconst 0, 1) := by decide +kernel
theorem dX8_shortFor_8 : decode cX8_shortFor 8 = .ok (.iconst 1, 1) := by decide +kernel
theorem dX8_shortFor_9 : decode cX8_shortFor 9 = .ok (.aload_n 0, 1) := by decide +kernel
theorem dX8_shortFor_10 : decode cX8_shortFor 10 = .ok (.getfield 70, 3) := by decide +kernel
theorem dX8_shortFor_13 : decode cX8_shortFor 13 = .ok (.ishl, 1) := by decide +kernel
theorem dX8_shortFor_14 : decode cX8_shortFor 14 = .ok (.iconst 1, 1) := by decide +kernel
theorem dX8_shortFor_15 : decode cX8_shortFor 15 = .ok (.isub, 1) := by decide +kernel
theorem dX8_shortFor_16 : decode cX8_shortFor 16 = .ok (.i2l, 1) := by decide +kernel
theorem dX8_shortFor_17 : decode cX8_shortFor 17 = .ok (.invokestatic 66, 3) := by decide +kernel
theorem dX8_shortFor_20 : decode cX8_shortFor 20 = .ok (.ifCond .ne 6, 3) := by decide +kernel
theorem dX8_shortFor_23 : decode cX8_shortFor 23 = .ok (.bipush (-2), 2) := by decide +kernel
theorem dX8_shortFor_25 : decode cX8_shortFor 25 = .ok (.ireturn, 1) := by decide +kernel
theorem dX8_shortFor_26 : decode cX8_shortFor 26 = .ok (.iconst 0, 1) := by decide +kernel
theorem dX8_shortFor_27 : decode cX8_shortFor 27 = .ok (.istore_n 2, 1) := by decide +kernel
theorem dX8_shortFor_28 : decode cX8_shortFor 28 = .ok (.iconst 0, 1) := by decide +kernel
theorem dX8_shortFor_29 : decode cX8_shortFor 29 = .ok (.istore_n 3, 1) := by decide +kernel
theorem dX8_shortFor_30 : decode cX8_shortFor 30 = .ok (.iload_n 3, 1) := by decide +kernel
theorem dX8_shortFor_31 : decode cX8_shortFor 31 = .ok (.aload_n 0, 1) := by decide +kernel
theorem dX8_shortFor_32 : decode cX8_shortFor 32 = .ok (.getfield 108, 3) := by decide +kernel
theorem dX8_shortFor_35 : decode cX8_shortFor 35 = .ok (.if_icmp .ge 105, 3) := by decide +kernel
theorem dX8_shortFor_38 : decode cX8_shortFor 38 = .ok (.iconst 0, 1) := by decide +kernel
theorem dX8_shortFor_39 : decode cX8_shortFor 39 = .ok (.istore 4, 2) := by decide +kernel
theorem dX8_shortFor_41 : decode cX8_shortFor 41 = .ok (.iconst 0, 1) := by decide +kernel
theorem dX8_shortFor_42 : decode cX8_shortFor 42 = .ok (.istore 5, 2) := by decide +kernel
theorem dX8_shortFor_44 : decode cX8_shortFor 44 = .ok (.iload 5, 2) := by decide +kernel
theorem dX8_shortFor_46 : decode cX8_shortFor 46 = .ok (.aload_n 0, 1) := by decide +kernel
theorem dX8_shortFor_47 : decode cX8_shortFor 47 = .ok (.getfield 70, 3) := by decide +kernel
theorem dX8_shortFor_50 : decode cX8_shortFor 50 = .ok (.if_icmp .ge 63, 3) := by decide +kernel
theorem dX8_shortFor_53 : decode cX8_shortFor 53 = .ok (.iload 4, 2) := by decide +kernel
theorem dX8_shortFor_55 : decode cX8_shortFor 55 = .ok (.iload_n 1, 1) := by decide +kernel
theorem dX8_shortFor_56 : decode cX8_shortFor 56 = .ok (.aload_n 0, 1) := by decide +kernel
theorem dX8_shortFor_57 : decode cX8_shortFor 57 = .ok (.getfield 31, 3) := by decide +kernel
theorem dX8_shortFor_60 : decode cX8_shortFor 60 = .ok (.bipush 13, 2) := by decide +kernel
theorem dX8_shortFor_62 : decode cX8_shortFor 62 = .ok (.iaload, 1) := by decide +kernel
theorem dX8_shortFor_63 : decode cX8_shortFor 63 = .ok (.iconst (-1), 1) := by decide +kernel
theorem dX8_shortFor_64 : decode cX8_shortFor 64 = .ok (.ixor, 1) := by decide +kernel
theorem dX8_shortFor_65 : decode cX8_shortFor 65 = .ok (.iand, 1) := by decide +kernel
theorem dX8_shortFor_66 : decode cX8_shortFor 66 = .ok (.iload 5, 2) := by decide +kernel
theorem dX8_shortFor_68 : decode cX8_shortFor 68 = .ok (.invokestatic 130, 3) := by decide +kernel
theorem dX8_shortFor_71 : decode cX8_shortFor 71 = .ok (.ifCond .eq 32, 3) := by decide +kernel
theorem dX8_shortFor_74 : decode cX8_shortFor 74 = .ok (.aload_n 0, 1) := by decide +kernel
theorem dX8_shortFor_75 : decode cX8_shortFor 75 = .ok (.getfield 19, 3) := by decide +kernel
theorem dX8_shortFor_78 : decode cX8_shortFor 78 = .ok (.iconst 5, 1) := by decide +kernel
theorem dX8_shortFor_79 : decode cX8_shortFor 79 = .ok (.iload 5, 2) := by decide +kernel
theorem dX8_shortFor_81 : decode cX8_shortFor 81 = .ok (.imul, 1) := by decide +kernel
theorem dX8_shortFor_82 : decode cX8_shortFor 82 = .ok (.iconst 3, 1) := by decide +kernel
theorem dX8_shortFor_83 : decode cX8_shortFor 83 = .ok (.iadd, 1) := by decide +kernel
theorem dX8_shortFor_84 : decode cX8_shortFor 84 = .ok (.iaload, 1) := by decide +kernel
theorem dX8_shortFor_85 : decode cX8_shortFor 85 = .ok (.iload_n 3, 1) := by decide +kernel
theorem dX8_shortFor_86 : decode cX8_shortFor 86 = .ok (.if_icmp .ne 17, 3) := by decide +kernel
theorem dX8_shortFor_89 : decode cX8_shortFor 89 = .ok (.aload_n 0, 1) := by decide +kernel
theorem dX8_shortFor_90 : decode cX8_shortFor 90 = .ok (.getfield 19, 3) := by decide +kernel
theorem dX8_shortFor_93 : decode cX8_shortFor 93 = .ok (.iconst 5, 1) := by decide +kernel
theorem dX8_shortFor_94 : decode cX8_shortFor 94 = .ok (.iload 5, 2) := by decide +kernel
theorem dX8_shortFor_96 : decode cX8_shortFor 96 = .ok (.imul, 1) := by decide +kernel
theorem dX8_shortFor_97 : decode cX8_shortFor 97 = .ok (.iconst 4, 1) := by decide +kernel
theorem dX8_shortFor_98 : decode cX8_shortFor 98 = .ok (.iadd, 1) := by decide +kernel
theorem dX8_shortFor_99 : decode cX8_shortFor 99 = .ok (.iaload, 1) := by decide +kernel
theorem dX8_shortFor_100 : decode cX8_shortFor 100 = .ok (.goto 4, 3) := by decide +kernel
theorem dX8_shortFor_103 : decode cX8_shortFor 103 = .ok (.iconst 0, 1) := by decide +kernel
theorem dX8_shortFor_104 : decode cX8_shortFor 104 = .ok (.iadd, 1) := by decide +kernel
theorem dX8_shortFor_105 : decode cX8_shortFor 105 = .ok (.istore 4, 2) := by decide +kernel
theorem dX8_shortFor_107 : decode cX8_shortFor 107 = .ok (.iinc 5 1, 3) := by decide +kernel
theorem dX8_shortFor_110 : decode cX8_shortFor 110 = .ok (.goto (-66), 3) := by decide +kernel
theorem dX8_shortFor_113 : decode cX8_shortFor 113 = .ok (.iload_n 2, 1) := by decide +kernel
theorem dX8_shortFor_114 : decode cX8_shortFor 114 = .ok (.iload 4, 2) := by decide +kernel
theorem dX8_shortFor_116 : decode cX8_shortFor 116 = .ok (.aload_n 0, 1) := by decide +kernel
theorem dX8_shortFor_117 : decode cX8_shortFor 117 = .ok (.getfield 31, 3) := by decide +kernel
theorem dX8_shortFor_120 : decode cX8_shortFor 120 = .ok (.iload_n 3, 1) := by decide +kernel
theorem dX8_shortFor_121 : decode cX8_shortFor 121 = .ok (.iaload, 1) := by decide +kernel
theorem dX8_shortFor_122 : decode cX8_shortFor 122 = .ok (.if_icmp .le 9, 3) := by decide +kernel
theorem dX8_shortFor_125 : decode cX8_shortFor 125 = .ok (.iconst 1, 1) := by decide +kernel
theorem dX8_shortFor_126 : decode cX8_shortFor 126 = .ok (.iload_n 3, 1) := by decide +kernel
theorem dX8_shortFor_127 : decode cX8_shortFor 127 = .ok (.ishl, 1) := by decide +kernel
theorem dX8_shortFor_128 : decode cX8_shortFor 128 = .ok (.goto 4, 3) := by decide +kernel
theorem dX8_shortFor_131 : decode cX8_shortFor 131 = .ok (.iconst 0, 1) := by decide +kernel
theorem dX8_shortFor_132 : decode cX8_shortFor 132 = .ok (.ior, 1) := by decide +kernel
theorem dX8_shortFor_133 : decode cX8_shortFor 133 = .ok (.istore_n 2, 1) := by decide +kernel
theorem dX8_shortFor_134 : decode cX8_shortFor 134 = .ok (.iinc 3 1, 3) := by decide +kernel
theorem dX8_shortFor_137 : decode cX8_shortFor 137 = .ok (.goto (-107), 3) := by decide +kernel
theorem dX8_shortFor_140 : decode cX8_shortFor 140 = .ok (.iload_n 2, 1) := by decide +kernel
theorem dX8_shortFor_141 : decode cX8_shortFor 141 = .ok (.ireturn, 1) := by decide +kernel
theorem dX8_partners_0 : decode cX8_partners 0 = .ok (.aload_n 0, 1) := by decide +kernel
theorem dX8_partners_1 : decode cX8_partners 1 = .ok (.iconst 0, 1) := by decide +kernel
theorem dX8_partners_2 : decode cX8_partners 2 = .ok (.putfield 59, 3) := by decide +kernel
theorem dX8_partners_5 : decode cX8_partners 5 = .ok (.iload_n 1, 1) := by decide +kernel
theorem dX8_partners_6 : decode cX8_partners 6 = .ok (.i2l, 1) := by decide +kernel
theorem dX8_partners_7 : decode cX8_partners 7 = .ok (.lconst 1, 1) := by decide +kernel
theorem dX8_partners_8 : decode cX8_partners 8 = .ok (.ldc2_w 222, 3) := by decide +kernel
theorem dX8_partners_11 : decode cX8_partners 11 = .ok (.invokestatic 66, 3) := by decide +kernel
theorem dX8_partners_14 : decode cX8_partners 14 = .ok (.ifCond .eq 38, 3) := by decide +kernel
theorem dX8_partners_17 : decode cX8_partners 17 = .ok (.iload_n 2, 1) := by decide +kernel
theorem dX8_partners_18 : decode cX8_partners 18 = .ok (.i2l, 1) := by decide +kernel
theorem dX8_partners_19 : decode cX8_partners 19 = .ok (.lconst 0, 1) := by decide +kernel
theorem dX8_partners_20 : decode cX8_partners 20 = .ok (.ldc2_w 222, 3) := by decide +kernel
theorem dX8_partners_23 : decode cX8_partners 23 = .ok (.invokestatic 66, 3) := by decide +kernel
theorem dX8_partners_26 : decode cX8_partners 26 = .ok (.ifCond .eq 26, 3) := by decide +kernel
theorem dX8_partners_29 : decode cX8_partners 29 = .ok (.iload_n 3, 1) := by decide +kernel
theorem dX8_partners_30 : decode cX8_partners 30 = .ok (.i2l, 1) := by decide +kernel
theorem dX8_partners_31 : decode cX8_partners 31 = .ok (.lconst 0, 1) := by decide +kernel
theorem dX8_partners_32 : decode cX8_partners 32 = .ok (.ldc2_w 222, 3) := by decide +kernel
theorem dX8_partners_35 : decode cX8_partners 35 = .ok (.invokestatic 66, 3) := by decide +kernel
theorem dX8_partners_38 : decode cX8_partners 38 = .ok (.ifCond .eq 14, 3) := by decide +kernel
theorem dX8_partners_41 : decode cX8_partners 41 = .ok (.iload 4, 2) := by decide +kernel
theorem dX8_partners_43 : decode cX8_partners 43 = .ok (.i2l, 1) := by decide +kernel
theorem dX8_partners_44 : decode cX8_partners 44 = .ok (.lconst 0, 1) := by decide +kernel
theorem dX8_partners_45 : decode cX8_partners 45 = .ok (.lconst 1, 1) := by decide +kernel
theorem dX8_partners_46 : decode cX8_partners 46 = .ok (.invokestatic 66, 3) := by decide +kernel
theorem dX8_partners_49 : decode cX8_partners 49 = .ok (.ifCond .ne 6, 3) := by decide +kernel
theorem dX8_partners_52 : decode cX8_partners 52 = .ok (.bipush (-2), 2) := by decide +kernel
theorem dX8_partners_54 : decode cX8_partners 54 = .ok (.ireturn, 1) := by decide +kernel
theorem dX8_partners_55 : decode cX8_partners 55 = .ok (.iconst 0, 1) := by decide +kernel
theorem dX8_partners_56 : decode cX8_partners 56 = .ok (.istore 5, 2) := by decide +kernel
theorem dX8_partners_58 : decode cX8_partners 58 = .ok (.bipush (-9), 2) := by decide +kernel
theorem dX8_partners_60 : decode cX8_partners 60 = .ok (.istore 6, 2) := by decide +kernel
theorem dX8_partners_62 : decode cX8_partners 62 = .ok (.iconst 0, 1) := by decide +kernel
theorem dX8_partners_63 : decode cX8_partners 63 = .ok (.istore 7, 2) := by decide +kernel
theorem dX8_partners_65 : decode cX8_partners 65 = .ok (.iload 7, 2) := by decide +kernel
theorem dX8_partners_67 : decode cX8_partners 67 = .ok (.bipush 10, 2) := by decide +kernel
theorem dX8_partners_69 : decode cX8_partners 69 = .ok (.if_icmp .gt 52, 3) := by decide +kernel
theorem dX8_partners_72 : decode cX8_partners 72 = .ok (.iload_n 1, 1) := by decide +kernel
theorem dX8_partners_73 : decode cX8_partners 73 = .ok (.iload 7, 2) := by decide +kernel
theorem dX8_partners_75 : decode cX8_partners 75 = .ok (.imul, 1) := by decide +kernel
theorem dX8_partners_76 : decode cX8_partners 76 = .ok (.bipush 9, 2) := by decide +kernel
theorem dX8_partners_78 : decode cX8_partners 78 = .ok (.iadd, 1) := by decide +kernel
theorem dX8_partners_79 : decode cX8_partners 79 = .ok (.bipush 10, 2) := by decide +kernel
theorem dX8_partners_81 : decode cX8_partners 81 = .ok (.idiv, 1) := by decide +kernel
theorem dX8_partners_82 : decode cX8_partners 82 = .ok (.istore 8, 2) := by decide +kernel
theorem dX8_partners_84 : decode cX8_partners 84 = .ok (.iload 8, 2) := by decide +kernel
theorem dX8_partners_86 : decode cX8_partners 86 = .ok (.iload_n 2, 1) := by decide +kernel
theorem dX8_partners_87 : decode cX8_partners 87 = .ok (.if_icmp .gt 28, 3) := by decide +kernel
theorem dX8_partners_90 : decode cX8_partners 90 = .ok (.iload_n 1, 1) := by decide +kernel
theorem dX8_partners_91 : decode cX8_partners 91 = .ok (.iload 8, 2) := by decide +kernel
theorem dX8_partners_93 : decode cX8_partners 93 = .ok (.isub, 1) := by decide +kernel
theorem dX8_partners_94 : decode cX8_partners 94 = .ok (.iload_n 3, 1) := by decide +kernel
theorem dX8_partners_95 : decode cX8_partners 95 = .ok (.if_icmp .gt 20, 3) := by decide +kernel
theorem dX8_partners_98 : decode cX8_partners 98 = .ok (.iload 5, 2) := by decide +kernel
theorem dX8_partners_100 : decode cX8_partners 100 = .ok (.ifCond .ne 8, 3) := by decide +kernel
theorem dX8_partners_103 : decode cX8_partners 103 = .ok (.iload 7, 2) := by decide +kernel
theorem dX8_partners_105 : decode cX8_partners 105 = .ok (.goto 5, 3) := by decide +kernel
theorem dX8_partners_108 : decode cX8_partners 108 = .ok (.iload 6, 2) := by decide +kernel
theorem dX8_partners_110 : decode cX8_partners 110 = .ok (.istore 6, 2) := by decide +kernel
theorem dX8_partners_112 : decode cX8_partners 112 = .ok (.iinc 5 1, 3) := by decide +kernel
theorem dX8_partners_115 : decode cX8_partners 115 = .ok (.iinc 7 1, 3) := by decide +kernel
theorem dX8_partners_118 : decode cX8_partners 118 = .ok (.goto (-53), 3) := by decide +kernel
theorem dX8_partners_121 : decode cX8_partners 121 = .ok (.iload 4, 2) := by decide +kernel
theorem dX8_partners_123 : decode cX8_partners 123 = .ok (.ifCond .ne 8, 3) := by decide +kernel
theorem dX8_partners_126 : decode cX8_partners 126 = .ok (.iload 5, 2) := by decide +kernel
theorem dX8_partners_128 : decode cX8_partners 128 = .ok (.goto 5, 3) := by decide +kernel
theorem dX8_partners_131 : decode cX8_partners 131 = .ok (.iload 6, 2) := by decide +kernel
theorem dX8_partners_133 : decode cX8_partners 133 = .ok (.ireturn, 1) := by decide +kernel
theorem dX8_keeper_0 : decode cX8_keeper 0 = .ok (.aload_n 0, 1) := by decide +kernel
theorem dX8_keeper_1 : decode cX8_keeper 1 = .ok (.iconst 0, 1) := by decide +kernel
theorem dX8_keeper_2 : decode cX8_keeper 2 = .ok (.putfield 59, 3) := by decide +kernel
theorem dX8_keeper_5 : decode cX8_keeper 5 = .ok (.iload_n 1, 1) := by decide +kernel
theorem dX8_keeper_6 : decode cX8_keeper 6 = .ok (.i2l, 1) := by decide +kernel
theorem dX8_keeper_7 : decode cX8_keeper 7 = .ok (.lconst 1, 1) := by decide +kernel
theorem dX8_keeper_8 : decode cX8_keeper 8 = .ok (.ldc2_w 224, 3) := by decide +kernel
theorem dX8_keeper_11 : decode cX8_keeper 11 = .ok (.invokestatic 66, 3) := by decide +kernel
theorem dX8_keeper_14 : decode cX8_keeper 14 = .ok (.ifCond .eq 29, 3) := by decide +kernel
theorem dX8_keeper_17 : decode cX8_keeper 17 = .ok (.iload_n 2, 1) := by decide +kernel
theorem dX8_keeper_18 : decode cX8_keeper 18 = .ok (.i2l, 1) := by decide +kernel
theorem dX8_keeper_19 : decode cX8_keeper 19 = .ok (.lconst 0, 1) := by decide +kernel
theorem dX8_keeper_20 : decode cX8_keeper 20 = .ok (.iload_n 1, 1) := by decide +kernel
theorem dX8_keeper_21 : decode cX8_keeper 21 = .ok (.invokestatic 179, 3) := by decide +kernel
theorem dX8_keeper_24 : decode cX8_keeper 24 = .ok (.iconst 1, 1) := by decide +kernel
theorem dX8_keeper_25 : decode cX8_keeper 25 = .ok (.isub, 1) := by decide +kernel
theorem dX8_keeper_26 : decode cX8_keeper 26 = .ok (.i2l, 1) := by decide +kernel
theorem dX8_keeper_27 : decode cX8_keeper 27 = .ok (.invokestatic 66, 3) := by decide +kernel
theorem dX8_keeper_30 : decode cX8_keeper 30 = .ok (.ifCond .eq 13, 3) := by decide +kernel
theorem dX8_keeper_33 : decode cX8_keeper 33 = .ok (.iload_n 3, 1) := by decide +kernel
theorem dX8_keeper_34 : decode cX8_keeper 34 = .ok (.i2l, 1) := by decide +kernel
theorem dX8_keeper_35 : decode cX8_keeper 35 = .ok (.lconst 0, 1) := by decide +kernel
theorem dX8_keeper_36 : decode cX8_keeper 36 = .ok (.lconst 1, 1) := by decide +kernel
theorem dX8_keeper_37 : decode cX8_keeper 37 = .ok (.invokestatic 66, 3) := by decide +kernel
theorem dX8_keeper_40 : decode cX8_keeper 40 = .ok (.ifCond .ne 6, 3) := by decide +kernel
theorem dX8_keeper_43 : decode cX8_keeper 43 = .ok (.bipush (-2), 2) := by decide +kernel
theorem dX8_keeper_45 : decode cX8_keeper 45 = .ok (.ireturn, 1) := by decide +kernel
theorem dX8_keeper_46 : decode cX8_keeper 46 = .ok (.iconst 1, 1) := by decide +kernel
theorem dX8_keeper_47 : decode cX8_keeper 47 = .ok (.istore 4, 2) := by decide +kernel
theorem dX8_keeper_49 : decode cX8_keeper 49 = .ok (.bipush (-9), 2) := by decide +kernel
theorem dX8_keeper_51 : decode cX8_keeper 51 = .ok (.istore 5, 2) := by decide +kernel
theorem dX8_keeper_53 : decode cX8_keeper 53 = .ok (.iconst 1, 1) := by decide +kernel
theorem dX8_keeper_54 : decode cX8_keeper 54 = .ok (.istore 6, 2) := by decide +kernel
theorem dX8_keeper_56 : decode cX8_keeper 56 = .ok (.iload 6, 2) := by decide +kernel
theorem dX8_keeper_58 : decode cX8_keeper 58 = .ok (.bipush 9, 2) := by decide +kernel
theorem dX8_keeper_60 : decode cX8_keeper 60 = .ok (.if_icmp .gt 85, 3) := by decide +kernel
theorem dX8_keeper_63 : decode cX8_keeper 63 = .ok (.iconst 0, 1) := by decide +kernel
theorem dX8_keeper_64 : decode cX8_keeper 64 = .ok (.istore 7, 2) := by decide +kernel
theorem dX8_keeper_66 : decode cX8_keeper 66 = .ok (.iconst 0, 1) := by decide +kernel
theorem dX8_keeper_67 : decode cX8_keeper 67 = .ok (.istore 8, 2) := by decide +kernel
theorem dX8_keeper_69 : decode cX8_keeper 69 = .ok (.iload 8, 2) := by decide +kernel
theorem dX8_keeper_71 : decode cX8_keeper 71 = .ok (.iload_n 1, 1) := by decide +kernel
theorem dX8_keeper_72 : decode cX8_keeper 72 = .ok (.if_icmp .ge 35, 3) := by decide +kernel
theorem dX8_keeper_75 : decode cX8_keeper 75 = .ok (.iload 7, 2) := by decide +kernel
theorem dX8_keeper_77 : decode cX8_keeper 77 = .ok (.iload_n 2, 1) := by decide +kernel
theorem dX8_keeper_78 : decode cX8_keeper 78 = .ok (.iload 8, 2) := by decide +kernel
theorem dX8_keeper_80 : decode cX8_keeper 80 = .ok (.invokestatic 179, 3) := by decide +kernel
theorem dX8_keeper_83 : decode cX8_keeper 83 = .ok (.idiv, 1) := by decide +kernel
theorem dX8_keeper_84 : decode cX8_keeper 84 = .ok (.bipush 10, 2) := by decide +kernel
theorem dX8_keeper_86 : decode cX8_keeper 86 = .ok (.irem, 1) := by decide +kernel
theorem dX8_keeper_87 : decode cX8_keeper 87 = .ok (.iload 6, 2) := by decide +kernel
theorem dX8_keeper_89 : decode cX8_keeper 89 = .ok (.if_icmp .lt 8, 3) := by decide +kernel
theorem dX8_keeper_92 : decode cX8_keeper 92 = .ok (.iload 6, 2) := by decide +kernel
theorem dX8_keeper_94 : decode cX8_keeper 94 = .ok (.goto 4, 3) := by decide +kernel
theorem dX8_keeper_97 : decode cX8_keeper 97 = .ok (.iconst 0, 1) := by decide +kernel
theorem dX8_keeper_98 : decode cX8_keeper 98 = .ok (.iadd, 1) := by decide +kernel
theorem dX8_keeper_99 : decode cX8_keeper 99 = .ok (.istore 7, 2) := by decide +kernel
theorem dX8_keeper_101 : decode cX8_keeper 101 = .ok (.iinc 8 1, 3) := by decide +kernel
theorem dX8_keeper_104 : decode cX8_keeper 104 = .ok (.goto (-35), 3) := by decide +kernel
theorem dX8_keeper_107 : decode cX8_keeper 107 = .ok (.iload 7, 2) := by decide +kernel
theorem dX8_keeper_109 : decode cX8_keeper 109 = .ok (.iload 5, 2) := by decide +kernel
theorem dX8_keeper_111 : decode cX8_keeper 111 = .ok (.if_icmp .le 8, 3) := by decide +kernel
theorem dX8_keeper_114 : decode cX8_keeper 114 = .ok (.iload 6, 2) := by decide +kernel
theorem dX8_keeper_116 : decode cX8_keeper 116 = .ok (.goto 5, 3) := by decide +kernel
theorem dX8_keeper_119 : decode cX8_keeper 119 = .ok (.iload 4, 2) := by decide +kernel
theorem dX8_keeper_121 : decode cX8_keeper 121 = .ok (.istore 4, 2) := by decide +kernel
theorem dX8_keeper_123 : decode cX8_keeper 123 = .ok (.iload 7, 2) := by decide +kernel
theorem dX8_keeper_125 : decode cX8_keeper 125 = .ok (.iload 5, 2) := by decide +kernel
theorem dX8_keeper_127 : decode cX8_keeper 127 = .ok (.if_icmp .le 8, 3) := by decide +kernel
theorem dX8_keeper_130 : decode cX8_keeper 130 = .ok (.iload 7, 2) := by decide +kernel
theorem dX8_keeper_132 : decode cX8_keeper 132 = .ok (.goto 5, 3) := by decide +kernel
theorem dX8_keeper_135 : decode cX8_keeper 135 = .ok (.iload 5, 2) := by decide +kernel
theorem dX8_keeper_137 : decode cX8_keeper 137 = .ok (.istore 5, 2) := by decide +kernel
theorem dX8_keeper_139 : decode cX8_keeper 139 = .ok (.iinc 6 1, 3) := by decide +kernel
theorem dX8_keeper_142 : decode cX8_keeper 142 = .ok (.goto (-86), 3) := by decide +kernel
theorem dX8_keeper_145 : decode cX8_keeper 145 = .ok (.iload_n 3, 1) := by decide +kernel
theorem dX8_keeper_146 : decode cX8_keeper 146 = .ok (.ifCond .ne 8, 3) := by decide +kernel
theorem dX8_keeper_149 : decode cX8_keeper 149 = .ok (.iload 4, 2) := by decide +kernel
theorem dX8_keeper_151 : decode cX8_keeper 151 = .ok (.goto 5, 3) := by decide +kernel
theorem dX8_keeper_154 : decode cX8_keeper 154 = .ok (.iload 5, 2) := by decide +kernel
theorem dX8_keeper_156 : decode cX8_keeper 156 = .ok (.ireturn, 1) := by decide +kernel
theorem dX8_byTurns_0 : decode cX8_byTurns 0 = .ok (.aload_n 0, 1) := by decide +kernel
theorem dX8_byTurns_1 : decode cX8_byTurns 1 = .ok (.iconst 0, 1) := by decide +kernel
theorem dX8_byTurns_2 : decode cX8_byTurns 2 = .ok (.putfield 59, 3) := by decide +kernel
theorem dX8_byTurns_5 : decode cX8_byTurns 5 = .ok (.iload_n 1, 1) := by decide +kernel
theorem dX8_byTurns_6 : decode cX8_byTurns 6 = .ok (.i2l, 1) := by decide +kernel
theorem dX8_byTurns_7 : decode cX8_byTurns 7 = .ok (.lconst 0, 1) := by decide +kernel
theorem dX8_byTurns_8 : decode cX8_byTurns 8 = .ok (.ldc2_w 222, 3) := by decide +kernel
theorem dX8_byTurns_11 : decode cX8_byTurns 11 = .ok (.invokestatic 66, 3) := by decide +kernel
theorem dX8_byTurns_14 : decode cX8_byTurns 14 = .ok (.ifCond .eq 15, 3) := by decide +kernel
theorem dX8_byTurns_17 : decode cX8_byTurns 17 = .ok (.iload_n 2, 1) := by decide +kernel
theorem dX8_byTurns_18 : decode cX8_byTurns 18 = .ok (.i2l, 1) := by decide +kernel
theorem dX8_byTurns_19 : decode cX8_byTurns 19 = .ok (.lconst 1, 1) := by decide +kernel
theorem dX8_byTurns_20 : decode cX8_byTurns 20 = .ok (.ldc2_w 224, 3) := by decide +kernel
theorem dX8_byTurns_23 : decode cX8_byTurns 23 = .ok (.invokestatic 66, 3) := by decide +kernel
theorem dX8_byTurns_26 : decode cX8_byTurns 26 = .ok (.ifCond .ne 6, 3) := by decide +kernel
theorem dX8_byTurns_29 : decode cX8_byTurns 29 = .ok (.bipush (-2), 2) := by decide +kernel
theorem dX8_byTurns_31 : decode cX8_byTurns 31 = .ok (.ireturn, 1) := by decide +kernel
theorem dX8_byTurns_32 : decode cX8_byTurns 32 = .ok (.iconst 0, 1) := by decide +kernel
theorem dX8_byTurns_33 : decode cX8_byTurns 33 = .ok (.istore_n 3, 1) := by decide +kernel
theorem dX8_byTurns_34 : decode cX8_byTurns 34 = .ok (.iconst 0, 1) := by decide +kernel
theorem dX8_byTurns_35 : decode cX8_byTurns 35 = .ok (.istore 4, 2) := by decide +kernel
theorem dX8_byTurns_37 : decode cX8_byTurns 37 = .ok (.iconst 0, 1) := by decide +kernel
theorem dX8_byTurns_38 : decode cX8_byTurns 38 = .ok (.istore 5, 2) := by decide +kernel
theorem dX8_byTurns_40 : decode cX8_byTurns 40 = .ok (.iload_n 2, 1) := by decide +kernel
theorem dX8_byTurns_41 : decode cX8_byTurns 41 = .ok (.iconst 1, 1) := by decide +kernel
theorem dX8_byTurns_42 : decode cX8_byTurns 42 = .ok (.isub, 1) := by decide +kernel
theorem dX8_byTurns_43 : decode cX8_byTurns 43 = .ok (.istore 6, 2) := by decide +kernel
theorem dX8_byTurns_45 : decode cX8_byTurns 45 = .ok (.iload 6, 2) := by decide +kernel
theorem dX8_byTurns_47 : decode cX8_byTurns 47 = .ok (.ifCond .lt 182, 3) := by decide +kernel
theorem dX8_byTurns_50 : decode cX8_byTurns 50 = .ok (.iload_n 1, 1) := by decide +kernel
theorem dX8_byTurns_51 : decode cX8_byTurns 51 = .ok (.iload 6, 2) := by decide +kernel
theorem dX8_byTurns_53 : decode cX8_byTurns 53 = .ok (.if_icmp .ge 7, 3) := by decide +kernel
theorem dX8_byTurns_56 : decode cX8_byTurns 56 = .ok (.iconst 0, 1) := by decide +kernel
theorem dX8_byTurns_57 : decode cX8_byTurns 57 = .ok (.goto 7, 3) := by decide +kernel
theorem dX8_byTurns_60 : decode cX8_byTurns 60 = .ok (.iload_n 1, 1) := by decide +kernel
theorem dX8_byTurns_61 : decode cX8_byTurns 61 = .ok (.iload 6, 2) := by decide +kernel
theorem dX8_byTurns_63 : decode cX8_byTurns 63 = .ok (.isub, 1) := by decide +kernel
theorem dX8_byTurns_64 : decode cX8_byTurns 64 = .ok (.istore 7, 2) := by decide +kernel
theorem dX8_byTurns_66 : decode cX8_byTurns 66 = .ok (.bipush (-9), 2) := by decide +kernel
theorem dX8_byTurns_68 : decode cX8_byTurns 68 = .ok (.istore 8, 2) := by decide +kernel
theorem dX8_byTurns_70 : decode cX8_byTurns 70 = .ok (.iconst 0, 1) := by decide +kernel
theorem dX8_byTurns_71 : decode cX8_byTurns 71 = .ok (.istore 9, 2) := by decide +kernel
theorem dX8_byTurns_73 : decode cX8_byTurns 73 = .ok (.iload 9, 2) := by decide +kernel
theorem dX8_byTurns_75 : decode cX8_byTurns 75 = .ok (.bipush 9, 2) := by decide +kernel
theorem dX8_byTurns_77 : decode cX8_byTurns 77 = .ok (.if_icmp .gt 87, 3) := by decide +kernel
theorem dX8_byTurns_80 : decode cX8_byTurns 80 = .ok (.iload 6, 2) := by decide +kernel
theorem dX8_byTurns_82 : decode cX8_byTurns 82 = .ok (.iconst 2, 1) := by decide +kernel
theorem dX8_byTurns_83 : decode cX8_byTurns 83 = .ok (.irem, 1) := by decide +kernel
theorem dX8_byTurns_84 : decode cX8_byTurns 84 = .ok (.ifCond .ne 21, 3) := by decide +kernel
theorem dX8_byTurns_87 : decode cX8_byTurns 87 = .ok (.iload 7, 2) := by decide +kernel
theorem dX8_byTurns_89 : decode cX8_byTurns 89 = .ok (.iload 9, 2) := by decide +kernel
theorem dX8_byTurns_91 : decode cX8_byTurns 91 = .ok (.isub, 1) := by decide +kernel
theorem dX8_byTurns_92 : decode cX8_byTurns 92 = .ok (.iload 4, 2) := by decide +kernel
theorem dX8_byTurns_94 : decode cX8_byTurns 94 = .ok (.if_icmp .lt 7, 3) := by decide +kernel
theorem dX8_byTurns_97 : decode cX8_byTurns 97 = .ok (.iconst 1, 1) := by decide +kernel
theorem dX8_byTurns_98 : decode cX8_byTurns 98 = .ok (.goto 18, 3) := by decide +kernel
theorem dX8_byTurns_101 : decode cX8_byTurns 101 = .ok (.iconst 0, 1) := by decide +kernel
theorem dX8_byTurns_102 : decode cX8_byTurns 102 = .ok (.goto 14, 3) := by decide +kernel
theorem dX8_byTurns_105 : decode cX8_byTurns 105 = .ok (.iload 9, 2) := by decide +kernel
theorem dX8_byTurns_107 : decode cX8_byTurns 107 = .ok (.iload_n 3, 1) := by decide +kernel
theorem dX8_byTurns_108 : decode cX8_byTurns 108 = .ok (.if_icmp .lt 7, 3) := by decide +kernel
theorem dX8_byTurns_111 : decode cX8_byTurns 111 = .ok (.iconst 1, 1) := by decide +kernel
theorem dX8_byTurns_112 : decode cX8_byTurns 112 = .ok (.goto 4, 3) := by decide +kernel
theorem dX8_byTurns_115 : decode cX8_byTurns 115 = .ok (.iconst 0, 1) := by decide +kernel
theorem dX8_byTurns_116 : decode cX8_byTurns 116 = .ok (.istore 10, 2) := by decide +kernel
theorem dX8_byTurns_118 : decode cX8_byTurns 118 = .ok (.iload 8, 2) := by decide +kernel
theorem dX8_byTurns_120 : decode cX8_byTurns 120 = .ok (.bipush (-9), 2) := by decide +kernel
theorem dX8_byTurns_122 : decode cX8_byTurns 122 = .ok (.if_icmp .eq 10, 3) := by decide +kernel
theorem dX8_byTurns_125 : decode cX8_byTurns 125 = .ok (.iload 6, 2) := by decide +kernel
theorem dX8_byTurns_127 : decode cX8_byTurns 127 = .ok (.iconst 2, 1) := by decide +kernel
theorem dX8_byTurns_128 : decode cX8_byTurns 128 = .ok (.irem, 1) := by decide +kernel
theorem dX8_byTurns_129 : decode cX8_byTurns 129 = .ok (.ifCond .ne 7, 3) := by decide +kernel
theorem dX8_byTurns_132 : decode cX8_byTurns 132 = .ok (.iconst 1, 1) := by decide +kernel
theorem dX8_byTurns_133 : decode cX8_byTurns 133 = .ok (.goto 4, 3) := by decide +kernel
theorem dX8_byTurns_136 : decode cX8_byTurns 136 = .ok (.iconst 0, 1) := by decide +kernel
theorem dX8_byTurns_137 : decode cX8_byTurns 137 = .ok (.istore 11, 2) := by decide +kernel
theorem dX8_byTurns_139 : decode cX8_byTurns 139 = .ok (.iload 10, 2) := by decide +kernel
theorem dX8_byTurns_141 : decode cX8_byTurns 141 = .ok (.ifCond .eq 13, 3) := by decide +kernel
theorem dX8_byTurns_144 : decode cX8_byTurns 144 = .ok (.iload 11, 2) := by decide +kernel
theorem dX8_byTurns_146 : decode cX8_byTurns 146 = .ok (.ifCond .eq 8, 3) := by decide +kernel
theorem dX8_byTurns_149 : decode cX8_byTurns 149 = .ok (.iload 9, 2) := by decide +kernel
theorem dX8_byTurns_151 : decode cX8_byTurns 151 = .ok (.goto 5, 3) := by decide +kernel
theorem dX8_byTurns_154 : decode cX8_byTurns 154 = .ok (.iload 8, 2) := by decide +kernel
theorem dX8_byTurns_156 : decode cX8_byTurns 156 = .ok (.istore 8, 2) := by decide +kernel
theorem dX8_byTurns_158 : decode cX8_byTurns 158 = .ok (.iinc 9 1, 3) := by decide +kernel
theorem dX8_byTurns_161 : decode cX8_byTurns 161 = .ok (.goto (-88), 3) := by decide +kernel
theorem dX8_byTurns_164 : decode cX8_byTurns 164 = .ok (.iload 8, 2) := by decide +kernel
theorem dX8_byTurns_166 : decode cX8_byTurns 166 = .ok (.bipush (-9), 2) := by decide +kernel
theorem dX8_byTurns_168 : decode cX8_byTurns 168 = .ok (.if_icmp .eq 33, 3) := by decide +kernel
theorem dX8_byTurns_171 : decode cX8_byTurns 171 = .ok (.iload 6, 2) := by decide +kernel
theorem dX8_byTurns_173 : decode cX8_byTurns 173 = .ok (.iconst 2, 1) := by decide +kernel
theorem dX8_byTurns_174 : decode cX8_byTurns 174 = .ok (.irem, 1) := by decide +kernel
theorem dX8_byTurns_175 : decode cX8_byTurns 175 = .ok (.ifCond .ne 12, 3) := by decide +kernel
theorem dX8_byTurns_178 : decode cX8_byTurns 178 = .ok (.iload 8, 2) := by decide +kernel
theorem dX8_byTurns_180 : decode cX8_byTurns 180 = .ok (.iload_n 3, 1) := by decide +kernel
theorem dX8_byTurns_181 : decode cX8_byTurns 181 = .ok (.if_icmp .lt 20, 3) := by decide +kernel
theorem dX8_byTurns_184 : decode cX8_byTurns 184 = .ok (.goto 13, 3) := by decide +kernel
theorem dX8_byTurns_187 : decode cX8_byTurns 187 = .ok (.iload 7, 2) := by decide +kernel
theorem dX8_byTurns_189 : decode cX8_byTurns 189 = .ok (.iload 8, 2) := by decide +kernel
theorem dX8_byTurns_191 : decode cX8_byTurns 191 = .ok (.isub, 1) := by decide +kernel
theorem dX8_byTurns_192 : decode cX8_byTurns 192 = .ok (.iload 4, 2) := by decide +kernel
theorem dX8_byTurns_194 : decode cX8_byTurns 194 = .ok (.if_icmp .lt 7, 3) := by decide +kernel
theorem dX8_byTurns_197 : decode cX8_byTurns 197 = .ok (.iconst 1, 1) := by decide +kernel
theorem dX8_byTurns_198 : decode cX8_byTurns 198 = .ok (.goto 4, 3) := by decide +kernel
theorem dX8_byTurns_201 : decode cX8_byTurns 201 = .ok (.iconst 0, 1) := by decide +kernel
theorem dX8_byTurns_202 : decode cX8_byTurns 202 = .ok (.istore 9, 2) := by decide +kernel
theorem dX8_byTurns_204 : decode cX8_byTurns 204 = .ok (.iload 9, 2) := by decide +kernel
theorem dX8_byTurns_206 : decode cX8_byTurns 206 = .ok (.ifCond .eq 17, 3) := by decide +kernel
theorem dX8_byTurns_209 : decode cX8_byTurns 209 = .ok (.iload 8, 2) := by decide +kernel
theorem dX8_byTurns_211 : decode cX8_byTurns 211 = .ok (.istore_n 3, 1) := by decide +kernel
theorem dX8_byTurns_212 : decode cX8_byTurns 212 = .ok (.iload 7, 2) := by decide +kernel
theorem dX8_byTurns_214 : decode cX8_byTurns 214 = .ok (.iload 8, 2) := by decide +kernel
theorem dX8_byTurns_216 : decode cX8_byTurns 216 = .ok (.isub, 1) := by decide +kernel
theorem dX8_byTurns_217 : decode cX8_byTurns 217 = .ok (.istore 4, 2) := by decide +kernel
