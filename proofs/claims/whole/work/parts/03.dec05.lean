theorem dX10_giveSmall_114 : decode cX10_giveSmall 114 = .ok (.iconst 0, 1) := by decide +kernel
theorem dX10_giveSmall_115 : decode cX10_giveSmall 115 = .ok (.iconst 1, 1) := by decide +kernel
theorem dX10_giveSmall_116 : decode cX10_giveSmall 116 = .ok (.invokevirtual 139, 3) := by decide +kernel
theorem dX10_giveSmall_119 : decode cX10_giveSmall 119 = .ok (.iinc 4 1, 3) := by decide +kernel
theorem dX10_giveSmall_122 : decode cX10_giveSmall 122 = .ok (.iload_n 1, 1) := by decide +kernel
theorem dX10_giveSmall_123 : decode cX10_giveSmall 123 = .ok (.ifCond .ne 50, 3) := by decide +kernel
theorem dX10_giveSmall_126 : decode cX10_giveSmall 126 = .ok (.iload 4, 2) := by decide +kernel
theorem dX10_giveSmall_128 : decode cX10_giveSmall 128 = .ok (.iconst 3, 1) := by decide +kernel
theorem dX10_giveSmall_129 : decode cX10_giveSmall 129 = .ok (.if_icmp .ne 44, 3) := by decide +kernel
theorem dX10_giveSmall_132 : decode cX10_giveSmall 132 = .ok (.iconst 0, 1) := by decide +kernel
theorem dX10_giveSmall_133 : decode cX10_giveSmall 133 = .ok (.istore 6, 2) := by decide +kernel
theorem dX10_giveSmall_135 : decode cX10_giveSmall 135 = .ok (.iload 6, 2) := by decide +kernel
theorem dX10_giveSmall_137 : decode cX10_giveSmall 137 = .ok (.iconst 3, 1) := by decide +kernel
theorem dX10_giveSmall_138 : decode cX10_giveSmall 138 = .ok (.if_icmp .ge 21, 3) := by decide +kernel
theorem dX10_giveSmall_141 : decode cX10_giveSmall 141 = .ok (.aload_n 0, 1) := by decide +kernel
theorem dX10_giveSmall_142 : decode cX10_giveSmall 142 = .ok (.getfield 16, 3) := by decide +kernel
theorem dX10_giveSmall_145 : decode cX10_giveSmall 145 = .ok (.iconst 3, 1) := by decide +kernel
theorem dX10_giveSmall_146 : decode cX10_giveSmall 146 = .ok (.iload 6, 2) := by decide +kernel
theorem dX10_giveSmall_148 : decode cX10_giveSmall 148 = .ok (.iadd, 1) := by decide +kernel
theorem dX10_giveSmall_149 : decode cX10_giveSmall 149 = .ok (.iaload, 1) := by decide +kernel
theorem dX10_giveSmall_150 : decode cX10_giveSmall 150 = .ok (.ifCond .ne 9, 3) := by decide +kernel
theorem dX10_giveSmall_153 : decode cX10_giveSmall 153 = .ok (.iinc 6 1, 3) := by decide +kernel
theorem dX10_giveSmall_156 : decode cX10_giveSmall 156 = .ok (.goto (-21), 3) := by decide +kernel
theorem dX10_giveSmall_159 : decode cX10_giveSmall 159 = .ok (.aload_n 0, 1) := by decide +kernel
theorem dX10_giveSmall_160 : decode cX10_giveSmall 160 = .ok (.iload 6, 2) := by decide +kernel
theorem dX10_giveSmall_162 : decode cX10_giveSmall 162 = .ok (.iconst 2, 1) := by decide +kernel
theorem dX10_giveSmall_163 : decode cX10_giveSmall 163 = .ok (.invokevirtual 139, 3) := by decide +kernel
theorem dX10_giveSmall_166 : decode cX10_giveSmall 166 = .ok (.iload 4, 2) := by decide +kernel
theorem dX10_giveSmall_168 : decode cX10_giveSmall 168 = .ok (.iload 6, 2) := by decide +kernel
theorem dX10_giveSmall_170 : decode cX10_giveSmall 170 = .ok (.iadd, 1) := by decide +kernel
theorem dX10_giveSmall_171 : decode cX10_giveSmall 171 = .ok (.istore 4, 2) := by decide +kernel
theorem dX10_giveSmall_173 : decode cX10_giveSmall 173 = .ok (.goto (-130), 3) := by decide +kernel
theorem dX10_giveSmall_176 : decode cX10_giveSmall 176 = .ok (.return_, 1) := by decide +kernel
theorem dX10_giveSymbol_0 : decode cX10_giveSymbol 0 = .ok (.aload_n 0, 1) := by decide +kernel
theorem dX10_giveSymbol_1 : decode cX10_giveSymbol 1 = .ok (.getfield 22, 3) := by decide +kernel
theorem dX10_giveSymbol_4 : decode cX10_giveSymbol 4 = .ok (.iload_n 1, 1) := by decide +kernel
theorem dX10_giveSymbol_5 : decode cX10_giveSymbol 5 = .ok (.iaload, 1) := by decide +kernel
theorem dX10_giveSymbol_6 : decode cX10_giveSymbol 6 = .ok (.iconst (-1), 1) := by decide +kernel
theorem dX10_giveSymbol_7 : decode cX10_giveSymbol 7 = .ok (.if_icmp .ne 31, 3) := by decide +kernel
theorem dX10_giveSymbol_10 : decode cX10_giveSymbol 10 = .ok (.aload_n 0, 1) := by decide +kernel
theorem dX10_giveSymbol_11 : decode cX10_giveSymbol 11 = .ok (.aload_n 0, 1) := by decide +kernel
theorem dX10_giveSymbol_12 : decode cX10_giveSymbol 12 = .ok (.getfield 19, 3) := by decide +kernel
theorem dX10_giveSymbol_15 : decode cX10_giveSymbol 15 = .ok (.sipush 600, 3) := by decide +kernel
theorem dX10_giveSymbol_18 : decode cX10_giveSymbol 18 = .ok (.iload_n 1, 1) := by decide +kernel
theorem dX10_giveSymbol_19 : decode cX10_giveSymbol 19 = .ok (.imul, 1) := by decide +kernel
theorem dX10_giveSymbol_20 : decode cX10_giveSymbol 20 = .ok (.iload_n 2, 1) := by decide +kernel
theorem dX10_giveSymbol_21 : decode cX10_giveSymbol 21 = .ok (.iadd, 1) := by decide +kernel
theorem dX10_giveSymbol_22 : decode cX10_giveSymbol 22 = .ok (.iaload, 1) := by decide +kernel
theorem dX10_giveSymbol_23 : decode cX10_giveSymbol 23 = .ok (.aload_n 0, 1) := by decide +kernel
theorem dX10_giveSymbol_24 : decode cX10_giveSymbol 24 = .ok (.getfield 16, 3) := by decide +kernel
theorem dX10_giveSymbol_27 : decode cX10_giveSymbol 27 = .ok (.sipush 600, 3) := by decide +kernel
theorem dX10_giveSymbol_30 : decode cX10_giveSymbol 30 = .ok (.iload_n 1, 1) := by decide +kernel
theorem dX10_giveSymbol_31 : decode cX10_giveSymbol 31 = .ok (.imul, 1) := by decide +kernel
theorem dX10_giveSymbol_32 : decode cX10_giveSymbol 32 = .ok (.iload_n 2, 1) := by decide +kernel
theorem dX10_giveSymbol_33 : decode cX10_giveSymbol 33 = .ok (.iadd, 1) := by decide +kernel
theorem dX10_giveSymbol_34 : decode cX10_giveSymbol 34 = .ok (.iaload, 1) := by decide +kernel
theorem dX10_giveSymbol_35 : decode cX10_giveSymbol 35 = .ok (.invokevirtual 139, 3) := by decide +kernel
theorem dX10_giveSymbol_38 : decode cX10_giveSymbol 38 = .ok (.return_, 1) := by decide +kernel
theorem dX10_block_0 : decode cX10_block 0 = .ok (.aload_n 0, 1) := by decide +kernel
theorem dX10_block_1 : decode cX10_block 1 = .ok (.invokevirtual 76, 3) := by decide +kernel
theorem dX10_block_4 : decode cX10_block 4 = .ok (.aload_n 0, 1) := by decide +kernel
theorem dX10_block_5 : decode cX10_block 5 = .ok (.dup, 1) := by decide +kernel
theorem dX10_block_6 : decode cX10_block 6 = .ok (.getfield 61, 3) := by decide +kernel
theorem dX10_block_9 : decode cX10_block 9 = .ok (.iconst 1, 1) := by decide +kernel
theorem dX10_block_10 : decode cX10_block 10 = .ok (.iadd, 1) := by decide +kernel
theorem dX10_block_11 : decode cX10_block 11 = .ok (.putfield 61, 3) := by decide +kernel
theorem dX10_block_14 : decode cX10_block 14 = .ok (.aload_n 0, 1) := by decide +kernel
theorem dX10_block_15 : decode cX10_block 15 = .ok (.invokevirtual 130, 3) := by decide +kernel
theorem dX10_block_18 : decode cX10_block 18 = .ok (.iload_n 1, 1) := by decide +kernel
theorem dX10_block_19 : decode cX10_block 19 = .ok (.istore_n 3, 1) := by decide +kernel
theorem dX10_block_20 : decode cX10_block 20 = .ok (.iload_n 3, 1) := by decide +kernel
theorem dX10_block_21 : decode cX10_block 21 = .ok (.iload_n 1, 1) := by decide +kernel
theorem dX10_block_22 : decode cX10_block 22 = .ok (.iload_n 2, 1) := by decide +kernel
theorem dX10_block_23 : decode cX10_block 23 = .ok (.iadd, 1) := by decide +kernel
theorem dX10_block_24 : decode cX10_block 24 = .ok (.if_icmp .ge 24, 3) := by decide +kernel
theorem dX10_block_27 : decode cX10_block 27 = .ok (.aload_n 0, 1) := by decide +kernel
theorem dX10_block_28 : decode cX10_block 28 = .ok (.getfield 41, 3) := by decide +kernel
theorem dX10_block_31 : decode cX10_block 31 = .ok (.aload_n 0, 1) := by decide +kernel
theorem dX10_block_32 : decode cX10_block 32 = .ok (.getfield 25, 3) := by decide +kernel
theorem dX10_block_35 : decode cX10_block 35 = .ok (.iload_n 3, 1) := by decide +kernel
theorem dX10_block_36 : decode cX10_block 36 = .ok (.iaload, 1) := by decide +kernel
theorem dX10_block_37 : decode cX10_block 37 = .ok (.dup2, 1) := by decide +kernel
theorem dX10_block_38 : decode cX10_block 38 = .ok (.iaload, 1) := by decide +kernel
theorem dX10_block_39 : decode cX10_block 39 = .ok (.iconst 1, 1) := by decide +kernel
theorem dX10_block_40 : decode cX10_block 40 = .ok (.iadd, 1) := by decide +kernel
theorem dX10_block_41 : decode cX10_block 41 = .ok (.iastore, 1) := by decide +kernel
theorem dX10_block_42 : decode cX10_block 42 = .ok (.iinc 3 1, 3) := by decide +kernel
theorem dX10_block_45 : decode cX10_block 45 = .ok (.goto (-25), 3) := by decide +kernel
theorem dX10_block_48 : decode cX10_block 48 = .ok (.aload_n 0, 1) := by decide +kernel
theorem dX10_block_49 : decode cX10_block 49 = .ok (.iconst 1, 1) := by decide +kernel
theorem dX10_block_50 : decode cX10_block 50 = .ok (.invokevirtual 142, 3) := by decide +kernel
theorem dX10_block_53 : decode cX10_block 53 = .ok (.aload_n 0, 1) := by decide +kernel
theorem dX10_block_54 : decode cX10_block 54 = .ok (.invokevirtual 130, 3) := by decide +kernel
theorem dX10_block_57 : decode cX10_block 57 = .ok (.iload_n 1, 1) := by decide +kernel
theorem dX10_block_58 : decode cX10_block 58 = .ok (.istore_n 3, 1) := by decide +kernel
theorem dX10_block_59 : decode cX10_block 59 = .ok (.iload_n 3, 1) := by decide +kernel
theorem dX10_block_60 : decode cX10_block 60 = .ok (.iload_n 1, 1) := by decide +kernel
theorem dX10_block_61 : decode cX10_block 61 = .ok (.iload_n 2, 1) := by decide +kernel
theorem dX10_block_62 : decode cX10_block 62 = .ok (.iadd, 1) := by decide +kernel
theorem dX10_block_63 : decode cX10_block 63 = .ok (.if_icmp .ge 36, 3) := by decide +kernel
theorem dX10_block_66 : decode cX10_block 66 = .ok (.aload_n 0, 1) := by decide +kernel
theorem dX10_block_67 : decode cX10_block 67 = .ok (.getfield 28, 3) := by decide +kernel
theorem dX10_block_70 : decode cX10_block 70 = .ok (.iload_n 3, 1) := by decide +kernel
theorem dX10_block_71 : decode cX10_block 71 = .ok (.iaload, 1) := by decide +kernel
theorem dX10_block_72 : decode cX10_block 72 = .ok (.ifCond .le 21, 3) := by decide +kernel
theorem dX10_block_75 : decode cX10_block 75 = .ok (.aload_n 0, 1) := by decide +kernel
theorem dX10_block_76 : decode cX10_block 76 = .ok (.getfield 41, 3) := by decide +kernel
theorem dX10_block_79 : decode cX10_block 79 = .ok (.aload_n 0, 1) := by decide +kernel
theorem dX10_block_80 : decode cX10_block 80 = .ok (.getfield 28, 3) := by decide +kernel
theorem dX10_block_83 : decode cX10_block 83 = .ok (.iload_n 3, 1) := by decide +kernel
theorem dX10_block_84 : decode cX10_block 84 = .ok (.iaload, 1) := by decide +kernel
theorem dX10_block_85 : decode cX10_block 85 = .ok (.invokestatic 145, 3) := by decide +kernel
theorem dX10_block_88 : decode cX10_block 88 = .ok (.dup2, 1) := by decide +kernel
theorem dX10_block_89 : decode cX10_block 89 = .ok (.iaload, 1) := by decide +kernel
theorem dX10_block_90 : decode cX10_block 90 = .ok (.iconst 1, 1) := by decide +kernel
theorem dX10_block_91 : decode cX10_block 91 = .ok (.iadd, 1) := by decide +kernel
theorem dX10_block_92 : decode cX10_block 92 = .ok (.iastore, 1) := by decide +kernel
theorem dX10_block_93 : decode cX10_block 93 = .ok (.iinc 3 1, 3) := by decide +kernel
theorem dX10_block_96 : decode cX10_block 96 = .ok (.goto (-37), 3) := by decide +kernel
theorem dX10_block_99 : decode cX10_block 99 = .ok (.aload_n 0, 1) := by decide +kernel
theorem dX10_block_100 : decode cX10_block 100 = .ok (.iconst 2, 1) := by decide +kernel
theorem dX10_block_101 : decode cX10_block 101 = .ok (.invokevirtual 142, 3) := by decide +kernel
theorem dX10_block_104 : decode cX10_block 104 = .ok (.aload_n 0, 1) := by decide +kernel
theorem dX10_block_105 : decode cX10_block 105 = .ok (.iload_n 2, 1) := by decide +kernel
theorem dX10_block_106 : decode cX10_block 106 = .ok (.bipush 16, 2) := by decide +kernel
theorem dX10_block_108 : decode cX10_block 108 = .ok (.invokevirtual 139, 3) := by decide +kernel
theorem dX10_block_111 : decode cX10_block 111 = .ok (.aload_n 0, 1) := by decide +kernel
theorem dX10_block_112 : decode cX10_block 112 = .ok (.getfield 22, 3) := by decide +kernel
theorem dX10_block_115 : decode cX10_block 115 = .ok (.iconst 1, 1) := by decide +kernel
theorem dX10_block_116 : decode cX10_block 116 = .ok (.iaload, 1) := by decide +kernel
theorem dX10_block_117 : decode cX10_block 117 = .ok (.iconst (-1), 1) := by decide +kernel
theorem dX10_block_118 : decode cX10_block 118 = .ok (.if_icmp .eq 38, 3) := by decide +kernel
theorem dX10_block_121 : decode cX10_block 121 = .ok (.aload_n 0, 1) := by decide +kernel
theorem dX10_block_122 : decode cX10_block 122 = .ok (.getfield 22, 3) := by decide +kernel
theorem dX10_block_125 : decode cX10_block 125 = .ok (.iconst 0, 1) := by decide +kernel
theorem dX10_block_126 : decode cX10_block 126 = .ok (.iconst 0, 1) := by decide +kernel
theorem dX10_block_127 : decode cX10_block 127 = .ok (.iastore, 1) := by decide +kernel
theorem dX10_block_128 : decode cX10_block 128 = .ok (.aload_n 0, 1) := by decide +kernel
theorem dX10_block_129 : decode cX10_block 129 = .ok (.iconst 0, 1) := by decide +kernel
theorem dX10_block_130 : decode cX10_block 130 = .ok (.iconst 5, 1) := by decide +kernel
theorem dX10_block_131 : decode cX10_block 131 = .ok (.invokevirtual 148, 3) := by decide +kernel
theorem dX10_block_134 : decode cX10_block 134 = .ok (.aload_n 0, 1) := by decide +kernel
theorem dX10_block_135 : decode cX10_block 135 = .ok (.iconst 0, 1) := by decide +kernel
theorem dX10_block_136 : decode cX10_block 136 = .ok (.bipush 9, 2) := by decide +kernel
theorem dX10_block_138 : decode cX10_block 138 = .ok (.invokevirtual 139, 3) := by decide +kernel
theorem dX10_block_141 : decode cX10_block 141 = .ok (.aload_n 0, 1) := by decide +kernel
theorem dX10_block_142 : decode cX10_block 142 = .ok (.aload_n 0, 1) := by decide +kernel
theorem dX10_block_143 : decode cX10_block 143 = .ok (.getfield 22, 3) := by decide +kernel
theorem dX10_block_146 : decode cX10_block 146 = .ok (.iconst 1, 1) := by decide +kernel
theorem dX10_block_147 : decode cX10_block 147 = .ok (.iaload, 1) := by decide +kernel
theorem dX10_block_148 : decode cX10_block 148 = .ok (.bipush 9, 2) := by decide +kernel
theorem dX10_block_150 : decode cX10_block 150 = .ok (.invokevirtual 139, 3) := by decide +kernel
theorem dX10_block_153 : decode cX10_block 153 = .ok (.goto 96, 3) := by decide +kernel
theorem dX10_block_156 : decode cX10_block 156 = .ok (.aload_n 0, 1) := by decide +kernel
theorem dX10_block_157 : decode cX10_block 157 = .ok (.invokevirtual 151, 3) := by decide +kernel
theorem dX10_block_160 : decode cX10_block 160 = .ok (.aload_n 0, 1) := by decide +kernel
theorem dX10_block_161 : decode cX10_block 161 = .ok (.iconst 0, 1) := by decide +kernel
theorem dX10_block_162 : decode cX10_block 162 = .ok (.invokevirtual 142, 3) := by decide +kernel
theorem dX10_block_165 : decode cX10_block 165 = .ok (.aload_n 0, 1) := by decide +kernel
theorem dX10_block_166 : decode cX10_block 166 = .ok (.iconst 0, 1) := by decide +kernel
theorem dX10_block_167 : decode cX10_block 167 = .ok (.iconst 5, 1) := by decide +kernel
theorem dX10_block_168 : decode cX10_block 168 = .ok (.invokevirtual 148, 3) := by decide +kernel
theorem dX10_block_171 : decode cX10_block 171 = .ok (.aload_n 0, 1) := by decide +kernel
theorem dX10_block_172 : decode cX10_block 172 = .ok (.aload_n 0, 1) := by decide +kernel
theorem dX10_block_173 : decode cX10_block 173 = .ok (.iconst 1, 1) := by decide +kernel
theorem dX10_block_174 : decode cX10_block 174 = .ok (.invokevirtual 133, 3) := by decide +kernel
theorem dX10_block_177 : decode cX10_block 177 = .ok (.bipush 9, 2) := by decide +kernel
theorem dX10_block_179 : decode cX10_block 179 = .ok (.invokevirtual 139, 3) := by decide +kernel
theorem dX10_block_182 : decode cX10_block 182 = .ok (.iconst 0, 1) := by decide +kernel
theorem dX10_block_183 : decode cX10_block 183 = .ok (.istore_n 3, 1) := by decide +kernel
theorem dX10_block_184 : decode cX10_block 184 = .ok (.iload_n 3, 1) := by decide +kernel
theorem dX10_block_185 : decode cX10_block 185 = .ok (.aload_n 0, 1) := by decide +kernel
theorem dX10_block_186 : decode cX10_block 186 = .ok (.getfield 127, 3) := by decide +kernel
theorem dX10_block_189 : decode cX10_block 189 = .ok (.if_icmp .ge 60, 3) := by decide +kernel
theorem dX10_block_192 : decode cX10_block 192 = .ok (.aload_n 0, 1) := by decide +kernel
theorem dX10_block_193 : decode cX10_block 193 = .ok (.iconst 0, 1) := by decide +kernel
theorem dX10_block_194 : decode cX10_block 194 = .ok (.aload_n 0, 1) := by decide +kernel
theorem dX10_block_195 : decode cX10_block 195 = .ok (.getfield 44, 3) := by decide +kernel
theorem dX10_block_198 : decode cX10_block 198 = .ok (.iload_n 3, 1) := by decide +kernel
theorem dX10_block_199 : decode cX10_block 199 = .ok (.iaload, 1) := by decide +kernel
theorem dX10_block_200 : decode cX10_block 200 = .ok (.invokevirtual 154, 3) := by decide +kernel
theorem dX10_block_203 : decode cX10_block 203 = .ok (.aload_n 0, 1) := by decide +kernel
theorem dX10_block_204 : decode cX10_block 204 = .ok (.aload_n 0, 1) := by decide +kernel
theorem dX10_block_205 : decode cX10_block 205 = .ok (.getfield 47, 3) := by decide +kernel
theorem dX10_block_208 : decode cX10_block 208 = .ok (.iload_n 3, 1) := by decide +kernel
theorem dX10_block_209 : decode cX10_block 209 = .ok (.iaload, 1) := by decide +kernel
theorem dX10_block_210 : decode cX10_block 210 = .ok (.aload_n 0, 1) := by decide +kernel
theorem dX10_block_211 : decode cX10_block 211 = .ok (.getfield 44, 3) := by decide +kernel
theorem dX10_block_214 : decode cX10_block 214 = .ok (.iload_n 3, 1) := by decide +kernel
theorem dX10_block_215 : decode cX10_block 215 = .ok (.iaload, 1) := by decide +kernel
theorem dX10_block_216 : decode cX10_block 216 = .ok (.iconst 1, 1) := by decide +kernel
theorem dX10_block_217 : decode cX10_block 217 = .ok (.if_icmp .ne 7, 3) := by decide +kernel
theorem dX10_block_220 : decode cX10_block 220 = .ok (.iconst 4, 1) := by decide +kernel
theorem dX10_block_221 : decode cX10_block 221 = .ok (.goto 19, 3) := by decide +kernel
theorem dX10_block_224 : decode cX10_block 224 = .ok (.aload_n 0, 1) := by decide +kernel
theorem dX10_block_225 : decode cX10_block 225 = .ok (.getfield 44, 3) := by decide +kernel
theorem dX10_block_228 : decode cX10_block 228 = .ok (.iload_n 3, 1) := by decide +kernel
theorem dX10_block_229 : decode cX10_block 229 = .ok (.iaload, 1) := by decide +kernel
theorem dX10_block_230 : decode cX10_block 230 = .ok (.iconst 2, 1) := by decide +kernel
theorem dX10_block_231 : decode cX10_block 231 = .ok (.if_icmp .ne 8, 3) := by decide +kernel
theorem dX10_block_234 : decode cX10_block 234 = .ok (.bipush 9, 2) := by decide +kernel
theorem dX10_block_236 : decode cX10_block 236 = .ok (.goto 4, 3) := by decide +kernel
theorem dX10_block_239 : decode cX10_block 239 = .ok (.iconst 0, 1) := by decide +kernel
theorem dX10_block_240 : decode cX10_block 240 = .ok (.invokevirtual 139, 3) := by decide +kernel
theorem dX10_block_243 : decode cX10_block 243 = .ok (.iinc 3 1, 3) := by decide +kernel
theorem dX10_block_246 : decode cX10_block 246 = .ok (.goto (-62), 3) := by decide +kernel
theorem dX10_block_249 : decode cX10_block 249 = .ok (.aload_n 0, 1) := by decide +kernel
theorem dX10_block_250 : decode cX10_block 250 = .ok (.iconst 2, 1) := by decide +kernel
theorem dX10_block_251 : decode cX10_block 251 = .ok (.iconst 4, 1) := by decide +kernel
theorem dX10_block_252 : decode cX10_block 252 = .ok (.invokevirtual 148, 3) := by decide +kernel
theorem dX10_block_255 : decode cX10_block 255 = .ok (.iload_n 1, 1) := by decide +kernel
theorem dX10_block_256 : decode cX10_block 256 = .ok (.istore_n 3, 1) := by decide +kernel
theorem dX10_block_257 : decode cX10_block 257 = .ok (.iload_n 3, 1) := by decide +kernel
theorem dX10_block_258 : decode cX10_block 258 = .ok (.iload_n 1, 1) := by decide +kernel
theorem dX10_block_259 : decode cX10_block 259 = .ok (.iload_n 2, 1) := by decide +kernel
theorem dX10_block_260 : decode cX10_block 260 = .ok (.iadd, 1) := by decide +kernel
theorem dX10_block_261 : decode cX10_block 261 = .ok (.if_icmp .ge 108, 3) := by decide +kernel
theorem dX10_block_264 : decode cX10_block 264 = .ok (.aload_n 0, 1) := by decide +kernel
theorem dX10_block_265 : decode cX10_block 265 = .ok (.iconst 1, 1) := by decide +kernel
theorem dX10_block_266 : decode cX10_block 266 = .ok (.aload_n 0, 1) := by decide +kernel
theorem dX10_block_267 : decode cX10_block 267 = .ok (.getfield 25, 3) := by decide +kernel
theorem dX10_block_270 : decode cX10_block 270 = .ok (.iload_n 3, 1) := by decide +kernel
theorem dX10_block_271 : decode cX10_block 271 = .ok (.iaload, 1) := by decide +kernel
theorem dX10_block_272 : decode cX10_block 272 = .ok (.invokevirtual 154, 3) := by decide +kernel
theorem dX10_block_275 : decode cX10_block 275 = .ok (.aload_n 0, 1) := by decide +kernel
theorem dX10_block_276 : decode cX10_block 276 = .ok (.dup, 1) := by decide +kernel
theorem dX10_block_277 : decode cX10_block 277 = .ok (.getfield 64, 3) := by decide +kernel
theorem dX10_block_280 : decode cX10_block 280 = .ok (.iconst 1, 1) := by decide +kernel
theorem dX10_block_281 : decode cX10_block 281 = .ok (.iadd, 1) := by decide +kernel
theorem dX10_block_282 : decode cX10_block 282 = .ok (.putfield 64, 3) := by decide +kernel
theorem dX10_block_285 : decode cX10_block 285 = .ok (.aload_n 0, 1) := by decide +kernel
theorem dX10_block_286 : decode cX10_block 286 = .ok (.getfield 28, 3) := by decide +kernel
theorem dX10_block_289 : decode cX10_block 289 = .ok (.iload_n 3, 1) := by decide +kernel
theorem dX10_block_290 : decode cX10_block 290 = .ok (.iaload, 1) := by decide +kernel
theorem dX10_block_291 : decode cX10_block 291 = .ok (.ifCond .le 72, 3) := by decide +kernel
theorem dX10_block_294 : decode cX10_block 294 = .ok (.aload_n 0, 1) := by decide +kernel
theorem dX10_block_295 : decode cX10_block 295 = .ok (.dup, 1) := by decide +kernel
theorem dX10_block_296 : decode cX10_block 296 = .ok (.getfield 67, 3) := by decide +kernel
theorem dX10_block_299 : decode cX10_block 299 = .ok (.iconst 1, 1) := by decide +kernel
theorem dX10_block_300 : decode cX10_block 300 = .ok (.iadd, 1) := by decide +kernel
theorem dX10_block_301 : decode cX10_block 301 = .ok (.putfield 67, 3) := by decide +kernel
theorem dX10_block_304 : decode cX10_block 304 = .ok (.aload_n 0, 1) := by decide +kernel
theorem dX10_block_305 : decode cX10_block 305 = .ok (.getfield 28, 3) := by decide +kernel
theorem dX10_block_308 : decode cX10_block 308 = .ok (.iload_n 3, 1) := by decide +kernel
theorem dX10_block_309 : decode cX10_block 309 = .ok (.iaload, 1) := by decide +kernel
theorem dX10_block_310 : decode cX10_block 310 = .ok (.invokestatic 145, 3) := by decide +kernel
theorem dX10_block_313 : decode cX10_block 313 = .ok (.istore 4, 2) := by decide +kernel
theorem dX10_block_315 : decode cX10_block 315 = .ok (.aload_n 0, 1) := by decide +kernel
theorem dX10_block_316 : decode cX10_block 316 = .ok (.iconst 2, 1) := by decide +kernel
theorem dX10_block_317 : decode cX10_block 317 = .ok (.iload 4, 2) := by decide +kernel
theorem dX10_block_319 : decode cX10_block 319 = .ok (.invokevirtual 154, 3) := by decide +kernel
theorem dX10_block_322 : decode cX10_block 322 = .ok (.aload_n 0, 1) := by decide +kernel
theorem dX10_block_323 : decode cX10_block 323 = .ok (.iload 4, 2) := by decide +kernel
theorem dX10_block_325 : decode cX10_block 325 = .ok (.ifCond .ne 7, 3) := by decide +kernel
theorem dX10_block_328 : decode cX10_block 328 = .ok (.iconst 0, 1) := by decide +kernel
theorem dX10_block_329 : decode cX10_block 329 = .ok (.goto 18, 3) := by decide +kernel
theorem dX10_block_332 : decode cX10_block 332 = .ok (.aload_n 0, 1) := by decide +kernel
theorem dX10_block_333 : decode cX10_block 333 = .ok (.getfield 28, 3) := by decide +kernel
theorem dX10_block_336 : decode cX10_block 336 = .ok (.iload_n 3, 1) := by decide +kernel
theorem dX10_block_337 : decode cX10_block 337 = .ok (.iaload, 1) := by decide +kernel
theorem dX10_block_338 : decode cX10_block 338 = .ok (.iconst 1, 1) := by decide +kernel
theorem dX10_block_339 : decode cX10_block 339 = .ok (.isub, 1) := by decide +kernel
theorem dX10_block_340 : decode cX10_block 340 = .ok (.iconst 1, 1) := by decide +kernel
theorem dX10_block_341 : decode cX10_block 341 = .ok (.iload 4, 2) := by decide +kernel
theorem dX10_block_343 : decode cX10_block 343 = .ok (.iconst 1, 1) := by decide +kernel
theorem dX10_block_344 : decode cX10_block 344 = .ok (.isub, 1) := by decide +kernel
theorem dX10_block_345 : decode cX10_block 345 = .ok (.ishl, 1) := by decide +kernel
theorem dX10_block_346 : decode cX10_block 346 = .ok (.isub, 1) := by decide +kernel
theorem dX10_block_347 : decode cX10_block 347 = .ok (.iload 4, 2) := by decide +kernel
theorem dX10_block_349 : decode cX10_block 349 = .ok (.ifCond .ne 7, 3) := by decide +kernel
theorem dX10_block_352 : decode cX10_block 352 = .ok (.iconst 0, 1) := by decide +kernel
theorem dX10_block_353 : decode cX10_block 353 = .ok (.goto 7, 3) := by decide +kernel
theorem dX10_block_356 : decode cX10_block 356 = .ok (.iload 4, 2) := by decide +kernel
theorem dX10_block_358 : decode cX10_block 358 = .ok (.iconst 1, 1) := by decide +kernel
theorem dX10_block_359 : decode cX10_block 359 = .ok (.isub, 1) := by decide +kernel
theorem dX10_block_360 : decode cX10_block 360 = .ok (.invokevirtual 139, 3) := by decide +kernel
theorem dX10_block_363 : decode cX10_block 363 = .ok (.iinc 3 1, 3) := by decide +kernel
theorem dX10_block_366 : decode cX10_block 366 = .ok (.goto (-109), 3) := by decide +kernel
theorem dX10_block_369 : decode cX10_block 369 = .ok (.return_, 1) := by decide +kernel
theorem dX10_write_0 : decode cX10_write 0 = .ok (.iload_n 1, 1) := by decide +kernel
theorem dX10_write_1 : decode cX10_write 1 = .ok (.ifCond .lt 11, 3) := by decide +kernel
theorem dX10_write_4 : decode cX10_write 4 = .ok (.iload_n 1, 1) := by decide +kernel
theorem dX10_write_5 : decode cX10_write 5 = .ok (.aload_n 0, 1) := by decide +kernel
theorem dX10_write_6 : decode cX10_write 6 = .ok (.getfield 50, 3) := by decide +kernel
theorem dX10_write_9 : decode cX10_write 9 = .ok (.if_icmp .le 5, 3) := by decide +kernel
theorem dX10_write_12 : decode cX10_write 12 = .ok (.iconst (-1), 1) := by decide +kernel
theorem dX10_write_13 : decode cX10_write 13 = .ok (.ireturn, 1) := by decide +kernel
theorem dX10_write_14 : decode cX10_write 14 = .ok (.aload_n 0, 1) := by decide +kernel
theorem dX10_write_15 : decode cX10_write 15 = .ok (.invokevirtual 107, 3) := by decide +kernel
theorem dX10_write_18 : decode cX10_write 18 = .ok (.aload_n 0, 1) := by decide +kernel
theorem dX10_write_19 : decode cX10_write 19 = .ok (.iload_n 1, 1) := by decide +kernel
theorem dX10_write_20 : decode cX10_write 20 = .ok (.invokevirtual 157, 3) := by decide +kernel
theorem dX10_write_23 : decode cX10_write 23 = .ok (.istore_n 2, 1) := by decide +kernel
theorem dX10_write_24 : decode cX10_write 24 = .ok (.iconst 0, 1) := by decide +kernel
theorem dX10_write_25 : decode cX10_write 25 = .ok (.istore_n 3, 1) := by decide +kernel
theorem dX10_write_26 : decode cX10_write 26 = .ok (.iload_n 3, 1) := by decide +kernel
theorem dX10_write_27 : decode cX10_write 27 = .ok (.iload_n 2, 1) := by decide +kernel
theorem dX10_write_28 : decode cX10_write 28 = .ok (.if_icmp .ge 35, 3) := by decide +kernel
theorem dX10_write_31 : decode cX10_write 31 = .ok (.aload_n 0, 1) := by decide +kernel
theorem dX10_write_32 : decode cX10_write 32 = .ok (.iload_n 3, 1) := by decide +kernel
theorem dX10_write_33 : decode cX10_write 33 = .ok (.iload_n 2, 1) := by decide +kernel
theorem dX10_write_34 : decode cX10_write 34 = .ok (.iload_n 3, 1) := by decide +kernel
theorem dX10_write_35 : decode cX10_write 35 = .ok (.isub, 1) := by decide +kernel
theorem dX10_write_36 : decode cX10_write 36 = .ok (.sipush 400, 3) := by decide +kernel
theorem dX10_write_39 : decode cX10_write 39 = .ok (.if_icmp .ge 9, 3) := by decide +kernel
theorem dX10_write_42 : decode cX10_write 42 = .ok (.iload_n 2, 1) := by decide +kernel
theorem dX10_write_43 : decode cX10_write 43 = .ok (.iload_n 3, 1) := by decide +kernel
theorem dX10_write_44 : decode cX10_write 44 = .ok (.isub, 1) := by decide +kernel
theorem dX10_write_45 : decode cX10_write 45 = .ok (.goto 6, 3) := by decide +kernel
theorem dX10_write_48 : decode cX10_write 48 = .ok (.sipush 400, 3) := by decide +kernel
theorem dX10_write_51 : decode cX10_write 51 = .ok (.invokevirtual 160, 3) := by decide +kernel
theorem dX10_write_54 : decode cX10_write 54 = .ok (.iinc 3 400, 6) := by decide +kernel
theorem dX10_write_60 : decode cX10_write 60 = .ok (.goto (-34), 3) := by decide +kernel
theorem dX10_write_63 : decode cX10_write 63 = .ok (.aload_n 0, 1) := by decide +kernel
theorem dX10_write_64 : decode cX10_write 64 = .ok (.getfield 54, 3) := by decide +kernel
theorem dX10_write_67 : decode cX10_write 67 = .ok (.ireturn, 1) := by decide +kernel
theorem dX10_back_0 : decode cX10_back 0 = .ok (.aload_n 0, 1) := by decide +kernel
theorem dX10_back_1 : decode cX10_back 1 = .ok (.getfield 54, 3) := by decide +kernel
theorem dX10_back_4 : decode cX10_back 4 = .ok (.sipush 4000, 3) := by decide +kernel
theorem dX10_back_7 : decode cX10_back 7 = .ok (.if_icmp .le 5, 3) := by decide +kernel
theorem dX10_back_10 : decode cX10_back 10 = .ok (.iconst (-1), 1) := by decide +kernel
theorem dX10_back_11 : decode cX10_back 11 = .ok (.ireturn, 1) := by decide +kernel
theorem dX10_back_12 : decode cX10_back 12 = .ok (.iconst 0, 1) := by decide +kernel
theorem dX10_back_13 : decode cX10_back 13 = .ok (.istore_n 1, 1) := by decide +kernel
theorem dX10_back_14 : decode cX10_back 14 = .ok (.iload_n 1, 1) := by decide +kernel
theorem dX10_back_15 : decode cX10_back 15 = .ok (.aload_n 0, 1) := by decide +kernel
theorem dX10_back_16 : decode cX10_back 16 = .ok (.getfield 54, 3) := by decide +kernel
theorem dX10_back_19 : decode cX10_back 19 = .ok (.if_icmp .ge 21, 3) := by decide +kernel
theorem dX10_back_22 : decode cX10_back 22 = .ok (.aload_n 0, 1) := by decide +kernel
theorem dX10_back_23 : decode cX10_back 23 = .ok (.getfield 7, 3) := by decide +kernel
theorem dX10_back_26 : decode cX10_back 26 = .ok (.iload_n 1, 1) := by decide +kernel
theorem dX10_back_27 : decode cX10_back 27 = .ok (.aload_n 0, 1) := by decide +kernel
theorem dX10_back_28 : decode cX10_back 28 = .ok (.getfield 13, 3) := by decide +kernel
theorem dX10_back_31 : decode cX10_back 31 = .ok (.iload_n 1, 1) := by decide +kernel
theorem dX10_back_32 : decode cX10_back 32 = .ok (.iaload, 1) := by decide +kernel
theorem dX10_back_33 : decode cX10_back 33 = .ok (.iastore, 1) := by decide +kernel
theorem dX10_back_34 : decode cX10_back 34 = .ok (.iinc 1 1, 3) := by decide +kernel
theorem dX10_back_37 : decode cX10_back 37 = .ok (.goto (-23), 3) := by decide +kernel
theorem dX10_back_40 : decode cX10_back 40 = .ok (.aload_n 0, 1) := by decide +kernel
theorem dX10_back_41 : decode cX10_back 41 = .ok (.aload_n 0, 1) := by decide +kernel
theorem dX10_back_42 : decode cX10_back 42 = .ok (.getfield 54, 3) := by decide +kernel
theorem dX10_back_45 : decode cX10_back 45 = .ok (.putfield 50, 3) := by decide +kernel
theorem dX10_back_48 : decode cX10_back 48 = .ok (.aload_n 0, 1) := by decide +kernel
theorem dX10_back_49 : decode cX10_back 49 = .ok (.getfield 50, 3) := by decide +kernel
theorem dX10_back_52 : decode cX10_back 52 = .ok (.ireturn, 1) := by decide +kernel
theorem dX10_made_0 : decode cX10_made 0 = .ok (.aload_n 0, 1) := by decide +kernel
theorem dX10_made_1 : decode cX10_made 1 = .ok (.getfield 54, 3) := by decide +kernel
theorem dX10_made_4 : decode cX10_made 4 = .ok (.ireturn, 1) := by decide +kernel
theorem dX10_out_0 : decode cX10_out 0 = .ok (.iload_n 1, 1) := by decide +kernel
theorem dX10_out_1 : decode cX10_out 1 = .ok (.ifCond .lt 11, 3) := by decide +kernel
theorem dX10_out_4 : decode cX10_out 4 = .ok (.iload_n 1, 1) := by decide +kernel
theorem dX10_out_5 : decode cX10_out 5 = .ok (.aload_n 0, 1) := by decide +kernel
theorem dX10_out_6 : decode cX10_out 6 = .ok (.getfield 54, 3) := by decide +kernel
theorem dX10_out_9 : decode cX10_out 9 = .ok (.if_icmp .lt 7, 3) := by decide +kernel
theorem dX10_out_12 : decode cX10_out 12 = .ok (.iconst (-1), 1) := by decide +kernel
theorem dX10_out_13 : decode cX10_out 13 = .ok (.goto 9, 3) := by decide +kernel
theorem dX10_out_16 : decode cX10_out 16 = .ok (.aload_n 0, 1) := by decide +kernel
theorem dX10_out_17 : decode cX10_out 17 = .ok (.getfield 13, 3) := by decide +kernel
theorem dX10_out_20 : decode cX10_out 20 = .ok (.iload_n 1, 1) := by decide +kernel
theorem dX10_out_21 : decode cX10_out 21 = .ok (.iaload, 1) := by decide +kernel
theorem dX10_out_22 : decode cX10_out 22 = .ok (.ireturn, 1) := by decide +kernel
theorem dX10_told_0 : decode cX10_told 0 = .ok (.aload_n 0, 1) := by decide +kernel
theorem dX10_told_1 : decode cX10_told 1 = .ok (.getfield 57, 3) := by decide +kernel
theorem dX10_told_4 : decode cX10_told 4 = .ok (.ifCond .ne 7, 3) := by decide +kernel
theorem dX10_told_7 : decode cX10_told 7 = .ok (.iconst (-1), 1) := by decide +kernel
theorem dX10_told_8 : decode cX10_told 8 = .ok (.goto 51, 3) := by decide +kernel
theorem dX10_told_11 : decode cX10_told 11 = .ok (.iload_n 1, 1) := by decide +kernel
theorem dX10_told_12 : decode cX10_told 12 = .ok (.ifCond .ne 10, 3) := by decide +kernel
theorem dX10_told_15 : decode cX10_told 15 = .ok (.aload_n 0, 1) := by decide +kernel
theorem dX10_told_16 : decode cX10_told 16 = .ok (.getfield 61, 3) := by decide +kernel
theorem dX10_told_19 : decode cX10_told 19 = .ok (.goto 40, 3) := by decide +kernel
theorem dX10_told_22 : decode cX10_told 22 = .ok (.iload_n 1, 1) := by decide +kernel
theorem dX10_told_23 : decode cX10_told 23 = .ok (.iconst 1, 1) := by decide +kernel
theorem dX10_told_24 : decode cX10_told 24 = .ok (.if_icmp .ne 10, 3) := by decide +kernel
theorem dX10_told_27 : decode cX10_told 27 = .ok (.aload_n 0, 1) := by decide +kernel
theorem dX10_told_28 : decode cX10_told 28 = .ok (.getfield 64, 3) := by decide +kernel
theorem dX10_told_31 : decode cX10_told 31 = .ok (.goto 28, 3) := by decide +kernel
theorem dX10_told_34 : decode cX10_told 34 = .ok (.iload_n 1, 1) := by decide +kernel
theorem dX10_told_35 : decode cX10_told 35 = .ok (.iconst 2, 1) := by decide +kernel
theorem dX10_told_36 : decode cX10_told 36 = .ok (.if_icmp .ne 10, 3) := by decide +kernel
theorem dX10_told_39 : decode cX10_told 39 = .ok (.aload_n 0, 1) := by decide +kernel
theorem dX10_told_40 : decode cX10_told 40 = .ok (.getfield 67, 3) := by decide +kernel
theorem dX10_told_43 : decode cX10_told 43 = .ok (.goto 16, 3) := by decide +kernel
theorem dX10_told_46 : decode cX10_told 46 = .ok (.iload_n 1, 1) := by decide +kernel
theorem dX10_told_47 : decode cX10_told 47 = .ok (.iconst 3, 1) := by decide +kernel
theorem dX10_told_48 : decode cX10_told 48 = .ok (.if_icmp .ne 10, 3) := by decide +kernel
theorem dX10_told_51 : decode cX10_told 51 = .ok (.aload_n 0, 1) := by decide +kernel
theorem dX10_told_52 : decode cX10_told 52 = .ok (.getfield 70, 3) := by decide +kernel
theorem dX10_told_55 : decode cX10_told 55 = .ok (.goto 4, 3) := by decide +kernel
theorem dX10_told_58 : decode cX10_told 58 = .ok (.iconst (-1), 1) := by decide +kernel
theorem dX10_told_59 : decode cX10_told 59 = .ok (.ireturn, 1) := by decide +kernel
theorem dX10_length_0 : decode cX10_length 0 = .ok (.aload_n 0, 1) := by decide +kernel
theorem dX10_length_1 : decode cX10_length 1 = .ok (.getfield 61, 3) := by decide +kernel
theorem dX10_length_4 : decode cX10_length 4 = .ok (.ifCond .eq 24, 3) := by decide +kernel
theorem dX10_length_7 : decode cX10_length 7 = .ok (.iload_n 1, 1) := by decide +kernel
theorem dX10_length_8 : decode cX10_length 8 = .ok (.ifCond .lt 20, 3) := by decide +kernel
theorem dX10_length_11 : decode cX10_length 11 = .ok (.iload_n 1, 1) := by decide +kernel
theorem dX10_length_12 : decode cX10_length 12 = .ok (.iconst 2, 1) := by decide +kernel
theorem dX10_length_13 : decode cX10_length 13 = .ok (.if_icmp .gt 15, 3) := by decide +kernel
theorem dX10_length_16 : decode cX10_length 16 = .ok (.iload_n 2, 1) := by decide +kernel
theorem dX10_length_17 : decode cX10_length 17 = .ok (.ifCond .lt 11, 3) := by decide +kernel
theorem dX10_length_20 : decode cX10_length 20 = .ok (.iload_n 2, 1) := by decide +kernel
theorem dX10_length_21 : decode cX10_length 21 = .ok (.iload_n 1, 1) := by decide +kernel
theorem dX10_length_22 : decode cX10_length 22 = .ok (.invokestatic 79, 3) := by decide +kernel
theorem dX10_length_25 : decode cX10_length 25 = .ok (.if_icmp .lt 7, 3) := by decide +kernel
theorem dX10_length_28 : decode cX10_length 28 = .ok (.iconst (-1), 1) := by decide +kernel
theorem dX10_length_29 : decode cX10_length 29 = .ok (.goto 15, 3) := by decide +kernel
theorem dX10_length_32 : decode cX10_length 32 = .ok (.aload_n 0, 1) := by decide +kernel
theorem dX10_length_33 : decode cX10_length 33 = .ok (.getfield 16, 3) := by decide +kernel
theorem dX10_length_36 : decode cX10_length 36 = .ok (.sipush 600, 3) := by decide +kernel
theorem dX10_length_39 : decode cX10_length 39 = .ok (.iload_n 1, 1) := by decide +kernel
theorem dX10_length_40 : decode cX10_length 40 = .ok (.imul, 1) := by decide +kernel
theorem dX10_length_41 : decode cX10_length 41 = .ok (.iload_n 2, 1) := by decide +kernel
theorem dX10_length_42 : decode cX10_length 42 = .ok (.iadd, 1) := by decide +kernel
theorem dX10_length_43 : decode cX10_length 43 = .ok (.iaload, 1) := by decide +kernel
theorem dX10_length_44 : decode cX10_length 44 = .ok (.ireturn, 1) := by decide +kernel
theorem dJ9_min_7cf53_0 : decode cJ9_min_7cf53 0 = .ok (.iload_n 0, 1) := by decide +kernel
theorem dJ9_min_7cf53_1 : decode cJ9_min_7cf53 1 = .ok (.iload_n 1, 1) := by decide +kernel
theorem dJ9_min_7cf53_2 : decode cJ9_min_7cf53 2 = .ok (.if_icmp .gt 7, 3) := by decide +kernel
theorem dJ9_min_7cf53_5 : decode cJ9_min_7cf53 5 = .ok (.iload_n 0, 1) := by decide +kernel
theorem dJ9_min_7cf53_6 : decode cJ9_min_7cf53 6 = .ok (.goto 4, 3) := by decide +kernel
theorem dJ9_min_7cf53_9 : decode cJ9_min_7cf53 9 = .ok (.iload_n 1, 1) := by decide +kernel
theorem dJ9_min_7cf53_10 : decode cJ9_min_7cf53 10 = .ok (.ireturn, 1) := by decide +kernel
theorem dJ7_fill_53178_0 : decode cJ7_fill_53178 0 = .ok (.iconst 0, 1) := by decide +kernel
theorem dJ7_fill_53178_1 : decode cJ7_fill_53178 1 = .ok (.istore_n 2, 1) := by decide +kernel
theorem dJ7_fill_53178_2 : decode cJ7_fill_53178 2 = .ok (.aload_n 0, 1) := by decide +kernel
theorem dJ7_fill_53178_3 : decode cJ7_fill_53178 3 = .ok (.arraylength, 1) := by decide +kernel
theorem dJ7_fill_53178_4 : decode cJ7_fill_53178 4 = .ok (.istore_n 3, 1) := by decide +kernel
theorem dJ7_fill_53178_5 : decode cJ7_fill_53178 5 = .ok (.iload_n 2, 1) := by decide +kernel
theorem dJ7_fill_53178_6 : decode cJ7_fill_53178 6 = .ok (.iload_n 3, 1) := by decide +kernel
theorem dJ7_fill_53178_7 : decode cJ7_fill_53178 7 = .ok (.if_icmp .ge 13, 3) := by decide +kernel
theorem dJ7_fill_53178_10 : decode cJ7_fill_53178 10 = .ok (.aload_n 0, 1) := by decide +kernel
theorem dJ7_fill_53178_11 : decode cJ7_fill_53178 11 = .ok (.iload_n 2, 1) := by decide +kernel
theorem dJ7_fill_53178_12 : decode cJ7_fill_53178 12 = .ok (.iload_n 1, 1) := by decide +kernel
theorem dJ7_fill_53178_13 : decode cJ7_fill_53178 13 = .ok (.iastore, 1) := by decide +kernel
theorem dJ7_fill_53178_14 : decode cJ7_fill_53178 14 = .ok (.iinc 2 1, 3) := by decide +kernel
theorem dJ7_fill_53178_17 : decode cJ7_fill_53178 17 = .ok (.goto (-12), 3) := by decide +kernel
theorem dJ7_fill_53178_20 : decode cJ7_fill_53178 20 = .ok (.return_, 1) := by decide +kernel
theorem dL_law_0 : decode cL_law 0 = .ok (.new 7, 3) := by decide +kernel
theorem dL_law_3 : decode cL_law 3 = .ok (.dup, 1) := by decide +kernel
theorem dL_law_4 : decode cL_law 4 = .ok (.invokespecial 9, 3) := by decide +kernel
theorem dL_law_7 : decode cL_law 7 = .ok (.astore_n 1, 1) := by decide +kernel
theorem dL_law_8 : decode cL_law 8 = .ok (.new 10, 3) := by decide +kernel
theorem dL_law_11 : decode cL_law 11 = .ok (.dup, 1) := by decide +kernel
theorem dL_law_12 : decode cL_law 12 = .ok (.invokespecial 12, 3) := by decide +kernel
theorem dL_law_15 : decode cL_law 15 = .ok (.astore_n 2, 1) := by decide +kernel
theorem dL_law_16 : decode cL_law 16 = .ok (.iconst 0, 1) := by decide +kernel
theorem dL_law_17 : decode cL_law 17 = .ok (.istore_n 3, 1) := by decide +kernel
theorem dL_law_18 : decode cL_law 18 = .ok (.iload_n 3, 1) := by decide +kernel
theorem dL_law_19 : decode cL_law 19 = .ok (.aload_n 0, 1) := by decide +kernel
theorem dL_law_20 : decode cL_law 20 = .ok (.arraylength, 1) := by decide +kernel
theorem dL_law_21 : decode cL_law 21 = .ok (.bipush 6, 2) := by decide +kernel
theorem dL_law_23 : decode cL_law 23 = .ok (.isub, 1) := by decide +kernel
theorem dL_law_24 : decode cL_law 24 = .ok (.if_icmp .gt 402, 3) := by decide +kernel
theorem dL_law_27 : decode cL_law 27 = .ok (.aload_n 0, 1) := by decide +kernel
theorem dL_law_28 : decode cL_law 28 = .ok (.iload_n 3, 1) := by decide +kernel
theorem dL_law_29 : decode cL_law 29 = .ok (.iaload, 1) := by decide +kernel
theorem dL_law_30 : decode cL_law 30 = .ok (.bipush 15, 2) := by decide +kernel
theorem dL_law_32 : decode cL_law 32 = .ok (.iand, 1) := by decide +kernel
theorem dL_law_33 : decode cL_law 33 = .ok (.tableswitch 387 0 11 #[63, 126, 159, 182, 215, 226, 259, 282, 295, 308, 331, 354], 63) := by decide +kernel
theorem dL_law_96 : decode cL_law 96 = .ok (.aload_n 1, 1) := by decide +kernel
theorem dL_law_97 : decode cL_law 97 = .ok (.aload_n 0, 1) := by decide +kernel
theorem dL_law_98 : decode cL_law 98 = .ok (.iload_n 3, 1) := by decide +kernel
theorem dL_law_99 : decode cL_law 99 = .ok (.iconst 1, 1) := by decide +kernel
theorem dL_law_100 : decode cL_law 100 = .ok (.iadd, 1) := by decide +kernel
theorem dL_law_101 : decode cL_law 101 = .ok (.iaload, 1) := by decide +kernel
theorem dL_law_102 : decode cL_law 102 = .ok (.aload_n 0, 1) := by decide +kernel
theorem dL_law_103 : decode cL_law 103 = .ok (.iload_n 3, 1) := by decide +kernel
theorem dL_law_104 : decode cL_law 104 = .ok (.iconst 2, 1) := by decide +kernel
theorem dL_law_105 : decode cL_law 105 = .ok (.iadd, 1) := by decide +kernel
theorem dL_law_106 : decode cL_law 106 = .ok (.iaload, 1) := by decide +kernel
theorem dL_law_107 : decode cL_law 107 = .ok (.aload_n 0, 1) := by decide +kernel
theorem dL_law_108 : decode cL_law 108 = .ok (.iload_n 3, 1) := by decide +kernel
theorem dL_law_109 : decode cL_law 109 = .ok (.iconst 3, 1) := by decide +kernel
theorem dL_law_110 : decode cL_law 110 = .ok (.iadd, 1) := by decide +kernel
theorem dL_law_111 : decode cL_law 111 = .ok (.iaload, 1) := by decide +kernel
theorem dL_law_112 : decode cL_law 112 = .ok (.aload_n 0, 1) := by decide +kernel
theorem dL_law_113 : decode cL_law 113 = .ok (.iload_n 3, 1) := by decide +kernel
theorem dL_law_114 : decode cL_law 114 = .ok (.iconst 4, 1) := by decide +kernel
theorem dL_law_115 : decode cL_law 115 = .ok (.iadd, 1) := by decide +kernel
theorem dL_law_116 : decode cL_law 116 = .ok (.iaload, 1) := by decide +kernel
theorem dL_law_117 : decode cL_law 117 = .ok (.aload_n 0, 1) := by decide +kernel
theorem dL_law_118 : decode cL_law 118 = .ok (.iload_n 3, 1) := by decide +kernel
theorem dL_law_119 : decode cL_law 119 = .ok (.iconst 5, 1) := by decide +kernel
theorem dL_law_120 : decode cL_law 120 = .ok (.iadd, 1) := by decide +kernel
theorem dL_law_121 : decode cL_law 121 = .ok (.iaload, 1) := by decide +kernel
theorem dL_law_122 : decode cL_law 122 = .ok (.invokevirtual 13, 3) := by decide +kernel
theorem dL_law_125 : decode cL_law 125 = .ok (.aload_n 2, 1) := by decide +kernel
theorem dL_law_126 : decode cL_law 126 = .ok (.aload_n 0, 1) := by decide +kernel
theorem dL_law_127 : decode cL_law 127 = .ok (.iload_n 3, 1) := by decide +kernel
theorem dL_law_128 : decode cL_law 128 = .ok (.iconst 1, 1) := by decide +kernel
theorem dL_law_129 : decode cL_law 129 = .ok (.iadd, 1) := by decide +kernel
theorem dL_law_130 : decode cL_law 130 = .ok (.iaload, 1) := by decide +kernel
theorem dL_law_131 : decode cL_law 131 = .ok (.aload_n 0, 1) := by decide +kernel
theorem dL_law_132 : decode cL_law 132 = .ok (.iload_n 3, 1) := by decide +kernel
theorem dL_law_133 : decode cL_law 133 = .ok (.iconst 2, 1) := by decide +kernel
theorem dL_law_134 : decode cL_law 134 = .ok (.iadd, 1) := by decide +kernel
theorem dL_law_135 : decode cL_law 135 = .ok (.iaload, 1) := by decide +kernel
theorem dL_law_136 : decode cL_law 136 = .ok (.aload_n 0, 1) := by decide +kernel
theorem dL_law_137 : decode cL_law 137 = .ok (.iload_n 3, 1) := by decide +kernel
theorem dL_law_138 : decode cL_law 138 = .ok (.iconst 3, 1) := by decide +kernel
theorem dL_law_139 : decode cL_law 139 = .ok (.iadd, 1) := by decide +kernel
theorem dL_law_140 : decode cL_law 140 = .ok (.iaload, 1) := by decide +kernel
theorem dL_law_141 : decode cL_law 141 = .ok (.aload_n 0, 1) := by decide +kernel
theorem dL_law_142 : decode cL_law 142 = .ok (.iload_n 3, 1) := by decide +kernel
theorem dL_law_143 : decode cL_law 143 = .ok (.iconst 4, 1) := by decide +kernel
theorem dL_law_144 : decode cL_law 144 = .ok (.iadd, 1) := by decide +kernel
theorem dL_law_145 : decode cL_law 145 = .ok (.iaload, 1) := by decide +kernel
theorem dL_law_146 : decode cL_law 146 = .ok (.aload_n 0, 1) := by decide +kernel
theorem dL_law_147 : decode cL_law 147 = .ok (.iload_n 3, 1) := by decide +kernel
theorem dL_law_148 : decode cL_law 148 = .ok (.iconst 5, 1) := by decide +kernel
theorem dL_law_149 : decode cL_law 149 = .ok (.iadd, 1) := by decide +kernel
theorem dL_law_150 : decode cL_law 150 = .ok (.iaload, 1) := by decide +kernel
theorem dL_law_151 : decode cL_law 151 = .ok (.invokevirtual 17, 3) := by decide +kernel
theorem dL_law_154 : decode cL_law 154 = .ok (.if_icmp .eq 266, 3) := by decide +kernel
theorem dL_law_157 : decode cL_law 157 = .ok (.iconst 0, 1) := by decide +kernel
theorem dL_law_158 : decode cL_law 158 = .ok (.ireturn, 1) := by decide +kernel
theorem dL_law_159 : decode cL_law 159 = .ok (.aload_n 1, 1) := by decide +kernel
theorem dL_law_160 : decode cL_law 160 = .ok (.aload_n 0, 1) := by decide +kernel
theorem dL_law_161 : decode cL_law 161 = .ok (.iload_n 3, 1) := by decide +kernel
theorem dL_law_162 : decode cL_law 162 = .ok (.iconst 1, 1) := by decide +kernel
theorem dL_law_163 : decode cL_law 163 = .ok (.iadd, 1) := by decide +kernel
theorem dL_law_164 : decode cL_law 164 = .ok (.iaload, 1) := by decide +kernel
theorem dL_law_165 : decode cL_law 165 = .ok (.aload_n 0, 1) := by decide +kernel
theorem dL_law_166 : decode cL_law 166 = .ok (.iload_n 3, 1) := by decide +kernel
theorem dL_law_167 : decode cL_law 167 = .ok (.iconst 2, 1) := by decide +kernel
theorem dL_law_168 : decode cL_law 168 = .ok (.iadd, 1) := by decide +kernel
theorem dL_law_169 : decode cL_law 169 = .ok (.iaload, 1) := by decide +kernel
theorem dL_law_170 : decode cL_law 170 = .ok (.invokevirtual 18, 3) := by decide +kernel
theorem dL_law_173 : decode cL_law 173 = .ok (.aload_n 2, 1) := by decide +kernel
theorem dL_law_174 : decode cL_law 174 = .ok (.aload_n 0, 1) := by decide +kernel
theorem dL_law_175 : decode cL_law 175 = .ok (.iload_n 3, 1) := by decide +kernel
theorem dL_law_176 : decode cL_law 176 = .ok (.iconst 1, 1) := by decide +kernel
theorem dL_law_177 : decode cL_law 177 = .ok (.iadd, 1) := by decide +kernel
theorem dL_law_178 : decode cL_law 178 = .ok (.iaload, 1) := by decide +kernel
theorem dL_law_179 : decode cL_law 179 = .ok (.aload_n 0, 1) := by decide +kernel
theorem dL_law_180 : decode cL_law 180 = .ok (.iload_n 3, 1) := by decide +kernel
theorem dL_law_181 : decode cL_law 181 = .ok (.iconst 2, 1) := by decide +kernel
theorem dL_law_182 : decode cL_law 182 = .ok (.iadd, 1) := by decide +kernel
theorem dL_law_183 : decode cL_law 183 = .ok (.iaload, 1) := by decide +kernel
theorem dL_law_184 : decode cL_law 184 = .ok (.invokevirtual 22, 3) := by decide +kernel
theorem dL_law_187 : decode cL_law 187 = .ok (.if_icmp .eq 233, 3) := by decide +kernel
theorem dL_law_190 : decode cL_law 190 = .ok (.iconst 0, 1) := by decide +kernel
theorem dL_law_191 : decode cL_law 191 = .ok (.ireturn, 1) := by decide +kernel
theorem dL_law_192 : decode cL_law 192 = .ok (.aload_n 1, 1) := by decide +kernel
theorem dL_law_193 : decode cL_law 193 = .ok (.aload_n 0, 1) := by decide +kernel
theorem dL_law_194 : decode cL_law 194 = .ok (.iload_n 3, 1) := by decide +kernel
theorem dL_law_195 : decode cL_law 195 = .ok (.iconst 1, 1) := by decide +kernel
theorem dL_law_196 : decode cL_law 196 = .ok (.iadd, 1) := by decide +kernel
theorem dL_law_197 : decode cL_law 197 = .ok (.iaload, 1) := by decide +kernel
theorem dL_law_198 : decode cL_law 198 = .ok (.invokevirtual 23, 3) := by decide +kernel
theorem dL_law_201 : decode cL_law 201 = .ok (.aload_n 2, 1) := by decide +kernel
theorem dL_law_202 : decode cL_law 202 = .ok (.aload_n 0, 1) := by decide +kernel
theorem dL_law_203 : decode cL_law 203 = .ok (.iload_n 3, 1) := by decide +kernel
theorem dL_law_204 : decode cL_law 204 = .ok (.iconst 1, 1) := by decide +kernel
theorem dL_law_205 : decode cL_law 205 = .ok (.iadd, 1) := by decide +kernel
theorem dL_law_206 : decode cL_law 206 = .ok (.iaload, 1) := by decide +kernel
theorem dL_law_207 : decode cL_law 207 = .ok (.invokevirtual 27, 3) := by decide +kernel
theorem dL_law_210 : decode cL_law 210 = .ok (.if_icmp .eq 210, 3) := by decide +kernel
theorem dL_law_213 : decode cL_law 213 = .ok (.iconst 0, 1) := by decide +kernel
theorem dL_law_214 : decode cL_law 214 = .ok (.ireturn, 1) := by decide +kernel
theorem dL_law_215 : decode cL_law 215 = .ok (.aload_n 1, 1) := by decide +kernel
theorem dL_law_216 : decode cL_law 216 = .ok (.aload_n 0, 1) := by decide +kernel
theorem dL_law_217 : decode cL_law 217 = .ok (.iload_n 3, 1) := by decide +kernel
theorem dL_law_218 : decode cL_law 218 = .ok (.iconst 1, 1) := by decide +kernel
theorem dL_law_219 : decode cL_law 219 = .ok (.iadd, 1) := by decide +kernel
theorem dL_law_220 : decode cL_law 220 = .ok (.iaload, 1) := by decide +kernel
theorem dL_law_221 : decode cL_law 221 = .ok (.aload_n 0, 1) := by decide +kernel
theorem dL_law_222 : decode cL_law 222 = .ok (.iload_n 3, 1) := by decide +kernel
theorem dL_law_223 : decode cL_law 223 = .ok (.iconst 2, 1) := by decide +kernel
theorem dL_law_224 : decode cL_law 224 = .ok (.iadd, 1) := by decide +kernel
theorem dL_law_225 : decode cL_law 225 = .ok (.iaload, 1) := by decide +kernel
theorem dL_law_226 : decode cL_law 226 = .ok (.invokevirtual 28, 3) := by decide +kernel
theorem dL_law_229 : decode cL_law 229 = .ok (.aload_n 2, 1) := by decide +kernel
theorem dL_law_230 : decode cL_law 230 = .ok (.aload_n 0, 1) := by decide +kernel
theorem dL_law_231 : decode cL_law 231 = .ok (.iload_n 3, 1) := by decide +kernel
theorem dL_law_232 : decode cL_law 232 = .ok (.iconst 1, 1) := by decide +kernel
theorem dL_law_233 : decode cL_law 233 = .ok (.iadd, 1) := by decide +kernel
theorem dL_law_234 : decode cL_law 234 = .ok (.iaload, 1) := by decide +kernel
theorem dL_law_235 : decode cL_law 235 = .ok (.aload_n 0, 1) := by decide +kernel
theorem dL_law_236 : decode cL_law 236 = .ok (.iload_n 3, 1) := by decide +kernel
theorem dL_law_237 : decode cL_law 237 = .ok (.iconst 2, 1) := by decide +kernel
theorem dL_law_238 : decode cL_law 238 = .ok (.iadd, 1) := by decide +kernel
theorem dL_law_239 : decode cL_law 239 = .ok (.iaload, 1) := by decide +kernel
theorem dL_law_240 : decode cL_law 240 = .ok (.invokevirtual 32, 3) := by decide +kernel
theorem dL_law_243 : decode cL_law 243 = .ok (.if_icmp .eq 177, 3) := by decide +kernel
theorem dL_law_246 : decode cL_law 246 = .ok (.iconst 0, 1) := by decide +kernel
theorem dL_law_247 : decode cL_law 247 = .ok (.ireturn, 1) := by decide +kernel
theorem dL_law_248 : decode cL_law 248 = .ok (.aload_n 1, 1) := by decide +kernel
theorem dL_law_249 : decode cL_law 249 = .ok (.invokevirtual 33, 3) := by decide +kernel
theorem dL_law_252 : decode cL_law 252 = .ok (.aload_n 2, 1) := by decide +kernel
theorem dL_law_253 : decode cL_law 253 = .ok (.invokevirtual 36, 3) := by decide +kernel
theorem dL_law_256 : decode cL_law 256 = .ok (.goto 164, 3) := by decide +kernel
theorem dL_law_259 : decode cL_law 259 = .ok (.aload_n 1, 1) := by decide +kernel
theorem dL_law_260 : decode cL_law 260 = .ok (.aload_n 0, 1) := by decide +kernel
theorem dL_law_261 : decode cL_law 261 = .ok (.iload_n 3, 1) := by decide +kernel
theorem dL_law_262 : decode cL_law 262 = .ok (.iconst 1, 1) := by decide +kernel
theorem dL_law_263 : decode cL_law 263 = .ok (.iadd, 1) := by decide +kernel
theorem dL_law_264 : decode cL_law 264 = .ok (.iaload, 1) := by decide +kernel
theorem dL_law_265 : decode cL_law 265 = .ok (.aload_n 0, 1) := by decide +kernel
theorem dL_law_266 : decode cL_law 266 = .ok (.iload_n 3, 1) := by decide +kernel
theorem dL_law_267 : decode cL_law 267 = .ok (.iconst 2, 1) := by decide +kernel
theorem dL_law_268 : decode cL_law 268 = .ok (.iadd, 1) := by decide +kernel
theorem dL_law_269 : decode cL_law 269 = .ok (.iaload, 1) := by decide +kernel
theorem dL_law_270 : decode cL_law 270 = .ok (.invokevirtual 37, 3) := by decide +kernel
theorem dL_law_273 : decode cL_law 273 = .ok (.aload_n 2, 1) := by decide +kernel
theorem dL_law_274 : decode cL_law 274 = .ok (.aload_n 0, 1) := by decide +kernel
theorem dL_law_275 : decode cL_law 275 = .ok (.iload_n 3, 1) := by decide +kernel
theorem dL_law_276 : decode cL_law 276 = .ok (.iconst 1, 1) := by decide +kernel
theorem dL_law_277 : decode cL_law 277 = .ok (.iadd, 1) := by decide +kernel
theorem dL_law_278 : decode cL_law 278 = .ok (.iaload, 1) := by decide +kernel
theorem dL_law_279 : decode cL_law 279 = .ok (.aload_n 0, 1) := by decide +kernel
theorem dL_law_280 : decode cL_law 280 = .ok (.iload_n 3, 1) := by decide +kernel
theorem dL_law_281 : decode cL_law 281 = .ok (.iconst 2, 1) := by decide +kernel
theorem dL_law_282 : decode cL_law 282 = .ok (.iadd, 1) := by decide +kernel
theorem dL_law_283 : decode cL_law 283 = .ok (.iaload, 1) := by decide +kernel
theorem dL_law_284 : decode cL_law 284 = .ok (.invokevirtual 40, 3) := by decide +kernel
theorem dL_law_287 : decode cL_law 287 = .ok (.if_icmp .eq 133, 3) := by decide +kernel
theorem dL_law_290 : decode cL_law 290 = .ok (.iconst 0, 1) := by decide +kernel
theorem dL_law_291 : decode cL_law 291 = .ok (.ireturn, 1) := by decide +kernel
theorem dL_law_292 : decode cL_law 292 = .ok (.aload_n 1, 1) := by decide +kernel
theorem dL_law_293 : decode cL_law 293 = .ok (.aload_n 0, 1) := by decide +kernel
theorem dL_law_294 : decode cL_law 294 = .ok (.iload_n 3, 1) := by decide +kernel
theorem dL_law_295 : decode cL_law 295 = .ok (.iconst 1, 1) := by decide +kernel
theorem dL_law_296 : decode cL_law 296 = .ok (.iadd, 1) := by decide +kernel
theorem dL_law_297 : decode cL_law 297 = .ok (.iaload, 1) := by decide +kernel
theorem dL_law_298 : decode cL_law 298 = .ok (.invokevirtual 41, 3) := by decide +kernel
theorem dL_law_301 : decode cL_law 301 = .ok (.aload_n 2, 1) := by decide +kernel
theorem dL_law_302 : decode cL_law 302 = .ok (.aload_n 0, 1) := by decide +kernel
theorem dL_law_303 : decode cL_law 303 = .ok (.iload_n 3, 1) := by decide +kernel
theorem dL_law_304 : decode cL_law 304 = .ok (.iconst 1, 1) := by decide +kernel
theorem dL_law_305 : decode cL_law 305 = .ok (.iadd, 1) := by decide +kernel
theorem dL_law_306 : decode cL_law 306 = .ok (.iaload, 1) := by decide +kernel
theorem dL_law_307 : decode cL_law 307 = .ok (.invokevirtual 44, 3) := by decide +kernel
theorem dL_law_310 : decode cL_law 310 = .ok (.if_icmp .eq 110, 3) := by decide +kernel
theorem dL_law_313 : decode cL_law 313 = .ok (.iconst 0, 1) := by decide +kernel
theorem dL_law_314 : decode cL_law 314 = .ok (.ireturn, 1) := by decide +kernel
theorem dL_law_315 : decode cL_law 315 = .ok (.aload_n 1, 1) := by decide +kernel
theorem dL_law_316 : decode cL_law 316 = .ok (.invokevirtual 45, 3) := by decide +kernel
theorem dL_law_319 : decode cL_law 319 = .ok (.aload_n 2, 1) := by decide +kernel
theorem dL_law_320 : decode cL_law 320 = .ok (.invokevirtual 49, 3) := by decide +kernel
theorem dL_law_323 : decode cL_law 323 = .ok (.if_icmp .eq 97, 3) := by decide +kernel
theorem dL_law_326 : decode cL_law 326 = .ok (.iconst 0, 1) := by decide +kernel
theorem dL_law_327 : decode cL_law 327 = .ok (.ireturn, 1) := by decide +kernel
theorem dL_law_328 : decode cL_law 328 = .ok (.aload_n 1, 1) := by decide +kernel
theorem dL_law_329 : decode cL_law 329 = .ok (.invokevirtual 50, 3) := by decide +kernel
theorem dL_law_332 : decode cL_law 332 = .ok (.aload_n 2, 1) := by decide +kernel
theorem dL_law_333 : decode cL_law 333 = .ok (.invokevirtual 53, 3) := by decide +kernel
theorem dL_law_336 : decode cL_law 336 = .ok (.if_icmp .eq 84, 3) := by decide +kernel
theorem dL_law_339 : decode cL_law 339 = .ok (.iconst 0, 1) := by decide +kernel
theorem dL_law_340 : decode cL_law 340 = .ok (.ireturn, 1) := by decide +kernel
theorem dL_law_341 : decode cL_law 341 = .ok (.aload_n 1, 1) := by decide +kernel
theorem dL_law_342 : decode cL_law 342 = .ok (.aload_n 0, 1) := by decide +kernel
theorem dL_law_343 : decode cL_law 343 = .ok (.iload_n 3, 1) := by decide +kernel
theorem dL_law_344 : decode cL_law 344 = .ok (.iconst 1, 1) := by decide +kernel
theorem dL_law_345 : decode cL_law 345 = .ok (.iadd, 1) := by decide +kernel
theorem dL_law_346 : decode cL_law 346 = .ok (.iaload, 1) := by decide +kernel
theorem dL_law_347 : decode cL_law 347 = .ok (.invokevirtual 54, 3) := by decide +kernel
theorem dL_law_350 : decode cL_law 350 = .ok (.aload_n 2, 1) := by decide +kernel
theorem dL_law_351 : decode cL_law 351 = .ok (.aload_n 0, 1) := by decide +kernel
theorem dL_law_352 : decode cL_law 352 = .ok (.iload_n 3, 1) := by decide +kernel
theorem dL_law_353 : decode cL_law 353 = .ok (.iconst 1, 1) := by decide +kernel
theorem dL_law_354 : decode cL_law 354 = .ok (.iadd, 1) := by decide +kernel
theorem dL_law_355 : decode cL_law 355 = .ok (.iaload, 1) := by decide +kernel
theorem dL_law_356 : decode cL_law 356 = .ok (.invokevirtual 57, 3) := by decide +kernel
theorem dL_law_359 : decode cL_law 359 = .ok (.if_icmp .eq 61, 3) := by decide +kernel
theorem dL_law_362 : decode cL_law 362 = .ok (.iconst 0, 1) := by decide +kernel
theorem dL_law_363 : decode cL_law 363 = .ok (.ireturn, 1) := by decide +kernel
theorem dL_law_364 : decode cL_law 364 = .ok (.aload_n 1, 1) := by decide +kernel
theorem dL_law_365 : decode cL_law 365 = .ok (.aload_n 0, 1) := by decide +kernel
theorem dL_law_366 : decode cL_law 366 = .ok (.iload_n 3, 1) := by decide +kernel
theorem dL_law_367 : decode cL_law 367 = .ok (.iconst 1, 1) := by decide +kernel
theorem dL_law_368 : decode cL_law 368 = .ok (.iadd, 1) := by decide +kernel
theorem dL_law_369 : decode cL_law 369 = .ok (.iaload, 1) := by decide +kernel
theorem dL_law_370 : decode cL_law 370 = .ok (.invokevirtual 58, 3) := by decide +kernel
theorem dL_law_373 : decode cL_law 373 = .ok (.aload_n 2, 1) := by decide +kernel
theorem dL_law_374 : decode cL_law 374 = .ok (.aload_n 0, 1) := by decide +kernel
theorem dL_law_375 : decode cL_law 375 = .ok (.iload_n 3, 1) := by decide +kernel
theorem dL_law_376 : decode cL_law 376 = .ok (.iconst 1, 1) := by decide +kernel
theorem dL_law_377 : decode cL_law 377 = .ok (.iadd, 1) := by decide +kernel
theorem dL_law_378 : decode cL_law 378 = .ok (.iaload, 1) := by decide +kernel
theorem dL_law_379 : decode cL_law 379 = .ok (.invokevirtual 61, 3) := by decide +kernel
theorem dL_law_382 : decode cL_law 382 = .ok (.if_icmp .eq 38, 3) := by decide +kernel
theorem dL_law_385 : decode cL_law 385 = .ok (.iconst 0, 1) := by decide +kernel
theorem dL_law_386 : decode cL_law 386 = .ok (.ireturn, 1) := by decide +kernel
theorem dL_law_387 : decode cL_law 387 = .ok (.aload_n 1, 1) := by decide +kernel
theorem dL_law_388 : decode cL_law 388 = .ok (.aload_n 0, 1) := by decide +kernel
theorem dL_law_389 : decode cL_law 389 = .ok (.iload_n 3, 1) := by decide +kernel
theorem dL_law_390 : decode cL_law 390 = .ok (.iconst 1, 1) := by decide +kernel
theorem dL_law_391 : decode cL_law 391 = .ok (.iadd, 1) := by decide +kernel
theorem dL_law_392 : decode cL_law 392 = .ok (.iaload, 1) := by decide +kernel
theorem dL_law_393 : decode cL_law 393 = .ok (.aload_n 0, 1) := by decide +kernel
theorem dL_law_394 : decode cL_law 394 = .ok (.iload_n 3, 1) := by decide +kernel
theorem dL_law_395 : decode cL_law 395 = .ok (.iconst 2, 1) := by decide +kernel
theorem dL_law_396 : decode cL_law 396 = .ok (.iadd, 1) := by decide +kernel
theorem dL_law_397 : decode cL_law 397 = .ok (.iaload, 1) := by decide +kernel
theorem dL_law_398 : decode cL_law 398 = .ok (.invokevirtual 62, 3) := by decide +kernel
theorem dL_law_401 : decode cL_law 401 = .ok (.aload_n 2, 1) := by decide +kernel
theorem dL_law_402 : decode cL_law 402 = .ok (.aload_n 0, 1) := by decide +kernel
theorem dL_law_403 : decode cL_law 403 = .ok (.iload_n 3, 1) := by decide +kernel
theorem dL_law_404 : decode cL_law 404 = .ok (.iconst 1, 1) := by decide +kernel
theorem dL_law_405 : decode cL_law 405 = .ok (.iadd, 1) := by decide +kernel
theorem dL_law_406 : decode cL_law 406 = .ok (.iaload, 1) := by decide +kernel
theorem dL_law_407 : decode cL_law 407 = .ok (.aload_n 0, 1) := by decide +kernel
theorem dL_law_408 : decode cL_law 408 = .ok (.iload_n 3, 1) := by decide +kernel
theorem dL_law_409 : decode cL_law 409 = .ok (.iconst 2, 1) := by decide +kernel
theorem dL_law_410 : decode cL_law 410 = .ok (.iadd, 1) := by decide +kernel
theorem dL_law_411 : decode cL_law 411 = .ok (.iaload, 1) := by decide +kernel
theorem dL_law_412 : decode cL_law 412 = .ok (.invokevirtual 65, 3) := by decide +kernel
theorem dL_law_415 : decode cL_law 415 = .ok (.if_icmp .eq 5, 3) := by decide +kernel
theorem dL_law_418 : decode cL_law 418 = .ok (.iconst 0, 1) := by decide +kernel
theorem dL_law_419 : decode cL_law 419 = .ok (.ireturn, 1) := by decide +kernel
theorem dL_law_420 : decode cL_law 420 = .ok (.iinc 3 6, 3) := by decide +kernel
theorem dL_law_423 : decode cL_law 423 = .ok (.goto (-405), 3) := by decide +kernel
theorem dL_law_426 : decode cL_law 426 = .ok (.iconst 1, 1) := by decide +kernel
theorem dL_law_427 : decode cL_law 427 = .ok (.ireturn, 1) := by decide +kernel
