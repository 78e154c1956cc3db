theorem dX10_great_126 : decode cX10_great 126 = .ok (.iconst 1, 1) := by decide +kernel
theorem dX10_great_127 : decode cX10_great 127 = .ok (.invokevirtual 101, 3) := by decide +kernel
theorem dX10_great_130 : decode cX10_great 130 = .ok (.return_, 1) := by decide +kernel
theorem dX10_one_0 : decode cX10_one 0 = .ok (.aload_n 0, 1) := by decide +kernel
theorem dX10_one_1 : decode cX10_one 1 = .ok (.iconst 1, 1) := by decide +kernel
theorem dX10_one_2 : decode cX10_one 2 = .ok (.invokevirtual 104, 3) := by decide +kernel
theorem dX10_one_5 : decode cX10_one 5 = .ok (.istore_n 2, 1) := by decide +kernel
theorem dX10_one_6 : decode cX10_one 6 = .ok (.aload_n 0, 1) := by decide +kernel
theorem dX10_one_7 : decode cX10_one 7 = .ok (.getfield 73, 3) := by decide +kernel
theorem dX10_one_10 : decode cX10_one 10 = .ok (.ifCond .eq 4, 3) := by decide +kernel
theorem dX10_one_13 : decode cX10_one 13 = .ok (.return_, 1) := by decide +kernel
theorem dX10_one_14 : decode cX10_one 14 = .ok (.iload_n 2, 1) := by decide +kernel
theorem dX10_one_15 : decode cX10_one 15 = .ok (.sipush 256, 3) := by decide +kernel
theorem dX10_one_18 : decode cX10_one 18 = .ok (.if_icmp .ge 34, 3) := by decide +kernel
theorem dX10_one_21 : decode cX10_one 21 = .ok (.aload_n 0, 1) := by decide +kernel
theorem dX10_one_22 : decode cX10_one 22 = .ok (.dup, 1) := by decide +kernel
theorem dX10_one_23 : decode cX10_one 23 = .ok (.getfield 64, 3) := by decide +kernel
theorem dX10_one_26 : decode cX10_one 26 = .ok (.iconst 1, 1) := by decide +kernel
theorem dX10_one_27 : decode cX10_one 27 = .ok (.iadd, 1) := by decide +kernel
theorem dX10_one_28 : decode cX10_one 28 = .ok (.putfield 64, 3) := by decide +kernel
theorem dX10_one_31 : decode cX10_one 31 = .ok (.aload_n 0, 1) := by decide +kernel
theorem dX10_one_32 : decode cX10_one 32 = .ok (.getfield 13, 3) := by decide +kernel
theorem dX10_one_35 : decode cX10_one 35 = .ok (.aload_n 0, 1) := by decide +kernel
theorem dX10_one_36 : decode cX10_one 36 = .ok (.getfield 54, 3) := by decide +kernel
theorem dX10_one_39 : decode cX10_one 39 = .ok (.iload_n 2, 1) := by decide +kernel
theorem dX10_one_40 : decode cX10_one 40 = .ok (.iastore, 1) := by decide +kernel
theorem dX10_one_41 : decode cX10_one 41 = .ok (.aload_n 0, 1) := by decide +kernel
theorem dX10_one_42 : decode cX10_one 42 = .ok (.dup, 1) := by decide +kernel
theorem dX10_one_43 : decode cX10_one 43 = .ok (.getfield 54, 3) := by decide +kernel
theorem dX10_one_46 : decode cX10_one 46 = .ok (.iconst 1, 1) := by decide +kernel
theorem dX10_one_47 : decode cX10_one 47 = .ok (.iadd, 1) := by decide +kernel
theorem dX10_one_48 : decode cX10_one 48 = .ok (.putfield 54, 3) := by decide +kernel
theorem dX10_one_51 : decode cX10_one 51 = .ok (.return_, 1) := by decide +kernel
theorem dX10_one_52 : decode cX10_one 52 = .ok (.aload_n 0, 1) := by decide +kernel
theorem dX10_one_53 : decode cX10_one 53 = .ok (.iconst 2, 1) := by decide +kernel
theorem dX10_one_54 : decode cX10_one 54 = .ok (.invokevirtual 104, 3) := by decide +kernel
theorem dX10_one_57 : decode cX10_one 57 = .ok (.istore_n 3, 1) := by decide +kernel
theorem dX10_one_58 : decode cX10_one 58 = .ok (.iload_n 3, 1) := by decide +kernel
theorem dX10_one_59 : decode cX10_one 59 = .ok (.ifCond .ne 7, 3) := by decide +kernel
theorem dX10_one_62 : decode cX10_one 62 = .ok (.iconst 1, 1) := by decide +kernel
theorem dX10_one_63 : decode cX10_one 63 = .ok (.goto 18, 3) := by decide +kernel
theorem dX10_one_66 : decode cX10_one 66 = .ok (.iconst 1, 1) := by decide +kernel
theorem dX10_one_67 : decode cX10_one 67 = .ok (.iload_n 3, 1) := by decide +kernel
theorem dX10_one_68 : decode cX10_one 68 = .ok (.iconst 1, 1) := by decide +kernel
theorem dX10_one_69 : decode cX10_one 69 = .ok (.isub, 1) := by decide +kernel
theorem dX10_one_70 : decode cX10_one 70 = .ok (.ishl, 1) := by decide +kernel
theorem dX10_one_71 : decode cX10_one 71 = .ok (.aload_n 0, 1) := by decide +kernel
theorem dX10_one_72 : decode cX10_one 72 = .ok (.iload_n 3, 1) := by decide +kernel
theorem dX10_one_73 : decode cX10_one 73 = .ok (.iconst 1, 1) := by decide +kernel
theorem dX10_one_74 : decode cX10_one 74 = .ok (.isub, 1) := by decide +kernel
theorem dX10_one_75 : decode cX10_one 75 = .ok (.invokevirtual 90, 3) := by decide +kernel
theorem dX10_one_78 : decode cX10_one 78 = .ok (.iadd, 1) := by decide +kernel
theorem dX10_one_79 : decode cX10_one 79 = .ok (.iconst 1, 1) := by decide +kernel
theorem dX10_one_80 : decode cX10_one 80 = .ok (.iadd, 1) := by decide +kernel
theorem dX10_one_81 : decode cX10_one 81 = .ok (.istore 4, 2) := by decide +kernel
theorem dX10_one_83 : decode cX10_one 83 = .ok (.aload_n 0, 1) := by decide +kernel
theorem dX10_one_84 : decode cX10_one 84 = .ok (.getfield 73, 3) := by decide +kernel
theorem dX10_one_87 : decode cX10_one 87 = .ok (.ifCond .ne 17, 3) := by decide +kernel
theorem dX10_one_90 : decode cX10_one 90 = .ok (.iload 4, 2) := by decide +kernel
theorem dX10_one_92 : decode cX10_one 92 = .ok (.aload_n 0, 1) := by decide +kernel
theorem dX10_one_93 : decode cX10_one 93 = .ok (.getfield 54, 3) := by decide +kernel
theorem dX10_one_96 : decode cX10_one 96 = .ok (.if_icmp .le 8, 3) := by decide +kernel
theorem dX10_one_99 : decode cX10_one 99 = .ok (.aload_n 0, 1) := by decide +kernel
theorem dX10_one_100 : decode cX10_one 100 = .ok (.iconst 4, 1) := by decide +kernel
theorem dX10_one_101 : decode cX10_one 101 = .ok (.invokevirtual 86, 3) := by decide +kernel
theorem dX10_one_104 : decode cX10_one 104 = .ok (.aload_n 0, 1) := by decide +kernel
theorem dX10_one_105 : decode cX10_one 105 = .ok (.getfield 73, 3) := by decide +kernel
theorem dX10_one_108 : decode cX10_one 108 = .ok (.ifCond .eq 4, 3) := by decide +kernel
theorem dX10_one_111 : decode cX10_one 111 = .ok (.return_, 1) := by decide +kernel
theorem dX10_one_112 : decode cX10_one 112 = .ok (.aload_n 0, 1) := by decide +kernel
theorem dX10_one_113 : decode cX10_one 113 = .ok (.dup, 1) := by decide +kernel
theorem dX10_one_114 : decode cX10_one 114 = .ok (.getfield 64, 3) := by decide +kernel
theorem dX10_one_117 : decode cX10_one 117 = .ok (.iconst 1, 1) := by decide +kernel
theorem dX10_one_118 : decode cX10_one 118 = .ok (.iadd, 1) := by decide +kernel
theorem dX10_one_119 : decode cX10_one 119 = .ok (.putfield 64, 3) := by decide +kernel
theorem dX10_one_122 : decode cX10_one 122 = .ok (.aload_n 0, 1) := by decide +kernel
theorem dX10_one_123 : decode cX10_one 123 = .ok (.dup, 1) := by decide +kernel
theorem dX10_one_124 : decode cX10_one 124 = .ok (.getfield 67, 3) := by decide +kernel
theorem dX10_one_127 : decode cX10_one 127 = .ok (.iconst 1, 1) := by decide +kernel
theorem dX10_one_128 : decode cX10_one 128 = .ok (.iadd, 1) := by decide +kernel
theorem dX10_one_129 : decode cX10_one 129 = .ok (.putfield 67, 3) := by decide +kernel
theorem dX10_one_132 : decode cX10_one 132 = .ok (.iconst 0, 1) := by decide +kernel
theorem dX10_one_133 : decode cX10_one 133 = .ok (.istore 5, 2) := by decide +kernel
theorem dX10_one_135 : decode cX10_one 135 = .ok (.iload 5, 2) := by decide +kernel
theorem dX10_one_137 : decode cX10_one 137 = .ok (.iload_n 2, 1) := by decide +kernel
theorem dX10_one_138 : decode cX10_one 138 = .ok (.sipush 253, 3) := by decide +kernel
theorem dX10_one_141 : decode cX10_one 141 = .ok (.isub, 1) := by decide +kernel
theorem dX10_one_142 : decode cX10_one 142 = .ok (.if_icmp .ge 63, 3) := by decide +kernel
theorem dX10_one_145 : decode cX10_one 145 = .ok (.aload_n 0, 1) := by decide +kernel
theorem dX10_one_146 : decode cX10_one 146 = .ok (.getfield 73, 3) := by decide +kernel
theorem dX10_one_149 : decode cX10_one 149 = .ok (.ifCond .ne 56, 3) := by decide +kernel
theorem dX10_one_152 : decode cX10_one 152 = .ok (.aload_n 0, 1) := by decide +kernel
theorem dX10_one_153 : decode cX10_one 153 = .ok (.getfield 54, 3) := by decide +kernel
theorem dX10_one_156 : decode cX10_one 156 = .ok (.iload_n 1, 1) := by decide +kernel
theorem dX10_one_157 : decode cX10_one 157 = .ok (.if_icmp .ne 11, 3) := by decide +kernel
theorem dX10_one_160 : decode cX10_one 160 = .ok (.aload_n 0, 1) := by decide +kernel
theorem dX10_one_161 : decode cX10_one 161 = .ok (.iconst 5, 1) := by decide +kernel
theorem dX10_one_162 : decode cX10_one 162 = .ok (.invokevirtual 86, 3) := by decide +kernel
theorem dX10_one_165 : decode cX10_one 165 = .ok (.goto 34, 3) := by decide +kernel
theorem dX10_one_168 : decode cX10_one 168 = .ok (.aload_n 0, 1) := by decide +kernel
theorem dX10_one_169 : decode cX10_one 169 = .ok (.getfield 13, 3) := by decide +kernel
theorem dX10_one_172 : decode cX10_one 172 = .ok (.aload_n 0, 1) := by decide +kernel
theorem dX10_one_173 : decode cX10_one 173 = .ok (.getfield 54, 3) := by decide +kernel
theorem dX10_one_176 : decode cX10_one 176 = .ok (.aload_n 0, 1) := by decide +kernel
theorem dX10_one_177 : decode cX10_one 177 = .ok (.getfield 13, 3) := by decide +kernel
theorem dX10_one_180 : decode cX10_one 180 = .ok (.aload_n 0, 1) := by decide +kernel
theorem dX10_one_181 : decode cX10_one 181 = .ok (.getfield 54, 3) := by decide +kernel
theorem dX10_one_184 : decode cX10_one 184 = .ok (.iload 4, 2) := by decide +kernel
theorem dX10_one_186 : decode cX10_one 186 = .ok (.isub, 1) := by decide +kernel
theorem dX10_one_187 : decode cX10_one 187 = .ok (.iaload, 1) := by decide +kernel
theorem dX10_one_188 : decode cX10_one 188 = .ok (.iastore, 1) := by decide +kernel
theorem dX10_one_189 : decode cX10_one 189 = .ok (.aload_n 0, 1) := by decide +kernel
theorem dX10_one_190 : decode cX10_one 190 = .ok (.dup, 1) := by decide +kernel
theorem dX10_one_191 : decode cX10_one 191 = .ok (.getfield 54, 3) := by decide +kernel
theorem dX10_one_194 : decode cX10_one 194 = .ok (.iconst 1, 1) := by decide +kernel
theorem dX10_one_195 : decode cX10_one 195 = .ok (.iadd, 1) := by decide +kernel
theorem dX10_one_196 : decode cX10_one 196 = .ok (.putfield 54, 3) := by decide +kernel
theorem dX10_one_199 : decode cX10_one 199 = .ok (.iinc 5 1, 3) := by decide +kernel
theorem dX10_one_202 : decode cX10_one 202 = .ok (.goto (-67), 3) := by decide +kernel
theorem dX10_one_205 : decode cX10_one 205 = .ok (.return_, 1) := by decide +kernel
theorem dX10_read_0 : decode cX10_read 0 = .ok (.iload_n 1, 1) := by decide +kernel
theorem dX10_read_1 : decode cX10_read 1 = .ok (.ifCond .lt 22, 3) := by decide +kernel
theorem dX10_read_4 : decode cX10_read 4 = .ok (.iload_n 1, 1) := by decide +kernel
theorem dX10_read_5 : decode cX10_read 5 = .ok (.aload_n 0, 1) := by decide +kernel
theorem dX10_read_6 : decode cX10_read 6 = .ok (.getfield 50, 3) := by decide +kernel
theorem dX10_read_9 : decode cX10_read 9 = .ok (.if_icmp .gt 14, 3) := by decide +kernel
theorem dX10_read_12 : decode cX10_read 12 = .ok (.iload_n 2, 1) := by decide +kernel
theorem dX10_read_13 : decode cX10_read 13 = .ok (.ifCond .lt 10, 3) := by decide +kernel
theorem dX10_read_16 : decode cX10_read 16 = .ok (.iload_n 2, 1) := by decide +kernel
theorem dX10_read_17 : decode cX10_read 17 = .ok (.sipush 8000, 3) := by decide +kernel
theorem dX10_read_20 : decode cX10_read 20 = .ok (.if_icmp .le 5, 3) := by decide +kernel
theorem dX10_read_23 : decode cX10_read 23 = .ok (.iconst (-1), 1) := by decide +kernel
theorem dX10_read_24 : decode cX10_read 24 = .ok (.ireturn, 1) := by decide +kernel
theorem dX10_read_25 : decode cX10_read 25 = .ok (.aload_n 0, 1) := by decide +kernel
theorem dX10_read_26 : decode cX10_read 26 = .ok (.invokevirtual 107, 3) := by decide +kernel
theorem dX10_read_29 : decode cX10_read 29 = .ok (.aload_n 0, 1) := by decide +kernel
theorem dX10_read_30 : decode cX10_read 30 = .ok (.bipush 8, 2) := by decide +kernel
theorem dX10_read_32 : decode cX10_read 32 = .ok (.iload_n 1, 1) := by decide +kernel
theorem dX10_read_33 : decode cX10_read 33 = .ok (.imul, 1) := by decide +kernel
theorem dX10_read_34 : decode cX10_read 34 = .ok (.putfield 83, 3) := by decide +kernel
theorem dX10_read_37 : decode cX10_read 37 = .ok (.aload_n 0, 1) := by decide +kernel
theorem dX10_read_38 : decode cX10_read 38 = .ok (.getfield 54, 3) := by decide +kernel
theorem dX10_read_41 : decode cX10_read 41 = .ok (.iload_n 2, 1) := by decide +kernel
theorem dX10_read_42 : decode cX10_read 42 = .ok (.if_icmp .ge 116, 3) := by decide +kernel
theorem dX10_read_45 : decode cX10_read 45 = .ok (.aload_n 0, 1) := by decide +kernel
theorem dX10_read_46 : decode cX10_read 46 = .ok (.getfield 73, 3) := by decide +kernel
theorem dX10_read_49 : decode cX10_read 49 = .ok (.ifCond .ne 109, 3) := by decide +kernel
theorem dX10_read_52 : decode cX10_read 52 = .ok (.aload_n 0, 1) := by decide +kernel
theorem dX10_read_53 : decode cX10_read 53 = .ok (.dup, 1) := by decide +kernel
theorem dX10_read_54 : decode cX10_read 54 = .ok (.getfield 61, 3) := by decide +kernel
theorem dX10_read_57 : decode cX10_read 57 = .ok (.iconst 1, 1) := by decide +kernel
theorem dX10_read_58 : decode cX10_read 58 = .ok (.iadd, 1) := by decide +kernel
theorem dX10_read_59 : decode cX10_read 59 = .ok (.putfield 61, 3) := by decide +kernel
theorem dX10_read_62 : decode cX10_read 62 = .ok (.aload_n 0, 1) := by decide +kernel
theorem dX10_read_63 : decode cX10_read 63 = .ok (.invokevirtual 76, 3) := by decide +kernel
theorem dX10_read_66 : decode cX10_read 66 = .ok (.aload_n 0, 1) := by decide +kernel
theorem dX10_read_67 : decode cX10_read 67 = .ok (.bipush 16, 2) := by decide +kernel
theorem dX10_read_69 : decode cX10_read 69 = .ok (.invokevirtual 90, 3) := by decide +kernel
theorem dX10_read_72 : decode cX10_read 72 = .ok (.istore_n 3, 1) := by decide +kernel
theorem dX10_read_73 : decode cX10_read 73 = .ok (.iload_n 3, 1) := by decide +kernel
theorem dX10_read_74 : decode cX10_read 74 = .ok (.ifCond .ne 9, 3) := by decide +kernel
theorem dX10_read_77 : decode cX10_read 77 = .ok (.aload_n 0, 1) := by decide +kernel
theorem dX10_read_78 : decode cX10_read 78 = .ok (.bipush 6, 2) := by decide +kernel
theorem dX10_read_80 : decode cX10_read 80 = .ok (.invokevirtual 86, 3) := by decide +kernel
theorem dX10_read_83 : decode cX10_read 83 = .ok (.aload_n 0, 1) := by decide +kernel
theorem dX10_read_84 : decode cX10_read 84 = .ok (.getfield 73, 3) := by decide +kernel
theorem dX10_read_87 : decode cX10_read 87 = .ok (.ifCond .ne 9, 3) := by decide +kernel
theorem dX10_read_90 : decode cX10_read 90 = .ok (.aload_n 0, 1) := by decide +kernel
theorem dX10_read_91 : decode cX10_read 91 = .ok (.iconst 0, 1) := by decide +kernel
theorem dX10_read_92 : decode cX10_read 92 = .ok (.iconst 5, 1) := by decide +kernel
theorem dX10_read_93 : decode cX10_read 93 = .ok (.invokevirtual 110, 3) := by decide +kernel
theorem dX10_read_96 : decode cX10_read 96 = .ok (.aload_n 0, 1) := by decide +kernel
theorem dX10_read_97 : decode cX10_read 97 = .ok (.getfield 73, 3) := by decide +kernel
theorem dX10_read_100 : decode cX10_read 100 = .ok (.ifCond .ne 7, 3) := by decide +kernel
theorem dX10_read_103 : decode cX10_read 103 = .ok (.aload_n 0, 1) := by decide +kernel
theorem dX10_read_104 : decode cX10_read 104 = .ok (.invokevirtual 114, 3) := by decide +kernel
theorem dX10_read_107 : decode cX10_read 107 = .ok (.aload_n 0, 1) := by decide +kernel
theorem dX10_read_108 : decode cX10_read 108 = .ok (.getfield 73, 3) := by decide +kernel
theorem dX10_read_111 : decode cX10_read 111 = .ok (.ifCond .ne 9, 3) := by decide +kernel
theorem dX10_read_114 : decode cX10_read 114 = .ok (.aload_n 0, 1) := by decide +kernel
theorem dX10_read_115 : decode cX10_read 115 = .ok (.iconst 2, 1) := by decide +kernel
theorem dX10_read_116 : decode cX10_read 116 = .ok (.iconst 4, 1) := by decide +kernel
theorem dX10_read_117 : decode cX10_read 117 = .ok (.invokevirtual 110, 3) := by decide +kernel
theorem dX10_read_120 : decode cX10_read 120 = .ok (.iconst 0, 1) := by decide +kernel
theorem dX10_read_121 : decode cX10_read 121 = .ok (.istore 4, 2) := by decide +kernel
theorem dX10_read_123 : decode cX10_read 123 = .ok (.iload 4, 2) := by decide +kernel
theorem dX10_read_125 : decode cX10_read 125 = .ok (.iload_n 3, 1) := by decide +kernel
theorem dX10_read_126 : decode cX10_read 126 = .ok (.if_icmp .ge 29, 3) := by decide +kernel
theorem dX10_read_129 : decode cX10_read 129 = .ok (.aload_n 0, 1) := by decide +kernel
theorem dX10_read_130 : decode cX10_read 130 = .ok (.getfield 54, 3) := by decide +kernel
theorem dX10_read_133 : decode cX10_read 133 = .ok (.iload_n 2, 1) := by decide +kernel
theorem dX10_read_134 : decode cX10_read 134 = .ok (.if_icmp .ge 21, 3) := by decide +kernel
theorem dX10_read_137 : decode cX10_read 137 = .ok (.aload_n 0, 1) := by decide +kernel
theorem dX10_read_138 : decode cX10_read 138 = .ok (.getfield 73, 3) := by decide +kernel
theorem dX10_read_141 : decode cX10_read 141 = .ok (.ifCond .ne 14, 3) := by decide +kernel
theorem dX10_read_144 : decode cX10_read 144 = .ok (.aload_n 0, 1) := by decide +kernel
theorem dX10_read_145 : decode cX10_read 145 = .ok (.iload_n 2, 1) := by decide +kernel
theorem dX10_read_146 : decode cX10_read 146 = .ok (.invokevirtual 117, 3) := by decide +kernel
theorem dX10_read_149 : decode cX10_read 149 = .ok (.iinc 4 1, 3) := by decide +kernel
theorem dX10_read_152 : decode cX10_read 152 = .ok (.goto (-29), 3) := by decide +kernel
theorem dX10_read_155 : decode cX10_read 155 = .ok (.goto (-118), 3) := by decide +kernel
theorem dX10_read_158 : decode cX10_read 158 = .ok (.aload_n 0, 1) := by decide +kernel
theorem dX10_read_159 : decode cX10_read 159 = .ok (.getfield 73, 3) := by decide +kernel
theorem dX10_read_162 : decode cX10_read 162 = .ok (.ireturn, 1) := by decide +kernel
theorem dX10_give_0 : decode cX10_give 0 = .ok (.iload_n 2, 1) := by decide +kernel
theorem dX10_give_1 : decode cX10_give 1 = .ok (.iconst 1, 1) := by decide +kernel
theorem dX10_give_2 : decode cX10_give 2 = .ok (.isub, 1) := by decide +kernel
theorem dX10_give_3 : decode cX10_give 3 = .ok (.istore_n 3, 1) := by decide +kernel
theorem dX10_give_4 : decode cX10_give 4 = .ok (.iload_n 3, 1) := by decide +kernel
theorem dX10_give_5 : decode cX10_give 5 = .ok (.ifCond .lt 79, 3) := by decide +kernel
theorem dX10_give_8 : decode cX10_give 8 = .ok (.aload_n 0, 1) := by decide +kernel
theorem dX10_give_9 : decode cX10_give 9 = .ok (.getfield 70, 3) := by decide +kernel
theorem dX10_give_12 : decode cX10_give 12 = .ok (.bipush 8, 2) := by decide +kernel
theorem dX10_give_14 : decode cX10_give 14 = .ok (.irem, 1) := by decide +kernel
theorem dX10_give_15 : decode cX10_give 15 = .ok (.ifCond .ne 23, 3) := by decide +kernel
theorem dX10_give_18 : decode cX10_give 18 = .ok (.aload_n 0, 1) := by decide +kernel
theorem dX10_give_19 : decode cX10_give 19 = .ok (.getfield 13, 3) := by decide +kernel
theorem dX10_give_22 : decode cX10_give 22 = .ok (.aload_n 0, 1) := by decide +kernel
theorem dX10_give_23 : decode cX10_give 23 = .ok (.getfield 54, 3) := by decide +kernel
theorem dX10_give_26 : decode cX10_give 26 = .ok (.iconst 0, 1) := by decide +kernel
theorem dX10_give_27 : decode cX10_give 27 = .ok (.iastore, 1) := by decide +kernel
theorem dX10_give_28 : decode cX10_give 28 = .ok (.aload_n 0, 1) := by decide +kernel
theorem dX10_give_29 : decode cX10_give 29 = .ok (.dup, 1) := by decide +kernel
theorem dX10_give_30 : decode cX10_give 30 = .ok (.getfield 54, 3) := by decide +kernel
theorem dX10_give_33 : decode cX10_give 33 = .ok (.iconst 1, 1) := by decide +kernel
theorem dX10_give_34 : decode cX10_give 34 = .ok (.iadd, 1) := by decide +kernel
theorem dX10_give_35 : decode cX10_give 35 = .ok (.putfield 54, 3) := by decide +kernel
theorem dX10_give_38 : decode cX10_give 38 = .ok (.aload_n 0, 1) := by decide +kernel
theorem dX10_give_39 : decode cX10_give 39 = .ok (.getfield 13, 3) := by decide +kernel
theorem dX10_give_42 : decode cX10_give 42 = .ok (.aload_n 0, 1) := by decide +kernel
theorem dX10_give_43 : decode cX10_give 43 = .ok (.getfield 54, 3) := by decide +kernel
theorem dX10_give_46 : decode cX10_give 46 = .ok (.iconst 1, 1) := by decide +kernel
theorem dX10_give_47 : decode cX10_give 47 = .ok (.isub, 1) := by decide +kernel
theorem dX10_give_48 : decode cX10_give 48 = .ok (.dup2, 1) := by decide +kernel
theorem dX10_give_49 : decode cX10_give 49 = .ok (.iaload, 1) := by decide +kernel
theorem dX10_give_50 : decode cX10_give 50 = .ok (.iload_n 1, 1) := by decide +kernel
theorem dX10_give_51 : decode cX10_give 51 = .ok (.iload_n 3, 1) := by decide +kernel
theorem dX10_give_52 : decode cX10_give 52 = .ok (.ishr, 1) := by decide +kernel
theorem dX10_give_53 : decode cX10_give 53 = .ok (.iconst 1, 1) := by decide +kernel
theorem dX10_give_54 : decode cX10_give 54 = .ok (.iand, 1) := by decide +kernel
theorem dX10_give_55 : decode cX10_give 55 = .ok (.bipush 7, 2) := by decide +kernel
theorem dX10_give_57 : decode cX10_give 57 = .ok (.aload_n 0, 1) := by decide +kernel
theorem dX10_give_58 : decode cX10_give 58 = .ok (.getfield 70, 3) := by decide +kernel
theorem dX10_give_61 : decode cX10_give 61 = .ok (.bipush 8, 2) := by decide +kernel
theorem dX10_give_63 : decode cX10_give 63 = .ok (.irem, 1) := by decide +kernel
theorem dX10_give_64 : decode cX10_give 64 = .ok (.isub, 1) := by decide +kernel
theorem dX10_give_65 : decode cX10_give 65 = .ok (.ishl, 1) := by decide +kernel
theorem dX10_give_66 : decode cX10_give 66 = .ok (.ior, 1) := by decide +kernel
theorem dX10_give_67 : decode cX10_give 67 = .ok (.iastore, 1) := by decide +kernel
theorem dX10_give_68 : decode cX10_give 68 = .ok (.aload_n 0, 1) := by decide +kernel
theorem dX10_give_69 : decode cX10_give 69 = .ok (.dup, 1) := by decide +kernel
theorem dX10_give_70 : decode cX10_give 70 = .ok (.getfield 70, 3) := by decide +kernel
theorem dX10_give_73 : decode cX10_give 73 = .ok (.iconst 1, 1) := by decide +kernel
theorem dX10_give_74 : decode cX10_give 74 = .ok (.iadd, 1) := by decide +kernel
theorem dX10_give_75 : decode cX10_give 75 = .ok (.putfield 70, 3) := by decide +kernel
theorem dX10_give_78 : decode cX10_give 78 = .ok (.iinc 3 (-1), 3) := by decide +kernel
theorem dX10_give_81 : decode cX10_give 81 = .ok (.goto (-77), 3) := by decide +kernel
theorem dX10_give_84 : decode cX10_give 84 = .ok (.return_, 1) := by decide +kernel
theorem dX10_same_0 : decode cX10_same 0 = .ok (.iconst 0, 1) := by decide +kernel
theorem dX10_same_1 : decode cX10_same 1 = .ok (.istore 4, 2) := by decide +kernel
theorem dX10_same_3 : decode cX10_same 3 = .ok (.iload 4, 2) := by decide +kernel
theorem dX10_same_5 : decode cX10_same 5 = .ok (.sipush 256, 3) := by decide +kernel
theorem dX10_same_8 : decode cX10_same 8 = .ok (.if_icmp .ge 40, 3) := by decide +kernel
theorem dX10_same_11 : decode cX10_same 11 = .ok (.iload_n 1, 1) := by decide +kernel
theorem dX10_same_12 : decode cX10_same 12 = .ok (.iload 4, 2) := by decide +kernel
theorem dX10_same_14 : decode cX10_same 14 = .ok (.iadd, 1) := by decide +kernel
theorem dX10_same_15 : decode cX10_same 15 = .ok (.iload_n 3, 1) := by decide +kernel
theorem dX10_same_16 : decode cX10_same 16 = .ok (.if_icmp .ge 32, 3) := by decide +kernel
theorem dX10_same_19 : decode cX10_same 19 = .ok (.aload_n 0, 1) := by decide +kernel
theorem dX10_same_20 : decode cX10_same 20 = .ok (.getfield 7, 3) := by decide +kernel
theorem dX10_same_23 : decode cX10_same 23 = .ok (.iload_n 1, 1) := by decide +kernel
theorem dX10_same_24 : decode cX10_same 24 = .ok (.iload 4, 2) := by decide +kernel
theorem dX10_same_26 : decode cX10_same 26 = .ok (.iadd, 1) := by decide +kernel
theorem dX10_same_27 : decode cX10_same 27 = .ok (.iaload, 1) := by decide +kernel
theorem dX10_same_28 : decode cX10_same 28 = .ok (.aload_n 0, 1) := by decide +kernel
theorem dX10_same_29 : decode cX10_same 29 = .ok (.getfield 7, 3) := by decide +kernel
theorem dX10_same_32 : decode cX10_same 32 = .ok (.iload_n 1, 1) := by decide +kernel
theorem dX10_same_33 : decode cX10_same 33 = .ok (.iload 4, 2) := by decide +kernel
theorem dX10_same_35 : decode cX10_same 35 = .ok (.iadd, 1) := by decide +kernel
theorem dX10_same_36 : decode cX10_same 36 = .ok (.iload_n 2, 1) := by decide +kernel
theorem dX10_same_37 : decode cX10_same 37 = .ok (.isub, 1) := by decide +kernel
theorem dX10_same_38 : decode cX10_same 38 = .ok (.iaload, 1) := by decide +kernel
theorem dX10_same_39 : decode cX10_same 39 = .ok (.if_icmp .ne 9, 3) := by decide +kernel
theorem dX10_same_42 : decode cX10_same 42 = .ok (.iinc 4 1, 3) := by decide +kernel
theorem dX10_same_45 : decode cX10_same 45 = .ok (.goto (-42), 3) := by decide +kernel
theorem dX10_same_48 : decode cX10_same 48 = .ok (.iload 4, 2) := by decide +kernel
theorem dX10_same_50 : decode cX10_same 50 = .ok (.ireturn, 1) := by decide +kernel
theorem dX10_cut_0 : decode cX10_cut 0 = .ok (.iconst 0, 1) := by decide +kernel
theorem dX10_cut_1 : decode cX10_cut 1 = .ok (.istore_n 2, 1) := by decide +kernel
theorem dX10_cut_2 : decode cX10_cut 2 = .ok (.iconst 0, 1) := by decide +kernel
theorem dX10_cut_3 : decode cX10_cut 3 = .ok (.istore_n 3, 1) := by decide +kernel
theorem dX10_cut_4 : decode cX10_cut 4 = .ok (.iload_n 3, 1) := by decide +kernel
theorem dX10_cut_5 : decode cX10_cut 5 = .ok (.iload_n 1, 1) := by decide +kernel
theorem dX10_cut_6 : decode cX10_cut 6 = .ok (.if_icmp .ge 128, 3) := by decide +kernel
theorem dX10_cut_9 : decode cX10_cut 9 = .ok (.iconst 2, 1) := by decide +kernel
theorem dX10_cut_10 : decode cX10_cut 10 = .ok (.istore 4, 2) := by decide +kernel
theorem dX10_cut_12 : decode cX10_cut 12 = .ok (.iconst 0, 1) := by decide +kernel
theorem dX10_cut_13 : decode cX10_cut 13 = .ok (.istore 5, 2) := by decide +kernel
theorem dX10_cut_15 : decode cX10_cut 15 = .ok (.iconst 1, 1) := by decide +kernel
theorem dX10_cut_16 : decode cX10_cut 16 = .ok (.istore 6, 2) := by decide +kernel
theorem dX10_cut_18 : decode cX10_cut 18 = .ok (.iload 6, 2) := by decide +kernel
theorem dX10_cut_20 : decode cX10_cut 20 = .ok (.iload_n 3, 1) := by decide +kernel
theorem dX10_cut_21 : decode cX10_cut 21 = .ok (.if_icmp .gt 59, 3) := by decide +kernel
theorem dX10_cut_24 : decode cX10_cut 24 = .ok (.iload 6, 2) := by decide +kernel
theorem dX10_cut_26 : decode cX10_cut 26 = .ok (.sipush 8191, 3) := by decide +kernel
theorem dX10_cut_29 : decode cX10_cut 29 = .ok (.if_icmp .gt 51, 3) := by decide +kernel
theorem dX10_cut_32 : decode cX10_cut 32 = .ok (.aload_n 0, 1) := by decide +kernel
theorem dX10_cut_33 : decode cX10_cut 33 = .ok (.iload_n 3, 1) := by decide +kernel
theorem dX10_cut_34 : decode cX10_cut 34 = .ok (.iload 6, 2) := by decide +kernel
theorem dX10_cut_36 : decode cX10_cut 36 = .ok (.iload_n 1, 1) := by decide +kernel
theorem dX10_cut_37 : decode cX10_cut 37 = .ok (.invokevirtual 120, 3) := by decide +kernel
theorem dX10_cut_40 : decode cX10_cut 40 = .ok (.istore 7, 2) := by decide +kernel
theorem dX10_cut_42 : decode cX10_cut 42 = .ok (.iload 7, 2) := by decide +kernel
theorem dX10_cut_44 : decode cX10_cut 44 = .ok (.iload 4, 2) := by decide +kernel
theorem dX10_cut_46 : decode cX10_cut 46 = .ok (.if_icmp .le 8, 3) := by decide +kernel
theorem dX10_cut_49 : decode cX10_cut 49 = .ok (.iload 6, 2) := by decide +kernel
theorem dX10_cut_51 : decode cX10_cut 51 = .ok (.goto 5, 3) := by decide +kernel
theorem dX10_cut_54 : decode cX10_cut 54 = .ok (.iload 5, 2) := by decide +kernel
theorem dX10_cut_56 : decode cX10_cut 56 = .ok (.istore 5, 2) := by decide +kernel
theorem dX10_cut_58 : decode cX10_cut 58 = .ok (.iload 7, 2) := by decide +kernel
theorem dX10_cut_60 : decode cX10_cut 60 = .ok (.iload 4, 2) := by decide +kernel
theorem dX10_cut_62 : decode cX10_cut 62 = .ok (.if_icmp .le 8, 3) := by decide +kernel
theorem dX10_cut_65 : decode cX10_cut 65 = .ok (.iload 7, 2) := by decide +kernel
theorem dX10_cut_67 : decode cX10_cut 67 = .ok (.goto 5, 3) := by decide +kernel
theorem dX10_cut_70 : decode cX10_cut 70 = .ok (.iload 4, 2) := by decide +kernel
theorem dX10_cut_72 : decode cX10_cut 72 = .ok (.istore 4, 2) := by decide +kernel
theorem dX10_cut_74 : decode cX10_cut 74 = .ok (.iinc 6 1, 3) := by decide +kernel
theorem dX10_cut_77 : decode cX10_cut 77 = .ok (.goto (-59), 3) := by decide +kernel
theorem dX10_cut_80 : decode cX10_cut 80 = .ok (.aload_n 0, 1) := by decide +kernel
theorem dX10_cut_81 : decode cX10_cut 81 = .ok (.getfield 25, 3) := by decide +kernel
theorem dX10_cut_84 : decode cX10_cut 84 = .ok (.iload_n 2, 1) := by decide +kernel
theorem dX10_cut_85 : decode cX10_cut 85 = .ok (.iload 5, 2) := by decide +kernel
theorem dX10_cut_87 : decode cX10_cut 87 = .ok (.ifCond .ne 12, 3) := by decide +kernel
theorem dX10_cut_90 : decode cX10_cut 90 = .ok (.aload_n 0, 1) := by decide +kernel
theorem dX10_cut_91 : decode cX10_cut 91 = .ok (.getfield 7, 3) := by decide +kernel
theorem dX10_cut_94 : decode cX10_cut 94 = .ok (.iload_n 3, 1) := by decide +kernel
theorem dX10_cut_95 : decode cX10_cut 95 = .ok (.iaload, 1) := by decide +kernel
theorem dX10_cut_96 : decode cX10_cut 96 = .ok (.goto 9, 3) := by decide +kernel
theorem dX10_cut_99 : decode cX10_cut 99 = .ok (.sipush 253, 3) := by decide +kernel
theorem dX10_cut_102 : decode cX10_cut 102 = .ok (.iload 4, 2) := by decide +kernel
theorem dX10_cut_104 : decode cX10_cut 104 = .ok (.iadd, 1) := by decide +kernel
theorem dX10_cut_105 : decode cX10_cut 105 = .ok (.iastore, 1) := by decide +kernel
theorem dX10_cut_106 : decode cX10_cut 106 = .ok (.aload_n 0, 1) := by decide +kernel
theorem dX10_cut_107 : decode cX10_cut 107 = .ok (.getfield 28, 3) := by decide +kernel
theorem dX10_cut_110 : decode cX10_cut 110 = .ok (.iload_n 2, 1) := by decide +kernel
theorem dX10_cut_111 : decode cX10_cut 111 = .ok (.iload 5, 2) := by decide +kernel
theorem dX10_cut_113 : decode cX10_cut 113 = .ok (.iastore, 1) := by decide +kernel
theorem dX10_cut_114 : decode cX10_cut 114 = .ok (.iload_n 3, 1) := by decide +kernel
theorem dX10_cut_115 : decode cX10_cut 115 = .ok (.iload 5, 2) := by decide +kernel
theorem dX10_cut_117 : decode cX10_cut 117 = .ok (.ifCond .ne 7, 3) := by decide +kernel
theorem dX10_cut_120 : decode cX10_cut 120 = .ok (.iconst 1, 1) := by decide +kernel
theorem dX10_cut_121 : decode cX10_cut 121 = .ok (.goto 5, 3) := by decide +kernel
theorem dX10_cut_124 : decode cX10_cut 124 = .ok (.iload 4, 2) := by decide +kernel
theorem dX10_cut_126 : decode cX10_cut 126 = .ok (.iadd, 1) := by decide +kernel
theorem dX10_cut_127 : decode cX10_cut 127 = .ok (.istore_n 3, 1) := by decide +kernel
theorem dX10_cut_128 : decode cX10_cut 128 = .ok (.iinc 2 1, 3) := by decide +kernel
theorem dX10_cut_131 : decode cX10_cut 131 = .ok (.goto (-127), 3) := by decide +kernel
theorem dX10_cut_134 : decode cX10_cut 134 = .ok (.iload_n 2, 1) := by decide +kernel
theorem dX10_cut_135 : decode cX10_cut 135 = .ok (.ireturn, 1) := by decide +kernel
theorem dX10_least_0 : decode cX10_least 0 = .ok (.iconst (-1), 1) := by decide +kernel
theorem dX10_least_1 : decode cX10_least 1 = .ok (.istore_n 2, 1) := by decide +kernel
theorem dX10_least_2 : decode cX10_least 2 = .ok (.iconst 0, 1) := by decide +kernel
theorem dX10_least_3 : decode cX10_least 3 = .ok (.istore_n 3, 1) := by decide +kernel
theorem dX10_least_4 : decode cX10_least 4 = .ok (.iload_n 3, 1) := by decide +kernel
theorem dX10_least_5 : decode cX10_least 5 = .ok (.iload_n 1, 1) := by decide +kernel
theorem dX10_least_6 : decode cX10_least 6 = .ok (.if_icmp .ge 44, 3) := by decide +kernel
theorem dX10_least_9 : decode cX10_least 9 = .ok (.aload_n 0, 1) := by decide +kernel
theorem dX10_least_10 : decode cX10_least 10 = .ok (.getfield 37, 3) := by decide +kernel
theorem dX10_least_13 : decode cX10_least 13 = .ok (.iload_n 3, 1) := by decide +kernel
theorem dX10_least_14 : decode cX10_least 14 = .ok (.baload, 1) := by decide +kernel
theorem dX10_least_15 : decode cX10_least 15 = .ok (.ifCond .eq 27, 3) := by decide +kernel
theorem dX10_least_18 : decode cX10_least 18 = .ok (.iload_n 2, 1) := by decide +kernel
theorem dX10_least_19 : decode cX10_least 19 = .ok (.iconst (-1), 1) := by decide +kernel
theorem dX10_least_20 : decode cX10_least 20 = .ok (.if_icmp .eq 18, 3) := by decide +kernel
theorem dX10_least_23 : decode cX10_least 23 = .ok (.aload_n 0, 1) := by decide +kernel
theorem dX10_least_24 : decode cX10_least 24 = .ok (.getfield 31, 3) := by decide +kernel
theorem dX10_least_27 : decode cX10_least 27 = .ok (.iload_n 3, 1) := by decide +kernel
theorem dX10_least_28 : decode cX10_least 28 = .ok (.iaload, 1) := by decide +kernel
theorem dX10_least_29 : decode cX10_least 29 = .ok (.aload_n 0, 1) := by decide +kernel
theorem dX10_least_30 : decode cX10_least 30 = .ok (.getfield 31, 3) := by decide +kernel
theorem dX10_least_33 : decode cX10_least 33 = .ok (.iload_n 2, 1) := by decide +kernel
theorem dX10_least_34 : decode cX10_least 34 = .ok (.iaload, 1) := by decide +kernel
theorem dX10_least_35 : decode cX10_least 35 = .ok (.if_icmp .ge 7, 3) := by decide +kernel
theorem dX10_least_38 : decode cX10_least 38 = .ok (.iload_n 3, 1) := by decide +kernel
theorem dX10_least_39 : decode cX10_least 39 = .ok (.goto 4, 3) := by decide +kernel
theorem dX10_least_42 : decode cX10_least 42 = .ok (.iload_n 2, 1) := by decide +kernel
theorem dX10_least_43 : decode cX10_least 43 = .ok (.istore_n 2, 1) := by decide +kernel
theorem dX10_least_44 : decode cX10_least 44 = .ok (.iinc 3 1, 3) := by decide +kernel
theorem dX10_least_47 : decode cX10_least 47 = .ok (.goto (-43), 3) := by decide +kernel
theorem dX10_least_50 : decode cX10_least 50 = .ok (.iload_n 2, 1) := by decide +kernel
theorem dX10_least_51 : decode cX10_least 51 = .ok (.ireturn, 1) := by decide +kernel
theorem dX10_merge_0 : decode cX10_merge 0 = .ok (.iload_n 1, 1) := by decide +kernel
theorem dX10_merge_1 : decode cX10_merge 1 = .ok (.invokestatic 79, 3) := by decide +kernel
theorem dX10_merge_4 : decode cX10_merge 4 = .ok (.istore_n 2, 1) := by decide +kernel
theorem dX10_merge_5 : decode cX10_merge 5 = .ok (.iconst 0, 1) := by decide +kernel
theorem dX10_merge_6 : decode cX10_merge 6 = .ok (.istore_n 3, 1) := by decide +kernel
theorem dX10_merge_7 : decode cX10_merge 7 = .ok (.iconst 0, 1) := by decide +kernel
theorem dX10_merge_8 : decode cX10_merge 8 = .ok (.istore 4, 2) := by decide +kernel
theorem dX10_merge_10 : decode cX10_merge 10 = .ok (.iconst 0, 1) := by decide +kernel
theorem dX10_merge_11 : decode cX10_merge 11 = .ok (.istore 5, 2) := by decide +kernel
theorem dX10_merge_13 : decode cX10_merge 13 = .ok (.iload 5, 2) := by decide +kernel
theorem dX10_merge_15 : decode cX10_merge 15 = .ok (.iconst 2, 1) := by decide +kernel
theorem dX10_merge_16 : decode cX10_merge 16 = .ok (.iload_n 2, 1) := by decide +kernel
theorem dX10_merge_17 : decode cX10_merge 17 = .ok (.imul, 1) := by decide +kernel
theorem dX10_merge_18 : decode cX10_merge 18 = .ok (.if_icmp .ge 106, 3) := by decide +kernel
theorem dX10_merge_21 : decode cX10_merge 21 = .ok (.aload_n 0, 1) := by decide +kernel
theorem dX10_merge_22 : decode cX10_merge 22 = .ok (.getfield 31, 3) := by decide +kernel
theorem dX10_merge_25 : decode cX10_merge 25 = .ok (.iload 5, 2) := by decide +kernel
theorem dX10_merge_27 : decode cX10_merge 27 = .ok (.iload 5, 2) := by decide +kernel
theorem dX10_merge_29 : decode cX10_merge 29 = .ok (.iload_n 2, 1) := by decide +kernel
theorem dX10_merge_30 : decode cX10_merge 30 = .ok (.if_icmp .ge 13, 3) := by decide +kernel
theorem dX10_merge_33 : decode cX10_merge 33 = .ok (.aload_n 0, 1) := by decide +kernel
theorem dX10_merge_34 : decode cX10_merge 34 = .ok (.getfield 41, 3) := by decide +kernel
theorem dX10_merge_37 : decode cX10_merge 37 = .ok (.iload 5, 2) := by decide +kernel
theorem dX10_merge_39 : decode cX10_merge 39 = .ok (.iaload, 1) := by decide +kernel
theorem dX10_merge_40 : decode cX10_merge 40 = .ok (.goto 4, 3) := by decide +kernel
theorem dX10_merge_43 : decode cX10_merge 43 = .ok (.iconst 0, 1) := by decide +kernel
theorem dX10_merge_44 : decode cX10_merge 44 = .ok (.iastore, 1) := by decide +kernel
theorem dX10_merge_45 : decode cX10_merge 45 = .ok (.aload_n 0, 1) := by decide +kernel
theorem dX10_merge_46 : decode cX10_merge 46 = .ok (.getfield 37, 3) := by decide +kernel
theorem dX10_merge_49 : decode cX10_merge 49 = .ok (.iload 5, 2) := by decide +kernel
theorem dX10_merge_51 : decode cX10_merge 51 = .ok (.iload 5, 2) := by decide +kernel
theorem dX10_merge_53 : decode cX10_merge 53 = .ok (.iload_n 2, 1) := by decide +kernel
theorem dX10_merge_54 : decode cX10_merge 54 = .ok (.if_icmp .ge 17, 3) := by decide +kernel
theorem dX10_merge_57 : decode cX10_merge 57 = .ok (.aload_n 0, 1) := by decide +kernel
theorem dX10_merge_58 : decode cX10_merge 58 = .ok (.getfield 41, 3) := by decide +kernel
theorem dX10_merge_61 : decode cX10_merge 61 = .ok (.iload 5, 2) := by decide +kernel
theorem dX10_merge_63 : decode cX10_merge 63 = .ok (.iaload, 1) := by decide +kernel
theorem dX10_merge_64 : decode cX10_merge 64 = .ok (.ifCond .le 7, 3) := by decide +kernel
theorem dX10_merge_67 : decode cX10_merge 67 = .ok (.iconst 1, 1) := by decide +kernel
theorem dX10_merge_68 : decode cX10_merge 68 = .ok (.goto 4, 3) := by decide +kernel
theorem dX10_merge_71 : decode cX10_merge 71 = .ok (.iconst 0, 1) := by decide +kernel
theorem dX10_merge_72 : decode cX10_merge 72 = .ok (.bastore, 1) := by decide +kernel
theorem dX10_merge_73 : decode cX10_merge 73 = .ok (.aload_n 0, 1) := by decide +kernel
theorem dX10_merge_74 : decode cX10_merge 74 = .ok (.getfield 34, 3) := by decide +kernel
theorem dX10_merge_77 : decode cX10_merge 77 = .ok (.iload 5, 2) := by decide +kernel
theorem dX10_merge_79 : decode cX10_merge 79 = .ok (.iconst (-1), 1) := by decide +kernel
theorem dX10_merge_80 : decode cX10_merge 80 = .ok (.iastore, 1) := by decide +kernel
theorem dX10_merge_81 : decode cX10_merge 81 = .ok (.iload_n 3, 1) := by decide +kernel
theorem dX10_merge_82 : decode cX10_merge 82 = .ok (.aload_n 0, 1) := by decide +kernel
theorem dX10_merge_83 : decode cX10_merge 83 = .ok (.getfield 37, 3) := by decide +kernel
theorem dX10_merge_86 : decode cX10_merge 86 = .ok (.iload 5, 2) := by decide +kernel
theorem dX10_merge_88 : decode cX10_merge 88 = .ok (.baload, 1) := by decide +kernel
theorem dX10_merge_89 : decode cX10_merge 89 = .ok (.ifCond .eq 7, 3) := by decide +kernel
theorem dX10_merge_92 : decode cX10_merge 92 = .ok (.iconst 1, 1) := by decide +kernel
theorem dX10_merge_93 : decode cX10_merge 93 = .ok (.goto 4, 3) := by decide +kernel
theorem dX10_merge_96 : decode cX10_merge 96 = .ok (.iconst 0, 1) := by decide +kernel
theorem dX10_merge_97 : decode cX10_merge 97 = .ok (.iadd, 1) := by decide +kernel
theorem dX10_merge_98 : decode cX10_merge 98 = .ok (.istore_n 3, 1) := by decide +kernel
theorem dX10_merge_99 : decode cX10_merge 99 = .ok (.aload_n 0, 1) := by decide +kernel
theorem dX10_merge_100 : decode cX10_merge 100 = .ok (.getfield 37, 3) := by decide +kernel
theorem dX10_merge_103 : decode cX10_merge 103 = .ok (.iload 5, 2) := by decide +kernel
theorem dX10_merge_105 : decode cX10_merge 105 = .ok (.baload, 1) := by decide +kernel
theorem dX10_merge_106 : decode cX10_merge 106 = .ok (.ifCond .eq 8, 3) := by decide +kernel
theorem dX10_merge_109 : decode cX10_merge 109 = .ok (.iload 5, 2) := by decide +kernel
theorem dX10_merge_111 : decode cX10_merge 111 = .ok (.goto 5, 3) := by decide +kernel
theorem dX10_merge_114 : decode cX10_merge 114 = .ok (.iload 4, 2) := by decide +kernel
theorem dX10_merge_116 : decode cX10_merge 116 = .ok (.istore 4, 2) := by decide +kernel
theorem dX10_merge_118 : decode cX10_merge 118 = .ok (.iinc 5 1, 3) := by decide +kernel
theorem dX10_merge_121 : decode cX10_merge 121 = .ok (.goto (-108), 3) := by decide +kernel
theorem dX10_merge_124 : decode cX10_merge 124 = .ok (.iload_n 3, 1) := by decide +kernel
theorem dX10_merge_125 : decode cX10_merge 125 = .ok (.iconst 2, 1) := by decide +kernel
theorem dX10_merge_126 : decode cX10_merge 126 = .ok (.if_icmp .ge 12, 3) := by decide +kernel
theorem dX10_merge_129 : decode cX10_merge 129 = .ok (.aload_n 0, 1) := by decide +kernel
theorem dX10_merge_130 : decode cX10_merge 130 = .ok (.getfield 22, 3) := by decide +kernel
theorem dX10_merge_133 : decode cX10_merge 133 = .ok (.iload_n 1, 1) := by decide +kernel
theorem dX10_merge_134 : decode cX10_merge 134 = .ok (.iload 4, 2) := by decide +kernel
theorem dX10_merge_136 : decode cX10_merge 136 = .ok (.iastore, 1) := by decide +kernel
theorem dX10_merge_137 : decode cX10_merge 137 = .ok (.return_, 1) := by decide +kernel
theorem dX10_merge_138 : decode cX10_merge 138 = .ok (.iload_n 2, 1) := by decide +kernel
theorem dX10_merge_139 : decode cX10_merge 139 = .ok (.istore 5, 2) := by decide +kernel
theorem dX10_merge_141 : decode cX10_merge 141 = .ok (.iconst 1, 1) := by decide +kernel
theorem dX10_merge_142 : decode cX10_merge 142 = .ok (.istore 6, 2) := by decide +kernel
theorem dX10_merge_144 : decode cX10_merge 144 = .ok (.iload 6, 2) := by decide +kernel
theorem dX10_merge_146 : decode cX10_merge 146 = .ok (.iload_n 3, 1) := by decide +kernel
theorem dX10_merge_147 : decode cX10_merge 147 = .ok (.if_icmp .ge 92, 3) := by decide +kernel
theorem dX10_merge_150 : decode cX10_merge 150 = .ok (.aload_n 0, 1) := by decide +kernel
theorem dX10_merge_151 : decode cX10_merge 151 = .ok (.iload 5, 2) := by decide +kernel
theorem dX10_merge_153 : decode cX10_merge 153 = .ok (.invokevirtual 124, 3) := by decide +kernel
theorem dX10_merge_156 : decode cX10_merge 156 = .ok (.istore 7, 2) := by decide +kernel
theorem dX10_merge_158 : decode cX10_merge 158 = .ok (.aload_n 0, 1) := by decide +kernel
theorem dX10_merge_159 : decode cX10_merge 159 = .ok (.getfield 37, 3) := by decide +kernel
theorem dX10_merge_162 : decode cX10_merge 162 = .ok (.iload 7, 2) := by decide +kernel
theorem dX10_merge_164 : decode cX10_merge 164 = .ok (.iconst 0, 1) := by decide +kernel
theorem dX10_merge_165 : decode cX10_merge 165 = .ok (.bastore, 1) := by decide +kernel
theorem dX10_merge_166 : decode cX10_merge 166 = .ok (.aload_n 0, 1) := by decide +kernel
theorem dX10_merge_167 : decode cX10_merge 167 = .ok (.iload 5, 2) := by decide +kernel
theorem dX10_merge_169 : decode cX10_merge 169 = .ok (.invokevirtual 124, 3) := by decide +kernel
theorem dX10_merge_172 : decode cX10_merge 172 = .ok (.istore 8, 2) := by decide +kernel
theorem dX10_merge_174 : decode cX10_merge 174 = .ok (.aload_n 0, 1) := by decide +kernel
theorem dX10_merge_175 : decode cX10_merge 175 = .ok (.getfield 37, 3) := by decide +kernel
theorem dX10_merge_178 : decode cX10_merge 178 = .ok (.iload 8, 2) := by decide +kernel
theorem dX10_merge_180 : decode cX10_merge 180 = .ok (.iconst 0, 1) := by decide +kernel
theorem dX10_merge_181 : decode cX10_merge 181 = .ok (.bastore, 1) := by decide +kernel
theorem dX10_merge_182 : decode cX10_merge 182 = .ok (.aload_n 0, 1) := by decide +kernel
theorem dX10_merge_183 : decode cX10_merge 183 = .ok (.getfield 31, 3) := by decide +kernel
theorem dX10_merge_186 : decode cX10_merge 186 = .ok (.iload 5, 2) := by decide +kernel
theorem dX10_merge_188 : decode cX10_merge 188 = .ok (.aload_n 0, 1) := by decide +kernel
theorem dX10_merge_189 : decode cX10_merge 189 = .ok (.getfield 31, 3) := by decide +kernel
theorem dX10_merge_192 : decode cX10_merge 192 = .ok (.iload 7, 2) := by decide +kernel
theorem dX10_merge_194 : decode cX10_merge 194 = .ok (.iaload, 1) := by decide +kernel
theorem dX10_merge_195 : decode cX10_merge 195 = .ok (.aload_n 0, 1) := by decide +kernel
theorem dX10_merge_196 : decode cX10_merge 196 = .ok (.getfield 31, 3) := by decide +kernel
theorem dX10_merge_199 : decode cX10_merge 199 = .ok (.iload 8, 2) := by decide +kernel
theorem dX10_merge_201 : decode cX10_merge 201 = .ok (.iaload, 1) := by decide +kernel
theorem dX10_merge_202 : decode cX10_merge 202 = .ok (.iadd, 1) := by decide +kernel
theorem dX10_merge_203 : decode cX10_merge 203 = .ok (.iastore, 1) := by decide +kernel
theorem dX10_merge_204 : decode cX10_merge 204 = .ok (.aload_n 0, 1) := by decide +kernel
theorem dX10_merge_205 : decode cX10_merge 205 = .ok (.getfield 34, 3) := by decide +kernel
theorem dX10_merge_208 : decode cX10_merge 208 = .ok (.iload 7, 2) := by decide +kernel
theorem dX10_merge_210 : decode cX10_merge 210 = .ok (.iload 5, 2) := by decide +kernel
theorem dX10_merge_212 : decode cX10_merge 212 = .ok (.iastore, 1) := by decide +kernel
theorem dX10_merge_213 : decode cX10_merge 213 = .ok (.aload_n 0, 1) := by decide +kernel
theorem dX10_merge_214 : decode cX10_merge 214 = .ok (.getfield 34, 3) := by decide +kernel
theorem dX10_merge_217 : decode cX10_merge 217 = .ok (.iload 8, 2) := by decide +kernel
theorem dX10_merge_219 : decode cX10_merge 219 = .ok (.iload 5, 2) := by decide +kernel
theorem dX10_merge_221 : decode cX10_merge 221 = .ok (.iastore, 1) := by decide +kernel
theorem dX10_merge_222 : decode cX10_merge 222 = .ok (.aload_n 0, 1) := by decide +kernel
theorem dX10_merge_223 : decode cX10_merge 223 = .ok (.getfield 37, 3) := by decide +kernel
theorem dX10_merge_226 : decode cX10_merge 226 = .ok (.iload 5, 2) := by decide +kernel
theorem dX10_merge_228 : decode cX10_merge 228 = .ok (.iconst 1, 1) := by decide +kernel
theorem dX10_merge_229 : decode cX10_merge 229 = .ok (.bastore, 1) := by decide +kernel
theorem dX10_merge_230 : decode cX10_merge 230 = .ok (.iinc 5 1, 3) := by decide +kernel
theorem dX10_merge_233 : decode cX10_merge 233 = .ok (.iinc 6 1, 3) := by decide +kernel
theorem dX10_merge_236 : decode cX10_merge 236 = .ok (.goto (-92), 3) := by decide +kernel
theorem dX10_merge_239 : decode cX10_merge 239 = .ok (.iconst 0, 1) := by decide +kernel
theorem dX10_merge_240 : decode cX10_merge 240 = .ok (.istore 6, 2) := by decide +kernel
theorem dX10_merge_242 : decode cX10_merge 242 = .ok (.iload 6, 2) := by decide +kernel
theorem dX10_merge_244 : decode cX10_merge 244 = .ok (.iload_n 2, 1) := by decide +kernel
theorem dX10_merge_245 : decode cX10_merge 245 = .ok (.if_icmp .ge 71, 3) := by decide +kernel
theorem dX10_merge_248 : decode cX10_merge 248 = .ok (.iconst 0, 1) := by decide +kernel
theorem dX10_merge_249 : decode cX10_merge 249 = .ok (.istore 7, 2) := by decide +kernel
theorem dX10_merge_251 : decode cX10_merge 251 = .ok (.iload 6, 2) := by decide +kernel
theorem dX10_merge_253 : decode cX10_merge 253 = .ok (.istore 8, 2) := by decide +kernel
theorem dX10_merge_255 : decode cX10_merge 255 = .ok (.aload_n 0, 1) := by decide +kernel
theorem dX10_merge_256 : decode cX10_merge 256 = .ok (.getfield 34, 3) := by decide +kernel
theorem dX10_merge_259 : decode cX10_merge 259 = .ok (.iload 8, 2) := by decide +kernel
theorem dX10_merge_261 : decode cX10_merge 261 = .ok (.iaload, 1) := by decide +kernel
theorem dX10_merge_262 : decode cX10_merge 262 = .ok (.iconst (-1), 1) := by decide +kernel
theorem dX10_merge_263 : decode cX10_merge 263 = .ok (.if_icmp .eq 18, 3) := by decide +kernel
theorem dX10_merge_266 : decode cX10_merge 266 = .ok (.iinc 7 1, 3) := by decide +kernel
theorem dX10_merge_269 : decode cX10_merge 269 = .ok (.aload_n 0, 1) := by decide +kernel
theorem dX10_merge_270 : decode cX10_merge 270 = .ok (.getfield 34, 3) := by decide +kernel
theorem dX10_merge_273 : decode cX10_merge 273 = .ok (.iload 8, 2) := by decide +kernel
theorem dX10_merge_275 : decode cX10_merge 275 = .ok (.iaload, 1) := by decide +kernel
theorem dX10_merge_276 : decode cX10_merge 276 = .ok (.istore 8, 2) := by decide +kernel
theorem dX10_merge_278 : decode cX10_merge 278 = .ok (.goto (-23), 3) := by decide +kernel
theorem dX10_merge_281 : decode cX10_merge 281 = .ok (.aload_n 0, 1) := by decide +kernel
theorem dX10_merge_282 : decode cX10_merge 282 = .ok (.getfield 16, 3) := by decide +kernel
theorem dX10_merge_285 : decode cX10_merge 285 = .ok (.sipush 600, 3) := by decide +kernel
theorem dX10_merge_288 : decode cX10_merge 288 = .ok (.iload_n 1, 1) := by decide +kernel
theorem dX10_merge_289 : decode cX10_merge 289 = .ok (.imul, 1) := by decide +kernel
theorem dX10_merge_290 : decode cX10_merge 290 = .ok (.iload 6, 2) := by decide +kernel
theorem dX10_merge_292 : decode cX10_merge 292 = .ok (.iadd, 1) := by decide +kernel
theorem dX10_merge_293 : decode cX10_merge 293 = .ok (.aload_n 0, 1) := by decide +kernel
theorem dX10_merge_294 : decode cX10_merge 294 = .ok (.getfield 41, 3) := by decide +kernel
theorem dX10_merge_297 : decode cX10_merge 297 = .ok (.iload 6, 2) := by decide +kernel
theorem dX10_merge_299 : decode cX10_merge 299 = .ok (.iaload, 1) := by decide +kernel
theorem dX10_merge_300 : decode cX10_merge 300 = .ok (.ifCond .le 8, 3) := by decide +kernel
theorem dX10_merge_303 : decode cX10_merge 303 = .ok (.iload 7, 2) := by decide +kernel
theorem dX10_merge_305 : decode cX10_merge 305 = .ok (.goto 4, 3) := by decide +kernel
theorem dX10_merge_308 : decode cX10_merge 308 = .ok (.iconst 0, 1) := by decide +kernel
theorem dX10_merge_309 : decode cX10_merge 309 = .ok (.iastore, 1) := by decide +kernel
theorem dX10_merge_310 : decode cX10_merge 310 = .ok (.iinc 6 1, 3) := by decide +kernel
theorem dX10_merge_313 : decode cX10_merge 313 = .ok (.goto (-71), 3) := by decide +kernel
theorem dX10_merge_316 : decode cX10_merge 316 = .ok (.aload_n 0, 1) := by decide +kernel
theorem dX10_merge_317 : decode cX10_merge 317 = .ok (.iload_n 1, 1) := by decide +kernel
theorem dX10_merge_318 : decode cX10_merge 318 = .ok (.invokevirtual 94, 3) := by decide +kernel
theorem dX10_merge_321 : decode cX10_merge 321 = .ok (.return_, 1) := by decide +kernel
theorem dX10_clearTimes_0 : decode cX10_clearTimes 0 = .ok (.iconst 0, 1) := by decide +kernel
theorem dX10_clearTimes_1 : decode cX10_clearTimes 1 = .ok (.istore_n 1, 1) := by decide +kernel
theorem dX10_clearTimes_2 : decode cX10_clearTimes 2 = .ok (.iload_n 1, 1) := by decide +kernel
theorem dX10_clearTimes_3 : decode cX10_clearTimes 3 = .ok (.sipush 600, 3) := by decide +kernel
theorem dX10_clearTimes_6 : decode cX10_clearTimes 6 = .ok (.if_icmp .ge 16, 3) := by decide +kernel
theorem dX10_clearTimes_9 : decode cX10_clearTimes 9 = .ok (.aload_n 0, 1) := by decide +kernel
theorem dX10_clearTimes_10 : decode cX10_clearTimes 10 = .ok (.getfield 41, 3) := by decide +kernel
theorem dX10_clearTimes_13 : decode cX10_clearTimes 13 = .ok (.iload_n 1, 1) := by decide +kernel
theorem dX10_clearTimes_14 : decode cX10_clearTimes 14 = .ok (.iconst 0, 1) := by decide +kernel
theorem dX10_clearTimes_15 : decode cX10_clearTimes 15 = .ok (.iastore, 1) := by decide +kernel
theorem dX10_clearTimes_16 : decode cX10_clearTimes 16 = .ok (.iinc 1 1, 3) := by decide +kernel
theorem dX10_clearTimes_19 : decode cX10_clearTimes 19 = .ok (.goto (-17), 3) := by decide +kernel
theorem dX10_clearTimes_22 : decode cX10_clearTimes 22 = .ok (.return_, 1) := by decide +kernel
theorem dX10_rank_0 : decode cX10_rank 0 = .ok (.iconst 0, 1) := by decide +kernel
theorem dX10_rank_1 : decode cX10_rank 1 = .ok (.istore_n 1, 1) := by decide +kernel
theorem dX10_rank_2 : decode cX10_rank 2 = .ok (.iload_n 0, 1) := by decide +kernel
theorem dX10_rank_3 : decode cX10_rank 3 = .ok (.iconst 1, 1) := by decide +kernel
theorem dX10_rank_4 : decode cX10_rank 4 = .ok (.isub, 1) := by decide +kernel
theorem dX10_rank_5 : decode cX10_rank 5 = .ok (.istore_n 2, 1) := by decide +kernel
theorem dX10_rank_6 : decode cX10_rank 6 = .ok (.iload_n 2, 1) := by decide +kernel
theorem dX10_rank_7 : decode cX10_rank 7 = .ok (.ifCond .le 13, 3) := by decide +kernel
theorem dX10_rank_10 : decode cX10_rank 10 = .ok (.iinc 1 1, 3) := by decide +kernel
theorem dX10_rank_13 : decode cX10_rank 13 = .ok (.iload_n 2, 1) := by decide +kernel
theorem dX10_rank_14 : decode cX10_rank 14 = .ok (.iconst 1, 1) := by decide +kernel
theorem dX10_rank_15 : decode cX10_rank 15 = .ok (.ishr, 1) := by decide +kernel
theorem dX10_rank_16 : decode cX10_rank 16 = .ok (.istore_n 2, 1) := by decide +kernel
theorem dX10_rank_17 : decode cX10_rank 17 = .ok (.goto (-11), 3) := by decide +kernel
theorem dX10_rank_20 : decode cX10_rank 20 = .ok (.iload_n 1, 1) := by decide +kernel
theorem dX10_rank_21 : decode cX10_rank 21 = .ok (.ireturn, 1) := by decide +kernel
theorem dX10_last_0 : decode cX10_last 0 = .ok (.iload_n 1, 1) := by decide +kernel
theorem dX10_last_1 : decode cX10_last 1 = .ok (.invokestatic 79, 3) := by decide +kernel
theorem dX10_last_4 : decode cX10_last 4 = .ok (.istore_n 2, 1) := by decide +kernel
theorem dX10_last_5 : decode cX10_last 5 = .ok (.iload_n 2, 1) := by decide +kernel
theorem dX10_last_6 : decode cX10_last 6 = .ok (.ifCond .le 26, 3) := by decide +kernel
theorem dX10_last_9 : decode cX10_last 9 = .ok (.aload_n 0, 1) := by decide +kernel
theorem dX10_last_10 : decode cX10_last 10 = .ok (.getfield 16, 3) := by decide +kernel
theorem dX10_last_13 : decode cX10_last 13 = .ok (.sipush 600, 3) := by decide +kernel
theorem dX10_last_16 : decode cX10_last 16 = .ok (.iload_n 1, 1) := by decide +kernel
theorem dX10_last_17 : decode cX10_last 17 = .ok (.imul, 1) := by decide +kernel
theorem dX10_last_18 : decode cX10_last 18 = .ok (.iload_n 2, 1) := by decide +kernel
theorem dX10_last_19 : decode cX10_last 19 = .ok (.iadd, 1) := by decide +kernel
theorem dX10_last_20 : decode cX10_last 20 = .ok (.iconst 1, 1) := by decide +kernel
theorem dX10_last_21 : decode cX10_last 21 = .ok (.isub, 1) := by decide +kernel
theorem dX10_last_22 : decode cX10_last 22 = .ok (.iaload, 1) := by decide +kernel
theorem dX10_last_23 : decode cX10_last 23 = .ok (.ifCond .ne 9, 3) := by decide +kernel
theorem dX10_last_26 : decode cX10_last 26 = .ok (.iinc 2 (-1), 3) := by decide +kernel
theorem dX10_last_29 : decode cX10_last 29 = .ok (.goto (-24), 3) := by decide +kernel
theorem dX10_last_32 : decode cX10_last 32 = .ok (.iload_n 2, 1) := by decide +kernel
theorem dX10_last_33 : decode cX10_last 33 = .ok (.ireturn, 1) := by decide +kernel
theorem dX10_tell_0 : decode cX10_tell 0 = .ok (.aload_n 0, 1) := by decide +kernel
theorem dX10_tell_1 : decode cX10_tell 1 = .ok (.getfield 44, 3) := by decide +kernel
theorem dX10_tell_4 : decode cX10_tell 4 = .ok (.aload_n 0, 1) := by decide +kernel
theorem dX10_tell_5 : decode cX10_tell 5 = .ok (.getfield 127, 3) := by decide +kernel
theorem dX10_tell_8 : decode cX10_tell 8 = .ok (.iload_n 1, 1) := by decide +kernel
theorem dX10_tell_9 : decode cX10_tell 9 = .ok (.iastore, 1) := by decide +kernel
theorem dX10_tell_10 : decode cX10_tell 10 = .ok (.aload_n 0, 1) := by decide +kernel
theorem dX10_tell_11 : decode cX10_tell 11 = .ok (.getfield 47, 3) := by decide +kernel
theorem dX10_tell_14 : decode cX10_tell 14 = .ok (.aload_n 0, 1) := by decide +kernel
theorem dX10_tell_15 : decode cX10_tell 15 = .ok (.getfield 127, 3) := by decide +kernel
theorem dX10_tell_18 : decode cX10_tell 18 = .ok (.iload_n 2, 1) := by decide +kernel
theorem dX10_tell_19 : decode cX10_tell 19 = .ok (.iastore, 1) := by decide +kernel
theorem dX10_tell_20 : decode cX10_tell 20 = .ok (.aload_n 0, 1) := by decide +kernel
theorem dX10_tell_21 : decode cX10_tell 21 = .ok (.dup, 1) := by decide +kernel
theorem dX10_tell_22 : decode cX10_tell 22 = .ok (.getfield 127, 3) := by decide +kernel
theorem dX10_tell_25 : decode cX10_tell 25 = .ok (.iconst 1, 1) := by decide +kernel
theorem dX10_tell_26 : decode cX10_tell 26 = .ok (.iadd, 1) := by decide +kernel
theorem dX10_tell_27 : decode cX10_tell 27 = .ok (.putfield 127, 3) := by decide +kernel
theorem dX10_tell_30 : decode cX10_tell 30 = .ok (.aload_n 0, 1) := by decide +kernel
theorem dX10_tell_31 : decode cX10_tell 31 = .ok (.getfield 41, 3) := by decide +kernel
theorem dX10_tell_34 : decode cX10_tell 34 = .ok (.iload_n 1, 1) := by decide +kernel
theorem dX10_tell_35 : decode cX10_tell 35 = .ok (.dup2, 1) := by decide +kernel
theorem dX10_tell_36 : decode cX10_tell 36 = .ok (.iaload, 1) := by decide +kernel
theorem dX10_tell_37 : decode cX10_tell 37 = .ok (.iconst 1, 1) := by decide +kernel
theorem dX10_tell_38 : decode cX10_tell 38 = .ok (.iadd, 1) := by decide +kernel
theorem dX10_tell_39 : decode cX10_tell 39 = .ok (.iastore, 1) := by decide +kernel
theorem dX10_tell_40 : decode cX10_tell 40 = .ok (.return_, 1) := by decide +kernel
theorem dX10_tellAll_0 : decode cX10_tellAll 0 = .ok (.aload_n 0, 1) := by decide +kernel
theorem dX10_tellAll_1 : decode cX10_tellAll 1 = .ok (.invokevirtual 130, 3) := by decide +kernel
theorem dX10_tellAll_4 : decode cX10_tellAll 4 = .ok (.aload_n 0, 1) := by decide +kernel
theorem dX10_tellAll_5 : decode cX10_tellAll 5 = .ok (.iconst 0, 1) := by decide +kernel
theorem dX10_tellAll_6 : decode cX10_tellAll 6 = .ok (.putfield 127, 3) := by decide +kernel
theorem dX10_tellAll_9 : decode cX10_tellAll 9 = .ok (.aload_n 0, 1) := by decide +kernel
theorem dX10_tellAll_10 : decode cX10_tellAll 10 = .ok (.iconst 1, 1) := by decide +kernel
theorem dX10_tellAll_11 : decode cX10_tellAll 11 = .ok (.invokevirtual 133, 3) := by decide +kernel
theorem dX10_tellAll_14 : decode cX10_tellAll 14 = .ok (.istore_n 1, 1) := by decide +kernel
theorem dX10_tellAll_15 : decode cX10_tellAll 15 = .ok (.iconst 0, 1) := by decide +kernel
theorem dX10_tellAll_16 : decode cX10_tellAll 16 = .ok (.istore_n 2, 1) := by decide +kernel
theorem dX10_tellAll_17 : decode cX10_tellAll 17 = .ok (.iload_n 2, 1) := by decide +kernel
theorem dX10_tellAll_18 : decode cX10_tellAll 18 = .ok (.iload_n 1, 1) := by decide +kernel
theorem dX10_tellAll_19 : decode cX10_tellAll 19 = .ok (.if_icmp .ge 133, 3) := by decide +kernel
theorem dX10_tellAll_22 : decode cX10_tellAll 22 = .ok (.iconst 0, 1) := by decide +kernel
theorem dX10_tellAll_23 : decode cX10_tellAll 23 = .ok (.istore_n 3, 1) := by decide +kernel
theorem dX10_tellAll_24 : decode cX10_tellAll 24 = .ok (.aload_n 0, 1) := by decide +kernel
theorem dX10_tellAll_25 : decode cX10_tellAll 25 = .ok (.getfield 16, 3) := by decide +kernel
theorem dX10_tellAll_28 : decode cX10_tellAll 28 = .ok (.sipush 600, 3) := by decide +kernel
theorem dX10_tellAll_31 : decode cX10_tellAll 31 = .ok (.iload_n 2, 1) := by decide +kernel
theorem dX10_tellAll_32 : decode cX10_tellAll 32 = .ok (.iadd, 1) := by decide +kernel
theorem dX10_tellAll_33 : decode cX10_tellAll 33 = .ok (.iload_n 3, 1) := by decide +kernel
theorem dX10_tellAll_34 : decode cX10_tellAll 34 = .ok (.iadd, 1) := by decide +kernel
theorem dX10_tellAll_35 : decode cX10_tellAll 35 = .ok (.iaload, 1) := by decide +kernel
theorem dX10_tellAll_36 : decode cX10_tellAll 36 = .ok (.ifCond .ne 9, 3) := by decide +kernel
theorem dX10_tellAll_39 : decode cX10_tellAll 39 = .ok (.iinc 3 1, 3) := by decide +kernel
theorem dX10_tellAll_42 : decode cX10_tellAll 42 = .ok (.goto (-18), 3) := by decide +kernel
theorem dX10_tellAll_45 : decode cX10_tellAll 45 = .ok (.iload_n 3, 1) := by decide +kernel
theorem dX10_tellAll_46 : decode cX10_tellAll 46 = .ok (.ifCond .ne 26, 3) := by decide +kernel
theorem dX10_tellAll_49 : decode cX10_tellAll 49 = .ok (.aload_n 0, 1) := by decide +kernel
theorem dX10_tellAll_50 : decode cX10_tellAll 50 = .ok (.aload_n 0, 1) := by decide +kernel
theorem dX10_tellAll_51 : decode cX10_tellAll 51 = .ok (.getfield 16, 3) := by decide +kernel
theorem dX10_tellAll_54 : decode cX10_tellAll 54 = .ok (.sipush 600, 3) := by decide +kernel
theorem dX10_tellAll_57 : decode cX10_tellAll 57 = .ok (.iload_n 2, 1) := by decide +kernel
theorem dX10_tellAll_58 : decode cX10_tellAll 58 = .ok (.iadd, 1) := by decide +kernel
theorem dX10_tellAll_59 : decode cX10_tellAll 59 = .ok (.iaload, 1) := by decide +kernel
theorem dX10_tellAll_60 : decode cX10_tellAll 60 = .ok (.iconst 2, 1) := by decide +kernel
theorem dX10_tellAll_61 : decode cX10_tellAll 61 = .ok (.iadd, 1) := by decide +kernel
theorem dX10_tellAll_62 : decode cX10_tellAll 62 = .ok (.iconst 0, 1) := by decide +kernel
theorem dX10_tellAll_63 : decode cX10_tellAll 63 = .ok (.invokevirtual 136, 3) := by decide +kernel
theorem dX10_tellAll_66 : decode cX10_tellAll 66 = .ok (.iinc 2 1, 3) := by decide +kernel
theorem dX10_tellAll_69 : decode cX10_tellAll 69 = .ok (.goto 80, 3) := by decide +kernel
theorem dX10_tellAll_72 : decode cX10_tellAll 72 = .ok (.iload_n 2, 1) := by decide +kernel
theorem dX10_tellAll_73 : decode cX10_tellAll 73 = .ok (.iload_n 3, 1) := by decide +kernel
theorem dX10_tellAll_74 : decode cX10_tellAll 74 = .ok (.iadd, 1) := by decide +kernel
theorem dX10_tellAll_75 : decode cX10_tellAll 75 = .ok (.istore_n 2, 1) := by decide +kernel
theorem dX10_tellAll_76 : decode cX10_tellAll 76 = .ok (.iload_n 3, 1) := by decide +kernel
theorem dX10_tellAll_77 : decode cX10_tellAll 77 = .ok (.iconst 3, 1) := by decide +kernel
theorem dX10_tellAll_78 : decode cX10_tellAll 78 = .ok (.if_icmp .ge 23, 3) := by decide +kernel
theorem dX10_tellAll_81 : decode cX10_tellAll 81 = .ok (.aload_n 0, 1) := by decide +kernel
theorem dX10_tellAll_82 : decode cX10_tellAll 82 = .ok (.iconst 0, 1) := by decide +kernel
theorem dX10_tellAll_83 : decode cX10_tellAll 83 = .ok (.iconst 0, 1) := by decide +kernel
theorem dX10_tellAll_84 : decode cX10_tellAll 84 = .ok (.invokevirtual 136, 3) := by decide +kernel
theorem dX10_tellAll_87 : decode cX10_tellAll 87 = .ok (.iload_n 3, 1) := by decide +kernel
theorem dX10_tellAll_88 : decode cX10_tellAll 88 = .ok (.iconst 2, 1) := by decide +kernel
theorem dX10_tellAll_89 : decode cX10_tellAll 89 = .ok (.if_icmp .ne 60, 3) := by decide +kernel
theorem dX10_tellAll_92 : decode cX10_tellAll 92 = .ok (.aload_n 0, 1) := by decide +kernel
theorem dX10_tellAll_93 : decode cX10_tellAll 93 = .ok (.iconst 0, 1) := by decide +kernel
theorem dX10_tellAll_94 : decode cX10_tellAll 94 = .ok (.iconst 0, 1) := by decide +kernel
theorem dX10_tellAll_95 : decode cX10_tellAll 95 = .ok (.invokevirtual 136, 3) := by decide +kernel
theorem dX10_tellAll_98 : decode cX10_tellAll 98 = .ok (.goto 51, 3) := by decide +kernel
theorem dX10_tellAll_101 : decode cX10_tellAll 101 = .ok (.iload_n 3, 1) := by decide +kernel
theorem dX10_tellAll_102 : decode cX10_tellAll 102 = .ok (.bipush 19, 2) := by decide +kernel
theorem dX10_tellAll_104 : decode cX10_tellAll 104 = .ok (.if_icmp .ge 14, 3) := by decide +kernel
theorem dX10_tellAll_107 : decode cX10_tellAll 107 = .ok (.aload_n 0, 1) := by decide +kernel
theorem dX10_tellAll_108 : decode cX10_tellAll 108 = .ok (.iconst 1, 1) := by decide +kernel
theorem dX10_tellAll_109 : decode cX10_tellAll 109 = .ok (.iload_n 3, 1) := by decide +kernel
theorem dX10_tellAll_110 : decode cX10_tellAll 110 = .ok (.iconst 3, 1) := by decide +kernel
theorem dX10_tellAll_111 : decode cX10_tellAll 111 = .ok (.isub, 1) := by decide +kernel
theorem dX10_tellAll_112 : decode cX10_tellAll 112 = .ok (.invokevirtual 136, 3) := by decide +kernel
theorem dX10_tellAll_115 : decode cX10_tellAll 115 = .ok (.goto 34, 3) := by decide +kernel
theorem dX10_tellAll_118 : decode cX10_tellAll 118 = .ok (.iload_n 3, 1) := by decide +kernel
theorem dX10_tellAll_119 : decode cX10_tellAll 119 = .ok (.bipush 19, 2) := by decide +kernel
theorem dX10_tellAll_121 : decode cX10_tellAll 121 = .ok (.if_icmp .ne 19, 3) := by decide +kernel
theorem dX10_tellAll_124 : decode cX10_tellAll 124 = .ok (.aload_n 0, 1) := by decide +kernel
theorem dX10_tellAll_125 : decode cX10_tellAll 125 = .ok (.iconst 0, 1) := by decide +kernel
theorem dX10_tellAll_126 : decode cX10_tellAll 126 = .ok (.iconst 0, 1) := by decide +kernel
theorem dX10_tellAll_127 : decode cX10_tellAll 127 = .ok (.invokevirtual 136, 3) := by decide +kernel
theorem dX10_tellAll_130 : decode cX10_tellAll 130 = .ok (.aload_n 0, 1) := by decide +kernel
theorem dX10_tellAll_131 : decode cX10_tellAll 131 = .ok (.iconst 1, 1) := by decide +kernel
theorem dX10_tellAll_132 : decode cX10_tellAll 132 = .ok (.bipush 15, 2) := by decide +kernel
theorem dX10_tellAll_134 : decode cX10_tellAll 134 = .ok (.invokevirtual 136, 3) := by decide +kernel
theorem dX10_tellAll_137 : decode cX10_tellAll 137 = .ok (.goto 12, 3) := by decide +kernel
theorem dX10_tellAll_140 : decode cX10_tellAll 140 = .ok (.aload_n 0, 1) := by decide +kernel
theorem dX10_tellAll_141 : decode cX10_tellAll 141 = .ok (.iconst 2, 1) := by decide +kernel
theorem dX10_tellAll_142 : decode cX10_tellAll 142 = .ok (.iload_n 3, 1) := by decide +kernel
theorem dX10_tellAll_143 : decode cX10_tellAll 143 = .ok (.bipush 20, 2) := by decide +kernel
theorem dX10_tellAll_145 : decode cX10_tellAll 145 = .ok (.isub, 1) := by decide +kernel
theorem dX10_tellAll_146 : decode cX10_tellAll 146 = .ok (.invokevirtual 136, 3) := by decide +kernel
theorem dX10_tellAll_149 : decode cX10_tellAll 149 = .ok (.goto (-132), 3) := by decide +kernel
theorem dX10_tellAll_152 : decode cX10_tellAll 152 = .ok (.return_, 1) := by decide +kernel
theorem dX10_giveSmall_0 : decode cX10_giveSmall 0 = .ok (.aload_n 0, 1) := by decide +kernel
theorem dX10_giveSmall_1 : decode cX10_giveSmall 1 = .ok (.getfield 22, 3) := by decide +kernel
theorem dX10_giveSmall_4 : decode cX10_giveSmall 4 = .ok (.iload_n 1, 1) := by decide +kernel
theorem dX10_giveSmall_5 : decode cX10_giveSmall 5 = .ok (.iaload, 1) := by decide +kernel
theorem dX10_giveSmall_6 : decode cX10_giveSmall 6 = .ok (.iconst (-1), 1) := by decide +kernel
theorem dX10_giveSmall_7 : decode cX10_giveSmall 7 = .ok (.if_icmp .eq 21, 3) := by decide +kernel
theorem dX10_giveSmall_10 : decode cX10_giveSmall 10 = .ok (.aload_n 0, 1) := by decide +kernel
theorem dX10_giveSmall_11 : decode cX10_giveSmall 11 = .ok (.iconst 0, 1) := by decide +kernel
theorem dX10_giveSmall_12 : decode cX10_giveSmall 12 = .ok (.iload_n 2, 1) := by decide +kernel
theorem dX10_giveSmall_13 : decode cX10_giveSmall 13 = .ok (.invokevirtual 139, 3) := by decide +kernel
theorem dX10_giveSmall_16 : decode cX10_giveSmall 16 = .ok (.aload_n 0, 1) := by decide +kernel
theorem dX10_giveSmall_17 : decode cX10_giveSmall 17 = .ok (.aload_n 0, 1) := by decide +kernel
theorem dX10_giveSmall_18 : decode cX10_giveSmall 18 = .ok (.getfield 22, 3) := by decide +kernel
theorem dX10_giveSmall_21 : decode cX10_giveSmall 21 = .ok (.iload_n 1, 1) := by decide +kernel
theorem dX10_giveSmall_22 : decode cX10_giveSmall 22 = .ok (.iaload, 1) := by decide +kernel
theorem dX10_giveSmall_23 : decode cX10_giveSmall 23 = .ok (.iload_n 2, 1) := by decide +kernel
theorem dX10_giveSmall_24 : decode cX10_giveSmall 24 = .ok (.invokevirtual 139, 3) := by decide +kernel
theorem dX10_giveSmall_27 : decode cX10_giveSmall 27 = .ok (.return_, 1) := by decide +kernel
theorem dX10_giveSmall_28 : decode cX10_giveSmall 28 = .ok (.aload_n 0, 1) := by decide +kernel
theorem dX10_giveSmall_29 : decode cX10_giveSmall 29 = .ok (.iload_n 1, 1) := by decide +kernel
theorem dX10_giveSmall_30 : decode cX10_giveSmall 30 = .ok (.invokevirtual 133, 3) := by decide +kernel
theorem dX10_giveSmall_33 : decode cX10_giveSmall 33 = .ok (.istore_n 3, 1) := by decide +kernel
theorem dX10_giveSmall_34 : decode cX10_giveSmall 34 = .ok (.aload_n 0, 1) := by decide +kernel
theorem dX10_giveSmall_35 : decode cX10_giveSmall 35 = .ok (.iload_n 3, 1) := by decide +kernel
theorem dX10_giveSmall_36 : decode cX10_giveSmall 36 = .ok (.iload_n 2, 1) := by decide +kernel
theorem dX10_giveSmall_37 : decode cX10_giveSmall 37 = .ok (.invokevirtual 139, 3) := by decide +kernel
theorem dX10_giveSmall_40 : decode cX10_giveSmall 40 = .ok (.iconst 0, 1) := by decide +kernel
theorem dX10_giveSmall_41 : decode cX10_giveSmall 41 = .ok (.istore 4, 2) := by decide +kernel
theorem dX10_giveSmall_43 : decode cX10_giveSmall 43 = .ok (.iload 4, 2) := by decide +kernel
theorem dX10_giveSmall_45 : decode cX10_giveSmall 45 = .ok (.iload_n 3, 1) := by decide +kernel
theorem dX10_giveSmall_46 : decode cX10_giveSmall 46 = .ok (.if_icmp .ge 130, 3) := by decide +kernel
theorem dX10_giveSmall_49 : decode cX10_giveSmall 49 = .ok (.aload_n 0, 1) := by decide +kernel
theorem dX10_giveSmall_50 : decode cX10_giveSmall 50 = .ok (.getfield 16, 3) := by decide +kernel
theorem dX10_giveSmall_53 : decode cX10_giveSmall 53 = .ok (.sipush 600, 3) := by decide +kernel
theorem dX10_giveSmall_56 : decode cX10_giveSmall 56 = .ok (.iload_n 1, 1) := by decide +kernel
theorem dX10_giveSmall_57 : decode cX10_giveSmall 57 = .ok (.imul, 1) := by decide +kernel
theorem dX10_giveSmall_58 : decode cX10_giveSmall 58 = .ok (.iload 4, 2) := by decide +kernel
theorem dX10_giveSmall_60 : decode cX10_giveSmall 60 = .ok (.iadd, 1) := by decide +kernel
theorem dX10_giveSmall_61 : decode cX10_giveSmall 61 = .ok (.iaload, 1) := by decide +kernel
theorem dX10_giveSmall_62 : decode cX10_giveSmall 62 = .ok (.istore 5, 2) := by decide +kernel
theorem dX10_giveSmall_64 : decode cX10_giveSmall 64 = .ok (.aload_n 0, 1) := by decide +kernel
theorem dX10_giveSmall_65 : decode cX10_giveSmall 65 = .ok (.iload 5, 2) := by decide +kernel
theorem dX10_giveSmall_67 : decode cX10_giveSmall 67 = .ok (.bipush 7, 2) := by decide +kernel
theorem dX10_giveSmall_69 : decode cX10_giveSmall 69 = .ok (.if_icmp .ge 8, 3) := by decide +kernel
theorem dX10_giveSmall_72 : decode cX10_giveSmall 72 = .ok (.iload 5, 2) := by decide +kernel
theorem dX10_giveSmall_74 : decode cX10_giveSmall 74 = .ok (.goto 5, 3) := by decide +kernel
theorem dX10_giveSmall_77 : decode cX10_giveSmall 77 = .ok (.bipush 7, 2) := by decide +kernel
theorem dX10_giveSmall_79 : decode cX10_giveSmall 79 = .ok (.iconst 3, 1) := by decide +kernel
theorem dX10_giveSmall_80 : decode cX10_giveSmall 80 = .ok (.invokevirtual 139, 3) := by decide +kernel
theorem dX10_giveSmall_83 : decode cX10_giveSmall 83 = .ok (.bipush 7, 2) := by decide +kernel
theorem dX10_giveSmall_85 : decode cX10_giveSmall 85 = .ok (.istore 6, 2) := by decide +kernel
theorem dX10_giveSmall_87 : decode cX10_giveSmall 87 = .ok (.iload 6, 2) := by decide +kernel
theorem dX10_giveSmall_89 : decode cX10_giveSmall 89 = .ok (.iload 5, 2) := by decide +kernel
theorem dX10_giveSmall_91 : decode cX10_giveSmall 91 = .ok (.if_icmp .ge 15, 3) := by decide +kernel
theorem dX10_giveSmall_94 : decode cX10_giveSmall 94 = .ok (.aload_n 0, 1) := by decide +kernel
theorem dX10_giveSmall_95 : decode cX10_giveSmall 95 = .ok (.iconst 1, 1) := by decide +kernel
theorem dX10_giveSmall_96 : decode cX10_giveSmall 96 = .ok (.iconst 1, 1) := by decide +kernel
theorem dX10_giveSmall_97 : decode cX10_giveSmall 97 = .ok (.invokevirtual 139, 3) := by decide +kernel
theorem dX10_giveSmall_100 : decode cX10_giveSmall 100 = .ok (.iinc 6 1, 3) := by decide +kernel
theorem dX10_giveSmall_103 : decode cX10_giveSmall 103 = .ok (.goto (-16), 3) := by decide +kernel
theorem dX10_giveSmall_106 : decode cX10_giveSmall 106 = .ok (.iload 5, 2) := by decide +kernel
theorem dX10_giveSmall_108 : decode cX10_giveSmall 108 = .ok (.bipush 7, 2) := by decide +kernel
theorem dX10_giveSmall_110 : decode cX10_giveSmall 110 = .ok (.if_icmp .lt 9, 3) := by decide +kernel
theorem dX10_giveSmall_113 : decode cX10_giveSmall 113 = .ok (.aload_n 0, 1) := by decide +kernel
