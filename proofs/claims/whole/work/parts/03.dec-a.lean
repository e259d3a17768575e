theorem dX0_init_0 : decode cX0_init 0 = .ok (.aload_n 0, 1) := by decide +kernel
theorem dX0_init_1 : decode cX0_init 1 = .ok (.invokespecial 3, 3) := by decide +kernel
theorem dX0_init_4 : decode cX0_init 4 = .ok (.aload_n 0, 1) := by decide +kernel
theorem dX0_init_5 : decode cX0_init 5 = .ok (.bipush 50, 2) := by decide +kernel
theorem dX0_init_7 : decode cX0_init 7 = .ok (.newarray .int, 2) := by decide +kernel
theorem dX0_init_9 : decode cX0_init 9 = .ok (.putfield 9, 3) := by decide +kernel
theorem dX0_init_12 : decode cX0_init 12 = .ok (.aload_n 0, 1) := by decide +kernel
theorem dX0_init_13 : decode cX0_init 13 = .ok (.bipush 24, 2) := by decide +kernel
theorem dX0_init_15 : decode cX0_init 15 = .ok (.newarray .int, 2) := by decide +kernel
theorem dX0_init_17 : decode cX0_init 17 = .ok (.putfield 15, 3) := by decide +kernel
theorem dX0_init_20 : decode cX0_init 20 = .ok (.return_, 1) := by decide +kernel
theorem dX0_add_0 : decode cX0_add 0 = .ok (.aload_n 0, 1) := by decide +kernel
theorem dX0_add_1 : decode cX0_add 1 = .ok (.getfield 18, 3) := by decide +kernel
theorem dX0_add_4 : decode cX0_add 4 = .ok (.bipush 50, 2) := by decide +kernel
theorem dX0_add_6 : decode cX0_add 6 = .ok (.if_icmp .lt 6, 3) := by decide +kernel
theorem dX0_add_9 : decode cX0_add 9 = .ok (.bipush (-3), 2) := by decide +kernel
theorem dX0_add_11 : decode cX0_add 11 = .ok (.ireturn, 1) := by decide +kernel
theorem dX0_add_12 : decode cX0_add 12 = .ok (.aload_n 0, 1) := by decide +kernel
theorem dX0_add_13 : decode cX0_add 13 = .ok (.getfield 9, 3) := by decide +kernel
theorem dX0_add_16 : decode cX0_add 16 = .ok (.aload_n 0, 1) := by decide +kernel
theorem dX0_add_17 : decode cX0_add 17 = .ok (.getfield 18, 3) := by decide +kernel
theorem dX0_add_20 : decode cX0_add 20 = .ok (.iload_n 1, 1) := by decide +kernel
theorem dX0_add_21 : decode cX0_add 21 = .ok (.iastore, 1) := by decide +kernel
theorem dX0_add_22 : decode cX0_add 22 = .ok (.aload_n 0, 1) := by decide +kernel
theorem dX0_add_23 : decode cX0_add 23 = .ok (.dup, 1) := by decide +kernel
theorem dX0_add_24 : decode cX0_add 24 = .ok (.getfield 18, 3) := by decide +kernel
theorem dX0_add_27 : decode cX0_add 27 = .ok (.iconst 1, 1) := by decide +kernel
theorem dX0_add_28 : decode cX0_add 28 = .ok (.iadd, 1) := by decide +kernel
theorem dX0_add_29 : decode cX0_add 29 = .ok (.putfield 18, 3) := by decide +kernel
theorem dX0_add_32 : decode cX0_add 32 = .ok (.aload_n 0, 1) := by decide +kernel
theorem dX0_add_33 : decode cX0_add 33 = .ok (.getfield 18, 3) := by decide +kernel
theorem dX0_add_36 : decode cX0_add 36 = .ok (.iconst 1, 1) := by decide +kernel
theorem dX0_add_37 : decode cX0_add 37 = .ok (.isub, 1) := by decide +kernel
theorem dX0_add_38 : decode cX0_add 38 = .ok (.ireturn, 1) := by decide +kernel
theorem dX0_has_0 : decode cX0_has 0 = .ok (.iload_n 1, 1) := by decide +kernel
theorem dX0_has_1 : decode cX0_has 1 = .ok (.ifCond .lt 21, 3) := by decide +kernel
theorem dX0_has_4 : decode cX0_has 4 = .ok (.iload_n 1, 1) := by decide +kernel
theorem dX0_has_5 : decode cX0_has 5 = .ok (.aload_n 0, 1) := by decide +kernel
theorem dX0_has_6 : decode cX0_has 6 = .ok (.getfield 18, 3) := by decide +kernel
theorem dX0_has_9 : decode cX0_has 9 = .ok (.if_icmp .ge 13, 3) := by decide +kernel
theorem dX0_has_12 : decode cX0_has 12 = .ok (.iload_n 1, 1) := by decide +kernel
theorem dX0_has_13 : decode cX0_has 13 = .ok (.bipush 50, 2) := by decide +kernel
theorem dX0_has_15 : decode cX0_has 15 = .ok (.if_icmp .ge 7, 3) := by decide +kernel
theorem dX0_has_18 : decode cX0_has 18 = .ok (.iconst 1, 1) := by decide +kernel
theorem dX0_has_19 : decode cX0_has 19 = .ok (.goto 4, 3) := by decide +kernel
theorem dX0_has_22 : decode cX0_has 22 = .ok (.iconst 0, 1) := by decide +kernel
theorem dX0_has_23 : decode cX0_has 23 = .ok (.ireturn, 1) := by decide +kernel
theorem dX0_isUnder_0 : decode cX0_isUnder 0 = .ok (.iload_n 0, 1) := by decide +kernel
theorem dX0_isUnder_1 : decode cX0_isUnder 1 = .ok (.istore_n 2, 1) := by decide +kernel
theorem dX0_isUnder_2 : decode cX0_isUnder 2 = .ok (.iconst 0, 1) := by decide +kernel
theorem dX0_isUnder_3 : decode cX0_isUnder 3 = .ok (.istore_n 3, 1) := by decide +kernel
theorem dX0_isUnder_4 : decode cX0_isUnder 4 = .ok (.iload_n 3, 1) := by decide +kernel
theorem dX0_isUnder_5 : decode cX0_isUnder 5 = .ok (.bipush 8, 2) := by decide +kernel
theorem dX0_isUnder_7 : decode cX0_isUnder 7 = .ok (.if_icmp .ge 26, 3) := by decide +kernel
theorem dX0_isUnder_10 : decode cX0_isUnder 10 = .ok (.iload_n 2, 1) := by decide +kernel
theorem dX0_isUnder_11 : decode cX0_isUnder 11 = .ok (.ifCond .lt 22, 3) := by decide +kernel
theorem dX0_isUnder_14 : decode cX0_isUnder 14 = .ok (.iload_n 2, 1) := by decide +kernel
theorem dX0_isUnder_15 : decode cX0_isUnder 15 = .ok (.iload_n 1, 1) := by decide +kernel
theorem dX0_isUnder_16 : decode cX0_isUnder 16 = .ok (.if_icmp .ne 5, 3) := by decide +kernel
theorem dX0_isUnder_19 : decode cX0_isUnder 19 = .ok (.iconst 1, 1) := by decide +kernel
theorem dX0_isUnder_20 : decode cX0_isUnder 20 = .ok (.ireturn, 1) := by decide +kernel
theorem dX0_isUnder_21 : decode cX0_isUnder 21 = .ok (.getstatic 22, 3) := by decide +kernel
theorem dX0_isUnder_24 : decode cX0_isUnder 24 = .ok (.iload_n 2, 1) := by decide +kernel
theorem dX0_isUnder_25 : decode cX0_isUnder 25 = .ok (.iaload, 1) := by decide +kernel
theorem dX0_isUnder_26 : decode cX0_isUnder 26 = .ok (.istore_n 2, 1) := by decide +kernel
theorem dX0_isUnder_27 : decode cX0_isUnder 27 = .ok (.iinc 3 1, 3) := by decide +kernel
theorem dX0_isUnder_30 : decode cX0_isUnder 30 = .ok (.goto (-26), 3) := by decide +kernel
theorem dX0_isUnder_33 : decode cX0_isUnder 33 = .ok (.iconst 0, 1) := by decide +kernel
theorem dX0_isUnder_34 : decode cX0_isUnder 34 = .ok (.ireturn, 1) := by decide +kernel
theorem dX0_run_0 : decode cX0_run 0 = .ok (.iload_n 2, 1) := by decide +kernel
theorem dX0_run_1 : decode cX0_run 1 = .ok (.istore 6, 2) := by decide +kernel
theorem dX0_run_3 : decode cX0_run 3 = .ok (.iconst 0, 1) := by decide +kernel
theorem dX0_run_4 : decode cX0_run 4 = .ok (.istore 7, 2) := by decide +kernel
theorem dX0_run_6 : decode cX0_run 6 = .ok (.iload 7, 2) := by decide +kernel
theorem dX0_run_8 : decode cX0_run 8 = .ok (.bipush 8, 2) := by decide +kernel
theorem dX0_run_10 : decode cX0_run 10 = .ok (.if_icmp .ge 35, 3) := by decide +kernel
theorem dX0_run_13 : decode cX0_run 13 = .ok (.iload 6, 2) := by decide +kernel
theorem dX0_run_15 : decode cX0_run 15 = .ok (.ifCond .lt 30, 3) := by decide +kernel
theorem dX0_run_18 : decode cX0_run 18 = .ok (.getstatic 25, 3) := by decide +kernel
theorem dX0_run_21 : decode cX0_run 21 = .ok (.iload 6, 2) := by decide +kernel
theorem dX0_run_23 : decode cX0_run 23 = .ok (.iconst 4, 1) := by decide +kernel
theorem dX0_run_24 : decode cX0_run 24 = .ok (.imul, 1) := by decide +kernel
theorem dX0_run_25 : decode cX0_run 25 = .ok (.iload_n 3, 1) := by decide +kernel
theorem dX0_run_26 : decode cX0_run 26 = .ok (.iadd, 1) := by decide +kernel
theorem dX0_run_27 : decode cX0_run 27 = .ok (.iaload, 1) := by decide +kernel
theorem dX0_run_28 : decode cX0_run 28 = .ok (.ifCond .ne 17, 3) := by decide +kernel
theorem dX0_run_31 : decode cX0_run 31 = .ok (.getstatic 22, 3) := by decide +kernel
theorem dX0_run_34 : decode cX0_run 34 = .ok (.iload 6, 2) := by decide +kernel
theorem dX0_run_36 : decode cX0_run 36 = .ok (.iaload, 1) := by decide +kernel
theorem dX0_run_37 : decode cX0_run 37 = .ok (.istore 6, 2) := by decide +kernel
theorem dX0_run_39 : decode cX0_run 39 = .ok (.iinc 7 1, 3) := by decide +kernel
theorem dX0_run_42 : decode cX0_run 42 = .ok (.goto (-36), 3) := by decide +kernel
theorem dX0_run_45 : decode cX0_run 45 = .ok (.iload 6, 2) := by decide +kernel
theorem dX0_run_47 : decode cX0_run 47 = .ok (.ifCond .lt 10, 3) := by decide +kernel
theorem dX0_run_50 : decode cX0_run 50 = .ok (.iload 5, 2) := by decide +kernel
theorem dX0_run_52 : decode cX0_run 52 = .ok (.bipush 40, 2) := by decide +kernel
theorem dX0_run_54 : decode cX0_run 54 = .ok (.if_icmp .lt 5, 3) := by decide +kernel
theorem dX0_run_57 : decode cX0_run 57 = .ok (.iconst 0, 1) := by decide +kernel
theorem dX0_run_58 : decode cX0_run 58 = .ok (.ireturn, 1) := by decide +kernel
theorem dX0_run_59 : decode cX0_run 59 = .ok (.getstatic 25, 3) := by decide +kernel
theorem dX0_run_62 : decode cX0_run 62 = .ok (.iload 6, 2) := by decide +kernel
theorem dX0_run_64 : decode cX0_run 64 = .ok (.iconst 4, 1) := by decide +kernel
theorem dX0_run_65 : decode cX0_run 65 = .ok (.imul, 1) := by decide +kernel
theorem dX0_run_66 : decode cX0_run 66 = .ok (.iload_n 3, 1) := by decide +kernel
theorem dX0_run_67 : decode cX0_run 67 = .ok (.iadd, 1) := by decide +kernel
theorem dX0_run_68 : decode cX0_run 68 = .ok (.iaload, 1) := by decide +kernel
theorem dX0_run_69 : decode cX0_run 69 = .ok (.istore 7, 2) := by decide +kernel
theorem dX0_run_71 : decode cX0_run 71 = .ok (.aload_n 0, 1) := by decide +kernel
theorem dX0_run_72 : decode cX0_run 72 = .ok (.getfield 28, 3) := by decide +kernel
theorem dX0_run_75 : decode cX0_run 75 = .ok (.bipush 24, 2) := by decide +kernel
theorem dX0_run_77 : decode cX0_run 77 = .ok (.if_icmp .ge 14, 3) := by decide +kernel
theorem dX0_run_80 : decode cX0_run 80 = .ok (.aload_n 0, 1) := by decide +kernel
theorem dX0_run_81 : decode cX0_run 81 = .ok (.getfield 15, 3) := by decide +kernel
theorem dX0_run_84 : decode cX0_run 84 = .ok (.aload_n 0, 1) := by decide +kernel
theorem dX0_run_85 : decode cX0_run 85 = .ok (.getfield 28, 3) := by decide +kernel
theorem dX0_run_88 : decode cX0_run 88 = .ok (.iload 7, 2) := by decide +kernel
theorem dX0_run_90 : decode cX0_run 90 = .ok (.iastore, 1) := by decide +kernel
theorem dX0_run_91 : decode cX0_run 91 = .ok (.aload_n 0, 1) := by decide +kernel
theorem dX0_run_92 : decode cX0_run 92 = .ok (.dup, 1) := by decide +kernel
theorem dX0_run_93 : decode cX0_run 93 = .ok (.getfield 28, 3) := by decide +kernel
theorem dX0_run_96 : decode cX0_run 96 = .ok (.iconst 1, 1) := by decide +kernel
theorem dX0_run_97 : decode cX0_run 97 = .ok (.iadd, 1) := by decide +kernel
theorem dX0_run_98 : decode cX0_run 98 = .ok (.putfield 28, 3) := by decide +kernel
theorem dX0_run_101 : decode cX0_run 101 = .ok (.aload_n 0, 1) := by decide +kernel
theorem dX0_run_102 : decode cX0_run 102 = .ok (.iload 7, 2) := by decide +kernel
theorem dX0_run_104 : decode cX0_run 104 = .ok (.iload_n 1, 1) := by decide +kernel
theorem dX0_run_105 : decode cX0_run 105 = .ok (.getstatic 22, 3) := by decide +kernel
theorem dX0_run_108 : decode cX0_run 108 = .ok (.iload 6, 2) := by decide +kernel
theorem dX0_run_110 : decode cX0_run 110 = .ok (.iaload, 1) := by decide +kernel
theorem dX0_run_111 : decode cX0_run 111 = .ok (.iload 4, 2) := by decide +kernel
theorem dX0_run_113 : decode cX0_run 113 = .ok (.iload 5, 2) := by decide +kernel
theorem dX0_run_115 : decode cX0_run 115 = .ok (.iconst 1, 1) := by decide +kernel
theorem dX0_run_116 : decode cX0_run 116 = .ok (.iadd, 1) := by decide +kernel
theorem dX0_run_117 : decode cX0_run 117 = .ok (.invokevirtual 31, 3) := by decide +kernel
theorem dX0_run_120 : decode cX0_run 120 = .ok (.ireturn, 1) := by decide +kernel
theorem dX0_worked_0 : decode cX0_worked 0 = .ok (.aload_n 0, 1) := by decide +kernel
theorem dX0_worked_1 : decode cX0_worked 1 = .ok (.getfield 9, 3) := by decide +kernel
theorem dX0_worked_4 : decode cX0_worked 4 = .ok (.iload_n 2, 1) := by decide +kernel
theorem dX0_worked_5 : decode cX0_worked 5 = .ok (.iaload, 1) := by decide +kernel
theorem dX0_worked_6 : decode cX0_worked 6 = .ok (.istore 6, 2) := by decide +kernel
theorem dX0_worked_8 : decode cX0_worked 8 = .ok (.iload_n 1, 1) := by decide +kernel
theorem dX0_worked_9 : decode cX0_worked 9 = .ok (.lookupswitch 310 #[(1, 115), (2, 140), (10, 120), (11, 135), (20, 165), (30, 179), (40, 192), (41, 206), (50, 220), (60, 234), (61, 258), (70, 272), (80, 286)], 115) := by decide +kernel
theorem dX0_worked_124 : decode cX0_worked 124 = .ok (.iload 4, 2) := by decide +kernel
theorem dX0_worked_126 : decode cX0_worked 126 = .ok (.iload_n 2, 1) := by decide +kernel
theorem dX0_worked_127 : decode cX0_worked 127 = .ok (.iadd, 1) := by decide +kernel
theorem dX0_worked_128 : decode cX0_worked 128 = .ok (.ireturn, 1) := by decide +kernel
theorem dX0_worked_129 : decode cX0_worked 129 = .ok (.aload_n 0, 1) := by decide +kernel
theorem dX0_worked_130 : decode cX0_worked 130 = .ok (.iload_n 2, 1) := by decide +kernel
theorem dX0_worked_131 : decode cX0_worked 131 = .ok (.iload 6, 2) := by decide +kernel
theorem dX0_worked_133 : decode cX0_worked 133 = .ok (.iconst 0, 1) := by decide +kernel
theorem dX0_worked_134 : decode cX0_worked 134 = .ok (.iload 4, 2) := by decide +kernel
theorem dX0_worked_136 : decode cX0_worked 136 = .ok (.iload 5, 2) := by decide +kernel
theorem dX0_worked_138 : decode cX0_worked 138 = .ok (.invokevirtual 35, 3) := by decide +kernel
theorem dX0_worked_141 : decode cX0_worked 141 = .ok (.iconst 2, 1) := by decide +kernel
theorem dX0_worked_142 : decode cX0_worked 142 = .ok (.imul, 1) := by decide +kernel
theorem dX0_worked_143 : decode cX0_worked 143 = .ok (.ireturn, 1) := by decide +kernel
theorem dX0_worked_144 : decode cX0_worked 144 = .ok (.iload 4, 2) := by decide +kernel
theorem dX0_worked_146 : decode cX0_worked 146 = .ok (.iload_n 2, 1) := by decide +kernel
theorem dX0_worked_147 : decode cX0_worked 147 = .ok (.ixor, 1) := by decide +kernel
theorem dX0_worked_148 : decode cX0_worked 148 = .ok (.ireturn, 1) := by decide +kernel
theorem dX0_worked_149 : decode cX0_worked 149 = .ok (.aload_n 0, 1) := by decide +kernel
theorem dX0_worked_150 : decode cX0_worked 150 = .ok (.iload_n 2, 1) := by decide +kernel
theorem dX0_worked_151 : decode cX0_worked 151 = .ok (.iload 6, 2) := by decide +kernel
theorem dX0_worked_153 : decode cX0_worked 153 = .ok (.iconst 1, 1) := by decide +kernel
theorem dX0_worked_154 : decode cX0_worked 154 = .ok (.iload 4, 2) := by decide +kernel
theorem dX0_worked_156 : decode cX0_worked 156 = .ok (.iload 5, 2) := by decide +kernel
theorem dX0_worked_158 : decode cX0_worked 158 = .ok (.invokevirtual 35, 3) := by decide +kernel
theorem dX0_worked_161 : decode cX0_worked 161 = .ok (.aload_n 0, 1) := by decide +kernel
theorem dX0_worked_162 : decode cX0_worked 162 = .ok (.iload_n 2, 1) := by decide +kernel
theorem dX0_worked_163 : decode cX0_worked 163 = .ok (.iload 6, 2) := by decide +kernel
theorem dX0_worked_165 : decode cX0_worked 165 = .ok (.iconst 2, 1) := by decide +kernel
theorem dX0_worked_166 : decode cX0_worked 166 = .ok (.iconst 1, 1) := by decide +kernel
theorem dX0_worked_167 : decode cX0_worked 167 = .ok (.iload 5, 2) := by decide +kernel
theorem dX0_worked_169 : decode cX0_worked 169 = .ok (.invokevirtual 35, 3) := by decide +kernel
theorem dX0_worked_172 : decode cX0_worked 172 = .ok (.isub, 1) := by decide +kernel
theorem dX0_worked_173 : decode cX0_worked 173 = .ok (.ireturn, 1) := by decide +kernel
theorem dX0_worked_174 : decode cX0_worked 174 = .ok (.aload_n 0, 1) := by decide +kernel
theorem dX0_worked_175 : decode cX0_worked 175 = .ok (.iload_n 2, 1) := by decide +kernel
theorem dX0_worked_176 : decode cX0_worked 176 = .ok (.iload_n 3, 1) := by decide +kernel
theorem dX0_worked_177 : decode cX0_worked 177 = .ok (.iconst 0, 1) := by decide +kernel
theorem dX0_worked_178 : decode cX0_worked 178 = .ok (.iload 4, 2) := by decide +kernel
theorem dX0_worked_180 : decode cX0_worked 180 = .ok (.iload 5, 2) := by decide +kernel
theorem dX0_worked_182 : decode cX0_worked 182 = .ok (.invokevirtual 35, 3) := by decide +kernel
theorem dX0_worked_185 : decode cX0_worked 185 = .ok (.iconst 3, 1) := by decide +kernel
theorem dX0_worked_186 : decode cX0_worked 186 = .ok (.iadd, 1) := by decide +kernel
theorem dX0_worked_187 : decode cX0_worked 187 = .ok (.ireturn, 1) := by decide +kernel
theorem dX0_worked_188 : decode cX0_worked 188 = .ok (.aload_n 0, 1) := by decide +kernel
theorem dX0_worked_189 : decode cX0_worked 189 = .ok (.iload_n 2, 1) := by decide +kernel
theorem dX0_worked_190 : decode cX0_worked 190 = .ok (.iload_n 3, 1) := by decide +kernel
theorem dX0_worked_191 : decode cX0_worked 191 = .ok (.iconst 1, 1) := by decide +kernel
theorem dX0_worked_192 : decode cX0_worked 192 = .ok (.iload 4, 2) := by decide +kernel
theorem dX0_worked_194 : decode cX0_worked 194 = .ok (.iload 5, 2) := by decide +kernel
theorem dX0_worked_196 : decode cX0_worked 196 = .ok (.invokevirtual 35, 3) := by decide +kernel
theorem dX0_worked_199 : decode cX0_worked 199 = .ok (.ineg, 1) := by decide +kernel
theorem dX0_worked_200 : decode cX0_worked 200 = .ok (.ireturn, 1) := by decide +kernel
theorem dX0_worked_201 : decode cX0_worked 201 = .ok (.aload_n 0, 1) := by decide +kernel
theorem dX0_worked_202 : decode cX0_worked 202 = .ok (.iload_n 2, 1) := by decide +kernel
theorem dX0_worked_203 : decode cX0_worked 203 = .ok (.iload_n 3, 1) := by decide +kernel
theorem dX0_worked_204 : decode cX0_worked 204 = .ok (.iconst 2, 1) := by decide +kernel
theorem dX0_worked_205 : decode cX0_worked 205 = .ok (.iload 4, 2) := by decide +kernel
theorem dX0_worked_207 : decode cX0_worked 207 = .ok (.iload 5, 2) := by decide +kernel
theorem dX0_worked_209 : decode cX0_worked 209 = .ok (.invokevirtual 35, 3) := by decide +kernel
theorem dX0_worked_212 : decode cX0_worked 212 = .ok (.iconst 3, 1) := by decide +kernel
theorem dX0_worked_213 : decode cX0_worked 213 = .ok (.imul, 1) := by decide +kernel
theorem dX0_worked_214 : decode cX0_worked 214 = .ok (.ireturn, 1) := by decide +kernel
theorem dX0_worked_215 : decode cX0_worked 215 = .ok (.aload_n 0, 1) := by decide +kernel
theorem dX0_worked_216 : decode cX0_worked 216 = .ok (.iload_n 2, 1) := by decide +kernel
theorem dX0_worked_217 : decode cX0_worked 217 = .ok (.iload_n 3, 1) := by decide +kernel
theorem dX0_worked_218 : decode cX0_worked 218 = .ok (.iconst 1, 1) := by decide +kernel
theorem dX0_worked_219 : decode cX0_worked 219 = .ok (.iload 4, 2) := by decide +kernel
theorem dX0_worked_221 : decode cX0_worked 221 = .ok (.iconst 1, 1) := by decide +kernel
theorem dX0_worked_222 : decode cX0_worked 222 = .ok (.iadd, 1) := by decide +kernel
theorem dX0_worked_223 : decode cX0_worked 223 = .ok (.iload 5, 2) := by decide +kernel
theorem dX0_worked_225 : decode cX0_worked 225 = .ok (.invokevirtual 35, 3) := by decide +kernel
theorem dX0_worked_228 : decode cX0_worked 228 = .ok (.ireturn, 1) := by decide +kernel
theorem dX0_worked_229 : decode cX0_worked 229 = .ok (.aload_n 0, 1) := by decide +kernel
theorem dX0_worked_230 : decode cX0_worked 230 = .ok (.iload_n 2, 1) := by decide +kernel
theorem dX0_worked_231 : decode cX0_worked 231 = .ok (.iload_n 3, 1) := by decide +kernel
theorem dX0_worked_232 : decode cX0_worked 232 = .ok (.iconst 3, 1) := by decide +kernel
theorem dX0_worked_233 : decode cX0_worked 233 = .ok (.iload 4, 2) := by decide +kernel
theorem dX0_worked_235 : decode cX0_worked 235 = .ok (.iload 5, 2) := by decide +kernel
theorem dX0_worked_237 : decode cX0_worked 237 = .ok (.invokevirtual 35, 3) := by decide +kernel
theorem dX0_worked_240 : decode cX0_worked 240 = .ok (.iconst 5, 1) := by decide +kernel
theorem dX0_worked_241 : decode cX0_worked 241 = .ok (.ixor, 1) := by decide +kernel
theorem dX0_worked_242 : decode cX0_worked 242 = .ok (.ireturn, 1) := by decide +kernel
theorem dX0_worked_243 : decode cX0_worked 243 = .ok (.aload_n 0, 1) := by decide +kernel
theorem dX0_worked_244 : decode cX0_worked 244 = .ok (.iload_n 2, 1) := by decide +kernel
theorem dX0_worked_245 : decode cX0_worked 245 = .ok (.iload_n 3, 1) := by decide +kernel
theorem dX0_worked_246 : decode cX0_worked 246 = .ok (.iconst 2, 1) := by decide +kernel
theorem dX0_worked_247 : decode cX0_worked 247 = .ok (.iload 4, 2) := by decide +kernel
theorem dX0_worked_249 : decode cX0_worked 249 = .ok (.iload 5, 2) := by decide +kernel
theorem dX0_worked_251 : decode cX0_worked 251 = .ok (.invokevirtual 35, 3) := by decide +kernel
theorem dX0_worked_254 : decode cX0_worked 254 = .ok (.aload_n 0, 1) := by decide +kernel
theorem dX0_worked_255 : decode cX0_worked 255 = .ok (.iload_n 2, 1) := by decide +kernel
theorem dX0_worked_256 : decode cX0_worked 256 = .ok (.iload 6, 2) := by decide +kernel
theorem dX0_worked_258 : decode cX0_worked 258 = .ok (.iconst 0, 1) := by decide +kernel
theorem dX0_worked_259 : decode cX0_worked 259 = .ok (.iconst 2, 1) := by decide +kernel
theorem dX0_worked_260 : decode cX0_worked 260 = .ok (.iload 5, 2) := by decide +kernel
theorem dX0_worked_262 : decode cX0_worked 262 = .ok (.invokevirtual 35, 3) := by decide +kernel
theorem dX0_worked_265 : decode cX0_worked 265 = .ok (.isub, 1) := by decide +kernel
theorem dX0_worked_266 : decode cX0_worked 266 = .ok (.ireturn, 1) := by decide +kernel
theorem dX0_worked_267 : decode cX0_worked 267 = .ok (.aload_n 0, 1) := by decide +kernel
theorem dX0_worked_268 : decode cX0_worked 268 = .ok (.iload_n 2, 1) := by decide +kernel
theorem dX0_worked_269 : decode cX0_worked 269 = .ok (.iload_n 3, 1) := by decide +kernel
theorem dX0_worked_270 : decode cX0_worked 270 = .ok (.iconst 3, 1) := by decide +kernel
theorem dX0_worked_271 : decode cX0_worked 271 = .ok (.iload 4, 2) := by decide +kernel
theorem dX0_worked_273 : decode cX0_worked 273 = .ok (.iload 5, 2) := by decide +kernel
theorem dX0_worked_275 : decode cX0_worked 275 = .ok (.invokevirtual 35, 3) := by decide +kernel
theorem dX0_worked_278 : decode cX0_worked 278 = .ok (.iconst 1, 1) := by decide +kernel
theorem dX0_worked_279 : decode cX0_worked 279 = .ok (.iadd, 1) := by decide +kernel
theorem dX0_worked_280 : decode cX0_worked 280 = .ok (.ireturn, 1) := by decide +kernel
theorem dX0_worked_281 : decode cX0_worked 281 = .ok (.aload_n 0, 1) := by decide +kernel
theorem dX0_worked_282 : decode cX0_worked 282 = .ok (.iload_n 2, 1) := by decide +kernel
theorem dX0_worked_283 : decode cX0_worked 283 = .ok (.iload_n 3, 1) := by decide +kernel
theorem dX0_worked_284 : decode cX0_worked 284 = .ok (.iconst 0, 1) := by decide +kernel
theorem dX0_worked_285 : decode cX0_worked 285 = .ok (.iload 4, 2) := by decide +kernel
theorem dX0_worked_287 : decode cX0_worked 287 = .ok (.iload 5, 2) := by decide +kernel
theorem dX0_worked_289 : decode cX0_worked 289 = .ok (.invokevirtual 35, 3) := by decide +kernel
theorem dX0_worked_292 : decode cX0_worked 292 = .ok (.iconst 2, 1) := by decide +kernel
theorem dX0_worked_293 : decode cX0_worked 293 = .ok (.imul, 1) := by decide +kernel
theorem dX0_worked_294 : decode cX0_worked 294 = .ok (.ireturn, 1) := by decide +kernel
theorem dX0_worked_295 : decode cX0_worked 295 = .ok (.aload_n 0, 1) := by decide +kernel
theorem dX0_worked_296 : decode cX0_worked 296 = .ok (.iload_n 2, 1) := by decide +kernel
theorem dX0_worked_297 : decode cX0_worked 297 = .ok (.iload_n 3, 1) := by decide +kernel
theorem dX0_worked_298 : decode cX0_worked 298 = .ok (.iconst 1, 1) := by decide +kernel
theorem dX0_worked_299 : decode cX0_worked 299 = .ok (.iload 4, 2) := by decide +kernel
theorem dX0_worked_301 : decode cX0_worked 301 = .ok (.iload 5, 2) := by decide +kernel
theorem dX0_worked_303 : decode cX0_worked 303 = .ok (.invokevirtual 35, 3) := by decide +kernel
theorem dX0_worked_306 : decode cX0_worked 306 = .ok (.aload_n 0, 1) := by decide +kernel
theorem dX0_worked_307 : decode cX0_worked 307 = .ok (.iload_n 2, 1) := by decide +kernel
theorem dX0_worked_308 : decode cX0_worked 308 = .ok (.iload 6, 2) := by decide +kernel
theorem dX0_worked_310 : decode cX0_worked 310 = .ok (.iconst 2, 1) := by decide +kernel
theorem dX0_worked_311 : decode cX0_worked 311 = .ok (.iconst 2, 1) := by decide +kernel
theorem dX0_worked_312 : decode cX0_worked 312 = .ok (.iload 5, 2) := by decide +kernel
theorem dX0_worked_314 : decode cX0_worked 314 = .ok (.invokevirtual 35, 3) := by decide +kernel
theorem dX0_worked_317 : decode cX0_worked 317 = .ok (.iadd, 1) := by decide +kernel
theorem dX0_worked_318 : decode cX0_worked 318 = .ok (.ireturn, 1) := by decide +kernel
theorem dX0_worked_319 : decode cX0_worked 319 = .ok (.aload_n 0, 1) := by decide +kernel
theorem dX0_worked_320 : decode cX0_worked 320 = .ok (.iload_n 2, 1) := by decide +kernel
theorem dX0_worked_321 : decode cX0_worked 321 = .ok (.iload_n 3, 1) := by decide +kernel
theorem dX0_worked_322 : decode cX0_worked 322 = .ok (.iconst 0, 1) := by decide +kernel
theorem dX0_worked_323 : decode cX0_worked 323 = .ok (.iload 4, 2) := by decide +kernel
theorem dX0_worked_325 : decode cX0_worked 325 = .ok (.iload 5, 2) := by decide +kernel
theorem dX0_worked_327 : decode cX0_worked 327 = .ok (.invokevirtual 35, 3) := by decide +kernel
theorem dX0_worked_330 : decode cX0_worked 330 = .ok (.iconst 1, 1) := by decide +kernel
theorem dX0_worked_331 : decode cX0_worked 331 = .ok (.isub, 1) := by decide +kernel
theorem dX0_worked_332 : decode cX0_worked 332 = .ok (.ireturn, 1) := by decide +kernel
theorem dX1_init_0 : decode cX1_init 0 = .ok (.aload_n 0, 1) := by decide +kernel
theorem dX1_init_1 : decode cX1_init 1 = .ok (.invokespecial 3, 3) := by decide +kernel
theorem dX1_init_4 : decode cX1_init 4 = .ok (.aload_n 0, 1) := by decide +kernel
theorem dX1_init_5 : decode cX1_init 5 = .ok (.bipush 40, 2) := by decide +kernel
theorem dX1_init_7 : decode cX1_init 7 = .ok (.newarray .int, 2) := by decide +kernel
theorem dX1_init_9 : decode cX1_init 9 = .ok (.putfield 9, 3) := by decide +kernel
theorem dX1_init_12 : decode cX1_init 12 = .ok (.aload_n 0, 1) := by decide +kernel
theorem dX1_init_13 : decode cX1_init 13 = .ok (.bipush 40, 2) := by decide +kernel
theorem dX1_init_15 : decode cX1_init 15 = .ok (.newarray .int, 2) := by decide +kernel
theorem dX1_init_17 : decode cX1_init 17 = .ok (.putfield 15, 3) := by decide +kernel
theorem dX1_init_20 : decode cX1_init 20 = .ok (.aload_n 0, 1) := by decide +kernel
theorem dX1_init_21 : decode cX1_init 21 = .ok (.bipush 40, 2) := by decide +kernel
theorem dX1_init_23 : decode cX1_init 23 = .ok (.newarray .int, 2) := by decide +kernel
theorem dX1_init_25 : decode cX1_init 25 = .ok (.putfield 18, 3) := by decide +kernel
theorem dX1_init_28 : decode cX1_init 28 = .ok (.aload_n 0, 1) := by decide +kernel
theorem dX1_init_29 : decode cX1_init 29 = .ok (.bipush 40, 2) := by decide +kernel
theorem dX1_init_31 : decode cX1_init 31 = .ok (.newarray .int, 2) := by decide +kernel
theorem dX1_init_33 : decode cX1_init 33 = .ok (.putfield 21, 3) := by decide +kernel
theorem dX1_init_36 : decode cX1_init 36 = .ok (.return_, 1) := by decide +kernel
theorem dX1_keepNew_0 : decode cX1_keepNew 0 = .ok (.aload_n 0, 1) := by decide +kernel
theorem dX1_keepNew_1 : decode cX1_keepNew 1 = .ok (.getfield 24, 3) := by decide +kernel
theorem dX1_keepNew_4 : decode cX1_keepNew 4 = .ok (.bipush 40, 2) := by decide +kernel
theorem dX1_keepNew_6 : decode cX1_keepNew 6 = .ok (.if_icmp .lt 7, 3) := by decide +kernel
theorem dX1_keepNew_9 : decode cX1_keepNew 9 = .ok (.aload_n 0, 1) := by decide +kernel
theorem dX1_keepNew_10 : decode cX1_keepNew 10 = .ok (.invokevirtual 28, 3) := by decide +kernel
theorem dX1_keepNew_13 : decode cX1_keepNew 13 = .ok (.aload_n 0, 1) := by decide +kernel
theorem dX1_keepNew_14 : decode cX1_keepNew 14 = .ok (.getfield 9, 3) := by decide +kernel
theorem dX1_keepNew_17 : decode cX1_keepNew 17 = .ok (.aload_n 0, 1) := by decide +kernel
theorem dX1_keepNew_18 : decode cX1_keepNew 18 = .ok (.getfield 24, 3) := by decide +kernel
theorem dX1_keepNew_21 : decode cX1_keepNew 21 = .ok (.iload_n 1, 1) := by decide +kernel
theorem dX1_keepNew_22 : decode cX1_keepNew 22 = .ok (.iastore, 1) := by decide +kernel
theorem dX1_keepNew_23 : decode cX1_keepNew 23 = .ok (.aload_n 0, 1) := by decide +kernel
theorem dX1_keepNew_24 : decode cX1_keepNew 24 = .ok (.getfield 15, 3) := by decide +kernel
theorem dX1_keepNew_27 : decode cX1_keepNew 27 = .ok (.aload_n 0, 1) := by decide +kernel
theorem dX1_keepNew_28 : decode cX1_keepNew 28 = .ok (.getfield 24, 3) := by decide +kernel
theorem dX1_keepNew_31 : decode cX1_keepNew 31 = .ok (.iload_n 2, 1) := by decide +kernel
theorem dX1_keepNew_32 : decode cX1_keepNew 32 = .ok (.iastore, 1) := by decide +kernel
theorem dX1_keepNew_33 : decode cX1_keepNew 33 = .ok (.aload_n 0, 1) := by decide +kernel
theorem dX1_keepNew_34 : decode cX1_keepNew 34 = .ok (.getfield 18, 3) := by decide +kernel
theorem dX1_keepNew_37 : decode cX1_keepNew 37 = .ok (.aload_n 0, 1) := by decide +kernel
theorem dX1_keepNew_38 : decode cX1_keepNew 38 = .ok (.getfield 24, 3) := by decide +kernel
theorem dX1_keepNew_41 : decode cX1_keepNew 41 = .ok (.iload_n 3, 1) := by decide +kernel
theorem dX1_keepNew_42 : decode cX1_keepNew 42 = .ok (.iastore, 1) := by decide +kernel
theorem dX1_keepNew_43 : decode cX1_keepNew 43 = .ok (.aload_n 0, 1) := by decide +kernel
theorem dX1_keepNew_44 : decode cX1_keepNew 44 = .ok (.getfield 21, 3) := by decide +kernel
theorem dX1_keepNew_47 : decode cX1_keepNew 47 = .ok (.aload_n 0, 1) := by decide +kernel
theorem dX1_keepNew_48 : decode cX1_keepNew 48 = .ok (.getfield 24, 3) := by decide +kernel
theorem dX1_keepNew_51 : decode cX1_keepNew 51 = .ok (.iload 4, 2) := by decide +kernel
theorem dX1_keepNew_53 : decode cX1_keepNew 53 = .ok (.iastore, 1) := by decide +kernel
theorem dX1_keepNew_54 : decode cX1_keepNew 54 = .ok (.aload_n 0, 1) := by decide +kernel
theorem dX1_keepNew_55 : decode cX1_keepNew 55 = .ok (.dup, 1) := by decide +kernel
theorem dX1_keepNew_56 : decode cX1_keepNew 56 = .ok (.getfield 24, 3) := by decide +kernel
theorem dX1_keepNew_59 : decode cX1_keepNew 59 = .ok (.iconst 1, 1) := by decide +kernel
theorem dX1_keepNew_60 : decode cX1_keepNew 60 = .ok (.iadd, 1) := by decide +kernel
theorem dX1_keepNew_61 : decode cX1_keepNew 61 = .ok (.putfield 24, 3) := by decide +kernel
theorem dX1_keepNew_64 : decode cX1_keepNew 64 = .ok (.aload_n 0, 1) := by decide +kernel
theorem dX1_keepNew_65 : decode cX1_keepNew 65 = .ok (.aload_n 0, 1) := by decide +kernel
theorem dX1_keepNew_66 : decode cX1_keepNew 66 = .ok (.getfield 24, 3) := by decide +kernel
theorem dX1_keepNew_69 : decode cX1_keepNew 69 = .ok (.putfield 31, 3) := by decide +kernel
theorem dX1_keepNew_72 : decode cX1_keepNew 72 = .ok (.return_, 1) := by decide +kernel
theorem dX1_dropOldest_0 : decode cX1_dropOldest 0 = .ok (.aload_n 0, 1) := by decide +kernel
theorem dX1_dropOldest_1 : decode cX1_dropOldest 1 = .ok (.getfield 9, 3) := by decide +kernel
theorem dX1_dropOldest_4 : decode cX1_dropOldest 4 = .ok (.iconst 1, 1) := by decide +kernel
theorem dX1_dropOldest_5 : decode cX1_dropOldest 5 = .ok (.aload_n 0, 1) := by decide +kernel
theorem dX1_dropOldest_6 : decode cX1_dropOldest 6 = .ok (.getfield 9, 3) := by decide +kernel
theorem dX1_dropOldest_9 : decode cX1_dropOldest 9 = .ok (.iconst 0, 1) := by decide +kernel
theorem dX1_dropOldest_10 : decode cX1_dropOldest 10 = .ok (.bipush 39, 2) := by decide +kernel
theorem dX1_dropOldest_12 : decode cX1_dropOldest 12 = .ok (.invokestatic 34, 3) := by decide +kernel
theorem dX1_dropOldest_15 : decode cX1_dropOldest 15 = .ok (.aload_n 0, 1) := by decide +kernel
theorem dX1_dropOldest_16 : decode cX1_dropOldest 16 = .ok (.getfield 15, 3) := by decide +kernel
theorem dX1_dropOldest_19 : decode cX1_dropOldest 19 = .ok (.iconst 1, 1) := by decide +kernel
theorem dX1_dropOldest_20 : decode cX1_dropOldest 20 = .ok (.aload_n 0, 1) := by decide +kernel
theorem dX1_dropOldest_21 : decode cX1_dropOldest 21 = .ok (.getfield 15, 3) := by decide +kernel
theorem dX1_dropOldest_24 : decode cX1_dropOldest 24 = .ok (.iconst 0, 1) := by decide +kernel
theorem dX1_dropOldest_25 : decode cX1_dropOldest 25 = .ok (.bipush 39, 2) := by decide +kernel
theorem dX1_dropOldest_27 : decode cX1_dropOldest 27 = .ok (.invokestatic 34, 3) := by decide +kernel
theorem dX1_dropOldest_30 : decode cX1_dropOldest 30 = .ok (.aload_n 0, 1) := by decide +kernel
theorem dX1_dropOldest_31 : decode cX1_dropOldest 31 = .ok (.getfield 18, 3) := by decide +kernel
theorem dX1_dropOldest_34 : decode cX1_dropOldest 34 = .ok (.iconst 1, 1) := by decide +kernel
theorem dX1_dropOldest_35 : decode cX1_dropOldest 35 = .ok (.aload_n 0, 1) := by decide +kernel
theorem dX1_dropOldest_36 : decode cX1_dropOldest 36 = .ok (.getfield 18, 3) := by decide +kernel
theorem dX1_dropOldest_39 : decode cX1_dropOldest 39 = .ok (.iconst 0, 1) := by decide +kernel
theorem dX1_dropOldest_40 : decode cX1_dropOldest 40 = .ok (.bipush 39, 2) := by decide +kernel
theorem dX1_dropOldest_42 : decode cX1_dropOldest 42 = .ok (.invokestatic 34, 3) := by decide +kernel
theorem dX1_dropOldest_45 : decode cX1_dropOldest 45 = .ok (.aload_n 0, 1) := by decide +kernel
theorem dX1_dropOldest_46 : decode cX1_dropOldest 46 = .ok (.getfield 21, 3) := by decide +kernel
theorem dX1_dropOldest_49 : decode cX1_dropOldest 49 = .ok (.iconst 1, 1) := by decide +kernel
theorem dX1_dropOldest_50 : decode cX1_dropOldest 50 = .ok (.aload_n 0, 1) := by decide +kernel
theorem dX1_dropOldest_51 : decode cX1_dropOldest 51 = .ok (.getfield 21, 3) := by decide +kernel
theorem dX1_dropOldest_54 : decode cX1_dropOldest 54 = .ok (.iconst 0, 1) := by decide +kernel
theorem dX1_dropOldest_55 : decode cX1_dropOldest 55 = .ok (.bipush 39, 2) := by decide +kernel
theorem dX1_dropOldest_57 : decode cX1_dropOldest 57 = .ok (.invokestatic 34, 3) := by decide +kernel
theorem dX1_dropOldest_60 : decode cX1_dropOldest 60 = .ok (.aload_n 0, 1) := by decide +kernel
theorem dX1_dropOldest_61 : decode cX1_dropOldest 61 = .ok (.bipush 39, 2) := by decide +kernel
theorem dX1_dropOldest_63 : decode cX1_dropOldest 63 = .ok (.putfield 24, 3) := by decide +kernel
theorem dX1_dropOldest_66 : decode cX1_dropOldest 66 = .ok (.return_, 1) := by decide +kernel
theorem dX2_init_0 : decode cX2_init 0 = .ok (.aload_n 0, 1) := by decide +kernel
theorem dX2_init_1 : decode cX2_init 1 = .ok (.invokespecial 5, 3) := by decide +kernel
theorem dX2_init_4 : decode cX2_init 4 = .ok (.aload_n 0, 1) := by decide +kernel
theorem dX2_init_5 : decode cX2_init 5 = .ok (.sipush 820, 3) := by decide +kernel
theorem dX2_init_8 : decode cX2_init 8 = .ok (.newarray .long, 2) := by decide +kernel
theorem dX2_init_10 : decode cX2_init 10 = .ok (.putfield 11, 3) := by decide +kernel
theorem dX2_init_13 : decode cX2_init 13 = .ok (.aload_n 0, 1) := by decide +kernel
theorem dX2_init_14 : decode cX2_init 14 = .ok (.bipush 13, 2) := by decide +kernel
theorem dX2_init_16 : decode cX2_init 16 = .ok (.newarray .int, 2) := by decide +kernel
theorem dX2_init_18 : decode cX2_init 18 = .ok (.putfield 15, 3) := by decide +kernel
theorem dX2_init_21 : decode cX2_init 21 = .ok (.aload_n 0, 1) := by decide +kernel
theorem dX2_init_22 : decode cX2_init 22 = .ok (.bipush 13, 2) := by decide +kernel
theorem dX2_init_24 : decode cX2_init 24 = .ok (.newarray .int, 2) := by decide +kernel
theorem dX2_init_26 : decode cX2_init 26 = .ok (.putfield 19, 3) := by decide +kernel
theorem dX2_init_29 : decode cX2_init 29 = .ok (.aload_n 0, 1) := by decide +kernel
theorem dX2_init_30 : decode cX2_init 30 = .ok (.sipush 130, 3) := by decide +kernel
theorem dX2_init_33 : decode cX2_init 33 = .ok (.newarray .int, 2) := by decide +kernel
theorem dX2_init_35 : decode cX2_init 35 = .ok (.putfield 22, 3) := by decide +kernel
theorem dX2_init_38 : decode cX2_init 38 = .ok (.aload_n 0, 1) := by decide +kernel
theorem dX2_init_39 : decode cX2_init 39 = .ok (.sipush 130, 3) := by decide +kernel
theorem dX2_init_42 : decode cX2_init 42 = .ok (.newarray .int, 2) := by decide +kernel
theorem dX2_init_44 : decode cX2_init 44 = .ok (.putfield 25, 3) := by decide +kernel
theorem dX2_init_47 : decode cX2_init 47 = .ok (.return_, 1) := by decide +kernel
theorem dX2_workOut_0 : decode cX2_workOut 0 = .ok (.aload_n 0, 1) := by decide +kernel
theorem dX2_workOut_1 : decode cX2_workOut 1 = .ok (.aload_n 1, 1) := by decide +kernel
theorem dX2_workOut_2 : decode cX2_workOut 2 = .ok (.getfield 28, 3) := by decide +kernel
theorem dX2_workOut_5 : decode cX2_workOut 5 = .ok (.getfield 34, 3) := by decide +kernel
theorem dX2_workOut_8 : decode cX2_workOut 8 = .ok (.putfield 40, 3) := by decide +kernel
theorem dX2_workOut_11 : decode cX2_workOut 11 = .ok (.aload_n 0, 1) := by decide +kernel
theorem dX2_workOut_12 : decode cX2_workOut 12 = .ok (.aload_n 1, 1) := by decide +kernel
theorem dX2_workOut_13 : decode cX2_workOut 13 = .ok (.getfield 28, 3) := by decide +kernel
theorem dX2_workOut_16 : decode cX2_workOut 16 = .ok (.invokevirtual 41, 3) := by decide +kernel
theorem dX2_workOut_19 : decode cX2_workOut 19 = .ok (.putfield 45, 3) := by decide +kernel
theorem dX2_workOut_22 : decode cX2_workOut 22 = .ok (.aload_n 0, 1) := by decide +kernel
theorem dX2_workOut_23 : decode cX2_workOut 23 = .ok (.getfield 11, 3) := by decide +kernel
theorem dX2_workOut_26 : decode cX2_workOut 26 = .ok (.lconst 0, 1) := by decide +kernel
theorem dX2_workOut_27 : decode cX2_workOut 27 = .ok (.invokestatic 48, 3) := by decide +kernel
theorem dX2_workOut_30 : decode cX2_workOut 30 = .ok (.aload_n 0, 1) := by decide +kernel
theorem dX2_workOut_31 : decode cX2_workOut 31 = .ok (.getfield 45, 3) := by decide +kernel
theorem dX2_workOut_34 : decode cX2_workOut 34 = .ok (.bipush 81, 2) := by decide +kernel
theorem dX2_workOut_36 : decode cX2_workOut 36 = .ok (.if_icmp .le 4, 3) := by decide +kernel
theorem dX2_workOut_39 : decode cX2_workOut 39 = .ok (.return_, 1) := by decide +kernel
theorem dX2_workOut_40 : decode cX2_workOut 40 = .ok (.aload_n 0, 1) := by decide +kernel
theorem dX2_workOut_41 : decode cX2_workOut 41 = .ok (.getfield 19, 3) := by decide +kernel
theorem dX2_workOut_44 : decode cX2_workOut 44 = .ok (.iconst 0, 1) := by decide +kernel
theorem dX2_workOut_45 : decode cX2_workOut 45 = .ok (.invokestatic 54, 3) := by decide +kernel
theorem dX2_workOut_48 : decode cX2_workOut 48 = .ok (.aload_n 0, 1) := by decide +kernel
theorem dX2_workOut_49 : decode cX2_workOut 49 = .ok (.getfield 22, 3) := by decide +kernel
theorem dX2_workOut_52 : decode cX2_workOut 52 = .ok (.iconst 0, 1) := by decide +kernel
theorem dX2_workOut_53 : decode cX2_workOut 53 = .ok (.invokestatic 54, 3) := by decide +kernel
theorem dX2_workOut_56 : decode cX2_workOut 56 = .ok (.aload_n 0, 1) := by decide +kernel
theorem dX2_workOut_57 : decode cX2_workOut 57 = .ok (.getfield 25, 3) := by decide +kernel
theorem dX2_workOut_60 : decode cX2_workOut 60 = .ok (.iconst 0, 1) := by decide +kernel
theorem dX2_workOut_61 : decode cX2_workOut 61 = .ok (.invokestatic 54, 3) := by decide +kernel
theorem dX2_workOut_64 : decode cX2_workOut 64 = .ok (.iconst 0, 1) := by decide +kernel
theorem dX2_workOut_65 : decode cX2_workOut 65 = .ok (.istore 4, 2) := by decide +kernel
theorem dX2_workOut_67 : decode cX2_workOut 67 = .ok (.iload 4, 2) := by decide +kernel
theorem dX2_workOut_69 : decode cX2_workOut 69 = .ok (.aload_n 0, 1) := by decide +kernel
theorem dX2_workOut_70 : decode cX2_workOut 70 = .ok (.getfield 40, 3) := by decide +kernel
theorem dX2_workOut_73 : decode cX2_workOut 73 = .ok (.if_icmp .gt 55, 3) := by decide +kernel
theorem dX2_workOut_76 : decode cX2_workOut 76 = .ok (.aload_n 0, 1) := by decide +kernel
theorem dX2_workOut_77 : decode cX2_workOut 77 = .ok (.getfield 15, 3) := by decide +kernel
theorem dX2_workOut_80 : decode cX2_workOut 80 = .ok (.iload 4, 2) := by decide +kernel
theorem dX2_workOut_82 : decode cX2_workOut 82 = .ok (.iload 4, 2) := by decide +kernel
theorem dX2_workOut_84 : decode cX2_workOut 84 = .ok (.ifCond .ne 7, 3) := by decide +kernel
theorem dX2_workOut_87 : decode cX2_workOut 87 = .ok (.iconst 0, 1) := by decide +kernel
theorem dX2_workOut_88 : decode cX2_workOut 88 = .ok (.goto 25, 3) := by decide +kernel
theorem dX2_workOut_91 : decode cX2_workOut 91 = .ok (.aload_n 0, 1) := by decide +kernel
theorem dX2_workOut_92 : decode cX2_workOut 92 = .ok (.getfield 15, 3) := by decide +kernel
theorem dX2_workOut_95 : decode cX2_workOut 95 = .ok (.iload 4, 2) := by decide +kernel
theorem dX2_workOut_97 : decode cX2_workOut 97 = .ok (.iconst 1, 1) := by decide +kernel
theorem dX2_workOut_98 : decode cX2_workOut 98 = .ok (.isub, 1) := by decide +kernel
theorem dX2_workOut_99 : decode cX2_workOut 99 = .ok (.iaload, 1) := by decide +kernel
theorem dX2_workOut_100 : decode cX2_workOut 100 = .ok (.aload_n 1, 1) := by decide +kernel
theorem dX2_workOut_101 : decode cX2_workOut 101 = .ok (.getfield 28, 3) := by decide +kernel
theorem dX2_workOut_104 : decode cX2_workOut 104 = .ok (.getfield 57, 3) := by decide +kernel
theorem dX2_workOut_107 : decode cX2_workOut 107 = .ok (.iload 4, 2) := by decide +kernel
theorem dX2_workOut_109 : decode cX2_workOut 109 = .ok (.iconst 1, 1) := by decide +kernel
theorem dX2_workOut_110 : decode cX2_workOut 110 = .ok (.isub, 1) := by decide +kernel
theorem dX2_workOut_111 : decode cX2_workOut 111 = .ok (.iaload, 1) := by decide +kernel
theorem dX2_workOut_112 : decode cX2_workOut 112 = .ok (.iadd, 1) := by decide +kernel
theorem dX2_workOut_113 : decode cX2_workOut 113 = .ok (.iastore, 1) := by decide +kernel
theorem dX2_workOut_114 : decode cX2_workOut 114 = .ok (.aload_n 0, 1) := by decide +kernel
theorem dX2_workOut_115 : decode cX2_workOut 115 = .ok (.aload_n 1, 1) := by decide +kernel
theorem dX2_workOut_116 : decode cX2_workOut 116 = .ok (.iload 4, 2) := by decide +kernel
theorem dX2_workOut_118 : decode cX2_workOut 118 = .ok (.iload_n 3, 1) := by decide +kernel
theorem dX2_workOut_119 : decode cX2_workOut 119 = .ok (.invokevirtual 60, 3) := by decide +kernel
theorem dX2_workOut_122 : decode cX2_workOut 122 = .ok (.iinc 4 1, 3) := by decide +kernel
theorem dX2_workOut_125 : decode cX2_workOut 125 = .ok (.goto (-58), 3) := by decide +kernel
theorem dX2_workOut_128 : decode cX2_workOut 128 = .ok (.aload_n 0, 1) := by decide +kernel
theorem dX2_workOut_129 : decode cX2_workOut 129 = .ok (.getfield 11, 3) := by decide +kernel
theorem dX2_workOut_132 : decode cX2_workOut 132 = .ok (.aload_n 0, 1) := by decide +kernel
theorem dX2_workOut_133 : decode cX2_workOut 133 = .ok (.getfield 45, 3) := by decide +kernel
theorem dX2_workOut_136 : decode cX2_workOut 136 = .ok (.lconst 1, 1) := by decide +kernel
theorem dX2_workOut_137 : decode cX2_workOut 137 = .ok (.lastore, 1) := by decide +kernel
theorem dX2_workOut_138 : decode cX2_workOut 138 = .ok (.iconst 1, 1) := by decide +kernel
theorem dX2_workOut_139 : decode cX2_workOut 139 = .ok (.istore 4, 2) := by decide +kernel
theorem dX2_workOut_141 : decode cX2_workOut 141 = .ok (.iload 4, 2) := by decide +kernel
theorem dX2_workOut_143 : decode cX2_workOut 143 = .ok (.iload_n 2, 1) := by decide +kernel
theorem dX2_workOut_144 : decode cX2_workOut 144 = .ok (.if_icmp .gt 22, 3) := by decide +kernel
theorem dX2_workOut_147 : decode cX2_workOut 147 = .ok (.iload 4, 2) := by decide +kernel
theorem dX2_workOut_149 : decode cX2_workOut 149 = .ok (.bipush 9, 2) := by decide +kernel
theorem dX2_workOut_151 : decode cX2_workOut 151 = .ok (.if_icmp .gt 15, 3) := by decide +kernel
theorem dX2_workOut_154 : decode cX2_workOut 154 = .ok (.aload_n 0, 1) := by decide +kernel
theorem dX2_workOut_155 : decode cX2_workOut 155 = .ok (.iload 4, 2) := by decide +kernel
theorem dX2_workOut_157 : decode cX2_workOut 157 = .ok (.invokevirtual 64, 3) := by decide +kernel
theorem dX2_workOut_160 : decode cX2_workOut 160 = .ok (.iinc 4 1, 3) := by decide +kernel
theorem dX2_workOut_163 : decode cX2_workOut 163 = .ok (.goto (-22), 3) := by decide +kernel
theorem dX2_workOut_166 : decode cX2_workOut 166 = .ok (.return_, 1) := by decide +kernel
theorem dX2_fromBare_0 : decode cX2_fromBare 0 = .ok (.aload_n 0, 1) := by decide +kernel
theorem dX2_fromBare_1 : decode cX2_fromBare 1 = .ok (.iconst 0, 1) := by decide +kernel
theorem dX2_fromBare_2 : decode cX2_fromBare 2 = .ok (.iload_n 1, 1) := by decide +kernel
theorem dX2_fromBare_3 : decode cX2_fromBare 3 = .ok (.invokevirtual 68, 3) := by decide +kernel
theorem dX2_fromBare_6 : decode cX2_fromBare 6 = .ok (.lreturn, 1) := by decide +kernel
theorem dX2_firstLooking_0 : decode cX2_firstLooking 0 = .ok (.iconst 0, 1) := by decide +kernel
theorem dX2_firstLooking_1 : decode cX2_firstLooking 1 = .ok (.istore 4, 2) := by decide +kernel
theorem dX2_firstLooking_3 : decode cX2_firstLooking 3 = .ok (.iload 4, 2) := by decide +kernel
theorem dX2_firstLooking_5 : decode cX2_firstLooking 5 = .ok (.bipush 60, 2) := by decide +kernel
theorem dX2_firstLooking_7 : decode cX2_firstLooking 7 = .ok (.if_icmp .ge 30, 3) := by decide +kernel
theorem dX2_firstLooking_10 : decode cX2_firstLooking 10 = .ok (.aload_n 0, 1) := by decide +kernel
theorem dX2_firstLooking_11 : decode cX2_firstLooking 11 = .ok (.aload_n 0, 1) := by decide +kernel
theorem dX2_firstLooking_12 : decode cX2_firstLooking 12 = .ok (.aload_n 1, 1) := by decide +kernel
theorem dX2_firstLooking_13 : decode cX2_firstLooking 13 = .ok (.iload_n 2, 1) := by decide +kernel
theorem dX2_firstLooking_14 : decode cX2_firstLooking 14 = .ok (.iload 4, 2) := by decide +kernel
theorem dX2_firstLooking_16 : decode cX2_firstLooking 16 = .ok (.invokevirtual 72, 3) := by decide +kernel
theorem dX2_firstLooking_19 : decode cX2_firstLooking 19 = .ok (.iload_n 3, 1) := by decide +kernel
theorem dX2_firstLooking_20 : decode cX2_firstLooking 20 = .ok (.invokevirtual 68, 3) := by decide +kernel
theorem dX2_firstLooking_23 : decode cX2_firstLooking 23 = .ok (.lconst 0, 1) := by decide +kernel
theorem dX2_firstLooking_24 : decode cX2_firstLooking 24 = .ok (.lcmp, 1) := by decide +kernel
theorem dX2_firstLooking_25 : decode cX2_firstLooking 25 = .ok (.ifCond .le 6, 3) := by decide +kernel
theorem dX2_firstLooking_28 : decode cX2_firstLooking 28 = .ok (.iload 4, 2) := by decide +kernel
theorem dX2_firstLooking_30 : decode cX2_firstLooking 30 = .ok (.ireturn, 1) := by decide +kernel
theorem dX2_firstLooking_31 : decode cX2_firstLooking 31 = .ok (.iinc 4 1, 3) := by decide +kernel
theorem dX2_firstLooking_34 : decode cX2_firstLooking 34 = .ok (.goto (-31), 3) := by decide +kernel
theorem dX2_firstLooking_37 : decode cX2_firstLooking 37 = .ok (.bipush (-2), 2) := by decide +kernel
theorem dX2_firstLooking_39 : decode cX2_firstLooking 39 = .ok (.ireturn, 1) := by decide +kernel
theorem dX2_placeBehind_0 : decode cX2_placeBehind 0 = .ok (.aload_n 0, 1) := by decide +kernel
theorem dX2_placeBehind_1 : decode cX2_placeBehind 1 = .ok (.iload_n 2, 1) := by decide +kernel
theorem dX2_placeBehind_2 : decode cX2_placeBehind 2 = .ok (.invokevirtual 76, 3) := by decide +kernel
theorem dX2_placeBehind_5 : decode cX2_placeBehind 5 = .ok (.istore 4, 2) := by decide +kernel
theorem dX2_placeBehind_7 : decode cX2_placeBehind 7 = .ok (.iload_n 3, 1) := by decide +kernel
theorem dX2_placeBehind_8 : decode cX2_placeBehind 8 = .ok (.bipush 10, 2) := by decide +kernel
theorem dX2_placeBehind_10 : decode cX2_placeBehind 10 = .ok (.idiv, 1) := by decide +kernel
theorem dX2_placeBehind_11 : decode cX2_placeBehind 11 = .ok (.istore 5, 2) := by decide +kernel
theorem dX2_placeBehind_13 : decode cX2_placeBehind 13 = .ok (.aload_n 1, 1) := by decide +kernel
theorem dX2_placeBehind_14 : decode cX2_placeBehind 14 = .ok (.iload 4, 2) := by decide +kernel
theorem dX2_placeBehind_16 : decode cX2_placeBehind 16 = .ok (.iload 5, 2) := by decide +kernel
theorem dX2_placeBehind_18 : decode cX2_placeBehind 18 = .ok (.iload_n 3, 1) := by decide +kernel
theorem dX2_placeBehind_19 : decode cX2_placeBehind 19 = .ok (.bipush 10, 2) := by decide +kernel
theorem dX2_placeBehind_21 : decode cX2_placeBehind 21 = .ok (.irem, 1) := by decide +kernel
theorem dX2_placeBehind_22 : decode cX2_placeBehind 22 = .ok (.invokevirtual 80, 3) := by decide +kernel
theorem dX2_placeBehind_25 : decode cX2_placeBehind 25 = .ok (.istore 6, 2) := by decide +kernel
theorem dX2_placeBehind_27 : decode cX2_placeBehind 27 = .ok (.iload 6, 2) := by decide +kernel
theorem dX2_placeBehind_29 : decode cX2_placeBehind 29 = .ok (.ifCond .ne 5, 3) := by decide +kernel
theorem dX2_placeBehind_32 : decode cX2_placeBehind 32 = .ok (.iload_n 2, 1) := by decide +kernel
theorem dX2_placeBehind_33 : decode cX2_placeBehind 33 = .ok (.ireturn, 1) := by decide +kernel
theorem dX2_placeBehind_34 : decode cX2_placeBehind 34 = .ok (.aload_n 1, 1) := by decide +kernel
theorem dX2_placeBehind_35 : decode cX2_placeBehind 35 = .ok (.getfield 28, 3) := by decide +kernel
theorem dX2_placeBehind_38 : decode cX2_placeBehind 38 = .ok (.iload 4, 2) := by decide +kernel
theorem dX2_placeBehind_40 : decode cX2_placeBehind 40 = .ok (.iconst 1, 1) := by decide +kernel
theorem dX2_placeBehind_41 : decode cX2_placeBehind 41 = .ok (.isub, 1) := by decide +kernel
theorem dX2_placeBehind_42 : decode cX2_placeBehind 42 = .ok (.iconst 0, 1) := by decide +kernel
theorem dX2_placeBehind_43 : decode cX2_placeBehind 43 = .ok (.invokevirtual 84, 3) := by decide +kernel
theorem dX2_placeBehind_46 : decode cX2_placeBehind 46 = .ok (.iload 5, 2) := by decide +kernel
theorem dX2_placeBehind_48 : decode cX2_placeBehind 48 = .ok (.if_icmp .ne 27, 3) := by decide +kernel
theorem dX2_placeBehind_51 : decode cX2_placeBehind 51 = .ok (.iload_n 2, 1) := by decide +kernel
theorem dX2_placeBehind_52 : decode cX2_placeBehind 52 = .ok (.iload 6, 2) := by decide +kernel
theorem dX2_placeBehind_54 : decode cX2_placeBehind 54 = .ok (.iadd, 1) := by decide +kernel
theorem dX2_placeBehind_55 : decode cX2_placeBehind 55 = .ok (.aload_n 0, 1) := by decide +kernel
theorem dX2_placeBehind_56 : decode cX2_placeBehind 56 = .ok (.getfield 15, 3) := by decide +kernel
theorem dX2_placeBehind_59 : decode cX2_placeBehind 59 = .ok (.iload 4, 2) := by decide +kernel
theorem dX2_placeBehind_61 : decode cX2_placeBehind 61 = .ok (.iaload, 1) := by decide +kernel
theorem dX2_placeBehind_62 : decode cX2_placeBehind 62 = .ok (.if_icmp .gt 10, 3) := by decide +kernel
theorem dX2_placeBehind_65 : decode cX2_placeBehind 65 = .ok (.iload_n 2, 1) := by decide +kernel
theorem dX2_placeBehind_66 : decode cX2_placeBehind 66 = .ok (.iload 6, 2) := by decide +kernel
theorem dX2_placeBehind_68 : decode cX2_placeBehind 68 = .ok (.iadd, 1) := by decide +kernel
theorem dX2_placeBehind_69 : decode cX2_placeBehind 69 = .ok (.goto 5, 3) := by decide +kernel
theorem dX2_placeBehind_72 : decode cX2_placeBehind 72 = .ok (.bipush (-2), 2) := by decide +kernel
theorem dX2_placeBehind_74 : decode cX2_placeBehind 74 = .ok (.ireturn, 1) := by decide +kernel
theorem dX2_placeBehind_75 : decode cX2_placeBehind 75 = .ok (.aload_n 1, 1) := by decide +kernel
theorem dX2_placeBehind_76 : decode cX2_placeBehind 76 = .ok (.getfield 28, 3) := by decide +kernel
theorem dX2_placeBehind_79 : decode cX2_placeBehind 79 = .ok (.iload 4, 2) := by decide +kernel
theorem dX2_placeBehind_81 : decode cX2_placeBehind 81 = .ok (.iconst 0, 1) := by decide +kernel
theorem dX2_placeBehind_82 : decode cX2_placeBehind 82 = .ok (.invokevirtual 84, 3) := by decide +kernel
theorem dX2_placeBehind_85 : decode cX2_placeBehind 85 = .ok (.iload 5, 2) := by decide +kernel
theorem dX2_placeBehind_87 : decode cX2_placeBehind 87 = .ok (.if_icmp .ne 22, 3) := by decide +kernel
theorem dX2_placeBehind_90 : decode cX2_placeBehind 90 = .ok (.aload_n 0, 1) := by decide +kernel
theorem dX2_placeBehind_91 : decode cX2_placeBehind 91 = .ok (.iload 4, 2) := by decide +kernel
theorem dX2_placeBehind_93 : decode cX2_placeBehind 93 = .ok (.iload_n 2, 1) := by decide +kernel
theorem dX2_placeBehind_94 : decode cX2_placeBehind 94 = .ok (.iload 6, 2) := by decide +kernel
theorem dX2_placeBehind_96 : decode cX2_placeBehind 96 = .ok (.invokevirtual 88, 3) := by decide +kernel
theorem dX2_placeBehind_99 : decode cX2_placeBehind 99 = .ok (.ifCond .eq 10, 3) := by decide +kernel
theorem dX2_placeBehind_102 : decode cX2_placeBehind 102 = .ok (.iload_n 2, 1) := by decide +kernel
theorem dX2_placeBehind_103 : decode cX2_placeBehind 103 = .ok (.iload 6, 2) := by decide +kernel
theorem dX2_placeBehind_105 : decode cX2_placeBehind 105 = .ok (.iadd, 1) := by decide +kernel
theorem dX2_placeBehind_106 : decode cX2_placeBehind 106 = .ok (.goto 5, 3) := by decide +kernel
theorem dX2_placeBehind_109 : decode cX2_placeBehind 109 = .ok (.bipush (-2), 2) := by decide +kernel
theorem dX2_placeBehind_111 : decode cX2_placeBehind 111 = .ok (.ireturn, 1) := by decide +kernel
theorem dX2_waysFrom_0 : decode cX2_waysFrom 0 = .ok (.iload_n 1, 1) := by decide +kernel
theorem dX2_waysFrom_1 : decode cX2_waysFrom 1 = .ok (.ifCond .lt 23, 3) := by decide +kernel
theorem dX2_waysFrom_4 : decode cX2_waysFrom 4 = .ok (.iload_n 1, 1) := by decide +kernel
theorem dX2_waysFrom_5 : decode cX2_waysFrom 5 = .ok (.bipush 81, 2) := by decide +kernel
theorem dX2_waysFrom_7 : decode cX2_waysFrom 7 = .ok (.if_icmp .gt 17, 3) := by decide +kernel
theorem dX2_waysFrom_10 : decode cX2_waysFrom 10 = .ok (.iload_n 2, 1) := by decide +kernel
theorem dX2_waysFrom_11 : decode cX2_waysFrom 11 = .ok (.ifCond .lt 13, 3) := by decide +kernel
theorem dX2_waysFrom_14 : decode cX2_waysFrom 14 = .ok (.iload_n 2, 1) := by decide +kernel
theorem dX2_waysFrom_15 : decode cX2_waysFrom 15 = .ok (.bipush 9, 2) := by decide +kernel
theorem dX2_waysFrom_17 : decode cX2_waysFrom 17 = .ok (.if_icmp .gt 7, 3) := by decide +kernel
theorem dX2_waysFrom_20 : decode cX2_waysFrom 20 = .ok (.iconst 1, 1) := by decide +kernel
theorem dX2_waysFrom_21 : decode cX2_waysFrom 21 = .ok (.goto 4, 3) := by decide +kernel
theorem dX2_waysFrom_24 : decode cX2_waysFrom 24 = .ok (.iconst 0, 1) := by decide +kernel
theorem dX2_waysFrom_25 : decode cX2_waysFrom 25 = .ok (.istore_n 3, 1) := by decide +kernel
theorem dX2_waysFrom_26 : decode cX2_waysFrom 26 = .ok (.iload_n 3, 1) := by decide +kernel
theorem dX2_waysFrom_27 : decode cX2_waysFrom 27 = .ok (.ifCond .eq 17, 3) := by decide +kernel
theorem dX2_waysFrom_30 : decode cX2_waysFrom 30 = .ok (.aload_n 0, 1) := by decide +kernel
theorem dX2_waysFrom_31 : decode cX2_waysFrom 31 = .ok (.getfield 11, 3) := by decide +kernel
theorem dX2_waysFrom_34 : decode cX2_waysFrom 34 = .ok (.iload_n 2, 1) := by decide +kernel
theorem dX2_waysFrom_35 : decode cX2_waysFrom 35 = .ok (.bipush 82, 2) := by decide +kernel
theorem dX2_waysFrom_37 : decode cX2_waysFrom 37 = .ok (.imul, 1) := by decide +kernel
theorem dX2_waysFrom_38 : decode cX2_waysFrom 38 = .ok (.iload_n 1, 1) := by decide +kernel
theorem dX2_waysFrom_39 : decode cX2_waysFrom 39 = .ok (.iadd, 1) := by decide +kernel
theorem dX2_waysFrom_40 : decode cX2_waysFrom 40 = .ok (.laload, 1) := by decide +kernel
theorem dX2_waysFrom_41 : decode cX2_waysFrom 41 = .ok (.goto 4, 3) := by decide +kernel
theorem dX2_waysFrom_44 : decode cX2_waysFrom 44 = .ok (.lconst 0, 1) := by decide +kernel
theorem dX2_waysFrom_45 : decode cX2_waysFrom 45 = .ok (.lreturn, 1) := by decide +kernel
theorem dX2_layersAt_0 : decode cX2_layersAt 0 = .ok (.iconst 0, 1) := by decide +kernel
theorem dX2_layersAt_1 : decode cX2_layersAt 1 = .ok (.istore_n 2, 1) := by decide +kernel
theorem dX2_layersAt_2 : decode cX2_layersAt 2 = .ok (.iload_n 2, 1) := by decide +kernel
theorem dX2_layersAt_3 : decode cX2_layersAt 3 = .ok (.aload_n 0, 1) := by decide +kernel
theorem dX2_layersAt_4 : decode cX2_layersAt 4 = .ok (.getfield 40, 3) := by decide +kernel
theorem dX2_layersAt_7 : decode cX2_layersAt 7 = .ok (.if_icmp .ge 19, 3) := by decide +kernel
theorem dX2_layersAt_10 : decode cX2_layersAt 10 = .ok (.aload_n 0, 1) := by decide +kernel
theorem dX2_layersAt_11 : decode cX2_layersAt 11 = .ok (.getfield 15, 3) := by decide +kernel
theorem dX2_layersAt_14 : decode cX2_layersAt 14 = .ok (.iload_n 2, 1) := by decide +kernel
theorem dX2_layersAt_15 : decode cX2_layersAt 15 = .ok (.iaload, 1) := by decide +kernel
theorem dX2_layersAt_16 : decode cX2_layersAt 16 = .ok (.iload_n 1, 1) := by decide +kernel
theorem dX2_layersAt_17 : decode cX2_layersAt 17 = .ok (.if_icmp .ge 9, 3) := by decide +kernel
theorem dX2_layersAt_20 : decode cX2_layersAt 20 = .ok (.iinc 2 1, 3) := by decide +kernel
theorem dX2_layersAt_23 : decode cX2_layersAt 23 = .ok (.goto (-21), 3) := by decide +kernel
theorem dX2_layersAt_26 : decode cX2_layersAt 26 = .ok (.iload_n 2, 1) := by decide +kernel
theorem dX2_layersAt_27 : decode cX2_layersAt 27 = .ok (.ireturn, 1) := by decide +kernel
theorem dX2_sortLookings_0 : decode cX2_sortLookings 0 = .ok (.aload_n 1, 1) := by decide +kernel
theorem dX2_sortLookings_1 : decode cX2_sortLookings 1 = .ok (.getfield 28, 3) := by decide +kernel
theorem dX2_sortLookings_4 : decode cX2_sortLookings 4 = .ok (.iload_n 2, 1) := by decide +kernel
theorem dX2_sortLookings_5 : decode cX2_sortLookings 5 = .ok (.iconst 1, 1) := by decide +kernel
theorem dX2_sortLookings_6 : decode cX2_sortLookings 6 = .ok (.isub, 1) := by decide +kernel
theorem dX2_sortLookings_7 : decode cX2_sortLookings 7 = .ok (.iconst 0, 1) := by decide +kernel
theorem dX2_sortLookings_8 : decode cX2_sortLookings 8 = .ok (.invokevirtual 84, 3) := by decide +kernel
theorem dX2_sortLookings_11 : decode cX2_sortLookings 11 = .ok (.istore 4, 2) := by decide +kernel
theorem dX2_sortLookings_13 : decode cX2_sortLookings 13 = .ok (.aload_n 1, 1) := by decide +kernel
theorem dX2_sortLookings_14 : decode cX2_sortLookings 14 = .ok (.getfield 28, 3) := by decide +kernel
theorem dX2_sortLookings_17 : decode cX2_sortLookings 17 = .ok (.iload_n 2, 1) := by decide +kernel
theorem dX2_sortLookings_18 : decode cX2_sortLookings 18 = .ok (.iconst 0, 1) := by decide +kernel
theorem dX2_sortLookings_19 : decode cX2_sortLookings 19 = .ok (.invokevirtual 84, 3) := by decide +kernel
theorem dX2_sortLookings_22 : decode cX2_sortLookings 22 = .ok (.istore 5, 2) := by decide +kernel
theorem dX2_sortLookings_24 : decode cX2_sortLookings 24 = .ok (.iconst 0, 1) := by decide +kernel
theorem dX2_sortLookings_25 : decode cX2_sortLookings 25 = .ok (.istore 6, 2) := by decide +kernel
theorem dX2_sortLookings_27 : decode cX2_sortLookings 27 = .ok (.iload 6, 2) := by decide +kernel
theorem dX2_sortLookings_29 : decode cX2_sortLookings 29 = .ok (.bipush 60, 2) := by decide +kernel
theorem dX2_sortLookings_31 : decode cX2_sortLookings 31 = .ok (.if_icmp .ge 106, 3) := by decide +kernel
theorem dX2_sortLookings_34 : decode cX2_sortLookings 34 = .ok (.iload 6, 2) := by decide +kernel
theorem dX2_sortLookings_36 : decode cX2_sortLookings 36 = .ok (.bipush 10, 2) := by decide +kernel
theorem dX2_sortLookings_38 : decode cX2_sortLookings 38 = .ok (.idiv, 1) := by decide +kernel
theorem dX2_sortLookings_39 : decode cX2_sortLookings 39 = .ok (.istore 7, 2) := by decide +kernel
theorem dX2_sortLookings_41 : decode cX2_sortLookings 41 = .ok (.iload 7, 2) := by decide +kernel
theorem dX2_sortLookings_43 : decode cX2_sortLookings 43 = .ok (.iload_n 3, 1) := by decide +kernel
theorem dX2_sortLookings_44 : decode cX2_sortLookings 44 = .ok (.if_icmp .ne 6, 3) := by decide +kernel
theorem dX2_sortLookings_47 : decode cX2_sortLookings 47 = .ok (.goto 84, 3) := by decide +kernel
theorem dX2_sortLookings_50 : decode cX2_sortLookings 50 = .ok (.aload_n 1, 1) := by decide +kernel
theorem dX2_sortLookings_51 : decode cX2_sortLookings 51 = .ok (.iload_n 2, 1) := by decide +kernel
theorem dX2_sortLookings_52 : decode cX2_sortLookings 52 = .ok (.iload 7, 2) := by decide +kernel
theorem dX2_sortLookings_54 : decode cX2_sortLookings 54 = .ok (.iload 6, 2) := by decide +kernel
theorem dX2_sortLookings_56 : decode cX2_sortLookings 56 = .ok (.bipush 10, 2) := by decide +kernel
theorem dX2_sortLookings_58 : decode cX2_sortLookings 58 = .ok (.irem, 1) := by decide +kernel
theorem dX2_sortLookings_59 : decode cX2_sortLookings 59 = .ok (.invokevirtual 80, 3) := by decide +kernel
theorem dX2_sortLookings_62 : decode cX2_sortLookings 62 = .ok (.istore 8, 2) := by decide +kernel
theorem dX2_sortLookings_64 : decode cX2_sortLookings 64 = .ok (.iload 8, 2) := by decide +kernel
theorem dX2_sortLookings_66 : decode cX2_sortLookings 66 = .ok (.ifCond .ne 16, 3) := by decide +kernel
theorem dX2_sortLookings_69 : decode cX2_sortLookings 69 = .ok (.aload_n 0, 1) := by decide +kernel
theorem dX2_sortLookings_70 : decode cX2_sortLookings 70 = .ok (.getfield 19, 3) := by decide +kernel
theorem dX2_sortLookings_73 : decode cX2_sortLookings 73 = .ok (.iload_n 2, 1) := by decide +kernel
theorem dX2_sortLookings_74 : decode cX2_sortLookings 74 = .ok (.dup2, 1) := by decide +kernel
theorem dX2_sortLookings_75 : decode cX2_sortLookings 75 = .ok (.iaload, 1) := by decide +kernel
theorem dX2_sortLookings_76 : decode cX2_sortLookings 76 = .ok (.iconst 1, 1) := by decide +kernel
theorem dX2_sortLookings_77 : decode cX2_sortLookings 77 = .ok (.iadd, 1) := by decide +kernel
theorem dX2_sortLookings_78 : decode cX2_sortLookings 78 = .ok (.iastore, 1) := by decide +kernel
theorem dX2_sortLookings_79 : decode cX2_sortLookings 79 = .ok (.goto 52, 3) := by decide +kernel
theorem dX2_sortLookings_82 : decode cX2_sortLookings 82 = .ok (.iload 7, 2) := by decide +kernel
theorem dX2_sortLookings_84 : decode cX2_sortLookings 84 = .ok (.iload 4, 2) := by decide +kernel
theorem dX2_sortLookings_86 : decode cX2_sortLookings 86 = .ok (.if_icmp .ne 22, 3) := by decide +kernel
theorem dX2_sortLookings_89 : decode cX2_sortLookings 89 = .ok (.aload_n 0, 1) := by decide +kernel
theorem dX2_sortLookings_90 : decode cX2_sortLookings 90 = .ok (.getfield 22, 3) := by decide +kernel
theorem dX2_sortLookings_93 : decode cX2_sortLookings 93 = .ok (.iload_n 2, 1) := by decide +kernel
theorem dX2_sortLookings_94 : decode cX2_sortLookings 94 = .ok (.bipush 10, 2) := by decide +kernel
theorem dX2_sortLookings_96 : decode cX2_sortLookings 96 = .ok (.imul, 1) := by decide +kernel
theorem dX2_sortLookings_97 : decode cX2_sortLookings 97 = .ok (.iload 8, 2) := by decide +kernel
theorem dX2_sortLookings_99 : decode cX2_sortLookings 99 = .ok (.iadd, 1) := by decide +kernel
theorem dX2_sortLookings_100 : decode cX2_sortLookings 100 = .ok (.dup2, 1) := by decide +kernel
theorem dX2_sortLookings_101 : decode cX2_sortLookings 101 = .ok (.iaload, 1) := by decide +kernel
theorem dX2_sortLookings_102 : decode cX2_sortLookings 102 = .ok (.iconst 1, 1) := by decide +kernel
theorem dX2_sortLookings_103 : decode cX2_sortLookings 103 = .ok (.iadd, 1) := by decide +kernel
theorem dX2_sortLookings_104 : decode cX2_sortLookings 104 = .ok (.iastore, 1) := by decide +kernel
theorem dX2_sortLookings_105 : decode cX2_sortLookings 105 = .ok (.goto 26, 3) := by decide +kernel
theorem dX2_sortLookings_108 : decode cX2_sortLookings 108 = .ok (.iload 7, 2) := by decide +kernel
theorem dX2_sortLookings_110 : decode cX2_sortLookings 110 = .ok (.iload 5, 2) := by decide +kernel
theorem dX2_sortLookings_112 : decode cX2_sortLookings 112 = .ok (.if_icmp .ne 19, 3) := by decide +kernel
theorem dX2_sortLookings_115 : decode cX2_sortLookings 115 = .ok (.aload_n 0, 1) := by decide +kernel
theorem dX2_sortLookings_116 : decode cX2_sortLookings 116 = .ok (.getfield 25, 3) := by decide +kernel
theorem dX2_sortLookings_119 : decode cX2_sortLookings 119 = .ok (.iload_n 2, 1) := by decide +kernel
theorem dX2_sortLookings_120 : decode cX2_sortLookings 120 = .ok (.bipush 10, 2) := by decide +kernel
theorem dX2_sortLookings_122 : decode cX2_sortLookings 122 = .ok (.imul, 1) := by decide +kernel
theorem dX2_sortLookings_123 : decode cX2_sortLookings 123 = .ok (.iload 8, 2) := by decide +kernel
theorem dX2_sortLookings_125 : decode cX2_sortLookings 125 = .ok (.iadd, 1) := by decide +kernel
theorem dX2_sortLookings_126 : decode cX2_sortLookings 126 = .ok (.dup2, 1) := by decide +kernel
theorem dX2_sortLookings_127 : decode cX2_sortLookings 127 = .ok (.iaload, 1) := by decide +kernel
theorem dX2_sortLookings_128 : decode cX2_sortLookings 128 = .ok (.iconst 1, 1) := by decide +kernel
theorem dX2_sortLookings_129 : decode cX2_sortLookings 129 = .ok (.iadd, 1) := by decide +kernel
theorem dX2_sortLookings_130 : decode cX2_sortLookings 130 = .ok (.iastore, 1) := by decide +kernel
theorem dX2_sortLookings_131 : decode cX2_sortLookings 131 = .ok (.iinc 6 1, 3) := by decide +kernel
theorem dX2_sortLookings_134 : decode cX2_sortLookings 134 = .ok (.goto (-107), 3) := by decide +kernel
theorem dX2_sortLookings_137 : decode cX2_sortLookings 137 = .ok (.return_, 1) := by decide +kernel
theorem dX2_workOutWith_0 : decode cX2_workOutWith 0 = .ok (.iconst 0, 1) := by decide +kernel
theorem dX2_workOutWith_1 : decode cX2_workOutWith 1 = .ok (.aload_n 0, 1) := by decide +kernel
theorem dX2_workOutWith_2 : decode cX2_workOutWith 2 = .ok (.getfield 45, 3) := by decide +kernel
theorem dX2_workOutWith_5 : decode cX2_workOutWith 5 = .ok (.iload_n 1, 1) := by decide +kernel
theorem dX2_workOutWith_6 : decode cX2_workOutWith 6 = .ok (.bipush 9, 2) := by decide +kernel
theorem dX2_workOutWith_8 : decode cX2_workOutWith 8 = .ok (.imul, 1) := by decide +kernel
theorem dX2_workOutWith_9 : decode cX2_workOutWith 9 = .ok (.isub, 1) := by decide +kernel
theorem dX2_workOutWith_10 : decode cX2_workOutWith 10 = .ok (.invokestatic 92, 3) := by decide +kernel
theorem dX2_workOutWith_13 : decode cX2_workOutWith 13 = .ok (.istore_n 2, 1) := by decide +kernel
theorem dX2_workOutWith_14 : decode cX2_workOutWith 14 = .ok (.iload_n 2, 1) := by decide +kernel
theorem dX2_workOutWith_15 : decode cX2_workOutWith 15 = .ok (.aload_n 0, 1) := by decide +kernel
theorem dX2_workOutWith_16 : decode cX2_workOutWith 16 = .ok (.getfield 45, 3) := by decide +kernel
theorem dX2_workOutWith_19 : decode cX2_workOutWith 19 = .ok (.if_icmp .gt 108, 3) := by decide +kernel
theorem dX2_workOutWith_22 : decode cX2_workOutWith 22 = .ok (.aload_n 0, 1) := by decide +kernel
theorem dX2_workOutWith_23 : decode cX2_workOutWith 23 = .ok (.iload_n 2, 1) := by decide +kernel
theorem dX2_workOutWith_24 : decode cX2_workOutWith 24 = .ok (.invokevirtual 76, 3) := by decide +kernel
theorem dX2_workOutWith_27 : decode cX2_workOutWith 27 = .ok (.istore_n 3, 1) := by decide +kernel
theorem dX2_workOutWith_28 : decode cX2_workOutWith 28 = .ok (.aload_n 0, 1) := by decide +kernel
theorem dX2_workOutWith_29 : decode cX2_workOutWith 29 = .ok (.getfield 19, 3) := by decide +kernel
theorem dX2_workOutWith_32 : decode cX2_workOutWith 32 = .ok (.iload_n 3, 1) := by decide +kernel
theorem dX2_workOutWith_33 : decode cX2_workOutWith 33 = .ok (.iaload, 1) := by decide +kernel
theorem dX2_workOutWith_34 : decode cX2_workOutWith 34 = .ok (.i2l, 1) := by decide +kernel
theorem dX2_workOutWith_35 : decode cX2_workOutWith 35 = .ok (.aload_n 0, 1) := by decide +kernel
theorem dX2_workOutWith_36 : decode cX2_workOutWith 36 = .ok (.iload_n 2, 1) := by decide +kernel
theorem dX2_workOutWith_37 : decode cX2_workOutWith 37 = .ok (.iload_n 1, 1) := by decide +kernel
theorem dX2_workOutWith_38 : decode cX2_workOutWith 38 = .ok (.iconst 1, 1) := by decide +kernel
theorem dX2_workOutWith_39 : decode cX2_workOutWith 39 = .ok (.isub, 1) := by decide +kernel
theorem dX2_workOutWith_40 : decode cX2_workOutWith 40 = .ok (.invokevirtual 68, 3) := by decide +kernel
theorem dX2_workOutWith_43 : decode cX2_workOutWith 43 = .ok (.lmul, 1) := by decide +kernel
theorem dX2_workOutWith_44 : decode cX2_workOutWith 44 = .ok (.lstore 4, 2) := by decide +kernel
theorem dX2_workOutWith_46 : decode cX2_workOutWith 46 = .ok (.iconst 1, 1) := by decide +kernel
theorem dX2_workOutWith_47 : decode cX2_workOutWith 47 = .ok (.istore 6, 2) := by decide +kernel
theorem dX2_workOutWith_49 : decode cX2_workOutWith 49 = .ok (.iload 6, 2) := by decide +kernel
theorem dX2_workOutWith_51 : decode cX2_workOutWith 51 = .ok (.bipush 10, 2) := by decide +kernel
theorem dX2_workOutWith_53 : decode cX2_workOutWith 53 = .ok (.if_icmp .ge 55, 3) := by decide +kernel
theorem dX2_workOutWith_56 : decode cX2_workOutWith 56 = .ok (.iload_n 2, 1) := by decide +kernel
theorem dX2_workOutWith_57 : decode cX2_workOutWith 57 = .ok (.iload 6, 2) := by decide +kernel
theorem dX2_workOutWith_59 : decode cX2_workOutWith 59 = .ok (.iadd, 1) := by decide +kernel
theorem dX2_workOutWith_60 : decode cX2_workOutWith 60 = .ok (.aload_n 0, 1) := by decide +kernel
theorem dX2_workOutWith_61 : decode cX2_workOutWith 61 = .ok (.getfield 45, 3) := by decide +kernel
theorem dX2_workOutWith_64 : decode cX2_workOutWith 64 = .ok (.if_icmp .gt 44, 3) := by decide +kernel
theorem dX2_workOutWith_67 : decode cX2_workOutWith 67 = .ok (.aload_n 0, 1) := by decide +kernel
theorem dX2_workOutWith_68 : decode cX2_workOutWith 68 = .ok (.iload_n 3, 1) := by decide +kernel
theorem dX2_workOutWith_69 : decode cX2_workOutWith 69 = .ok (.iload_n 2, 1) := by decide +kernel
theorem dX2_workOutWith_70 : decode cX2_workOutWith 70 = .ok (.iload 6, 2) := by decide +kernel
theorem dX2_workOutWith_72 : decode cX2_workOutWith 72 = .ok (.invokevirtual 97, 3) := by decide +kernel
theorem dX2_workOutWith_75 : decode cX2_workOutWith 75 = .ok (.istore 7, 2) := by decide +kernel
theorem dX2_workOutWith_77 : decode cX2_workOutWith 77 = .ok (.iload 7, 2) := by decide +kernel
theorem dX2_workOutWith_79 : decode cX2_workOutWith 79 = .ok (.ifCond .le 23, 3) := by decide +kernel
theorem dX2_workOutWith_82 : decode cX2_workOutWith 82 = .ok (.lload 4, 2) := by decide +kernel
theorem dX2_workOutWith_84 : decode cX2_workOutWith 84 = .ok (.iload 7, 2) := by decide +kernel
theorem dX2_workOutWith_86 : decode cX2_workOutWith 86 = .ok (.i2l, 1) := by decide +kernel
theorem dX2_workOutWith_87 : decode cX2_workOutWith 87 = .ok (.aload_n 0, 1) := by decide +kernel
theorem dX2_workOutWith_88 : decode cX2_workOutWith 88 = .ok (.iload_n 2, 1) := by decide +kernel
theorem dX2_workOutWith_89 : decode cX2_workOutWith 89 = .ok (.iload 6, 2) := by decide +kernel
theorem dX2_workOutWith_91 : decode cX2_workOutWith 91 = .ok (.iadd, 1) := by decide +kernel
theorem dX2_workOutWith_92 : decode cX2_workOutWith 92 = .ok (.iload_n 1, 1) := by decide +kernel
theorem dX2_workOutWith_93 : decode cX2_workOutWith 93 = .ok (.iconst 1, 1) := by decide +kernel
theorem dX2_workOutWith_94 : decode cX2_workOutWith 94 = .ok (.isub, 1) := by decide +kernel
theorem dX2_workOutWith_95 : decode cX2_workOutWith 95 = .ok (.invokevirtual 68, 3) := by decide +kernel
theorem dX2_workOutWith_98 : decode cX2_workOutWith 98 = .ok (.lmul, 1) := by decide +kernel
theorem dX2_workOutWith_99 : decode cX2_workOutWith 99 = .ok (.ladd, 1) := by decide +kernel
theorem dX2_workOutWith_100 : decode cX2_workOutWith 100 = .ok (.lstore 4, 2) := by decide +kernel
theorem dX2_workOutWith_102 : decode cX2_workOutWith 102 = .ok (.iinc 6 1, 3) := by decide +kernel
theorem dX2_workOutWith_105 : decode cX2_workOutWith 105 = .ok (.goto (-56), 3) := by decide +kernel
theorem dX2_workOutWith_108 : decode cX2_workOutWith 108 = .ok (.aload_n 0, 1) := by decide +kernel
theorem dX2_workOutWith_109 : decode cX2_workOutWith 109 = .ok (.getfield 11, 3) := by decide +kernel
theorem dX2_workOutWith_112 : decode cX2_workOutWith 112 = .ok (.iload_n 1, 1) := by decide +kernel
theorem dX2_workOutWith_113 : decode cX2_workOutWith 113 = .ok (.bipush 82, 2) := by decide +kernel
theorem dX2_workOutWith_115 : decode cX2_workOutWith 115 = .ok (.imul, 1) := by decide +kernel
theorem dX2_workOutWith_116 : decode cX2_workOutWith 116 = .ok (.iload_n 2, 1) := by decide +kernel
theorem dX2_workOutWith_117 : decode cX2_workOutWith 117 = .ok (.iadd, 1) := by decide +kernel
theorem dX2_workOutWith_118 : decode cX2_workOutWith 118 = .ok (.lload 4, 2) := by decide +kernel
theorem dX2_workOutWith_120 : decode cX2_workOutWith 120 = .ok (.lastore, 1) := by decide +kernel
theorem dX2_workOutWith_121 : decode cX2_workOutWith 121 = .ok (.iinc 2 1, 3) := by decide +kernel
theorem dX2_workOutWith_124 : decode cX2_workOutWith 124 = .ok (.goto (-110), 3) := by decide +kernel
theorem dX2_workOutWith_127 : decode cX2_workOutWith 127 = .ok (.return_, 1) := by decide +kernel
theorem dX2_lookingsThatLay_0 : decode cX2_lookingsThatLay 0 = .ok (.iload_n 2, 1) := by decide +kernel
theorem dX2_lookingsThatLay_1 : decode cX2_lookingsThatLay 1 = .ok (.iload_n 3, 1) := by decide +kernel
theorem dX2_lookingsThatLay_2 : decode cX2_lookingsThatLay 2 = .ok (.iadd, 1) := by decide +kernel
theorem dX2_lookingsThatLay_3 : decode cX2_lookingsThatLay 3 = .ok (.aload_n 0, 1) := by decide +kernel
theorem dX2_lookingsThatLay_4 : decode cX2_lookingsThatLay 4 = .ok (.getfield 15, 3) := by decide +kernel
theorem dX2_lookingsThatLay_7 : decode cX2_lookingsThatLay 7 = .ok (.iload_n 1, 1) := by decide +kernel
theorem dX2_lookingsThatLay_8 : decode cX2_lookingsThatLay 8 = .ok (.iaload, 1) := by decide +kernel
theorem dX2_lookingsThatLay_9 : decode cX2_lookingsThatLay 9 = .ok (.if_icmp .gt 15, 3) := by decide +kernel
theorem dX2_lookingsThatLay_12 : decode cX2_lookingsThatLay 12 = .ok (.aload_n 0, 1) := by decide +kernel
theorem dX2_lookingsThatLay_13 : decode cX2_lookingsThatLay 13 = .ok (.getfield 22, 3) := by decide +kernel
theorem dX2_lookingsThatLay_16 : decode cX2_lookingsThatLay 16 = .ok (.iload_n 1, 1) := by decide +kernel
theorem dX2_lookingsThatLay_17 : decode cX2_lookingsThatLay 17 = .ok (.bipush 10, 2) := by decide +kernel
theorem dX2_lookingsThatLay_19 : decode cX2_lookingsThatLay 19 = .ok (.imul, 1) := by decide +kernel
theorem dX2_lookingsThatLay_20 : decode cX2_lookingsThatLay 20 = .ok (.iload_n 3, 1) := by decide +kernel
theorem dX2_lookingsThatLay_21 : decode cX2_lookingsThatLay 21 = .ok (.iadd, 1) := by decide +kernel
theorem dX2_lookingsThatLay_22 : decode cX2_lookingsThatLay 22 = .ok (.iaload, 1) := by decide +kernel
theorem dX2_lookingsThatLay_23 : decode cX2_lookingsThatLay 23 = .ok (.ireturn, 1) := by decide +kernel
theorem dX2_lookingsThatLay_24 : decode cX2_lookingsThatLay 24 = .ok (.aload_n 0, 1) := by decide +kernel
theorem dX2_lookingsThatLay_25 : decode cX2_lookingsThatLay 25 = .ok (.iload_n 1, 1) := by decide +kernel
theorem dX2_lookingsThatLay_26 : decode cX2_lookingsThatLay 26 = .ok (.iload_n 2, 1) := by decide +kernel
theorem dX2_lookingsThatLay_27 : decode cX2_lookingsThatLay 27 = .ok (.iload_n 3, 1) := by decide +kernel
theorem dX2_lookingsThatLay_28 : decode cX2_lookingsThatLay 28 = .ok (.invokevirtual 88, 3) := by decide +kernel
theorem dX2_lookingsThatLay_31 : decode cX2_lookingsThatLay 31 = .ok (.ifCond .eq 17, 3) := by decide +kernel
theorem dX2_lookingsThatLay_34 : decode cX2_lookingsThatLay 34 = .ok (.aload_n 0, 1) := by decide +kernel
theorem dX2_lookingsThatLay_35 : decode cX2_lookingsThatLay 35 = .ok (.getfield 25, 3) := by decide +kernel
theorem dX2_lookingsThatLay_38 : decode cX2_lookingsThatLay 38 = .ok (.iload_n 1, 1) := by decide +kernel
theorem dX2_lookingsThatLay_39 : decode cX2_lookingsThatLay 39 = .ok (.bipush 10, 2) := by decide +kernel
theorem dX2_lookingsThatLay_41 : decode cX2_lookingsThatLay 41 = .ok (.imul, 1) := by decide +kernel
theorem dX2_lookingsThatLay_42 : decode cX2_lookingsThatLay 42 = .ok (.iload_n 3, 1) := by decide +kernel
theorem dX2_lookingsThatLay_43 : decode cX2_lookingsThatLay 43 = .ok (.iadd, 1) := by decide +kernel
theorem dX2_lookingsThatLay_44 : decode cX2_lookingsThatLay 44 = .ok (.iaload, 1) := by decide +kernel
theorem dX2_lookingsThatLay_45 : decode cX2_lookingsThatLay 45 = .ok (.goto 4, 3) := by decide +kernel
theorem dX2_lookingsThatLay_48 : decode cX2_lookingsThatLay 48 = .ok (.iconst 0, 1) := by decide +kernel
theorem dX2_lookingsThatLay_49 : decode cX2_lookingsThatLay 49 = .ok (.ireturn, 1) := by decide +kernel
theorem dX2_mayBegin_0 : decode cX2_mayBegin 0 = .ok (.iload_n 1, 1) := by decide +kernel
theorem dX2_mayBegin_1 : decode cX2_mayBegin 1 = .ok (.aload_n 0, 1) := by decide +kernel
theorem dX2_mayBegin_2 : decode cX2_mayBegin 2 = .ok (.getfield 40, 3) := by decide +kernel
theorem dX2_mayBegin_5 : decode cX2_mayBegin 5 = .ok (.if_icmp .ge 31, 3) := by decide +kernel
theorem dX2_mayBegin_8 : decode cX2_mayBegin 8 = .ok (.iload_n 2, 1) := by decide +kernel
theorem dX2_mayBegin_9 : decode cX2_mayBegin 9 = .ok (.aload_n 0, 1) := by decide +kernel
theorem dX2_mayBegin_10 : decode cX2_mayBegin 10 = .ok (.getfield 15, 3) := by decide +kernel
theorem dX2_mayBegin_13 : decode cX2_mayBegin 13 = .ok (.iload_n 1, 1) := by decide +kernel
theorem dX2_mayBegin_14 : decode cX2_mayBegin 14 = .ok (.iaload, 1) := by decide +kernel
theorem dX2_mayBegin_15 : decode cX2_mayBegin 15 = .ok (.if_icmp .ne 21, 3) := by decide +kernel
theorem dX2_mayBegin_18 : decode cX2_mayBegin 18 = .ok (.iload_n 2, 1) := by decide +kernel
theorem dX2_mayBegin_19 : decode cX2_mayBegin 19 = .ok (.iload_n 3, 1) := by decide +kernel
theorem dX2_mayBegin_20 : decode cX2_mayBegin 20 = .ok (.iadd, 1) := by decide +kernel
theorem dX2_mayBegin_21 : decode cX2_mayBegin 21 = .ok (.aload_n 0, 1) := by decide +kernel
theorem dX2_mayBegin_22 : decode cX2_mayBegin 22 = .ok (.getfield 15, 3) := by decide +kernel
theorem dX2_mayBegin_25 : decode cX2_mayBegin 25 = .ok (.iload_n 1, 1) := by decide +kernel
theorem dX2_mayBegin_26 : decode cX2_mayBegin 26 = .ok (.iconst 1, 1) := by decide +kernel
theorem dX2_mayBegin_27 : decode cX2_mayBegin 27 = .ok (.iadd, 1) := by decide +kernel
theorem dX2_mayBegin_28 : decode cX2_mayBegin 28 = .ok (.iaload, 1) := by decide +kernel
theorem dX2_mayBegin_29 : decode cX2_mayBegin 29 = .ok (.if_icmp .gt 7, 3) := by decide +kernel
theorem dX2_mayBegin_32 : decode cX2_mayBegin 32 = .ok (.iconst 1, 1) := by decide +kernel
theorem dX2_mayBegin_33 : decode cX2_mayBegin 33 = .ok (.goto 4, 3) := by decide +kernel
theorem dX2_mayBegin_36 : decode cX2_mayBegin 36 = .ok (.iconst 0, 1) := by decide +kernel
theorem dX2_mayBegin_37 : decode cX2_mayBegin 37 = .ok (.ireturn, 1) := by decide +kernel
theorem dX3_init_0 : decode cX3_init 0 = .ok (.aload_n 0, 1) := by decide +kernel
theorem dX3_init_1 : decode cX3_init 1 = .ok (.invokespecial 3, 3) := by decide +kernel
theorem dX3_init_4 : decode cX3_init 4 = .ok (.aload_n 0, 1) := by decide +kernel
theorem dX3_init_5 : decode cX3_init 5 = .ok (.bipush 12, 2) := by decide +kernel
theorem dX3_init_7 : decode cX3_init 7 = .ok (.newarray .int, 2) := by decide +kernel
theorem dX3_init_9 : decode cX3_init 9 = .ok (.putfield 9, 3) := by decide +kernel
theorem dX3_init_12 : decode cX3_init 12 = .ok (.aload_n 0, 1) := by decide +kernel
theorem dX3_init_13 : decode cX3_init 13 = .ok (.bipush 12, 2) := by decide +kernel
theorem dX3_init_15 : decode cX3_init 15 = .ok (.newarray .int, 2) := by decide +kernel
theorem dX3_init_17 : decode cX3_init 17 = .ok (.putfield 15, 3) := by decide +kernel
theorem dX3_init_20 : decode cX3_init 20 = .ok (.return_, 1) := by decide +kernel
theorem dX3_become_0 : decode cX3_become 0 = .ok (.aload_n 1, 1) := by decide +kernel
theorem dX3_become_1 : decode cX3_become 1 = .ok (.getfield 9, 3) := by decide +kernel
theorem dX3_become_4 : decode cX3_become 4 = .ok (.iconst 0, 1) := by decide +kernel
theorem dX3_become_5 : decode cX3_become 5 = .ok (.aload_n 0, 1) := by decide +kernel
theorem dX3_become_6 : decode cX3_become 6 = .ok (.getfield 9, 3) := by decide +kernel
theorem dX3_become_9 : decode cX3_become 9 = .ok (.iconst 0, 1) := by decide +kernel
theorem dX3_become_10 : decode cX3_become 10 = .ok (.bipush 12, 2) := by decide +kernel
theorem dX3_become_12 : decode cX3_become 12 = .ok (.invokestatic 18, 3) := by decide +kernel
theorem dX3_become_15 : decode cX3_become 15 = .ok (.aload_n 1, 1) := by decide +kernel
theorem dX3_become_16 : decode cX3_become 16 = .ok (.getfield 15, 3) := by decide +kernel
theorem dX3_become_19 : decode cX3_become 19 = .ok (.iconst 0, 1) := by decide +kernel
theorem dX3_become_20 : decode cX3_become 20 = .ok (.aload_n 0, 1) := by decide +kernel
theorem dX3_become_21 : decode cX3_become 21 = .ok (.getfield 15, 3) := by decide +kernel
theorem dX3_become_24 : decode cX3_become 24 = .ok (.iconst 0, 1) := by decide +kernel
theorem dX3_become_25 : decode cX3_become 25 = .ok (.bipush 12, 2) := by decide +kernel
theorem dX3_become_27 : decode cX3_become 27 = .ok (.invokestatic 18, 3) := by decide +kernel
theorem dX3_become_30 : decode cX3_become 30 = .ok (.aload_n 0, 1) := by decide +kernel
theorem dX3_become_31 : decode cX3_become 31 = .ok (.aload_n 1, 1) := by decide +kernel
theorem dX3_become_32 : decode cX3_become 32 = .ok (.getfield 24, 3) := by decide +kernel
theorem dX3_become_35 : decode cX3_become 35 = .ok (.putfield 24, 3) := by decide +kernel
theorem dX3_become_38 : decode cX3_become 38 = .ok (.return_, 1) := by decide +kernel
theorem dX3_tells_0 : decode cX3_tells 0 = .ok (.iload_n 1, 1) := by decide +kernel
theorem dX3_tells_1 : decode cX3_tells 1 = .ok (.ifCond .lt 11, 3) := by decide +kernel
theorem dX3_tells_4 : decode cX3_tells 4 = .ok (.iload_n 1, 1) := by decide +kernel
theorem dX3_tells_5 : decode cX3_tells 5 = .ok (.aload_n 0, 1) := by decide +kernel
theorem dX3_tells_6 : decode cX3_tells 6 = .ok (.getfield 24, 3) := by decide +kernel
theorem dX3_tells_9 : decode cX3_tells 9 = .ok (.if_icmp .lt 6, 3) := by decide +kernel
theorem dX3_tells_12 : decode cX3_tells 12 = .ok (.bipush (-2), 2) := by decide +kernel
theorem dX3_tells_14 : decode cX3_tells 14 = .ok (.ireturn, 1) := by decide +kernel
theorem dX3_tells_15 : decode cX3_tells 15 = .ok (.iload_n 2, 1) := by decide +kernel
theorem dX3_tells_16 : decode cX3_tells 16 = .ok (.ifCond .ne 12, 3) := by decide +kernel
theorem dX3_tells_19 : decode cX3_tells 19 = .ok (.aload_n 0, 1) := by decide +kernel
theorem dX3_tells_20 : decode cX3_tells 20 = .ok (.getfield 9, 3) := by decide +kernel
theorem dX3_tells_23 : decode cX3_tells 23 = .ok (.iload_n 1, 1) := by decide +kernel
theorem dX3_tells_24 : decode cX3_tells 24 = .ok (.iaload, 1) := by decide +kernel
theorem dX3_tells_25 : decode cX3_tells 25 = .ok (.goto 9, 3) := by decide +kernel
theorem dX3_tells_28 : decode cX3_tells 28 = .ok (.aload_n 0, 1) := by decide +kernel
theorem dX3_tells_29 : decode cX3_tells 29 = .ok (.getfield 15, 3) := by decide +kernel
theorem dX3_tells_32 : decode cX3_tells 32 = .ok (.iload_n 1, 1) := by decide +kernel
theorem dX3_tells_33 : decode cX3_tells 33 = .ok (.iaload, 1) := by decide +kernel
theorem dX3_tells_34 : decode cX3_tells 34 = .ok (.ireturn, 1) := by decide +kernel
theorem dX3_uppermost_0 : decode cX3_uppermost 0 = .ok (.aload_n 0, 1) := by decide +kernel
theorem dX3_uppermost_1 : decode cX3_uppermost 1 = .ok (.aload_n 0, 1) := by decide +kernel
theorem dX3_uppermost_2 : decode cX3_uppermost 2 = .ok (.getfield 24, 3) := by decide +kernel
theorem dX3_uppermost_5 : decode cX3_uppermost 5 = .ok (.iconst 1, 1) := by decide +kernel
theorem dX3_uppermost_6 : decode cX3_uppermost 6 = .ok (.isub, 1) := by decide +kernel
theorem dX3_uppermost_7 : decode cX3_uppermost 7 = .ok (.iconst 0, 1) := by decide +kernel
theorem dX3_uppermost_8 : decode cX3_uppermost 8 = .ok (.invokevirtual 28, 3) := by decide +kernel
theorem dX3_uppermost_11 : decode cX3_uppermost 11 = .ok (.ireturn, 1) := by decide +kernel
theorem dX3_settle_0 : decode cX3_settle 0 = .ok (.iload_n 2, 1) := by decide +kernel
theorem dX3_settle_1 : decode cX3_settle 1 = .ok (.ifCond .gt 5, 3) := by decide +kernel
theorem dX3_settle_4 : decode cX3_settle 4 = .ok (.iconst 0, 1) := by decide +kernel
theorem dX3_settle_5 : decode cX3_settle 5 = .ok (.ireturn, 1) := by decide +kernel
theorem dX3_settle_6 : decode cX3_settle 6 = .ok (.aload_n 0, 1) := by decide +kernel
theorem dX3_settle_7 : decode cX3_settle 7 = .ok (.invokevirtual 32, 3) := by decide +kernel
theorem dX3_settle_10 : decode cX3_settle 10 = .ok (.iload_n 1, 1) := by decide +kernel
theorem dX3_settle_11 : decode cX3_settle 11 = .ok (.if_icmp .ne 48, 3) := by decide +kernel
theorem dX3_settle_14 : decode cX3_settle 14 = .ok (.aload_n 0, 1) := by decide +kernel
theorem dX3_settle_15 : decode cX3_settle 15 = .ok (.getfield 15, 3) := by decide +kernel
theorem dX3_settle_18 : decode cX3_settle 18 = .ok (.aload_n 0, 1) := by decide +kernel
theorem dX3_settle_19 : decode cX3_settle 19 = .ok (.getfield 24, 3) := by decide +kernel
theorem dX3_settle_22 : decode cX3_settle 22 = .ok (.iconst 1, 1) := by decide +kernel
theorem dX3_settle_23 : decode cX3_settle 23 = .ok (.isub, 1) := by decide +kernel
theorem dX3_settle_24 : decode cX3_settle 24 = .ok (.iaload, 1) := by decide +kernel
theorem dX3_settle_25 : decode cX3_settle 25 = .ok (.istore_n 3, 1) := by decide +kernel
theorem dX3_settle_26 : decode cX3_settle 26 = .ok (.aload_n 0, 1) := by decide +kernel
theorem dX3_settle_27 : decode cX3_settle 27 = .ok (.getfield 15, 3) := by decide +kernel
theorem dX3_settle_30 : decode cX3_settle 30 = .ok (.aload_n 0, 1) := by decide +kernel
theorem dX3_settle_31 : decode cX3_settle 31 = .ok (.getfield 24, 3) := by decide +kernel
theorem dX3_settle_34 : decode cX3_settle 34 = .ok (.iconst 1, 1) := by decide +kernel
theorem dX3_settle_35 : decode cX3_settle 35 = .ok (.isub, 1) := by decide +kernel
theorem dX3_settle_36 : decode cX3_settle 36 = .ok (.iload_n 3, 1) := by decide +kernel
theorem dX3_settle_37 : decode cX3_settle 37 = .ok (.iload_n 2, 1) := by decide +kernel
theorem dX3_settle_38 : decode cX3_settle 38 = .ok (.iadd, 1) := by decide +kernel
theorem dX3_settle_39 : decode cX3_settle 39 = .ok (.bipush 99, 2) := by decide +kernel
theorem dX3_settle_41 : decode cX3_settle 41 = .ok (.invokestatic 36, 3) := by decide +kernel
theorem dX3_settle_44 : decode cX3_settle 44 = .ok (.iastore, 1) := by decide +kernel
theorem dX3_settle_45 : decode cX3_settle 45 = .ok (.aload_n 0, 1) := by decide +kernel
theorem dX3_settle_46 : decode cX3_settle 46 = .ok (.getfield 15, 3) := by decide +kernel
theorem dX3_settle_49 : decode cX3_settle 49 = .ok (.aload_n 0, 1) := by decide +kernel
theorem dX3_settle_50 : decode cX3_settle 50 = .ok (.getfield 24, 3) := by decide +kernel
theorem dX3_settle_53 : decode cX3_settle 53 = .ok (.iconst 1, 1) := by decide +kernel
theorem dX3_settle_54 : decode cX3_settle 54 = .ok (.isub, 1) := by decide +kernel
theorem dX3_settle_55 : decode cX3_settle 55 = .ok (.iaload, 1) := by decide +kernel
theorem dX3_settle_56 : decode cX3_settle 56 = .ok (.iload_n 3, 1) := by decide +kernel
theorem dX3_settle_57 : decode cX3_settle 57 = .ok (.isub, 1) := by decide +kernel
theorem dX3_settle_58 : decode cX3_settle 58 = .ok (.ireturn, 1) := by decide +kernel
theorem dX3_settle_59 : decode cX3_settle 59 = .ok (.aload_n 0, 1) := by decide +kernel
theorem dX3_settle_60 : decode cX3_settle 60 = .ok (.getfield 24, 3) := by decide +kernel
theorem dX3_settle_63 : decode cX3_settle 63 = .ok (.bipush 12, 2) := by decide +kernel
theorem dX3_settle_65 : decode cX3_settle 65 = .ok (.if_icmp .lt 7, 3) := by decide +kernel
theorem dX3_settle_68 : decode cX3_settle 68 = .ok (.aload_n 0, 1) := by decide +kernel
theorem dX3_settle_69 : decode cX3_settle 69 = .ok (.invokevirtual 41, 3) := by decide +kernel
theorem dX3_settle_72 : decode cX3_settle 72 = .ok (.aload_n 0, 1) := by decide +kernel
theorem dX3_settle_73 : decode cX3_settle 73 = .ok (.getfield 9, 3) := by decide +kernel
theorem dX3_settle_76 : decode cX3_settle 76 = .ok (.aload_n 0, 1) := by decide +kernel
theorem dX3_settle_77 : decode cX3_settle 77 = .ok (.getfield 24, 3) := by decide +kernel
theorem dX3_settle_80 : decode cX3_settle 80 = .ok (.iload_n 1, 1) := by decide +kernel
theorem dX3_settle_81 : decode cX3_settle 81 = .ok (.iastore, 1) := by decide +kernel
theorem dX3_settle_82 : decode cX3_settle 82 = .ok (.aload_n 0, 1) := by decide +kernel
theorem dX3_settle_83 : decode cX3_settle 83 = .ok (.getfield 15, 3) := by decide +kernel
theorem dX3_settle_86 : decode cX3_settle 86 = .ok (.aload_n 0, 1) := by decide +kernel
theorem dX3_settle_87 : decode cX3_settle 87 = .ok (.getfield 24, 3) := by decide +kernel
theorem dX3_settle_90 : decode cX3_settle 90 = .ok (.iload_n 2, 1) := by decide +kernel
theorem dX3_settle_91 : decode cX3_settle 91 = .ok (.iastore, 1) := by decide +kernel
theorem dX3_settle_92 : decode cX3_settle 92 = .ok (.aload_n 0, 1) := by decide +kernel
theorem dX3_settle_93 : decode cX3_settle 93 = .ok (.dup, 1) := by decide +kernel
theorem dX3_settle_94 : decode cX3_settle 94 = .ok (.getfield 24, 3) := by decide +kernel
theorem dX3_settle_97 : decode cX3_settle 97 = .ok (.iconst 1, 1) := by decide +kernel
theorem dX3_settle_98 : decode cX3_settle 98 = .ok (.iadd, 1) := by decide +kernel
theorem dX3_settle_99 : decode cX3_settle 99 = .ok (.putfield 24, 3) := by decide +kernel
theorem dX3_settle_102 : decode cX3_settle 102 = .ok (.iload_n 2, 1) := by decide +kernel
theorem dX3_settle_103 : decode cX3_settle 103 = .ok (.ireturn, 1) := by decide +kernel
theorem dX3_press_0 : decode cX3_press 0 = .ok (.aload_n 0, 1) := by decide +kernel
theorem dX3_press_1 : decode cX3_press 1 = .ok (.getfield 15, 3) := by decide +kernel
theorem dX3_press_4 : decode cX3_press 4 = .ok (.iconst 0, 1) := by decide +kernel
theorem dX3_press_5 : decode cX3_press 5 = .ok (.aload_n 0, 1) := by decide +kernel
theorem dX3_press_6 : decode cX3_press 6 = .ok (.getfield 15, 3) := by decide +kernel
theorem dX3_press_9 : decode cX3_press 9 = .ok (.iconst 0, 1) := by decide +kernel
theorem dX3_press_10 : decode cX3_press 10 = .ok (.iaload, 1) := by decide +kernel
theorem dX3_press_11 : decode cX3_press 11 = .ok (.aload_n 0, 1) := by decide +kernel
theorem dX3_press_12 : decode cX3_press 12 = .ok (.getfield 15, 3) := by decide +kernel
theorem dX3_press_15 : decode cX3_press 15 = .ok (.iconst 1, 1) := by decide +kernel
theorem dX3_press_16 : decode cX3_press 16 = .ok (.iaload, 1) := by decide +kernel
theorem dX3_press_17 : decode cX3_press 17 = .ok (.iadd, 1) := by decide +kernel
theorem dX3_press_18 : decode cX3_press 18 = .ok (.bipush 99, 2) := by decide +kernel
theorem dX3_press_20 : decode cX3_press 20 = .ok (.invokestatic 36, 3) := by decide +kernel
theorem dX3_press_23 : decode cX3_press 23 = .ok (.iastore, 1) := by decide +kernel
theorem dX3_press_24 : decode cX3_press 24 = .ok (.iconst 1, 1) := by decide +kernel
theorem dX3_press_25 : decode cX3_press 25 = .ok (.istore_n 1, 1) := by decide +kernel
theorem dX3_press_26 : decode cX3_press 26 = .ok (.iload_n 1, 1) := by decide +kernel
theorem dX3_press_27 : decode cX3_press 27 = .ok (.bipush 11, 2) := by decide +kernel
theorem dX3_press_29 : decode cX3_press 29 = .ok (.if_icmp .ge 37, 3) := by decide +kernel
theorem dX3_press_32 : decode cX3_press 32 = .ok (.aload_n 0, 1) := by decide +kernel
theorem dX3_press_33 : decode cX3_press 33 = .ok (.getfield 9, 3) := by decide +kernel
theorem dX3_press_36 : decode cX3_press 36 = .ok (.iload_n 1, 1) := by decide +kernel
theorem dX3_press_37 : decode cX3_press 37 = .ok (.aload_n 0, 1) := by decide +kernel
theorem dX3_press_38 : decode cX3_press 38 = .ok (.getfield 9, 3) := by decide +kernel
theorem dX3_press_41 : decode cX3_press 41 = .ok (.iload_n 1, 1) := by decide +kernel
theorem dX3_press_42 : decode cX3_press 42 = .ok (.iconst 1, 1) := by decide +kernel
theorem dX3_press_43 : decode cX3_press 43 = .ok (.iadd, 1) := by decide +kernel
theorem dX3_press_44 : decode cX3_press 44 = .ok (.iaload, 1) := by decide +kernel
theorem dX3_press_45 : decode cX3_press 45 = .ok (.iastore, 1) := by decide +kernel
theorem dX3_press_46 : decode cX3_press 46 = .ok (.aload_n 0, 1) := by decide +kernel
theorem dX3_press_47 : decode cX3_press 47 = .ok (.getfield 15, 3) := by decide +kernel
theorem dX3_press_50 : decode cX3_press 50 = .ok (.iload_n 1, 1) := by decide +kernel
theorem dX3_press_51 : decode cX3_press 51 = .ok (.aload_n 0, 1) := by decide +kernel
theorem dX3_press_52 : decode cX3_press 52 = .ok (.getfield 15, 3) := by decide +kernel
theorem dX3_press_55 : decode cX3_press 55 = .ok (.iload_n 1, 1) := by decide +kernel
theorem dX3_press_56 : decode cX3_press 56 = .ok (.iconst 1, 1) := by decide +kernel
theorem dX3_press_57 : decode cX3_press 57 = .ok (.iadd, 1) := by decide +kernel
theorem dX3_press_58 : decode cX3_press 58 = .ok (.iaload, 1) := by decide +kernel
theorem dX3_press_59 : decode cX3_press 59 = .ok (.iastore, 1) := by decide +kernel
theorem dX3_press_60 : decode cX3_press 60 = .ok (.iinc 1 1, 3) := by decide +kernel
theorem dX3_press_63 : decode cX3_press 63 = .ok (.goto (-37), 3) := by decide +kernel
theorem dX3_press_66 : decode cX3_press 66 = .ok (.aload_n 0, 1) := by decide +kernel
theorem dX3_press_67 : decode cX3_press 67 = .ok (.bipush 11, 2) := by decide +kernel
theorem dX3_press_69 : decode cX3_press 69 = .ok (.putfield 24, 3) := by decide +kernel
theorem dX3_press_72 : decode cX3_press 72 = .ok (.return_, 1) := by decide +kernel
theorem dX3_takeFromAbove_0 : decode cX3_takeFromAbove 0 = .ok (.iload_n 1, 1) := by decide +kernel
theorem dX3_takeFromAbove_1 : decode cX3_takeFromAbove 1 = .ok (.istore_n 2, 1) := by decide +kernel
theorem dX3_takeFromAbove_2 : decode cX3_takeFromAbove 2 = .ok (.aload_n 0, 1) := by decide +kernel
theorem dX3_takeFromAbove_3 : decode cX3_takeFromAbove 3 = .ok (.getfield 24, 3) := by decide +kernel
theorem dX3_takeFromAbove_6 : decode cX3_takeFromAbove 6 = .ok (.iconst 1, 1) := by decide +kernel
theorem dX3_takeFromAbove_7 : decode cX3_takeFromAbove 7 = .ok (.isub, 1) := by decide +kernel
theorem dX3_takeFromAbove_8 : decode cX3_takeFromAbove 8 = .ok (.istore_n 3, 1) := by decide +kernel
theorem dX3_takeFromAbove_9 : decode cX3_takeFromAbove 9 = .ok (.iload_n 3, 1) := by decide +kernel
theorem dX3_takeFromAbove_10 : decode cX3_takeFromAbove 10 = .ok (.ifCond .lt 55, 3) := by decide +kernel
theorem dX3_takeFromAbove_13 : decode cX3_takeFromAbove 13 = .ok (.iload_n 2, 1) := by decide +kernel
theorem dX3_takeFromAbove_14 : decode cX3_takeFromAbove 14 = .ok (.ifCond .le 51, 3) := by decide +kernel
theorem dX3_takeFromAbove_17 : decode cX3_takeFromAbove 17 = .ok (.iload_n 2, 1) := by decide +kernel
theorem dX3_takeFromAbove_18 : decode cX3_takeFromAbove 18 = .ok (.aload_n 0, 1) := by decide +kernel
theorem dX3_takeFromAbove_19 : decode cX3_takeFromAbove 19 = .ok (.getfield 15, 3) := by decide +kernel
theorem dX3_takeFromAbove_22 : decode cX3_takeFromAbove 22 = .ok (.iload_n 3, 1) := by decide +kernel
theorem dX3_takeFromAbove_23 : decode cX3_takeFromAbove 23 = .ok (.iaload, 1) := by decide +kernel
theorem dX3_takeFromAbove_24 : decode cX3_takeFromAbove 24 = .ok (.invokestatic 36, 3) := by decide +kernel
theorem dX3_takeFromAbove_27 : decode cX3_takeFromAbove 27 = .ok (.istore 4, 2) := by decide +kernel
theorem dX3_takeFromAbove_29 : decode cX3_takeFromAbove 29 = .ok (.aload_n 0, 1) := by decide +kernel
theorem dX3_takeFromAbove_30 : decode cX3_takeFromAbove 30 = .ok (.getfield 15, 3) := by decide +kernel
theorem dX3_takeFromAbove_33 : decode cX3_takeFromAbove 33 = .ok (.iload_n 3, 1) := by decide +kernel
theorem dX3_takeFromAbove_34 : decode cX3_takeFromAbove 34 = .ok (.dup2, 1) := by decide +kernel
theorem dX3_takeFromAbove_35 : decode cX3_takeFromAbove 35 = .ok (.iaload, 1) := by decide +kernel
theorem dX3_takeFromAbove_36 : decode cX3_takeFromAbove 36 = .ok (.iload 4, 2) := by decide +kernel
theorem dX3_takeFromAbove_38 : decode cX3_takeFromAbove 38 = .ok (.isub, 1) := by decide +kernel
theorem dX3_takeFromAbove_39 : decode cX3_takeFromAbove 39 = .ok (.iastore, 1) := by decide +kernel
theorem dX3_takeFromAbove_40 : decode cX3_takeFromAbove 40 = .ok (.iload_n 2, 1) := by decide +kernel
theorem dX3_takeFromAbove_41 : decode cX3_takeFromAbove 41 = .ok (.iload 4, 2) := by decide +kernel
theorem dX3_takeFromAbove_43 : decode cX3_takeFromAbove 43 = .ok (.isub, 1) := by decide +kernel
theorem dX3_takeFromAbove_44 : decode cX3_takeFromAbove 44 = .ok (.istore_n 2, 1) := by decide +kernel
theorem dX3_takeFromAbove_45 : decode cX3_takeFromAbove 45 = .ok (.aload_n 0, 1) := by decide +kernel
theorem dX3_takeFromAbove_46 : decode cX3_takeFromAbove 46 = .ok (.getfield 15, 3) := by decide +kernel
theorem dX3_takeFromAbove_49 : decode cX3_takeFromAbove 49 = .ok (.iload_n 3, 1) := by decide +kernel
theorem dX3_takeFromAbove_50 : decode cX3_takeFromAbove 50 = .ok (.iaload, 1) := by decide +kernel
theorem dX3_takeFromAbove_51 : decode cX3_takeFromAbove 51 = .ok (.ifCond .ne 8, 3) := by decide +kernel
theorem dX3_takeFromAbove_54 : decode cX3_takeFromAbove 54 = .ok (.aload_n 0, 1) := by decide +kernel
theorem dX3_takeFromAbove_55 : decode cX3_takeFromAbove 55 = .ok (.iload_n 3, 1) := by decide +kernel
theorem dX3_takeFromAbove_56 : decode cX3_takeFromAbove 56 = .ok (.putfield 24, 3) := by decide +kernel
theorem dX3_takeFromAbove_59 : decode cX3_takeFromAbove 59 = .ok (.iinc 3 (-1), 3) := by decide +kernel
theorem dX3_takeFromAbove_62 : decode cX3_takeFromAbove 62 = .ok (.goto (-53), 3) := by decide +kernel
theorem dX3_takeFromAbove_65 : decode cX3_takeFromAbove 65 = .ok (.iload_n 1, 1) := by decide +kernel
theorem dX3_takeFromAbove_66 : decode cX3_takeFromAbove 66 = .ok (.iload_n 2, 1) := by decide +kernel
theorem dX3_takeFromAbove_67 : decode cX3_takeFromAbove 67 = .ok (.isub, 1) := by decide +kernel
theorem dX3_takeFromAbove_68 : decode cX3_takeFromAbove 68 = .ok (.ireturn, 1) := by decide +kernel
theorem dX3_allThick_0 : decode cX3_allThick 0 = .ok (.aload_n 0, 1) := by decide +kernel
theorem dX3_allThick_1 : decode cX3_allThick 1 = .ok (.iconst 0, 1) := by decide +kernel
theorem dX3_allThick_2 : decode cX3_allThick 2 = .ok (.invokevirtual 44, 3) := by decide +kernel
theorem dX3_allThick_5 : decode cX3_allThick 5 = .ok (.ireturn, 1) := by decide +kernel
theorem dX3_thickFrom_0 : decode cX3_thickFrom 0 = .ok (.iload_n 1, 1) := by decide +kernel
theorem dX3_thickFrom_1 : decode cX3_thickFrom 1 = .ok (.ifCond .ge 5, 3) := by decide +kernel
theorem dX3_thickFrom_4 : decode cX3_thickFrom 4 = .ok (.iconst 0, 1) := by decide +kernel
theorem dX3_thickFrom_5 : decode cX3_thickFrom 5 = .ok (.ireturn, 1) := by decide +kernel
theorem dX3_thickFrom_6 : decode cX3_thickFrom 6 = .ok (.iconst 0, 1) := by decide +kernel
theorem dX3_thickFrom_7 : decode cX3_thickFrom 7 = .ok (.istore_n 2, 1) := by decide +kernel
theorem dX3_thickFrom_8 : decode cX3_thickFrom 8 = .ok (.iload_n 1, 1) := by decide +kernel
theorem dX3_thickFrom_9 : decode cX3_thickFrom 9 = .ok (.istore_n 3, 1) := by decide +kernel
theorem dX3_thickFrom_10 : decode cX3_thickFrom 10 = .ok (.iload_n 3, 1) := by decide +kernel
theorem dX3_thickFrom_11 : decode cX3_thickFrom 11 = .ok (.aload_n 0, 1) := by decide +kernel
theorem dX3_thickFrom_12 : decode cX3_thickFrom 12 = .ok (.getfield 24, 3) := by decide +kernel
theorem dX3_thickFrom_15 : decode cX3_thickFrom 15 = .ok (.if_icmp .ge 18, 3) := by decide +kernel
theorem dX3_thickFrom_18 : decode cX3_thickFrom 18 = .ok (.iload_n 2, 1) := by decide +kernel
theorem dX3_thickFrom_19 : decode cX3_thickFrom 19 = .ok (.aload_n 0, 1) := by decide +kernel
theorem dX3_thickFrom_20 : decode cX3_thickFrom 20 = .ok (.getfield 15, 3) := by decide +kernel
theorem dX3_thickFrom_23 : decode cX3_thickFrom 23 = .ok (.iload_n 3, 1) := by decide +kernel
theorem dX3_thickFrom_24 : decode cX3_thickFrom 24 = .ok (.iaload, 1) := by decide +kernel
theorem dX3_thickFrom_25 : decode cX3_thickFrom 25 = .ok (.iadd, 1) := by decide +kernel
theorem dX3_thickFrom_26 : decode cX3_thickFrom 26 = .ok (.istore_n 2, 1) := by decide +kernel
theorem dX3_thickFrom_27 : decode cX3_thickFrom 27 = .ok (.iinc 3 1, 3) := by decide +kernel
theorem dX3_thickFrom_30 : decode cX3_thickFrom 30 = .ok (.goto (-20), 3) := by decide +kernel
theorem dX3_thickFrom_33 : decode cX3_thickFrom 33 = .ok (.iload_n 2, 1) := by decide +kernel
theorem dX3_thickFrom_34 : decode cX3_thickFrom 34 = .ok (.ireturn, 1) := by decide +kernel
theorem dX3_readBits_0 : decode cX3_readBits 0 = .ok (.iconst 0, 1) := by decide +kernel
theorem dX3_readBits_1 : decode cX3_readBits 1 = .ok (.istore_n 1, 1) := by decide +kernel
theorem dX3_readBits_2 : decode cX3_readBits 2 = .ok (.iconst 0, 1) := by decide +kernel
theorem dX3_readBits_3 : decode cX3_readBits 3 = .ok (.istore_n 2, 1) := by decide +kernel
theorem dX3_readBits_4 : decode cX3_readBits 4 = .ok (.iload_n 2, 1) := by decide +kernel
theorem dX3_readBits_5 : decode cX3_readBits 5 = .ok (.aload_n 0, 1) := by decide +kernel
theorem dX3_readBits_6 : decode cX3_readBits 6 = .ok (.getfield 24, 3) := by decide +kernel
theorem dX3_readBits_9 : decode cX3_readBits 9 = .ok (.if_icmp .ge 20, 3) := by decide +kernel
theorem dX3_readBits_12 : decode cX3_readBits 12 = .ok (.iload_n 1, 1) := by decide +kernel
theorem dX3_readBits_13 : decode cX3_readBits 13 = .ok (.iconst 1, 1) := by decide +kernel
theorem dX3_readBits_14 : decode cX3_readBits 14 = .ok (.aload_n 0, 1) := by decide +kernel
theorem dX3_readBits_15 : decode cX3_readBits 15 = .ok (.getfield 9, 3) := by decide +kernel
theorem dX3_readBits_18 : decode cX3_readBits 18 = .ok (.iload_n 2, 1) := by decide +kernel
theorem dX3_readBits_19 : decode cX3_readBits 19 = .ok (.iaload, 1) := by decide +kernel
theorem dX3_readBits_20 : decode cX3_readBits 20 = .ok (.ishl, 1) := by decide +kernel
theorem dX3_readBits_21 : decode cX3_readBits 21 = .ok (.ior, 1) := by decide +kernel
theorem dX3_readBits_22 : decode cX3_readBits 22 = .ok (.istore_n 1, 1) := by decide +kernel
theorem dX3_readBits_23 : decode cX3_readBits 23 = .ok (.iinc 2 1, 3) := by decide +kernel
theorem dX3_readBits_26 : decode cX3_readBits 26 = .ok (.goto (-22), 3) := by decide +kernel
theorem dX3_readBits_29 : decode cX3_readBits 29 = .ok (.iload_n 1, 1) := by decide +kernel
theorem dX3_readBits_30 : decode cX3_readBits 30 = .ok (.ireturn, 1) := by decide +kernel
theorem dX3_nextOf_0 : decode cX3_nextOf 0 = .ok (.iload_n 2, 1) := by decide +kernel
theorem dX3_nextOf_1 : decode cX3_nextOf 1 = .ok (.iconst 0, 1) := by decide +kernel
theorem dX3_nextOf_2 : decode cX3_nextOf 2 = .ok (.invokestatic 48, 3) := by decide +kernel
theorem dX3_nextOf_5 : decode cX3_nextOf 5 = .ok (.istore_n 3, 1) := by decide +kernel
theorem dX3_nextOf_6 : decode cX3_nextOf 6 = .ok (.iload_n 3, 1) := by decide +kernel
theorem dX3_nextOf_7 : decode cX3_nextOf 7 = .ok (.aload_n 0, 1) := by decide +kernel
theorem dX3_nextOf_8 : decode cX3_nextOf 8 = .ok (.getfield 24, 3) := by decide +kernel
theorem dX3_nextOf_11 : decode cX3_nextOf 11 = .ok (.if_icmp .ge 21, 3) := by decide +kernel
theorem dX3_nextOf_14 : decode cX3_nextOf 14 = .ok (.aload_n 0, 1) := by decide +kernel
theorem dX3_nextOf_15 : decode cX3_nextOf 15 = .ok (.getfield 9, 3) := by decide +kernel
theorem dX3_nextOf_18 : decode cX3_nextOf 18 = .ok (.iload_n 3, 1) := by decide +kernel
theorem dX3_nextOf_19 : decode cX3_nextOf 19 = .ok (.iaload, 1) := by decide +kernel
theorem dX3_nextOf_20 : decode cX3_nextOf 20 = .ok (.iload_n 1, 1) := by decide +kernel
theorem dX3_nextOf_21 : decode cX3_nextOf 21 = .ok (.if_icmp .ne 5, 3) := by decide +kernel
theorem dX3_nextOf_24 : decode cX3_nextOf 24 = .ok (.iload_n 3, 1) := by decide +kernel
theorem dX3_nextOf_25 : decode cX3_nextOf 25 = .ok (.ireturn, 1) := by decide +kernel
theorem dX3_nextOf_26 : decode cX3_nextOf 26 = .ok (.iinc 3 1, 3) := by decide +kernel
theorem dX3_nextOf_29 : decode cX3_nextOf 29 = .ok (.goto (-23), 3) := by decide +kernel
theorem dX3_nextOf_32 : decode cX3_nextOf 32 = .ok (.bipush (-2), 2) := by decide +kernel
theorem dX3_nextOf_34 : decode cX3_nextOf 34 = .ok (.ireturn, 1) := by decide +kernel
theorem dX3_unlikeFromAbove_0 : decode cX3_unlikeFromAbove 0 = .ok (.iconst 0, 1) := by decide +kernel
theorem dX3_unlikeFromAbove_1 : decode cX3_unlikeFromAbove 1 = .ok (.istore_n 2, 1) := by decide +kernel
theorem dX3_unlikeFromAbove_2 : decode cX3_unlikeFromAbove 2 = .ok (.iconst 0, 1) := by decide +kernel
theorem dX3_unlikeFromAbove_3 : decode cX3_unlikeFromAbove 3 = .ok (.istore_n 3, 1) := by decide +kernel
theorem dX3_unlikeFromAbove_4 : decode cX3_unlikeFromAbove 4 = .ok (.aload_n 0, 1) := by decide +kernel
theorem dX3_unlikeFromAbove_5 : decode cX3_unlikeFromAbove 5 = .ok (.getfield 24, 3) := by decide +kernel
theorem dX3_unlikeFromAbove_8 : decode cX3_unlikeFromAbove 8 = .ok (.iconst 1, 1) := by decide +kernel
theorem dX3_unlikeFromAbove_9 : decode cX3_unlikeFromAbove 9 = .ok (.isub, 1) := by decide +kernel
theorem dX3_unlikeFromAbove_10 : decode cX3_unlikeFromAbove 10 = .ok (.istore 4, 2) := by decide +kernel
theorem dX3_unlikeFromAbove_12 : decode cX3_unlikeFromAbove 12 = .ok (.iload 4, 2) := by decide +kernel
theorem dX3_unlikeFromAbove_14 : decode cX3_unlikeFromAbove 14 = .ok (.ifCond .lt 51, 3) := by decide +kernel
theorem dX3_unlikeFromAbove_17 : decode cX3_unlikeFromAbove 17 = .ok (.iload_n 2, 1) := by decide +kernel
theorem dX3_unlikeFromAbove_18 : decode cX3_unlikeFromAbove 18 = .ok (.aload_n 0, 1) := by decide +kernel
theorem dX3_unlikeFromAbove_19 : decode cX3_unlikeFromAbove 19 = .ok (.getfield 9, 3) := by decide +kernel
theorem dX3_unlikeFromAbove_22 : decode cX3_unlikeFromAbove 22 = .ok (.iload 4, 2) := by decide +kernel
theorem dX3_unlikeFromAbove_24 : decode cX3_unlikeFromAbove 24 = .ok (.iaload, 1) := by decide +kernel
theorem dX3_unlikeFromAbove_25 : decode cX3_unlikeFromAbove 25 = .ok (.ishr, 1) := by decide +kernel
theorem dX3_unlikeFromAbove_26 : decode cX3_unlikeFromAbove 26 = .ok (.iconst 1, 1) := by decide +kernel
theorem dX3_unlikeFromAbove_27 : decode cX3_unlikeFromAbove 27 = .ok (.iand, 1) := by decide +kernel
theorem dX3_unlikeFromAbove_28 : decode cX3_unlikeFromAbove 28 = .ok (.ifCond .ne 31, 3) := by decide +kernel
theorem dX3_unlikeFromAbove_31 : decode cX3_unlikeFromAbove 31 = .ok (.iload_n 3, 1) := by decide +kernel
theorem dX3_unlikeFromAbove_32 : decode cX3_unlikeFromAbove 32 = .ok (.iload_n 1, 1) := by decide +kernel
theorem dX3_unlikeFromAbove_33 : decode cX3_unlikeFromAbove 33 = .ok (.if_icmp .ne 11, 3) := by decide +kernel
theorem dX3_unlikeFromAbove_36 : decode cX3_unlikeFromAbove 36 = .ok (.aload_n 0, 1) := by decide +kernel
theorem dX3_unlikeFromAbove_37 : decode cX3_unlikeFromAbove 37 = .ok (.getfield 9, 3) := by decide +kernel
theorem dX3_unlikeFromAbove_40 : decode cX3_unlikeFromAbove 40 = .ok (.iload 4, 2) := by decide +kernel
theorem dX3_unlikeFromAbove_42 : decode cX3_unlikeFromAbove 42 = .ok (.iaload, 1) := by decide +kernel
theorem dX3_unlikeFromAbove_43 : decode cX3_unlikeFromAbove 43 = .ok (.ireturn, 1) := by decide +kernel
theorem dX3_unlikeFromAbove_44 : decode cX3_unlikeFromAbove 44 = .ok (.iload_n 2, 1) := by decide +kernel
theorem dX3_unlikeFromAbove_45 : decode cX3_unlikeFromAbove 45 = .ok (.iconst 1, 1) := by decide +kernel
theorem dX3_unlikeFromAbove_46 : decode cX3_unlikeFromAbove 46 = .ok (.aload_n 0, 1) := by decide +kernel
theorem dX3_unlikeFromAbove_47 : decode cX3_unlikeFromAbove 47 = .ok (.getfield 9, 3) := by decide +kernel
theorem dX3_unlikeFromAbove_50 : decode cX3_unlikeFromAbove 50 = .ok (.iload 4, 2) := by decide +kernel
theorem dX3_unlikeFromAbove_52 : decode cX3_unlikeFromAbove 52 = .ok (.iaload, 1) := by decide +kernel
theorem dX3_unlikeFromAbove_53 : decode cX3_unlikeFromAbove 53 = .ok (.ishl, 1) := by decide +kernel
theorem dX3_unlikeFromAbove_54 : decode cX3_unlikeFromAbove 54 = .ok (.ior, 1) := by decide +kernel
theorem dX3_unlikeFromAbove_55 : decode cX3_unlikeFromAbove 55 = .ok (.istore_n 2, 1) := by decide +kernel
theorem dX3_unlikeFromAbove_56 : decode cX3_unlikeFromAbove 56 = .ok (.iinc 3 1, 3) := by decide +kernel
theorem dX3_unlikeFromAbove_59 : decode cX3_unlikeFromAbove 59 = .ok (.iinc 4 (-1), 3) := by decide +kernel
theorem dX3_unlikeFromAbove_62 : decode cX3_unlikeFromAbove 62 = .ok (.goto (-50), 3) := by decide +kernel
theorem dX3_unlikeFromAbove_65 : decode cX3_unlikeFromAbove 65 = .ok (.bipush (-2), 2) := by decide +kernel
theorem dX3_unlikeFromAbove_67 : decode cX3_unlikeFromAbove 67 = .ok (.ireturn, 1) := by decide +kernel
theorem dX3_ofWhomMost_0 : decode cX3_ofWhomMost 0 = .ok (.bipush (-2), 2) := by decide +kernel
theorem dX3_ofWhomMost_2 : decode cX3_ofWhomMost 2 = .ok (.istore_n 1, 1) := by decide +kernel
theorem dX3_ofWhomMost_3 : decode cX3_ofWhomMost 3 = .ok (.iconst 0, 1) := by decide +kernel
theorem dX3_ofWhomMost_4 : decode cX3_ofWhomMost 4 = .ok (.istore_n 2, 1) := by decide +kernel
theorem dX3_ofWhomMost_5 : decode cX3_ofWhomMost 5 = .ok (.iconst 0, 1) := by decide +kernel
theorem dX3_ofWhomMost_6 : decode cX3_ofWhomMost 6 = .ok (.istore_n 3, 1) := by decide +kernel
theorem dX3_ofWhomMost_7 : decode cX3_ofWhomMost 7 = .ok (.iload_n 3, 1) := by decide +kernel
theorem dX3_ofWhomMost_8 : decode cX3_ofWhomMost 8 = .ok (.bipush 6, 2) := by decide +kernel
theorem dX3_ofWhomMost_10 : decode cX3_ofWhomMost 10 = .ok (.if_icmp .ge 27, 3) := by decide +kernel
theorem dX3_ofWhomMost_13 : decode cX3_ofWhomMost 13 = .ok (.aload_n 0, 1) := by decide +kernel
theorem dX3_ofWhomMost_14 : decode cX3_ofWhomMost 14 = .ok (.iload_n 3, 1) := by decide +kernel
theorem dX3_ofWhomMost_15 : decode cX3_ofWhomMost 15 = .ok (.invokevirtual 51, 3) := by decide +kernel
theorem dX3_ofWhomMost_18 : decode cX3_ofWhomMost 18 = .ok (.istore 4, 2) := by decide +kernel
theorem dX3_ofWhomMost_20 : decode cX3_ofWhomMost 20 = .ok (.iload 4, 2) := by decide +kernel
theorem dX3_ofWhomMost_22 : decode cX3_ofWhomMost 22 = .ok (.iload_n 2, 1) := by decide +kernel
theorem dX3_ofWhomMost_23 : decode cX3_ofWhomMost 23 = .ok (.if_icmp .le 8, 3) := by decide +kernel
theorem dX3_ofWhomMost_26 : decode cX3_ofWhomMost 26 = .ok (.iload_n 3, 1) := by decide +kernel
theorem dX3_ofWhomMost_27 : decode cX3_ofWhomMost 27 = .ok (.istore_n 1, 1) := by decide +kernel
theorem dX3_ofWhomMost_28 : decode cX3_ofWhomMost 28 = .ok (.iload 4, 2) := by decide +kernel
theorem dX3_ofWhomMost_30 : decode cX3_ofWhomMost 30 = .ok (.istore_n 2, 1) := by decide +kernel
theorem dX3_ofWhomMost_31 : decode cX3_ofWhomMost 31 = .ok (.iinc 3 1, 3) := by decide +kernel
theorem dX3_ofWhomMost_34 : decode cX3_ofWhomMost 34 = .ok (.goto (-27), 3) := by decide +kernel
theorem dX3_ofWhomMost_37 : decode cX3_ofWhomMost 37 = .ok (.iload_n 1, 1) := by decide +kernel
theorem dX3_ofWhomMost_38 : decode cX3_ofWhomMost 38 = .ok (.ireturn, 1) := by decide +kernel
theorem dX3_thickOf_0 : decode cX3_thickOf 0 = .ok (.iconst 0, 1) := by decide +kernel
theorem dX3_thickOf_1 : decode cX3_thickOf 1 = .ok (.istore_n 2, 1) := by decide +kernel
theorem dX3_thickOf_2 : decode cX3_thickOf 2 = .ok (.iconst 0, 1) := by decide +kernel
theorem dX3_thickOf_3 : decode cX3_thickOf 3 = .ok (.istore_n 3, 1) := by decide +kernel
theorem dX3_thickOf_4 : decode cX3_thickOf 4 = .ok (.iload_n 3, 1) := by decide +kernel
theorem dX3_thickOf_5 : decode cX3_thickOf 5 = .ok (.aload_n 0, 1) := by decide +kernel
theorem dX3_thickOf_6 : decode cX3_thickOf 6 = .ok (.getfield 24, 3) := by decide +kernel
theorem dX3_thickOf_9 : decode cX3_thickOf 9 = .ok (.if_icmp .ge 28, 3) := by decide +kernel
theorem dX3_thickOf_12 : decode cX3_thickOf 12 = .ok (.aload_n 0, 1) := by decide +kernel
theorem dX3_thickOf_13 : decode cX3_thickOf 13 = .ok (.getfield 9, 3) := by decide +kernel
theorem dX3_thickOf_16 : decode cX3_thickOf 16 = .ok (.iload_n 3, 1) := by decide +kernel
theorem dX3_thickOf_17 : decode cX3_thickOf 17 = .ok (.iaload, 1) := by decide +kernel
theorem dX3_thickOf_18 : decode cX3_thickOf 18 = .ok (.iload_n 1, 1) := by decide +kernel
theorem dX3_thickOf_19 : decode cX3_thickOf 19 = .ok (.if_icmp .ne 12, 3) := by decide +kernel
theorem dX3_thickOf_22 : decode cX3_thickOf 22 = .ok (.iload_n 2, 1) := by decide +kernel
theorem dX3_thickOf_23 : decode cX3_thickOf 23 = .ok (.aload_n 0, 1) := by decide +kernel
theorem dX3_thickOf_24 : decode cX3_thickOf 24 = .ok (.getfield 15, 3) := by decide +kernel
theorem dX3_thickOf_27 : decode cX3_thickOf 27 = .ok (.iload_n 3, 1) := by decide +kernel
theorem dX3_thickOf_28 : decode cX3_thickOf 28 = .ok (.iaload, 1) := by decide +kernel
theorem dX3_thickOf_29 : decode cX3_thickOf 29 = .ok (.iadd, 1) := by decide +kernel
theorem dX3_thickOf_30 : decode cX3_thickOf 30 = .ok (.istore_n 2, 1) := by decide +kernel
theorem dX3_thickOf_31 : decode cX3_thickOf 31 = .ok (.iinc 3 1, 3) := by decide +kernel
theorem dX3_thickOf_34 : decode cX3_thickOf 34 = .ok (.goto (-30), 3) := by decide +kernel
theorem dX3_thickOf_37 : decode cX3_thickOf 37 = .ok (.iload_n 2, 1) := by decide +kernel
theorem dX3_thickOf_38 : decode cX3_thickOf 38 = .ok (.ireturn, 1) := by decide +kernel
theorem dX4_init_0 : decode cX4_init 0 = .ok (.aload_n 0, 1) := by decide +kernel
theorem dX4_init_1 : decode cX4_init 1 = .ok (.invokespecial 3, 3) := by decide +kernel
theorem dX4_init_4 : decode cX4_init 4 = .ok (.aload_n 0, 1) := by decide +kernel
theorem dX4_init_5 : decode cX4_init 5 = .ok (.iconst 5, 1) := by decide +kernel
theorem dX4_init_6 : decode cX4_init 6 = .ok (.anewarray 9, 3) := by decide +kernel
theorem dX4_init_9 : decode cX4_init 9 = .ok (.putfield 11, 3) := by decide +kernel
theorem dX4_init_12 : decode cX4_init 12 = .ok (.aload_n 0, 1) := by decide +kernel
theorem dX4_init_13 : decode cX4_init 13 = .ok (.iconst 5, 1) := by decide +kernel
theorem dX4_init_14 : decode cX4_init 14 = .ok (.newarray .int, 2) := by decide +kernel
theorem dX4_init_16 : decode cX4_init 16 = .ok (.putfield 17, 3) := by decide +kernel
theorem dX4_init_19 : decode cX4_init 19 = .ok (.iconst 0, 1) := by decide +kernel
theorem dX4_init_20 : decode cX4_init 20 = .ok (.istore_n 1, 1) := by decide +kernel
theorem dX4_init_21 : decode cX4_init 21 = .ok (.iload_n 1, 1) := by decide +kernel
theorem dX4_init_22 : decode cX4_init 22 = .ok (.iconst 5, 1) := by decide +kernel
theorem dX4_init_23 : decode cX4_init 23 = .ok (.if_icmp .ge 22, 3) := by decide +kernel
theorem dX4_init_26 : decode cX4_init 26 = .ok (.aload_n 0, 1) := by decide +kernel
theorem dX4_init_27 : decode cX4_init 27 = .ok (.getfield 11, 3) := by decide +kernel
theorem dX4_init_30 : decode cX4_init 30 = .ok (.iload_n 1, 1) := by decide +kernel
theorem dX4_init_31 : decode cX4_init 31 = .ok (.new 9, 3) := by decide +kernel
theorem dX4_init_34 : decode cX4_init 34 = .ok (.dup, 1) := by decide +kernel
theorem dX4_init_35 : decode cX4_init 35 = .ok (.invokespecial 21, 3) := by decide +kernel
theorem dX4_init_38 : decode cX4_init 38 = .ok (.aastore, 1) := by decide +kernel
theorem dX4_init_39 : decode cX4_init 39 = .ok (.iinc 1 1, 3) := by decide +kernel
theorem dX4_init_42 : decode cX4_init 42 = .ok (.goto (-21), 3) := by decide +kernel
theorem dX4_init_45 : decode cX4_init 45 = .ok (.return_, 1) := by decide +kernel
theorem dX5_init_0 : decode cX5_init 0 = .ok (.aload_n 0, 1) := by decide +kernel
theorem dX5_init_1 : decode cX5_init 1 = .ok (.invokespecial 5, 3) := by decide +kernel
theorem dX5_init_4 : decode cX5_init 4 = .ok (.aload_n 0, 1) := by decide +kernel
theorem dX5_init_5 : decode cX5_init 5 = .ok (.bipush 121, 2) := by decide +kernel
theorem dX5_init_7 : decode cX5_init 7 = .ok (.newarray .int, 2) := by decide +kernel
theorem dX5_init_9 : decode cX5_init 9 = .ok (.putfield 11, 3) := by decide +kernel
theorem dX5_init_12 : decode cX5_init 12 = .ok (.aload_n 0, 1) := by decide +kernel
theorem dX5_init_13 : decode cX5_init 13 = .ok (.bipush 6, 2) := by decide +kernel
theorem dX5_init_15 : decode cX5_init 15 = .ok (.newarray .int, 2) := by decide +kernel
theorem dX5_init_17 : decode cX5_init 17 = .ok (.putfield 15, 3) := by decide +kernel
theorem dX5_init_20 : decode cX5_init 20 = .ok (.aload_n 0, 1) := by decide +kernel
theorem dX5_init_21 : decode cX5_init 21 = .ok (.bipush 121, 2) := by decide +kernel
theorem dX5_init_23 : decode cX5_init 23 = .ok (.newarray .int, 2) := by decide +kernel
theorem dX5_init_25 : decode cX5_init 25 = .ok (.putfield 18, 3) := by decide +kernel
theorem dX5_init_28 : decode cX5_init 28 = .ok (.return_, 1) := by decide +kernel
theorem dX5_add_0 : decode cX5_add 0 = .ok (.aload_n 0, 1) := by decide +kernel
theorem dX5_add_1 : decode cX5_add 1 = .ok (.getfield 21, 3) := by decide +kernel
theorem dX5_add_4 : decode cX5_add 4 = .ok (.aload_n 0, 1) := by decide +kernel
theorem dX5_add_5 : decode cX5_add 5 = .ok (.getfield 11, 3) := by decide +kernel
theorem dX5_add_8 : decode cX5_add 8 = .ok (.arraylength, 1) := by decide +kernel
theorem dX5_add_9 : decode cX5_add 9 = .ok (.if_icmp .ge 23, 3) := by decide +kernel
theorem dX5_add_12 : decode cX5_add 12 = .ok (.aload_n 0, 1) := by decide +kernel
theorem dX5_add_13 : decode cX5_add 13 = .ok (.getfield 11, 3) := by decide +kernel
theorem dX5_add_16 : decode cX5_add 16 = .ok (.aload_n 0, 1) := by decide +kernel
theorem dX5_add_17 : decode cX5_add 17 = .ok (.getfield 21, 3) := by decide +kernel
theorem dX5_add_20 : decode cX5_add 20 = .ok (.iload_n 1, 1) := by decide +kernel
theorem dX5_add_21 : decode cX5_add 21 = .ok (.iastore, 1) := by decide +kernel
theorem dX5_add_22 : decode cX5_add 22 = .ok (.aload_n 0, 1) := by decide +kernel
theorem dX5_add_23 : decode cX5_add 23 = .ok (.dup, 1) := by decide +kernel
theorem dX5_add_24 : decode cX5_add 24 = .ok (.getfield 21, 3) := by decide +kernel
theorem dX5_add_27 : decode cX5_add 27 = .ok (.iconst 1, 1) := by decide +kernel
theorem dX5_add_28 : decode cX5_add 28 = .ok (.iadd, 1) := by decide +kernel
theorem dX5_add_29 : decode cX5_add 29 = .ok (.putfield 21, 3) := by decide +kernel
theorem dX5_add_32 : decode cX5_add 32 = .ok (.return_, 1) := by decide +kernel
theorem dX5_become_0 : decode cX5_become 0 = .ok (.aload_n 1, 1) := by decide +kernel
theorem dX5_become_1 : decode cX5_become 1 = .ok (.getfield 11, 3) := by decide +kernel
theorem dX5_become_4 : decode cX5_become 4 = .ok (.iconst 0, 1) := by decide +kernel
theorem dX5_become_5 : decode cX5_become 5 = .ok (.aload_n 0, 1) := by decide +kernel
theorem dX5_become_6 : decode cX5_become 6 = .ok (.getfield 11, 3) := by decide +kernel
theorem dX5_become_9 : decode cX5_become 9 = .ok (.iconst 0, 1) := by decide +kernel
theorem dX5_become_10 : decode cX5_become 10 = .ok (.aload_n 0, 1) := by decide +kernel
theorem dX5_become_11 : decode cX5_become 11 = .ok (.getfield 11, 3) := by decide +kernel
theorem dX5_become_14 : decode cX5_become 14 = .ok (.arraylength, 1) := by decide +kernel
theorem dX5_become_15 : decode cX5_become 15 = .ok (.invokestatic 25, 3) := by decide +kernel
theorem dX5_become_18 : decode cX5_become 18 = .ok (.aload_n 0, 1) := by decide +kernel
theorem dX5_become_19 : decode cX5_become 19 = .ok (.aload_n 1, 1) := by decide +kernel
theorem dX5_become_20 : decode cX5_become 20 = .ok (.getfield 21, 3) := by decide +kernel
theorem dX5_become_23 : decode cX5_become 23 = .ok (.putfield 21, 3) := by decide +kernel
theorem dX5_become_26 : decode cX5_become 26 = .ok (.return_, 1) := by decide +kernel
theorem dX5_worth_0 : decode cX5_worth 0 = .ok (.aload_n 0, 1) := by decide +kernel
theorem dX5_worth_1 : decode cX5_worth 1 = .ok (.getfield 21, 3) := by decide +kernel
theorem dX5_worth_4 : decode cX5_worth 4 = .ok (.ifCond .ne 13, 3) := by decide +kernel
theorem dX5_worth_7 : decode cX5_worth 7 = .ok (.iload_n 1, 1) := by decide +kernel
theorem dX5_worth_8 : decode cX5_worth 8 = .ok (.iload_n 3, 1) := by decide +kernel
theorem dX5_worth_9 : decode cX5_worth 9 = .ok (.iconst 3, 1) := by decide +kernel
theorem dX5_worth_10 : decode cX5_worth 10 = .ok (.idiv, 1) := by decide +kernel
theorem dX5_worth_11 : decode cX5_worth 11 = .ok (.isub, 1) := by decide +kernel
theorem dX5_worth_12 : decode cX5_worth 12 = .ok (.iconst 0, 1) := by decide +kernel
theorem dX5_worth_13 : decode cX5_worth 13 = .ok (.invokestatic 31, 3) := by decide +kernel
theorem dX5_worth_16 : decode cX5_worth 16 = .ok (.ireturn, 1) := by decide +kernel
theorem dX5_worth_17 : decode cX5_worth 17 = .ok (.aload_n 0, 1) := by decide +kernel
theorem dX5_worth_18 : decode cX5_worth 18 = .ok (.getfield 15, 3) := by decide +kernel
theorem dX5_worth_21 : decode cX5_worth 21 = .ok (.iconst 0, 1) := by decide +kernel
theorem dX5_worth_22 : decode cX5_worth 22 = .ok (.iload_n 1, 1) := by decide +kernel
theorem dX5_worth_23 : decode cX5_worth 23 = .ok (.iastore, 1) := by decide +kernel
theorem dX5_worth_24 : decode cX5_worth 24 = .ok (.aload_n 0, 1) := by decide +kernel
theorem dX5_worth_25 : decode cX5_worth 25 = .ok (.getfield 15, 3) := by decide +kernel
theorem dX5_worth_28 : decode cX5_worth 28 = .ok (.iconst 1, 1) := by decide +kernel
theorem dX5_worth_29 : decode cX5_worth 29 = .ok (.iload_n 2, 1) := by decide +kernel
theorem dX5_worth_30 : decode cX5_worth 30 = .ok (.iastore, 1) := by decide +kernel
theorem dX5_worth_31 : decode cX5_worth 31 = .ok (.aload_n 0, 1) := by decide +kernel
theorem dX5_worth_32 : decode cX5_worth 32 = .ok (.getfield 15, 3) := by decide +kernel
theorem dX5_worth_35 : decode cX5_worth 35 = .ok (.iconst 2, 1) := by decide +kernel
theorem dX5_worth_36 : decode cX5_worth 36 = .ok (.iload_n 3, 1) := by decide +kernel
theorem dX5_worth_37 : decode cX5_worth 37 = .ok (.iastore, 1) := by decide +kernel
theorem dX5_worth_38 : decode cX5_worth 38 = .ok (.aload_n 0, 1) := by decide +kernel
theorem dX5_worth_39 : decode cX5_worth 39 = .ok (.getfield 15, 3) := by decide +kernel
theorem dX5_worth_42 : decode cX5_worth 42 = .ok (.iconst 3, 1) := by decide +kernel
theorem dX5_worth_43 : decode cX5_worth 43 = .ok (.aload_n 0, 1) := by decide +kernel
theorem dX5_worth_44 : decode cX5_worth 44 = .ok (.getfield 37, 3) := by decide +kernel
theorem dX5_worth_47 : decode cX5_worth 47 = .ok (.iastore, 1) := by decide +kernel
theorem dX5_worth_48 : decode cX5_worth 48 = .ok (.aload_n 0, 1) := by decide +kernel
theorem dX5_worth_49 : decode cX5_worth 49 = .ok (.getfield 15, 3) := by decide +kernel
theorem dX5_worth_52 : decode cX5_worth 52 = .ok (.iconst 4, 1) := by decide +kernel
theorem dX5_worth_53 : decode cX5_worth 53 = .ok (.iload 4, 2) := by decide +kernel
theorem dX5_worth_55 : decode cX5_worth 55 = .ok (.iastore, 1) := by decide +kernel
theorem dX5_worth_56 : decode cX5_worth 56 = .ok (.aload_n 0, 1) := by decide +kernel
theorem dX5_worth_57 : decode cX5_worth 57 = .ok (.getfield 15, 3) := by decide +kernel
theorem dX5_worth_60 : decode cX5_worth 60 = .ok (.iconst 5, 1) := by decide +kernel
theorem dX5_worth_61 : decode cX5_worth 61 = .ok (.iload 5, 2) := by decide +kernel
theorem dX5_worth_63 : decode cX5_worth 63 = .ok (.iastore, 1) := by decide +kernel
theorem dX5_worth_64 : decode cX5_worth 64 = .ok (.aload_n 0, 1) := by decide +kernel
theorem dX5_worth_65 : decode cX5_worth 65 = .ok (.iconst 0, 1) := by decide +kernel
theorem dX5_worth_66 : decode cX5_worth 66 = .ok (.putfield 40, 3) := by decide +kernel
theorem dX5_worth_69 : decode cX5_worth 69 = .ok (.iconst 0, 1) := by decide +kernel
theorem dX5_worth_70 : decode cX5_worth 70 = .ok (.istore 6, 2) := by decide +kernel
theorem dX5_worth_72 : decode cX5_worth 72 = .ok (.iload 6, 2) := by decide +kernel
theorem dX5_worth_74 : decode cX5_worth 74 = .ok (.aload_n 0, 1) := by decide +kernel
theorem dX5_worth_75 : decode cX5_worth 75 = .ok (.getfield 21, 3) := by decide +kernel
theorem dX5_worth_78 : decode cX5_worth 78 = .ok (.if_icmp .ge 63, 3) := by decide +kernel
theorem dX5_worth_81 : decode cX5_worth 81 = .ok (.aload_n 0, 1) := by decide +kernel
theorem dX5_worth_82 : decode cX5_worth 82 = .ok (.getfield 11, 3) := by decide +kernel
theorem dX5_worth_85 : decode cX5_worth 85 = .ok (.iload 6, 2) := by decide +kernel
theorem dX5_worth_87 : decode cX5_worth 87 = .ok (.iaload, 1) := by decide +kernel
theorem dX5_worth_88 : decode cX5_worth 88 = .ok (.istore 7, 2) := by decide +kernel
theorem dX5_worth_90 : decode cX5_worth 90 = .ok (.iload 7, 2) := by decide +kernel
theorem dX5_worth_92 : decode cX5_worth 92 = .ok (.sipush 20059, 3) := by decide +kernel
theorem dX5_worth_95 : decode cX5_worth 95 = .ok (.if_icmp .ne 8, 3) := by decide +kernel
theorem dX5_worth_98 : decode cX5_worth 98 = .ok (.aload_n 0, 1) := by decide +kernel
theorem dX5_worth_99 : decode cX5_worth 99 = .ok (.invokevirtual 43, 3) := by decide +kernel
theorem dX5_worth_102 : decode cX5_worth 102 = .ok (.ireturn, 1) := by decide +kernel
theorem dX5_worth_103 : decode cX5_worth 103 = .ok (.iload 7, 2) := by decide +kernel
theorem dX5_worth_105 : decode cX5_worth 105 = .ok (.sipush 20063, 3) := by decide +kernel
theorem dX5_worth_108 : decode cX5_worth 108 = .ok (.if_icmp .eq 12, 3) := by decide +kernel
theorem dX5_worth_111 : decode cX5_worth 111 = .ok (.aload_n 0, 1) := by decide +kernel
theorem dX5_worth_112 : decode cX5_worth 112 = .ok (.iload 7, 2) := by decide +kernel
theorem dX5_worth_114 : decode cX5_worth 114 = .ok (.invokevirtual 47, 3) := by decide +kernel
theorem dX5_worth_117 : decode cX5_worth 117 = .ok (.goto 18, 3) := by decide +kernel
theorem dX5_worth_120 : decode cX5_worth 120 = .ok (.aload_n 0, 1) := by decide +kernel
theorem dX5_worth_121 : decode cX5_worth 121 = .ok (.invokevirtual 43, 3) := by decide +kernel
theorem dX5_worth_124 : decode cX5_worth 124 = .ok (.ifCond .ne 11, 3) := by decide +kernel
theorem dX5_worth_127 : decode cX5_worth 127 = .ok (.aload_n 0, 1) := by decide +kernel
theorem dX5_worth_128 : decode cX5_worth 128 = .ok (.iload 6, 2) := by decide +kernel
theorem dX5_worth_130 : decode cX5_worth 130 = .ok (.invokevirtual 51, 3) := by decide +kernel
theorem dX5_worth_133 : decode cX5_worth 133 = .ok (.istore 6, 2) := by decide +kernel
theorem dX5_worth_135 : decode cX5_worth 135 = .ok (.iinc 6 1, 3) := by decide +kernel
theorem dX5_worth_138 : decode cX5_worth 138 = .ok (.goto (-66), 3) := by decide +kernel
theorem dX5_worth_141 : decode cX5_worth 141 = .ok (.iconst 0, 1) := by decide +kernel
theorem dX5_worth_142 : decode cX5_worth 142 = .ok (.ireturn, 1) := by decide +kernel
theorem dX5_endOfLine_0 : decode cX5_endOfLine 0 = .ok (.iload_n 1, 1) := by decide +kernel
theorem dX5_endOfLine_1 : decode cX5_endOfLine 1 = .ok (.istore_n 2, 1) := by decide +kernel
theorem dX5_endOfLine_2 : decode cX5_endOfLine 2 = .ok (.iload_n 2, 1) := by decide +kernel
theorem dX5_endOfLine_3 : decode cX5_endOfLine 3 = .ok (.aload_n 0, 1) := by decide +kernel
theorem dX5_endOfLine_4 : decode cX5_endOfLine 4 = .ok (.getfield 21, 3) := by decide +kernel
theorem dX5_endOfLine_7 : decode cX5_endOfLine 7 = .ok (.if_icmp .ge 21, 3) := by decide +kernel
theorem dX5_endOfLine_10 : decode cX5_endOfLine 10 = .ok (.aload_n 0, 1) := by decide +kernel
theorem dX5_endOfLine_11 : decode cX5_endOfLine 11 = .ok (.getfield 11, 3) := by decide +kernel
theorem dX5_endOfLine_14 : decode cX5_endOfLine 14 = .ok (.iload_n 2, 1) := by decide +kernel
theorem dX5_endOfLine_15 : decode cX5_endOfLine 15 = .ok (.iaload, 1) := by decide +kernel
theorem dX5_endOfLine_16 : decode cX5_endOfLine 16 = .ok (.sipush 20059, 3) := by decide +kernel
theorem dX5_endOfLine_19 : decode cX5_endOfLine 19 = .ok (.if_icmp .eq 9, 3) := by decide +kernel
theorem dX5_endOfLine_22 : decode cX5_endOfLine 22 = .ok (.iinc 2 1, 3) := by decide +kernel
theorem dX5_endOfLine_25 : decode cX5_endOfLine 25 = .ok (.goto (-23), 3) := by decide +kernel
theorem dX5_endOfLine_28 : decode cX5_endOfLine 28 = .ok (.iload_n 2, 1) := by decide +kernel
theorem dX5_endOfLine_29 : decode cX5_endOfLine 29 = .ok (.ireturn, 1) := by decide +kernel
theorem dX5_work_0 : decode cX5_work 0 = .ok (.iload_n 1, 1) := by decide +kernel
theorem dX5_work_1 : decode cX5_work 1 = .ok (.sipush 10000, 3) := by decide +kernel
theorem dX5_work_4 : decode cX5_work 4 = .ok (.if_icmp .ge 11, 3) := by decide +kernel
theorem dX5_work_7 : decode cX5_work 7 = .ok (.aload_n 0, 1) := by decide +kernel
theorem dX5_work_8 : decode cX5_work 8 = .ok (.iload_n 1, 1) := by decide +kernel
theorem dX5_work_9 : decode cX5_work 9 = .ok (.invokevirtual 55, 3) := by decide +kernel
theorem dX5_work_12 : decode cX5_work 12 = .ok (.goto 96, 3) := by decide +kernel
theorem dX5_work_15 : decode cX5_work 15 = .ok (.iload_n 1, 1) := by decide +kernel
theorem dX5_work_16 : decode cX5_work 16 = .ok (.sipush 10006, 3) := by decide +kernel
theorem dX5_work_19 : decode cX5_work 19 = .ok (.if_icmp .ge 20, 3) := by decide +kernel
theorem dX5_work_22 : decode cX5_work 22 = .ok (.aload_n 0, 1) := by decide +kernel
theorem dX5_work_23 : decode cX5_work 23 = .ok (.aload_n 0, 1) := by decide +kernel
theorem dX5_work_24 : decode cX5_work 24 = .ok (.getfield 15, 3) := by decide +kernel
theorem dX5_work_27 : decode cX5_work 27 = .ok (.iload_n 1, 1) := by decide +kernel
theorem dX5_work_28 : decode cX5_work 28 = .ok (.sipush 10000, 3) := by decide +kernel
theorem dX5_work_31 : decode cX5_work 31 = .ok (.isub, 1) := by decide +kernel
theorem dX5_work_32 : decode cX5_work 32 = .ok (.iaload, 1) := by decide +kernel
theorem dX5_work_33 : decode cX5_work 33 = .ok (.invokevirtual 55, 3) := by decide +kernel
theorem dX5_work_36 : decode cX5_work 36 = .ok (.goto 72, 3) := by decide +kernel
theorem dX5_work_39 : decode cX5_work 39 = .ok (.iload_n 1, 1) := by decide +kernel
theorem dX5_work_40 : decode cX5_work 40 = .ok (.sipush 20126, 3) := by decide +kernel
theorem dX5_work_43 : decode cX5_work 43 = .ok (.if_icmp .ne 15, 3) := by decide +kernel
theorem dX5_work_46 : decode cX5_work 46 = .ok (.aload_n 0, 1) := by decide +kernel
theorem dX5_work_47 : decode cX5_work 47 = .ok (.aload_n 0, 1) := by decide +kernel
theorem dX5_work_48 : decode cX5_work 48 = .ok (.invokevirtual 43, 3) := by decide +kernel
theorem dX5_work_51 : decode cX5_work 51 = .ok (.ineg, 1) := by decide +kernel
theorem dX5_work_52 : decode cX5_work 52 = .ok (.invokevirtual 55, 3) := by decide +kernel
theorem dX5_work_55 : decode cX5_work 55 = .ok (.goto 53, 3) := by decide +kernel
theorem dX5_work_58 : decode cX5_work 58 = .ok (.iload_n 1, 1) := by decide +kernel
theorem dX5_work_59 : decode cX5_work 59 = .ok (.sipush 20033, 3) := by decide +kernel
theorem dX5_work_62 : decode cX5_work 62 = .ok (.if_icmp .ne 22, 3) := by decide +kernel
theorem dX5_work_65 : decode cX5_work 65 = .ok (.aload_n 0, 1) := by decide +kernel
theorem dX5_work_66 : decode cX5_work 66 = .ok (.aload_n 0, 1) := by decide +kernel
theorem dX5_work_67 : decode cX5_work 67 = .ok (.invokevirtual 43, 3) := by decide +kernel
theorem dX5_work_70 : decode cX5_work 70 = .ok (.ifCond .ne 7, 3) := by decide +kernel
theorem dX5_work_73 : decode cX5_work 73 = .ok (.iconst 1, 1) := by decide +kernel
theorem dX5_work_74 : decode cX5_work 74 = .ok (.goto 4, 3) := by decide +kernel
theorem dX5_work_77 : decode cX5_work 77 = .ok (.iconst 0, 1) := by decide +kernel
theorem dX5_work_78 : decode cX5_work 78 = .ok (.invokevirtual 55, 3) := by decide +kernel
theorem dX5_work_81 : decode cX5_work 81 = .ok (.goto 27, 3) := by decide +kernel
theorem dX5_work_84 : decode cX5_work 84 = .ok (.aload_n 0, 1) := by decide +kernel
theorem dX5_work_85 : decode cX5_work 85 = .ok (.invokevirtual 43, 3) := by decide +kernel
theorem dX5_work_88 : decode cX5_work 88 = .ok (.istore_n 2, 1) := by decide +kernel
theorem dX5_work_89 : decode cX5_work 89 = .ok (.aload_n 0, 1) := by decide +kernel
theorem dX5_work_90 : decode cX5_work 90 = .ok (.invokevirtual 43, 3) := by decide +kernel
theorem dX5_work_93 : decode cX5_work 93 = .ok (.istore_n 3, 1) := by decide +kernel
theorem dX5_work_94 : decode cX5_work 94 = .ok (.aload_n 0, 1) := by decide +kernel
theorem dX5_work_95 : decode cX5_work 95 = .ok (.iload_n 1, 1) := by decide +kernel
theorem dX5_work_96 : decode cX5_work 96 = .ok (.sipush 20000, 3) := by decide +kernel
theorem dX5_work_99 : decode cX5_work 99 = .ok (.isub, 1) := by decide +kernel
theorem dX5_work_100 : decode cX5_work 100 = .ok (.iload_n 3, 1) := by decide +kernel
theorem dX5_work_101 : decode cX5_work 101 = .ok (.iload_n 2, 1) := by decide +kernel
theorem dX5_work_102 : decode cX5_work 102 = .ok (.invokestatic 58, 3) := by decide +kernel
theorem dX5_work_105 : decode cX5_work 105 = .ok (.invokevirtual 55, 3) := by decide +kernel
theorem dX5_work_108 : decode cX5_work 108 = .ok (.return_, 1) := by decide +kernel
theorem dX5_joined_0 : decode cX5_joined 0 = .ok (.iload_n 0, 1) := by decide +kernel
theorem dX5_joined_1 : decode cX5_joined 1 = .ok (.lookupswitch 168 #[(38, 97), (42, 152), (43, 144), (45, 148), (47, 156), (60, 111), (61, 122), (62, 133), (124, 83)], 83) := by decide +kernel
theorem dX5_joined_84 : decode cX5_joined 84 = .ok (.iload_n 1, 1) := by decide +kernel
theorem dX5_joined_85 : decode cX5_joined 85 = .ok (.ifCond .ne 7, 3) := by decide +kernel
theorem dX5_joined_88 : decode cX5_joined 88 = .ok (.iload_n 2, 1) := by decide +kernel
theorem dX5_joined_89 : decode cX5_joined 89 = .ok (.ifCond .eq 7, 3) := by decide +kernel
theorem dX5_joined_92 : decode cX5_joined 92 = .ok (.iconst 1, 1) := by decide +kernel
theorem dX5_joined_93 : decode cX5_joined 93 = .ok (.goto 4, 3) := by decide +kernel
theorem dX5_joined_96 : decode cX5_joined 96 = .ok (.iconst 0, 1) := by decide +kernel
theorem dX5_joined_97 : decode cX5_joined 97 = .ok (.ireturn, 1) := by decide +kernel
theorem dX5_joined_98 : decode cX5_joined 98 = .ok (.iload_n 1, 1) := by decide +kernel
theorem dX5_joined_99 : decode cX5_joined 99 = .ok (.ifCond .eq 11, 3) := by decide +kernel
theorem dX5_joined_102 : decode cX5_joined 102 = .ok (.iload_n 2, 1) := by decide +kernel
theorem dX5_joined_103 : decode cX5_joined 103 = .ok (.ifCond .eq 7, 3) := by decide +kernel
theorem dX5_joined_106 : decode cX5_joined 106 = .ok (.iconst 1, 1) := by decide +kernel
theorem dX5_joined_107 : decode cX5_joined 107 = .ok (.goto 4, 3) := by decide +kernel
theorem dX5_joined_110 : decode cX5_joined 110 = .ok (.iconst 0, 1) := by decide +kernel
theorem dX5_joined_111 : decode cX5_joined 111 = .ok (.ireturn, 1) := by decide +kernel
theorem dX5_joined_112 : decode cX5_joined 112 = .ok (.iload_n 1, 1) := by decide +kernel
theorem dX5_joined_113 : decode cX5_joined 113 = .ok (.iload_n 2, 1) := by decide +kernel
theorem dX5_joined_114 : decode cX5_joined 114 = .ok (.if_icmp .ge 7, 3) := by decide +kernel
theorem dX5_joined_117 : decode cX5_joined 117 = .ok (.iconst 1, 1) := by decide +kernel
theorem dX5_joined_118 : decode cX5_joined 118 = .ok (.goto 4, 3) := by decide +kernel
theorem dX5_joined_121 : decode cX5_joined 121 = .ok (.iconst 0, 1) := by decide +kernel
theorem dX5_joined_122 : decode cX5_joined 122 = .ok (.ireturn, 1) := by decide +kernel
theorem dX5_joined_123 : decode cX5_joined 123 = .ok (.iload_n 1, 1) := by decide +kernel
theorem dX5_joined_124 : decode cX5_joined 124 = .ok (.iload_n 2, 1) := by decide +kernel
theorem dX5_joined_125 : decode cX5_joined 125 = .ok (.if_icmp .ne 7, 3) := by decide +kernel
theorem dX5_joined_128 : decode cX5_joined 128 = .ok (.iconst 1, 1) := by decide +kernel
theorem dX5_joined_129 : decode cX5_joined 129 = .ok (.goto 4, 3) := by decide +kernel
theorem dX5_joined_132 : decode cX5_joined 132 = .ok (.iconst 0, 1) := by decide +kernel
theorem dX5_joined_133 : decode cX5_joined 133 = .ok (.ireturn, 1) := by decide +kernel
theorem dX5_joined_134 : decode cX5_joined 134 = .ok (.iload_n 1, 1) := by decide +kernel
theorem dX5_joined_135 : decode cX5_joined 135 = .ok (.iload_n 2, 1) := by decide +kernel
theorem dX5_joined_136 : decode cX5_joined 136 = .ok (.if_icmp .le 7, 3) := by decide +kernel
theorem dX5_joined_139 : decode cX5_joined 139 = .ok (.iconst 1, 1) := by decide +kernel
theorem dX5_joined_140 : decode cX5_joined 140 = .ok (.goto 4, 3) := by decide +kernel
theorem dX5_joined_143 : decode cX5_joined 143 = .ok (.iconst 0, 1) := by decide +kernel
theorem dX5_joined_144 : decode cX5_joined 144 = .ok (.ireturn, 1) := by decide +kernel
theorem dX5_joined_145 : decode cX5_joined 145 = .ok (.iload_n 1, 1) := by decide +kernel
theorem dX5_joined_146 : decode cX5_joined 146 = .ok (.iload_n 2, 1) := by decide +kernel
theorem dX5_joined_147 : decode cX5_joined 147 = .ok (.iadd, 1) := by decide +kernel
theorem dX5_joined_148 : decode cX5_joined 148 = .ok (.ireturn, 1) := by decide +kernel
theorem dX5_joined_149 : decode cX5_joined 149 = .ok (.iload_n 1, 1) := by decide +kernel
theorem dX5_joined_150 : decode cX5_joined 150 = .ok (.iload_n 2, 1) := by decide +kernel
theorem dX5_joined_151 : decode cX5_joined 151 = .ok (.isub, 1) := by decide +kernel
theorem dX5_joined_152 : decode cX5_joined 152 = .ok (.ireturn, 1) := by decide +kernel
theorem dX5_joined_153 : decode cX5_joined 153 = .ok (.iload_n 1, 1) := by decide +kernel
theorem dX5_joined_154 : decode cX5_joined 154 = .ok (.iload_n 2, 1) := by decide +kernel
theorem dX5_joined_155 : decode cX5_joined 155 = .ok (.imul, 1) := by decide +kernel
theorem dX5_joined_156 : decode cX5_joined 156 = .ok (.ireturn, 1) := by decide +kernel
theorem dX5_joined_157 : decode cX5_joined 157 = .ok (.iload_n 2, 1) := by decide +kernel
theorem dX5_joined_158 : decode cX5_joined 158 = .ok (.ifCond .ne 7, 3) := by decide +kernel
theorem dX5_joined_161 : decode cX5_joined 161 = .ok (.iconst 0, 1) := by decide +kernel
theorem dX5_joined_162 : decode cX5_joined 162 = .ok (.goto 6, 3) := by decide +kernel
theorem dX5_joined_165 : decode cX5_joined 165 = .ok (.iload_n 1, 1) := by decide +kernel
theorem dX5_joined_166 : decode cX5_joined 166 = .ok (.iload_n 2, 1) := by decide +kernel
theorem dX5_joined_167 : decode cX5_joined 167 = .ok (.idiv, 1) := by decide +kernel
theorem dX5_joined_168 : decode cX5_joined 168 = .ok (.ireturn, 1) := by decide +kernel
theorem dX5_joined_169 : decode cX5_joined 169 = .ok (.iload_n 2, 1) := by decide +kernel
theorem dX5_joined_170 : decode cX5_joined 170 = .ok (.ifCond .ne 7, 3) := by decide +kernel
theorem dX5_joined_173 : decode cX5_joined 173 = .ok (.iconst 0, 1) := by decide +kernel
theorem dX5_joined_174 : decode cX5_joined 174 = .ok (.goto 6, 3) := by decide +kernel
theorem dX5_joined_177 : decode cX5_joined 177 = .ok (.iload_n 1, 1) := by decide +kernel
theorem dX5_joined_178 : decode cX5_joined 178 = .ok (.iload_n 2, 1) := by decide +kernel
theorem dX5_joined_179 : decode cX5_joined 179 = .ok (.irem, 1) := by decide +kernel
theorem dX5_joined_180 : decode cX5_joined 180 = .ok (.ireturn, 1) := by decide +kernel
theorem dX5_push_0 : decode cX5_push 0 = .ok (.aload_n 0, 1) := by decide +kernel
theorem dX5_push_1 : decode cX5_push 1 = .ok (.getfield 40, 3) := by decide +kernel
theorem dX5_push_4 : decode cX5_push 4 = .ok (.aload_n 0, 1) := by decide +kernel
theorem dX5_push_5 : decode cX5_push 5 = .ok (.getfield 18, 3) := by decide +kernel
theorem dX5_push_8 : decode cX5_push 8 = .ok (.arraylength, 1) := by decide +kernel
theorem dX5_push_9 : decode cX5_push 9 = .ok (.if_icmp .ge 23, 3) := by decide +kernel
theorem dX5_push_12 : decode cX5_push 12 = .ok (.aload_n 0, 1) := by decide +kernel
theorem dX5_push_13 : decode cX5_push 13 = .ok (.getfield 18, 3) := by decide +kernel
theorem dX5_push_16 : decode cX5_push 16 = .ok (.aload_n 0, 1) := by decide +kernel
theorem dX5_push_17 : decode cX5_push 17 = .ok (.getfield 40, 3) := by decide +kernel
theorem dX5_push_20 : decode cX5_push 20 = .ok (.iload_n 1, 1) := by decide +kernel
theorem dX5_push_21 : decode cX5_push 21 = .ok (.iastore, 1) := by decide +kernel
theorem dX5_push_22 : decode cX5_push 22 = .ok (.aload_n 0, 1) := by decide +kernel
theorem dX5_push_23 : decode cX5_push 23 = .ok (.dup, 1) := by decide +kernel
theorem dX5_push_24 : decode cX5_push 24 = .ok (.getfield 40, 3) := by decide +kernel
theorem dX5_push_27 : decode cX5_push 27 = .ok (.iconst 1, 1) := by decide +kernel
theorem dX5_push_28 : decode cX5_push 28 = .ok (.iadd, 1) := by decide +kernel
theorem dX5_push_29 : decode cX5_push 29 = .ok (.putfield 40, 3) := by decide +kernel
theorem dX5_push_32 : decode cX5_push 32 = .ok (.return_, 1) := by decide +kernel
theorem dX5_pop_0 : decode cX5_pop 0 = .ok (.aload_n 0, 1) := by decide +kernel
theorem dX5_pop_1 : decode cX5_pop 1 = .ok (.getfield 40, 3) := by decide +kernel
theorem dX5_pop_4 : decode cX5_pop 4 = .ok (.ifCond .gt 5, 3) := by decide +kernel
theorem dX5_pop_7 : decode cX5_pop 7 = .ok (.iconst 0, 1) := by decide +kernel
theorem dX5_pop_8 : decode cX5_pop 8 = .ok (.ireturn, 1) := by decide +kernel
theorem dX5_pop_9 : decode cX5_pop 9 = .ok (.aload_n 0, 1) := by decide +kernel
theorem dX5_pop_10 : decode cX5_pop 10 = .ok (.dup, 1) := by decide +kernel
theorem dX5_pop_11 : decode cX5_pop 11 = .ok (.getfield 40, 3) := by decide +kernel
theorem dX5_pop_14 : decode cX5_pop 14 = .ok (.iconst 1, 1) := by decide +kernel
theorem dX5_pop_15 : decode cX5_pop 15 = .ok (.isub, 1) := by decide +kernel
theorem dX5_pop_16 : decode cX5_pop 16 = .ok (.putfield 40, 3) := by decide +kernel
theorem dX5_pop_19 : decode cX5_pop 19 = .ok (.aload_n 0, 1) := by decide +kernel
theorem dX5_pop_20 : decode cX5_pop 20 = .ok (.getfield 18, 3) := by decide +kernel
theorem dX5_pop_23 : decode cX5_pop 23 = .ok (.aload_n 0, 1) := by decide +kernel
theorem dX5_pop_24 : decode cX5_pop 24 = .ok (.getfield 40, 3) := by decide +kernel
theorem dX5_pop_27 : decode cX5_pop 27 = .ok (.iaload, 1) := by decide +kernel
theorem dX5_pop_28 : decode cX5_pop 28 = .ok (.ireturn, 1) := by decide +kernel
theorem dX6_init_0 : decode cX6_init 0 = .ok (.aload_n 0, 1) := by decide +kernel
theorem dX6_init_1 : decode cX6_init 1 = .ok (.invokespecial 3, 3) := by decide +kernel
theorem dX6_init_4 : decode cX6_init 4 = .ok (.aload_n 0, 1) := by decide +kernel
theorem dX6_init_5 : decode cX6_init 5 = .ok (.bipush 60, 2) := by decide +kernel
theorem dX6_init_7 : decode cX6_init 7 = .ok (.newarray .long, 2) := by decide +kernel
theorem dX6_init_9 : decode cX6_init 9 = .ok (.putfield 9, 3) := by decide +kernel
theorem dX6_init_12 : decode cX6_init 12 = .ok (.return_, 1) := by decide +kernel
theorem dX6_isRow_0 : decode cX6_isRow 0 = .ok (.aload_n 0, 1) := by decide +kernel
theorem dX6_isRow_1 : decode cX6_isRow 1 = .ok (.getfield 15, 3) := by decide +kernel
theorem dX6_isRow_4 : decode cX6_isRow 4 = .ok (.iconst 2, 1) := by decide +kernel
theorem dX6_isRow_5 : decode cX6_isRow 5 = .ok (.if_icmp .ne 7, 3) := by decide +kernel
theorem dX6_isRow_8 : decode cX6_isRow 8 = .ok (.iconst 1, 1) := by decide +kernel
theorem dX6_isRow_9 : decode cX6_isRow 9 = .ok (.goto 4, 3) := by decide +kernel
theorem dX6_isRow_12 : decode cX6_isRow 12 = .ok (.iconst 0, 1) := by decide +kernel
theorem dX6_isRow_13 : decode cX6_isRow 13 = .ok (.ireturn, 1) := by decide +kernel
theorem dX6_isBytes_0 : decode cX6_isBytes 0 = .ok (.aload_n 0, 1) := by decide +kernel
theorem dX6_isBytes_1 : decode cX6_isBytes 1 = .ok (.invokevirtual 19, 3) := by decide +kernel
theorem dX6_isBytes_4 : decode cX6_isBytes 4 = .ok (.ifCond .eq 14, 3) := by decide +kernel
theorem dX6_isBytes_7 : decode cX6_isBytes 7 = .ok (.aload_n 0, 1) := by decide +kernel
theorem dX6_isBytes_8 : decode cX6_isBytes 8 = .ok (.getfield 23, 3) := by decide +kernel
theorem dX6_isBytes_11 : decode cX6_isBytes 11 = .ok (.ifCond .ne 7, 3) := by decide +kernel
theorem dX6_isBytes_14 : decode cX6_isBytes 14 = .ok (.iconst 1, 1) := by decide +kernel
theorem dX6_isBytes_15 : decode cX6_isBytes 15 = .ok (.goto 4, 3) := by decide +kernel
theorem dX6_isBytes_18 : decode cX6_isBytes 18 = .ok (.iconst 0, 1) := by decide +kernel
theorem dX6_isBytes_19 : decode cX6_isBytes 19 = .ok (.ireturn, 1) := by decide +kernel
theorem dX6_hasPlaces_0 : decode cX6_hasPlaces 0 = .ok (.iload_n 1, 1) := by decide +kernel
theorem dX6_hasPlaces_1 : decode cX6_hasPlaces 1 = .ok (.ifCond .lt 29, 3) := by decide +kernel
theorem dX6_hasPlaces_4 : decode cX6_hasPlaces 4 = .ok (.iload_n 2, 1) := by decide +kernel
theorem dX6_hasPlaces_5 : decode cX6_hasPlaces 5 = .ok (.ifCond .lt 25, 3) := by decide +kernel
theorem dX6_hasPlaces_8 : decode cX6_hasPlaces 8 = .ok (.iload_n 2, 1) := by decide +kernel
theorem dX6_hasPlaces_9 : decode cX6_hasPlaces 9 = .ok (.aload_n 0, 1) := by decide +kernel
theorem dX6_hasPlaces_10 : decode cX6_hasPlaces 10 = .ok (.getfield 26, 3) := by decide +kernel
theorem dX6_hasPlaces_13 : decode cX6_hasPlaces 13 = .ok (.if_icmp .gt 17, 3) := by decide +kernel
theorem dX6_hasPlaces_16 : decode cX6_hasPlaces 16 = .ok (.iload_n 1, 1) := by decide +kernel
theorem dX6_hasPlaces_17 : decode cX6_hasPlaces 17 = .ok (.aload_n 0, 1) := by decide +kernel
theorem dX6_hasPlaces_18 : decode cX6_hasPlaces 18 = .ok (.getfield 26, 3) := by decide +kernel
theorem dX6_hasPlaces_21 : decode cX6_hasPlaces 21 = .ok (.iload_n 2, 1) := by decide +kernel
theorem dX6_hasPlaces_22 : decode cX6_hasPlaces 22 = .ok (.isub, 1) := by decide +kernel
theorem dX6_hasPlaces_23 : decode cX6_hasPlaces 23 = .ok (.if_icmp .gt 7, 3) := by decide +kernel
theorem dX6_hasPlaces_26 : decode cX6_hasPlaces 26 = .ok (.iconst 1, 1) := by decide +kernel
theorem dX6_hasPlaces_27 : decode cX6_hasPlaces 27 = .ok (.goto 4, 3) := by decide +kernel
theorem dX6_hasPlaces_30 : decode cX6_hasPlaces 30 = .ok (.iconst 0, 1) := by decide +kernel
theorem dX6_hasPlaces_31 : decode cX6_hasPlaces 31 = .ok (.ireturn, 1) := by decide +kernel
theorem dX6_lowestBits_0 : decode cX6_lowestBits 0 = .ok (.aload_n 0, 1) := by decide +kernel
theorem dX6_lowestBits_1 : decode cX6_lowestBits 1 = .ok (.getfield 23, 3) := by decide +kernel
theorem dX6_lowestBits_4 : decode cX6_lowestBits 4 = .ok (.tableswitch 48 0 3 #[32, 37, 42, 46], 32) := by decide +kernel
theorem dX6_lowestBits_36 : decode cX6_lowestBits 36 = .ok (.lload_n 1, 1) := by decide +kernel
theorem dX6_lowestBits_37 : decode cX6_lowestBits 37 = .ok (.l2i, 1) := by decide +kernel
theorem dX6_lowestBits_38 : decode cX6_lowestBits 38 = .ok (.i2b, 1) := by decide +kernel
theorem dX6_lowestBits_39 : decode cX6_lowestBits 39 = .ok (.i2l, 1) := by decide +kernel
theorem dX6_lowestBits_40 : decode cX6_lowestBits 40 = .ok (.lreturn, 1) := by decide +kernel
theorem dX6_lowestBits_41 : decode cX6_lowestBits 41 = .ok (.lload_n 1, 1) := by decide +kernel
theorem dX6_lowestBits_42 : decode cX6_lowestBits 42 = .ok (.l2i, 1) := by decide +kernel
theorem dX6_lowestBits_43 : decode cX6_lowestBits 43 = .ok (.i2s, 1) := by decide +kernel
theorem dX6_lowestBits_44 : decode cX6_lowestBits 44 = .ok (.i2l, 1) := by decide +kernel
theorem dX6_lowestBits_45 : decode cX6_lowestBits 45 = .ok (.lreturn, 1) := by decide +kernel
theorem dX6_lowestBits_46 : decode cX6_lowestBits 46 = .ok (.lload_n 1, 1) := by decide +kernel
theorem dX6_lowestBits_47 : decode cX6_lowestBits 47 = .ok (.l2i, 1) := by decide +kernel
theorem dX6_lowestBits_48 : decode cX6_lowestBits 48 = .ok (.i2l, 1) := by decide +kernel
theorem dX6_lowestBits_49 : decode cX6_lowestBits 49 = .ok (.lreturn, 1) := by decide +kernel
theorem dX6_lowestBits_50 : decode cX6_lowestBits 50 = .ok (.lload_n 1, 1) := by decide +kernel
theorem dX6_lowestBits_51 : decode cX6_lowestBits 51 = .ok (.lreturn, 1) := by decide +kernel
theorem dX6_lowestBits_52 : decode cX6_lowestBits 52 = .ok (.lload_n 1, 1) := by decide +kernel
theorem dX6_lowestBits_53 : decode cX6_lowestBits 53 = .ok (.lconst 0, 1) := by decide +kernel
theorem dX6_lowestBits_54 : decode cX6_lowestBits 54 = .ok (.lcmp, 1) := by decide +kernel
theorem dX6_lowestBits_55 : decode cX6_lowestBits 55 = .ok (.ifCond .eq 7, 3) := by decide +kernel
theorem dX6_lowestBits_58 : decode cX6_lowestBits 58 = .ok (.lconst 1, 1) := by decide +kernel
theorem dX6_lowestBits_59 : decode cX6_lowestBits 59 = .ok (.goto 4, 3) := by decide +kernel
theorem dX6_lowestBits_62 : decode cX6_lowestBits 62 = .ok (.lconst 0, 1) := by decide +kernel
theorem dX6_lowestBits_63 : decode cX6_lowestBits 63 = .ok (.lreturn, 1) := by decide +kernel
theorem dX7_init_0 : decode cX7_init 0 = .ok (.aload_n 0, 1) := by decide +kernel
theorem dX7_init_1 : decode cX7_init 1 = .ok (.invokespecial 3, 3) := by decide +kernel
theorem dX7_init_4 : decode cX7_init 4 = .ok (.aload_n 0, 1) := by decide +kernel
theorem dX7_init_5 : decode cX7_init 5 = .ok (.new 9, 3) := by decide +kernel
theorem dX7_init_8 : decode cX7_init 8 = .ok (.dup, 1) := by decide +kernel
theorem dX7_init_9 : decode cX7_init 9 = .ok (.invokespecial 11, 3) := by decide +kernel
theorem dX7_init_12 : decode cX7_init 12 = .ok (.putfield 12, 3) := by decide +kernel
theorem dX7_init_15 : decode cX7_init 15 = .ok (.aload_n 0, 1) := by decide +kernel
theorem dX7_init_16 : decode cX7_init 16 = .ok (.sipush 780, 3) := by decide +kernel
theorem dX7_init_19 : decode cX7_init 19 = .ok (.newarray .byte, 2) := by decide +kernel
theorem dX7_init_21 : decode cX7_init 21 = .ok (.putfield 18, 3) := by decide +kernel
theorem dX7_init_24 : decode cX7_init 24 = .ok (.aload_n 0, 1) := by decide +kernel
theorem dX7_init_25 : decode cX7_init 25 = .ok (.aload_n 1, 1) := by decide +kernel
theorem dX7_init_26 : decode cX7_init 26 = .ok (.putfield 22, 3) := by decide +kernel
theorem dX7_init_29 : decode cX7_init 29 = .ok (.aload_n 0, 1) := by decide +kernel
theorem dX7_init_30 : decode cX7_init 30 = .ok (.iload_n 2, 1) := by decide +kernel
theorem dX7_init_31 : decode cX7_init 31 = .ok (.putfield 26, 3) := by decide +kernel
theorem dX7_init_34 : decode cX7_init 34 = .ok (.aload_n 0, 1) := by decide +kernel
theorem dX7_init_35 : decode cX7_init 35 = .ok (.iload_n 3, 1) := by decide +kernel
theorem dX7_init_36 : decode cX7_init 36 = .ok (.putfield 30, 3) := by decide +kernel
theorem dX7_init_39 : decode cX7_init 39 = .ok (.return_, 1) := by decide +kernel
theorem dX7_gives_0 : decode cX7_gives 0 = .ok (.iload_n 1, 1) := by decide +kernel
theorem dX7_gives_1 : decode cX7_gives 1 = .ok (.bipush 6, 2) := by decide +kernel
theorem dX7_gives_3 : decode cX7_gives 3 = .ok (.imul, 1) := by decide +kernel
theorem dX7_gives_4 : decode cX7_gives 4 = .ok (.iload_n 2, 1) := by decide +kernel
theorem dX7_gives_5 : decode cX7_gives 5 = .ok (.iadd, 1) := by decide +kernel
theorem dX7_gives_6 : decode cX7_gives 6 = .ok (.bipush 10, 2) := by decide +kernel
theorem dX7_gives_8 : decode cX7_gives 8 = .ok (.imul, 1) := by decide +kernel
theorem dX7_gives_9 : decode cX7_gives 9 = .ok (.iload_n 3, 1) := by decide +kernel
theorem dX7_gives_10 : decode cX7_gives 10 = .ok (.iadd, 1) := by decide +kernel
theorem dX7_gives_11 : decode cX7_gives 11 = .ok (.istore 4, 2) := by decide +kernel
theorem dX7_gives_13 : decode cX7_gives 13 = .ok (.iload 4, 2) := by decide +kernel
theorem dX7_gives_15 : decode cX7_gives 15 = .ok (.ifCond .lt 13, 3) := by decide +kernel
theorem dX7_gives_18 : decode cX7_gives 18 = .ok (.iload 4, 2) := by decide +kernel
theorem dX7_gives_20 : decode cX7_gives 20 = .ok (.aload_n 0, 1) := by decide +kernel
theorem dX7_gives_21 : decode cX7_gives 21 = .ok (.getfield 18, 3) := by decide +kernel
theorem dX7_gives_24 : decode cX7_gives 24 = .ok (.arraylength, 1) := by decide +kernel
theorem dX7_gives_25 : decode cX7_gives 25 = .ok (.if_icmp .lt 5, 3) := by decide +kernel
theorem dX7_gives_28 : decode cX7_gives 28 = .ok (.iconst 0, 1) := by decide +kernel
theorem dX7_gives_29 : decode cX7_gives 29 = .ok (.ireturn, 1) := by decide +kernel
theorem dX7_gives_30 : decode cX7_gives 30 = .ok (.aload_n 0, 1) := by decide +kernel
theorem dX7_gives_31 : decode cX7_gives 31 = .ok (.getfield 18, 3) := by decide +kernel
theorem dX7_gives_34 : decode cX7_gives 34 = .ok (.iload 4, 2) := by decide +kernel
theorem dX7_gives_36 : decode cX7_gives 36 = .ok (.baload, 1) := by decide +kernel
theorem dX7_gives_37 : decode cX7_gives 37 = .ok (.ifCond .ne 44, 3) := by decide +kernel
theorem dX7_gives_40 : decode cX7_gives 40 = .ok (.aload_n 0, 1) := by decide +kernel
theorem dX7_gives_41 : decode cX7_gives 41 = .ok (.getfield 22, 3) := by decide +kernel
theorem dX7_gives_44 : decode cX7_gives 44 = .ok (.iload_n 3, 1) := by decide +kernel
theorem dX7_gives_45 : decode cX7_gives 45 = .ok (.aload_n 0, 1) := by decide +kernel
theorem dX7_gives_46 : decode cX7_gives 46 = .ok (.getfield 26, 3) := by decide +kernel
theorem dX7_gives_49 : decode cX7_gives 49 = .ok (.aload_n 0, 1) := by decide +kernel
theorem dX7_gives_50 : decode cX7_gives 50 = .ok (.getfield 30, 3) := by decide +kernel
theorem dX7_gives_53 : decode cX7_gives 53 = .ok (.iload_n 1, 1) := by decide +kernel
theorem dX7_gives_54 : decode cX7_gives 54 = .ok (.iload_n 2, 1) := by decide +kernel
theorem dX7_gives_55 : decode cX7_gives 55 = .ok (.invokevirtual 33, 3) := by decide +kernel
theorem dX7_gives_58 : decode cX7_gives 58 = .ok (.istore 5, 2) := by decide +kernel
theorem dX7_gives_60 : decode cX7_gives 60 = .ok (.aload_n 0, 1) := by decide +kernel
theorem dX7_gives_61 : decode cX7_gives 61 = .ok (.getfield 18, 3) := by decide +kernel
theorem dX7_gives_64 : decode cX7_gives 64 = .ok (.iload 4, 2) := by decide +kernel
theorem dX7_gives_66 : decode cX7_gives 66 = .ok (.iconst 1, 1) := by decide +kernel
theorem dX7_gives_67 : decode cX7_gives 67 = .ok (.iconst 0, 1) := by decide +kernel
theorem dX7_gives_68 : decode cX7_gives 68 = .ok (.iload 5, 2) := by decide +kernel
theorem dX7_gives_70 : decode cX7_gives 70 = .ok (.bipush 9, 2) := by decide +kernel
theorem dX7_gives_72 : decode cX7_gives 72 = .ok (.invokestatic 39, 3) := by decide +kernel
theorem dX7_gives_75 : decode cX7_gives 75 = .ok (.invokestatic 45, 3) := by decide +kernel
theorem dX7_gives_78 : decode cX7_gives 78 = .ok (.iadd, 1) := by decide +kernel
theorem dX7_gives_79 : decode cX7_gives 79 = .ok (.i2b, 1) := by decide +kernel
theorem dX7_gives_80 : decode cX7_gives 80 = .ok (.bastore, 1) := by decide +kernel
theorem dX7_gives_81 : decode cX7_gives 81 = .ok (.aload_n 0, 1) := by decide +kernel
theorem dX7_gives_82 : decode cX7_gives 82 = .ok (.getfield 18, 3) := by decide +kernel
theorem dX7_gives_85 : decode cX7_gives 85 = .ok (.iload 4, 2) := by decide +kernel
theorem dX7_gives_87 : decode cX7_gives 87 = .ok (.baload, 1) := by decide +kernel
theorem dX7_gives_88 : decode cX7_gives 88 = .ok (.iconst 1, 1) := by decide +kernel
theorem dX7_gives_89 : decode cX7_gives 89 = .ok (.isub, 1) := by decide +kernel
theorem dX7_gives_90 : decode cX7_gives 90 = .ok (.ireturn, 1) := by decide +kernel
theorem dX7_layOn_0 : decode cX7_layOn 0 = .ok (.aload_n 1, 1) := by decide +kernel
theorem dX7_layOn_1 : decode cX7_layOn 1 = .ok (.iload_n 2, 1) := by decide +kernel
theorem dX7_layOn_2 : decode cX7_layOn 2 = .ok (.aload_n 0, 1) := by decide +kernel
theorem dX7_layOn_3 : decode cX7_layOn 3 = .ok (.aload_n 1, 1) := by decide +kernel
theorem dX7_layOn_4 : decode cX7_layOn 4 = .ok (.getfield 48, 3) := by decide +kernel
theorem dX7_layOn_7 : decode cX7_layOn 7 = .ok (.iload_n 2, 1) := by decide +kernel
theorem dX7_layOn_8 : decode cX7_layOn 8 = .ok (.iload_n 3, 1) := by decide +kernel
theorem dX7_layOn_9 : decode cX7_layOn 9 = .ok (.invokevirtual 51, 3) := by decide +kernel
theorem dX7_layOn_12 : decode cX7_layOn 12 = .ok (.invokevirtual 55, 3) := by decide +kernel
theorem dX7_layOn_15 : decode cX7_layOn 15 = .ok (.ireturn, 1) := by decide +kernel
theorem dX7_forget_0 : decode cX7_forget 0 = .ok (.aload_n 0, 1) := by decide +kernel
theorem dX7_forget_1 : decode cX7_forget 1 = .ok (.getfield 18, 3) := by decide +kernel
theorem dX7_forget_4 : decode cX7_forget 4 = .ok (.iconst 0, 1) := by decide +kernel
theorem dX7_forget_5 : decode cX7_forget 5 = .ok (.invokestatic 58, 3) := by decide +kernel
theorem dX7_forget_8 : decode cX7_forget 8 = .ok (.return_, 1) := by decide +kernel
theorem dX8_init_0 : decode cX8_init 0 = .ok (.aload_n 0, 1) := by decide +kernel
theorem dX8_init_1 : decode cX8_init 1 = .ok (.invokespecial 3, 3) := by decide +kernel
theorem dX8_init_4 : decode cX8_init 4 = .ok (.aload_n 0, 1) := by decide +kernel
theorem dX8_init_5 : decode cX8_init 5 = .ok (.bipush 120, 2) := by decide +kernel
theorem dX8_init_7 : decode cX8_init 7 = .ok (.newarray .int, 2) := by decide +kernel
theorem dX8_init_9 : decode cX8_init 9 = .ok (.putfield 9, 3) := by decide +kernel
theorem dX8_init_12 : decode cX8_init 12 = .ok (.return_, 1) := by decide +kernel
theorem dX8_add_0 : decode cX8_add 0 = .ok (.aload_n 0, 1) := by decide +kernel
theorem dX8_add_1 : decode cX8_add 1 = .ok (.getfield 15, 3) := by decide +kernel
theorem dX8_add_4 : decode cX8_add 4 = .ok (.bipush 120, 2) := by decide +kernel
theorem dX8_add_6 : decode cX8_add 6 = .ok (.if_icmp .lt 5, 3) := by decide +kernel
theorem dX8_add_9 : decode cX8_add 9 = .ok (.iconst 0, 1) := by decide +kernel
theorem dX8_add_10 : decode cX8_add 10 = .ok (.ireturn, 1) := by decide +kernel
theorem dX8_add_11 : decode cX8_add 11 = .ok (.aload_n 0, 1) := by decide +kernel
theorem dX8_add_12 : decode cX8_add 12 = .ok (.getfield 9, 3) := by decide +kernel
theorem dX8_add_15 : decode cX8_add 15 = .ok (.aload_n 0, 1) := by decide +kernel
theorem dX8_add_16 : decode cX8_add 16 = .ok (.getfield 15, 3) := by decide +kernel
theorem dX8_add_19 : decode cX8_add 19 = .ok (.iload_n 1, 1) := by decide +kernel
theorem dX8_add_20 : decode cX8_add 20 = .ok (.iastore, 1) := by decide +kernel
theorem dX8_add_21 : decode cX8_add 21 = .ok (.aload_n 0, 1) := by decide +kernel
theorem dX8_add_22 : decode cX8_add 22 = .ok (.dup, 1) := by decide +kernel
theorem dX8_add_23 : decode cX8_add 23 = .ok (.getfield 15, 3) := by decide +kernel
theorem dX8_add_26 : decode cX8_add 26 = .ok (.iconst 1, 1) := by decide +kernel
theorem dX8_add_27 : decode cX8_add 27 = .ok (.iadd, 1) := by decide +kernel
theorem dX8_add_28 : decode cX8_add 28 = .ok (.putfield 15, 3) := by decide +kernel
theorem dX8_add_31 : decode cX8_add 31 = .ok (.iconst 1, 1) := by decide +kernel
theorem dX8_add_32 : decode cX8_add 32 = .ok (.ireturn, 1) := by decide +kernel
theorem dX8_readInto_0 : decode cX8_readInto 0 = .ok (.aload_n 0, 1) := by decide +kernel
theorem dX8_readInto_1 : decode cX8_readInto 1 = .ok (.aload_n 1, 1) := by decide +kernel
theorem dX8_readInto_2 : decode cX8_readInto 2 = .ok (.putfield 19, 3) := by decide +kernel
theorem dX8_readInto_5 : decode cX8_readInto 5 = .ok (.aload_n 0, 1) := by decide +kernel
theorem dX8_readInto_6 : decode cX8_readInto 6 = .ok (.getfield 19, 3) := by decide +kernel
theorem dX8_readInto_9 : decode cX8_readInto 9 = .ok (.iconst 0, 1) := by decide +kernel
theorem dX8_readInto_10 : decode cX8_readInto 10 = .ok (.putfield 23, 3) := by decide +kernel
theorem dX8_readInto_13 : decode cX8_readInto 13 = .ok (.aload_n 0, 1) := by decide +kernel
theorem dX8_readInto_14 : decode cX8_readInto 14 = .ok (.iconst 0, 1) := by decide +kernel
theorem dX8_readInto_15 : decode cX8_readInto 15 = .ok (.putfield 28, 3) := by decide +kernel
theorem dX8_readInto_18 : decode cX8_readInto 18 = .ok (.aload_n 0, 1) := by decide +kernel
theorem dX8_readInto_19 : decode cX8_readInto 19 = .ok (.iconst (-1), 1) := by decide +kernel
theorem dX8_readInto_20 : decode cX8_readInto 20 = .ok (.putfield 31, 3) := by decide +kernel
theorem dX8_readInto_23 : decode cX8_readInto 23 = .ok (.aload_n 0, 1) := by decide +kernel
theorem dX8_readInto_24 : decode cX8_readInto 24 = .ok (.invokevirtual 34, 3) := by decide +kernel
theorem dX8_readInto_27 : decode cX8_readInto 27 = .ok (.iconst 1, 1) := by decide +kernel
theorem dX8_readInto_28 : decode cX8_readInto 28 = .ok (.istore_n 2, 1) := by decide +kernel
theorem dX8_readInto_29 : decode cX8_readInto 29 = .ok (.iload_n 2, 1) := by decide +kernel
theorem dX8_readInto_30 : decode cX8_readInto 30 = .ok (.bipush 120, 2) := by decide +kernel
theorem dX8_readInto_32 : decode cX8_readInto 32 = .ok (.if_icmp .gt 52, 3) := by decide +kernel
theorem dX8_readInto_35 : decode cX8_readInto 35 = .ok (.aload_n 0, 1) := by decide +kernel
theorem dX8_readInto_36 : decode cX8_readInto 36 = .ok (.getfield 31, 3) := by decide +kernel
theorem dX8_readInto_39 : decode cX8_readInto 39 = .ok (.iconst (-1), 1) := by decide +kernel
theorem dX8_readInto_40 : decode cX8_readInto 40 = .ok (.if_icmp .ne 44, 3) := by decide +kernel
theorem dX8_readInto_43 : decode cX8_readInto 43 = .ok (.aload_n 0, 1) := by decide +kernel
theorem dX8_readInto_44 : decode cX8_readInto 44 = .ok (.getfield 28, 3) := by decide +kernel
theorem dX8_readInto_47 : decode cX8_readInto 47 = .ok (.aload_n 0, 1) := by decide +kernel
theorem dX8_readInto_48 : decode cX8_readInto 48 = .ok (.getfield 15, 3) := by decide +kernel
theorem dX8_readInto_51 : decode cX8_readInto 51 = .ok (.if_icmp .ge 33, 3) := by decide +kernel
theorem dX8_readInto_54 : decode cX8_readInto 54 = .ok (.aload_n 0, 1) := by decide +kernel
theorem dX8_readInto_55 : decode cX8_readInto 55 = .ok (.bipush 59, 2) := by decide +kernel
theorem dX8_readInto_57 : decode cX8_readInto 57 = .ok (.invokevirtual 37, 3) := by decide +kernel
theorem dX8_readInto_60 : decode cX8_readInto 60 = .ok (.ifCond .eq 10, 3) := by decide +kernel
theorem dX8_readInto_63 : decode cX8_readInto 63 = .ok (.aload_n 0, 1) := by decide +kernel
theorem dX8_readInto_64 : decode cX8_readInto 64 = .ok (.invokevirtual 34, 3) := by decide +kernel
theorem dX8_readInto_67 : decode cX8_readInto 67 = .ok (.goto 11, 3) := by decide +kernel
theorem dX8_readInto_70 : decode cX8_readInto 70 = .ok (.aload_n 0, 1) := by decide +kernel
theorem dX8_readInto_71 : decode cX8_readInto 71 = .ok (.aload_n 0, 1) := by decide +kernel
theorem dX8_readInto_72 : decode cX8_readInto 72 = .ok (.getfield 28, 3) := by decide +kernel
theorem dX8_readInto_75 : decode cX8_readInto 75 = .ok (.putfield 31, 3) := by decide +kernel
theorem dX8_readInto_78 : decode cX8_readInto 78 = .ok (.iinc 2 1, 3) := by decide +kernel
theorem dX8_readInto_81 : decode cX8_readInto 81 = .ok (.goto (-52), 3) := by decide +kernel
theorem dX8_readInto_84 : decode cX8_readInto 84 = .ok (.aload_n 0, 1) := by decide +kernel
theorem dX8_readInto_85 : decode cX8_readInto 85 = .ok (.getfield 31, 3) := by decide +kernel
theorem dX8_readInto_88 : decode cX8_readInto 88 = .ok (.ireturn, 1) := by decide +kernel
theorem dX8_readLine_0 : decode cX8_readLine 0 = .ok (.aload_n 0, 1) := by decide +kernel
theorem dX8_readLine_1 : decode cX8_readLine 1 = .ok (.iconst 0, 1) := by decide +kernel
theorem dX8_readLine_2 : decode cX8_readLine 2 = .ok (.iconst 0, 1) := by decide +kernel
theorem dX8_readLine_3 : decode cX8_readLine 3 = .ok (.invokevirtual 41, 3) := by decide +kernel
theorem dX8_readLine_6 : decode cX8_readLine 6 = .ok (.aload_n 0, 1) := by decide +kernel
theorem dX8_readLine_7 : decode cX8_readLine 7 = .ok (.bipush 63, 2) := by decide +kernel
theorem dX8_readLine_9 : decode cX8_readLine 9 = .ok (.invokevirtual 37, 3) := by decide +kernel
theorem dX8_readLine_12 : decode cX8_readLine 12 = .ok (.ifCond .eq 19, 3) := by decide +kernel
theorem dX8_readLine_15 : decode cX8_readLine 15 = .ok (.aload_n 0, 1) := by decide +kernel
theorem dX8_readLine_16 : decode cX8_readLine 16 = .ok (.getfield 19, 3) := by decide +kernel
theorem dX8_readLine_19 : decode cX8_readLine 19 = .ok (.sipush 20063, 3) := by decide +kernel
theorem dX8_readLine_22 : decode cX8_readLine 22 = .ok (.invokevirtual 45, 3) := by decide +kernel
theorem dX8_readLine_25 : decode cX8_readLine 25 = .ok (.aload_n 0, 1) := by decide +kernel
theorem dX8_readLine_26 : decode cX8_readLine 26 = .ok (.iconst 0, 1) := by decide +kernel
theorem dX8_readLine_27 : decode cX8_readLine 27 = .ok (.iconst 0, 1) := by decide +kernel
theorem dX8_readLine_28 : decode cX8_readLine 28 = .ok (.invokevirtual 41, 3) := by decide +kernel
theorem dX8_readLine_31 : decode cX8_readLine 31 = .ok (.aload_n 0, 1) := by decide +kernel
theorem dX8_readLine_32 : decode cX8_readLine 32 = .ok (.getfield 19, 3) := by decide +kernel
theorem dX8_readLine_35 : decode cX8_readLine 35 = .ok (.sipush 20059, 3) := by decide +kernel
theorem dX8_readLine_38 : decode cX8_readLine 38 = .ok (.invokevirtual 45, 3) := by decide +kernel
theorem dX8_readLine_41 : decode cX8_readLine 41 = .ok (.return_, 1) := by decide +kernel
theorem dX8_readPart_0 : decode cX8_readPart 0 = .ok (.aload_n 0, 1) := by decide +kernel
theorem dX8_readPart_1 : decode cX8_readPart 1 = .ok (.iload_n 1, 1) := by decide +kernel
theorem dX8_readPart_2 : decode cX8_readPart 2 = .ok (.iload_n 2, 1) := by decide +kernel
theorem dX8_readPart_3 : decode cX8_readPart 3 = .ok (.invokevirtual 49, 3) := by decide +kernel
theorem dX8_readPart_6 : decode cX8_readPart 6 = .ok (.iload_n 1, 1) := by decide +kernel
theorem dX8_readPart_7 : decode cX8_readPart 7 = .ok (.iconst 2, 1) := by decide +kernel
theorem dX8_readPart_8 : decode cX8_readPart 8 = .ok (.if_icmp .ne 7, 3) := by decide +kernel
theorem dX8_readPart_11 : decode cX8_readPart 11 = .ok (.iconst 1, 1) := by decide +kernel
theorem dX8_readPart_12 : decode cX8_readPart 12 = .ok (.goto 5, 3) := by decide +kernel
theorem dX8_readPart_15 : decode cX8_readPart 15 = .ok (.bipush 120, 2) := by decide +kernel
theorem dX8_readPart_17 : decode cX8_readPart 17 = .ok (.istore_n 3, 1) := by decide +kernel
theorem dX8_readPart_18 : decode cX8_readPart 18 = .ok (.iconst 0, 1) := by decide +kernel
theorem dX8_readPart_19 : decode cX8_readPart 19 = .ok (.istore 4, 2) := by decide +kernel
theorem dX8_readPart_21 : decode cX8_readPart 21 = .ok (.iload 4, 2) := by decide +kernel
theorem dX8_readPart_23 : decode cX8_readPart 23 = .ok (.iload_n 3, 1) := by decide +kernel
theorem dX8_readPart_24 : decode cX8_readPart 24 = .ok (.if_icmp .ge 65, 3) := by decide +kernel
theorem dX8_readPart_27 : decode cX8_readPart 27 = .ok (.aload_n 0, 1) := by decide +kernel
theorem dX8_readPart_28 : decode cX8_readPart 28 = .ok (.getfield 31, 3) := by decide +kernel
theorem dX8_readPart_31 : decode cX8_readPart 31 = .ok (.iconst (-1), 1) := by decide +kernel
theorem dX8_readPart_32 : decode cX8_readPart 32 = .ok (.if_icmp .ne 57, 3) := by decide +kernel
theorem dX8_readPart_35 : decode cX8_readPart 35 = .ok (.aload_n 0, 1) := by decide +kernel
theorem dX8_readPart_36 : decode cX8_readPart 36 = .ok (.invokevirtual 52, 3) := by decide +kernel
theorem dX8_readPart_39 : decode cX8_readPart 39 = .ok (.iload_n 1, 1) := by decide +kernel
theorem dX8_readPart_40 : decode cX8_readPart 40 = .ok (.if_icmp .ne 49, 3) := by decide +kernel
theorem dX8_readPart_43 : decode cX8_readPart 43 = .ok (.aload_n 0, 1) := by decide +kernel
theorem dX8_readPart_44 : decode cX8_readPart 44 = .ok (.getfield 9, 3) := by decide +kernel
theorem dX8_readPart_47 : decode cX8_readPart 47 = .ok (.aload_n 0, 1) := by decide +kernel
theorem dX8_readPart_48 : decode cX8_readPart 48 = .ok (.getfield 28, 3) := by decide +kernel
theorem dX8_readPart_51 : decode cX8_readPart 51 = .ok (.iaload, 1) := by decide +kernel
theorem dX8_readPart_52 : decode cX8_readPart 52 = .ok (.istore 5, 2) := by decide +kernel
theorem dX8_readPart_54 : decode cX8_readPart 54 = .ok (.aload_n 0, 1) := by decide +kernel
theorem dX8_readPart_55 : decode cX8_readPart 55 = .ok (.dup, 1) := by decide +kernel
theorem dX8_readPart_56 : decode cX8_readPart 56 = .ok (.getfield 28, 3) := by decide +kernel
theorem dX8_readPart_59 : decode cX8_readPart 59 = .ok (.iconst 1, 1) := by decide +kernel
theorem dX8_readPart_60 : decode cX8_readPart 60 = .ok (.iadd, 1) := by decide +kernel
theorem dX8_readPart_61 : decode cX8_readPart 61 = .ok (.putfield 28, 3) := by decide +kernel
theorem dX8_readPart_64 : decode cX8_readPart 64 = .ok (.aload_n 0, 1) := by decide +kernel
theorem dX8_readPart_65 : decode cX8_readPart 65 = .ok (.iload_n 1, 1) := by decide +kernel
theorem dX8_readPart_66 : decode cX8_readPart 66 = .ok (.iload_n 2, 1) := by decide +kernel
theorem dX8_readPart_67 : decode cX8_readPart 67 = .ok (.invokevirtual 49, 3) := by decide +kernel
theorem dX8_readPart_70 : decode cX8_readPart 70 = .ok (.aload_n 0, 1) := by decide +kernel
theorem dX8_readPart_71 : decode cX8_readPart 71 = .ok (.getfield 19, 3) := by decide +kernel
theorem dX8_readPart_74 : decode cX8_readPart 74 = .ok (.sipush 20000, 3) := by decide +kernel
theorem dX8_readPart_77 : decode cX8_readPart 77 = .ok (.iload 5, 2) := by decide +kernel
theorem dX8_readPart_79 : decode cX8_readPart 79 = .ok (.iadd, 1) := by decide +kernel
theorem dX8_readPart_80 : decode cX8_readPart 80 = .ok (.invokevirtual 45, 3) := by decide +kernel
theorem dX8_readPart_83 : decode cX8_readPart 83 = .ok (.iinc 4 1, 3) := by decide +kernel
theorem dX8_readPart_86 : decode cX8_readPart 86 = .ok (.goto (-65), 3) := by decide +kernel
theorem dX8_readPart_89 : decode cX8_readPart 89 = .ok (.return_, 1) := by decide +kernel
theorem dX8_readTighter_0 : decode cX8_readTighter 0 = .ok (.iload_n 1, 1) := by decide +kernel
theorem dX8_readTighter_1 : decode cX8_readTighter 1 = .ok (.iconst 4, 1) := by decide +kernel
theorem dX8_readTighter_2 : decode cX8_readTighter 2 = .ok (.if_icmp .ge 14, 3) := by decide +kernel
theorem dX8_readTighter_5 : decode cX8_readTighter 5 = .ok (.aload_n 0, 1) := by decide +kernel
theorem dX8_readTighter_6 : decode cX8_readTighter 6 = .ok (.iload_n 1, 1) := by decide +kernel
theorem dX8_readTighter_7 : decode cX8_readTighter 7 = .ok (.iconst 1, 1) := by decide +kernel
theorem dX8_readTighter_8 : decode cX8_readTighter 8 = .ok (.iadd, 1) := by decide +kernel
theorem dX8_readTighter_9 : decode cX8_readTighter 9 = .ok (.iload_n 2, 1) := by decide +kernel
theorem dX8_readTighter_10 : decode cX8_readTighter 10 = .ok (.invokevirtual 41, 3) := by decide +kernel
theorem dX8_readTighter_13 : decode cX8_readTighter 13 = .ok (.goto 8, 3) := by decide +kernel
theorem dX8_readTighter_16 : decode cX8_readTighter 16 = .ok (.aload_n 0, 1) := by decide +kernel
theorem dX8_readTighter_17 : decode cX8_readTighter 17 = .ok (.iload_n 2, 1) := by decide +kernel
theorem dX8_readTighter_18 : decode cX8_readTighter 18 = .ok (.invokevirtual 56, 3) := by decide +kernel
theorem dX8_readTighter_21 : decode cX8_readTighter 21 = .ok (.return_, 1) := by decide +kernel
theorem dX8_readOperand_0 : decode cX8_readOperand 0 = .ok (.aload_n 0, 1) := by decide +kernel
theorem dX8_readOperand_1 : decode cX8_readOperand 1 = .ok (.getfield 31, 3) := by decide +kernel
theorem dX8_readOperand_4 : decode cX8_readOperand 4 = .ok (.iconst (-1), 1) := by decide +kernel
theorem dX8_readOperand_5 : decode cX8_readOperand 5 = .ok (.if_icmp .eq 4, 3) := by decide +kernel
theorem dX8_readOperand_8 : decode cX8_readOperand 8 = .ok (.return_, 1) := by decide +kernel
theorem dX8_readOperand_9 : decode cX8_readOperand 9 = .ok (.aload_n 0, 1) := by decide +kernel
theorem dX8_readOperand_10 : decode cX8_readOperand 10 = .ok (.getfield 28, 3) := by decide +kernel
theorem dX8_readOperand_13 : decode cX8_readOperand 13 = .ok (.aload_n 0, 1) := by decide +kernel
theorem dX8_readOperand_14 : decode cX8_readOperand 14 = .ok (.getfield 15, 3) := by decide +kernel
theorem dX8_readOperand_17 : decode cX8_readOperand 17 = .ok (.if_icmp .ge 15, 3) := by decide +kernel
theorem dX8_readOperand_20 : decode cX8_readOperand 20 = .ok (.aload_n 0, 1) := by decide +kernel
theorem dX8_readOperand_21 : decode cX8_readOperand 21 = .ok (.getfield 9, 3) := by decide +kernel
theorem dX8_readOperand_24 : decode cX8_readOperand 24 = .ok (.aload_n 0, 1) := by decide +kernel
theorem dX8_readOperand_25 : decode cX8_readOperand 25 = .ok (.getfield 28, 3) := by decide +kernel
theorem dX8_readOperand_28 : decode cX8_readOperand 28 = .ok (.iaload, 1) := by decide +kernel
theorem dX8_readOperand_29 : decode cX8_readOperand 29 = .ok (.goto 4, 3) := by decide +kernel
theorem dX8_readOperand_32 : decode cX8_readOperand 32 = .ok (.iconst (-1), 1) := by decide +kernel
theorem dX8_readOperand_33 : decode cX8_readOperand 33 = .ok (.istore_n 2, 1) := by decide +kernel
theorem dX8_readOperand_34 : decode cX8_readOperand 34 = .ok (.iload_n 2, 1) := by decide +kernel
theorem dX8_readOperand_35 : decode cX8_readOperand 35 = .ok (.invokestatic 59, 3) := by decide +kernel
theorem dX8_readOperand_38 : decode cX8_readOperand 38 = .ok (.istore_n 3, 1) := by decide +kernel
theorem dX8_readOperand_39 : decode cX8_readOperand 39 = .ok (.iload_n 2, 1) := by decide +kernel
theorem dX8_readOperand_40 : decode cX8_readOperand 40 = .ok (.bipush 48, 2) := by decide +kernel
theorem dX8_readOperand_42 : decode cX8_readOperand 42 = .ok (.if_icmp .lt 16, 3) := by decide +kernel
theorem dX8_readOperand_45 : decode cX8_readOperand 45 = .ok (.iload_n 2, 1) := by decide +kernel
theorem dX8_readOperand_46 : decode cX8_readOperand 46 = .ok (.bipush 57, 2) := by decide +kernel
theorem dX8_readOperand_48 : decode cX8_readOperand 48 = .ok (.if_icmp .gt 10, 3) := by decide +kernel
theorem dX8_readOperand_51 : decode cX8_readOperand 51 = .ok (.aload_n 0, 1) := by decide +kernel
theorem dX8_readOperand_52 : decode cX8_readOperand 52 = .ok (.invokevirtual 63, 3) := by decide +kernel
theorem dX8_readOperand_55 : decode cX8_readOperand 55 = .ok (.goto 86, 3) := by decide +kernel
theorem dX8_readOperand_58 : decode cX8_readOperand 58 = .ok (.iload_n 3, 1) := by decide +kernel
theorem dX8_readOperand_59 : decode cX8_readOperand 59 = .ok (.iconst (-1), 1) := by decide +kernel
theorem dX8_readOperand_60 : decode cX8_readOperand 60 = .ok (.if_icmp .eq 28, 3) := by decide +kernel
theorem dX8_readOperand_63 : decode cX8_readOperand 63 = .ok (.aload_n 0, 1) := by decide +kernel
theorem dX8_readOperand_64 : decode cX8_readOperand 64 = .ok (.dup, 1) := by decide +kernel
theorem dX8_readOperand_65 : decode cX8_readOperand 65 = .ok (.getfield 28, 3) := by decide +kernel
theorem dX8_readOperand_68 : decode cX8_readOperand 68 = .ok (.iconst 1, 1) := by decide +kernel
theorem dX8_readOperand_69 : decode cX8_readOperand 69 = .ok (.iadd, 1) := by decide +kernel
theorem dX8_readOperand_70 : decode cX8_readOperand 70 = .ok (.putfield 28, 3) := by decide +kernel
theorem dX8_readOperand_73 : decode cX8_readOperand 73 = .ok (.aload_n 0, 1) := by decide +kernel
theorem dX8_readOperand_74 : decode cX8_readOperand 74 = .ok (.getfield 19, 3) := by decide +kernel
theorem dX8_readOperand_77 : decode cX8_readOperand 77 = .ok (.sipush 10000, 3) := by decide +kernel
theorem dX8_readOperand_80 : decode cX8_readOperand 80 = .ok (.iload_n 3, 1) := by decide +kernel
theorem dX8_readOperand_81 : decode cX8_readOperand 81 = .ok (.iadd, 1) := by decide +kernel
theorem dX8_readOperand_82 : decode cX8_readOperand 82 = .ok (.invokevirtual 45, 3) := by decide +kernel
theorem dX8_readOperand_85 : decode cX8_readOperand 85 = .ok (.goto 56, 3) := by decide +kernel
theorem dX8_readOperand_88 : decode cX8_readOperand 88 = .ok (.iload_n 1, 1) := by decide +kernel
theorem dX8_readOperand_89 : decode cX8_readOperand 89 = .ok (.bipush 6, 2) := by decide +kernel
theorem dX8_readOperand_91 : decode cX8_readOperand 91 = .ok (.if_icmp .ge 42, 3) := by decide +kernel
theorem dX8_readOperand_94 : decode cX8_readOperand 94 = .ok (.iload_n 2, 1) := by decide +kernel
theorem dX8_readOperand_95 : decode cX8_readOperand 95 = .ok (.bipush 40, 2) := by decide +kernel
theorem dX8_readOperand_97 : decode cX8_readOperand 97 = .ok (.if_icmp .eq 15, 3) := by decide +kernel
theorem dX8_readOperand_100 : decode cX8_readOperand 100 = .ok (.iload_n 2, 1) := by decide +kernel
theorem dX8_readOperand_101 : decode cX8_readOperand 101 = .ok (.bipush 33, 2) := by decide +kernel
theorem dX8_readOperand_103 : decode cX8_readOperand 103 = .ok (.if_icmp .eq 9, 3) := by decide +kernel
theorem dX8_readOperand_106 : decode cX8_readOperand 106 = .ok (.iload_n 2, 1) := by decide +kernel
theorem dX8_readOperand_107 : decode cX8_readOperand 107 = .ok (.bipush 45, 2) := by decide +kernel
theorem dX8_readOperand_109 : decode cX8_readOperand 109 = .ok (.if_icmp .ne 24, 3) := by decide +kernel
theorem dX8_readOperand_112 : decode cX8_readOperand 112 = .ok (.aload_n 0, 1) := by decide +kernel
theorem dX8_readOperand_113 : decode cX8_readOperand 113 = .ok (.dup, 1) := by decide +kernel
theorem dX8_readOperand_114 : decode cX8_readOperand 114 = .ok (.getfield 28, 3) := by decide +kernel
theorem dX8_readOperand_117 : decode cX8_readOperand 117 = .ok (.iconst 1, 1) := by decide +kernel
theorem dX8_readOperand_118 : decode cX8_readOperand 118 = .ok (.iadd, 1) := by decide +kernel
theorem dX8_readOperand_119 : decode cX8_readOperand 119 = .ok (.putfield 28, 3) := by decide +kernel
theorem dX8_readOperand_122 : decode cX8_readOperand 122 = .ok (.aload_n 0, 1) := by decide +kernel
theorem dX8_readOperand_123 : decode cX8_readOperand 123 = .ok (.iload_n 2, 1) := by decide +kernel
theorem dX8_readOperand_124 : decode cX8_readOperand 124 = .ok (.iload_n 1, 1) := by decide +kernel
theorem dX8_readOperand_125 : decode cX8_readOperand 125 = .ok (.iconst 1, 1) := by decide +kernel
theorem dX8_readOperand_126 : decode cX8_readOperand 126 = .ok (.iadd, 1) := by decide +kernel
theorem dX8_readOperand_127 : decode cX8_readOperand 127 = .ok (.invokevirtual 66, 3) := by decide +kernel
theorem dX8_readOperand_130 : decode cX8_readOperand 130 = .ok (.goto 11, 3) := by decide +kernel
theorem dX8_readOperand_133 : decode cX8_readOperand 133 = .ok (.aload_n 0, 1) := by decide +kernel
theorem dX8_readOperand_134 : decode cX8_readOperand 134 = .ok (.aload_n 0, 1) := by decide +kernel
theorem dX8_readOperand_135 : decode cX8_readOperand 135 = .ok (.getfield 28, 3) := by decide +kernel
theorem dX8_readOperand_138 : decode cX8_readOperand 138 = .ok (.putfield 31, 3) := by decide +kernel
theorem dX8_readOperand_141 : decode cX8_readOperand 141 = .ok (.return_, 1) := by decide +kernel
theorem dX8_readOpened_0 : decode cX8_readOpened 0 = .ok (.iload_n 1, 1) := by decide +kernel
theorem dX8_readOpened_1 : decode cX8_readOpened 1 = .ok (.bipush 40, 2) := by decide +kernel
theorem dX8_readOpened_3 : decode cX8_readOpened 3 = .ok (.if_icmp .eq 31, 3) := by decide +kernel
theorem dX8_readOpened_6 : decode cX8_readOpened 6 = .ok (.aload_n 0, 1) := by decide +kernel
theorem dX8_readOpened_7 : decode cX8_readOpened 7 = .ok (.iload_n 2, 1) := by decide +kernel
theorem dX8_readOpened_8 : decode cX8_readOpened 8 = .ok (.invokevirtual 56, 3) := by decide +kernel
theorem dX8_readOpened_11 : decode cX8_readOpened 11 = .ok (.aload_n 0, 1) := by decide +kernel
theorem dX8_readOpened_12 : decode cX8_readOpened 12 = .ok (.getfield 19, 3) := by decide +kernel
theorem dX8_readOpened_15 : decode cX8_readOpened 15 = .ok (.iload_n 1, 1) := by decide +kernel
theorem dX8_readOpened_16 : decode cX8_readOpened 16 = .ok (.bipush 33, 2) := by decide +kernel
theorem dX8_readOpened_18 : decode cX8_readOpened 18 = .ok (.if_icmp .ne 9, 3) := by decide +kernel
theorem dX8_readOpened_21 : decode cX8_readOpened 21 = .ok (.sipush 20033, 3) := by decide +kernel
theorem dX8_readOpened_24 : decode cX8_readOpened 24 = .ok (.goto 6, 3) := by decide +kernel
theorem dX8_readOpened_27 : decode cX8_readOpened 27 = .ok (.sipush 20126, 3) := by decide +kernel
theorem dX8_readOpened_30 : decode cX8_readOpened 30 = .ok (.invokevirtual 45, 3) := by decide +kernel
theorem dX8_readOpened_33 : decode cX8_readOpened 33 = .ok (.return_, 1) := by decide +kernel
theorem dX8_readOpened_34 : decode cX8_readOpened 34 = .ok (.aload_n 0, 1) := by decide +kernel
theorem dX8_readOpened_35 : decode cX8_readOpened 35 = .ok (.iconst 0, 1) := by decide +kernel
theorem dX8_readOpened_36 : decode cX8_readOpened 36 = .ok (.iload_n 2, 1) := by decide +kernel
theorem dX8_readOpened_37 : decode cX8_readOpened 37 = .ok (.invokevirtual 41, 3) := by decide +kernel
theorem dX8_readOpened_40 : decode cX8_readOpened 40 = .ok (.aload_n 0, 1) := by decide +kernel
theorem dX8_readOpened_41 : decode cX8_readOpened 41 = .ok (.getfield 31, 3) := by decide +kernel
theorem dX8_readOpened_44 : decode cX8_readOpened 44 = .ok (.iconst (-1), 1) := by decide +kernel
theorem dX8_readOpened_45 : decode cX8_readOpened 45 = .ok (.if_icmp .ne 20, 3) := by decide +kernel
theorem dX8_readOpened_48 : decode cX8_readOpened 48 = .ok (.aload_n 0, 1) := by decide +kernel
theorem dX8_readOpened_49 : decode cX8_readOpened 49 = .ok (.bipush 41, 2) := by decide +kernel
theorem dX8_readOpened_51 : decode cX8_readOpened 51 = .ok (.invokevirtual 37, 3) := by decide +kernel
theorem dX8_readOpened_54 : decode cX8_readOpened 54 = .ok (.ifCond .ne 11, 3) := by decide +kernel
theorem dX8_readOpened_57 : decode cX8_readOpened 57 = .ok (.aload_n 0, 1) := by decide +kernel
theorem dX8_readOpened_58 : decode cX8_readOpened 58 = .ok (.aload_n 0, 1) := by decide +kernel
theorem dX8_readOpened_59 : decode cX8_readOpened 59 = .ok (.getfield 28, 3) := by decide +kernel
theorem dX8_readOpened_62 : decode cX8_readOpened 62 = .ok (.putfield 31, 3) := by decide +kernel
theorem dX8_readOpened_65 : decode cX8_readOpened 65 = .ok (.return_, 1) := by decide +kernel
theorem dX8_readNumber_0 : decode cX8_readNumber 0 = .ok (.iconst 0, 1) := by decide +kernel
theorem dX8_readNumber_1 : decode cX8_readNumber 1 = .ok (.istore_n 1, 1) := by decide +kernel
theorem dX8_readNumber_2 : decode cX8_readNumber 2 = .ok (.iconst 0, 1) := by decide +kernel
theorem dX8_readNumber_3 : decode cX8_readNumber 3 = .ok (.istore_n 2, 1) := by decide +kernel
theorem dX8_readNumber_4 : decode cX8_readNumber 4 = .ok (.iload_n 2, 1) := by decide +kernel
theorem dX8_readNumber_5 : decode cX8_readNumber 5 = .ok (.iconst 4, 1) := by decide +kernel
theorem dX8_readNumber_6 : decode cX8_readNumber 6 = .ok (.if_icmp .ge 76, 3) := by decide +kernel
theorem dX8_readNumber_9 : decode cX8_readNumber 9 = .ok (.aload_n 0, 1) := by decide +kernel
theorem dX8_readNumber_10 : decode cX8_readNumber 10 = .ok (.getfield 28, 3) := by decide +kernel
theorem dX8_readNumber_13 : decode cX8_readNumber 13 = .ok (.aload_n 0, 1) := by decide +kernel
theorem dX8_readNumber_14 : decode cX8_readNumber 14 = .ok (.getfield 15, 3) := by decide +kernel
theorem dX8_readNumber_17 : decode cX8_readNumber 17 = .ok (.if_icmp .ge 65, 3) := by decide +kernel
theorem dX8_readNumber_20 : decode cX8_readNumber 20 = .ok (.aload_n 0, 1) := by decide +kernel
theorem dX8_readNumber_21 : decode cX8_readNumber 21 = .ok (.getfield 9, 3) := by decide +kernel
theorem dX8_readNumber_24 : decode cX8_readNumber 24 = .ok (.aload_n 0, 1) := by decide +kernel
theorem dX8_readNumber_25 : decode cX8_readNumber 25 = .ok (.getfield 28, 3) := by decide +kernel
theorem dX8_readNumber_28 : decode cX8_readNumber 28 = .ok (.iaload, 1) := by decide +kernel
theorem dX8_readNumber_29 : decode cX8_readNumber 29 = .ok (.bipush 48, 2) := by decide +kernel
theorem dX8_readNumber_31 : decode cX8_readNumber 31 = .ok (.if_icmp .lt 51, 3) := by decide +kernel
theorem dX8_readNumber_34 : decode cX8_readNumber 34 = .ok (.aload_n 0, 1) := by decide +kernel
theorem dX8_readNumber_35 : decode cX8_readNumber 35 = .ok (.getfield 9, 3) := by decide +kernel
theorem dX8_readNumber_38 : decode cX8_readNumber 38 = .ok (.aload_n 0, 1) := by decide +kernel
theorem dX8_readNumber_39 : decode cX8_readNumber 39 = .ok (.getfield 28, 3) := by decide +kernel
theorem dX8_readNumber_42 : decode cX8_readNumber 42 = .ok (.iaload, 1) := by decide +kernel
theorem dX8_readNumber_43 : decode cX8_readNumber 43 = .ok (.bipush 57, 2) := by decide +kernel
theorem dX8_readNumber_45 : decode cX8_readNumber 45 = .ok (.if_icmp .gt 37, 3) := by decide +kernel
theorem dX8_readNumber_48 : decode cX8_readNumber 48 = .ok (.iload_n 1, 1) := by decide +kernel
theorem dX8_readNumber_49 : decode cX8_readNumber 49 = .ok (.bipush 10, 2) := by decide +kernel
theorem dX8_readNumber_51 : decode cX8_readNumber 51 = .ok (.imul, 1) := by decide +kernel
theorem dX8_readNumber_52 : decode cX8_readNumber 52 = .ok (.aload_n 0, 1) := by decide +kernel
theorem dX8_readNumber_53 : decode cX8_readNumber 53 = .ok (.getfield 9, 3) := by decide +kernel
theorem dX8_readNumber_56 : decode cX8_readNumber 56 = .ok (.aload_n 0, 1) := by decide +kernel
theorem dX8_readNumber_57 : decode cX8_readNumber 57 = .ok (.getfield 28, 3) := by decide +kernel
theorem dX8_readNumber_60 : decode cX8_readNumber 60 = .ok (.iaload, 1) := by decide +kernel
theorem dX8_readNumber_61 : decode cX8_readNumber 61 = .ok (.iadd, 1) := by decide +kernel
theorem dX8_readNumber_62 : decode cX8_readNumber 62 = .ok (.bipush 48, 2) := by decide +kernel
theorem dX8_readNumber_64 : decode cX8_readNumber 64 = .ok (.isub, 1) := by decide +kernel
theorem dX8_readNumber_65 : decode cX8_readNumber 65 = .ok (.istore_n 1, 1) := by decide +kernel
theorem dX8_readNumber_66 : decode cX8_readNumber 66 = .ok (.aload_n 0, 1) := by decide +kernel
theorem dX8_readNumber_67 : decode cX8_readNumber 67 = .ok (.dup, 1) := by decide +kernel
theorem dX8_readNumber_68 : decode cX8_readNumber 68 = .ok (.getfield 28, 3) := by decide +kernel
theorem dX8_readNumber_71 : decode cX8_readNumber 71 = .ok (.iconst 1, 1) := by decide +kernel
theorem dX8_readNumber_72 : decode cX8_readNumber 72 = .ok (.iadd, 1) := by decide +kernel
theorem dX8_readNumber_73 : decode cX8_readNumber 73 = .ok (.putfield 28, 3) := by decide +kernel
theorem dX8_readNumber_76 : decode cX8_readNumber 76 = .ok (.iinc 2 1, 3) := by decide +kernel
theorem dX8_readNumber_79 : decode cX8_readNumber 79 = .ok (.goto (-75), 3) := by decide +kernel
theorem dX8_readNumber_82 : decode cX8_readNumber 82 = .ok (.aload_n 0, 1) := by decide +kernel
theorem dX8_readNumber_83 : decode cX8_readNumber 83 = .ok (.getfield 19, 3) := by decide +kernel
theorem dX8_readNumber_86 : decode cX8_readNumber 86 = .ok (.iload_n 1, 1) := by decide +kernel
theorem dX8_readNumber_87 : decode cX8_readNumber 87 = .ok (.invokevirtual 45, 3) := by decide +kernel
theorem dX8_readNumber_90 : decode cX8_readNumber 90 = .ok (.return_, 1) := by decide +kernel
theorem dX8_passes_0 : decode cX8_passes 0 = .ok (.aload_n 0, 1) := by decide +kernel
theorem dX8_passes_1 : decode cX8_passes 1 = .ok (.getfield 31, 3) := by decide +kernel
theorem dX8_passes_4 : decode cX8_passes 4 = .ok (.iconst (-1), 1) := by decide +kernel
theorem dX8_passes_5 : decode cX8_passes 5 = .ok (.if_icmp .ne 27, 3) := by decide +kernel
theorem dX8_passes_8 : decode cX8_passes 8 = .ok (.aload_n 0, 1) := by decide +kernel
theorem dX8_passes_9 : decode cX8_passes 9 = .ok (.getfield 28, 3) := by decide +kernel
theorem dX8_passes_12 : decode cX8_passes 12 = .ok (.aload_n 0, 1) := by decide +kernel
theorem dX8_passes_13 : decode cX8_passes 13 = .ok (.getfield 15, 3) := by decide +kernel
theorem dX8_passes_16 : decode cX8_passes 16 = .ok (.if_icmp .ge 16, 3) := by decide +kernel
theorem dX8_passes_19 : decode cX8_passes 19 = .ok (.aload_n 0, 1) := by decide +kernel
theorem dX8_passes_20 : decode cX8_passes 20 = .ok (.getfield 9, 3) := by decide +kernel
theorem dX8_passes_23 : decode cX8_passes 23 = .ok (.aload_n 0, 1) := by decide +kernel
theorem dX8_passes_24 : decode cX8_passes 24 = .ok (.getfield 28, 3) := by decide +kernel
theorem dX8_passes_27 : decode cX8_passes 27 = .ok (.iaload, 1) := by decide +kernel
theorem dX8_passes_28 : decode cX8_passes 28 = .ok (.iload_n 1, 1) := by decide +kernel
theorem dX8_passes_29 : decode cX8_passes 29 = .ok (.if_icmp .eq 5, 3) := by decide +kernel
theorem dX8_passes_32 : decode cX8_passes 32 = .ok (.iconst 0, 1) := by decide +kernel
theorem dX8_passes_33 : decode cX8_passes 33 = .ok (.ireturn, 1) := by decide +kernel
theorem dX8_passes_34 : decode cX8_passes 34 = .ok (.aload_n 0, 1) := by decide +kernel
theorem dX8_passes_35 : decode cX8_passes 35 = .ok (.dup, 1) := by decide +kernel
theorem dX8_passes_36 : decode cX8_passes 36 = .ok (.getfield 28, 3) := by decide +kernel
theorem dX8_passes_39 : decode cX8_passes 39 = .ok (.iconst 1, 1) := by decide +kernel
theorem dX8_passes_40 : decode cX8_passes 40 = .ok (.iadd, 1) := by decide +kernel
theorem dX8_passes_41 : decode cX8_passes 41 = .ok (.putfield 28, 3) := by decide +kernel
theorem dX8_passes_44 : decode cX8_passes 44 = .ok (.iconst 1, 1) := by decide +kernel
theorem dX8_passes_45 : decode cX8_passes 45 = .ok (.ireturn, 1) := by decide +kernel
theorem dX8_partOfSign_0 : decode cX8_partOfSign 0 = .ok (.aload_n 0, 1) := by decide +kernel
theorem dX8_partOfSign_1 : decode cX8_partOfSign 1 = .ok (.getfield 28, 3) := by decide +kernel
theorem dX8_partOfSign_4 : decode cX8_partOfSign 4 = .ok (.aload_n 0, 1) := by decide +kernel
theorem dX8_partOfSign_5 : decode cX8_partOfSign 5 = .ok (.getfield 15, 3) := by decide +kernel
theorem dX8_partOfSign_8 : decode cX8_partOfSign 8 = .ok (.if_icmp .ge 15, 3) := by decide +kernel
theorem dX8_partOfSign_11 : decode cX8_partOfSign 11 = .ok (.aload_n 0, 1) := by decide +kernel
theorem dX8_partOfSign_12 : decode cX8_partOfSign 12 = .ok (.getfield 9, 3) := by decide +kernel
theorem dX8_partOfSign_15 : decode cX8_partOfSign 15 = .ok (.aload_n 0, 1) := by decide +kernel
theorem dX8_partOfSign_16 : decode cX8_partOfSign 16 = .ok (.getfield 28, 3) := by decide +kernel
theorem dX8_partOfSign_19 : decode cX8_partOfSign 19 = .ok (.iaload, 1) := by decide +kernel
theorem dX8_partOfSign_20 : decode cX8_partOfSign 20 = .ok (.goto 4, 3) := by decide +kernel
theorem dX8_partOfSign_23 : decode cX8_partOfSign 23 = .ok (.iconst (-1), 1) := by decide +kernel
theorem dX8_partOfSign_24 : decode cX8_partOfSign 24 = .ok (.lookupswitch 102 #[(37, 100), (38, 94), (42, 100), (43, 98), (45, 98), (47, 100), (60, 96), (61, 96), (62, 96), (124, 92)], 92) := by decide +kernel
theorem dX8_partOfSign_116 : decode cX8_partOfSign 116 = .ok (.iconst 0, 1) := by decide +kernel
theorem dX8_partOfSign_117 : decode cX8_partOfSign 117 = .ok (.ireturn, 1) := by decide +kernel
theorem dX8_partOfSign_118 : decode cX8_partOfSign 118 = .ok (.iconst 1, 1) := by decide +kernel
theorem dX8_partOfSign_119 : decode cX8_partOfSign 119 = .ok (.ireturn, 1) := by decide +kernel
theorem dX8_partOfSign_120 : decode cX8_partOfSign 120 = .ok (.iconst 2, 1) := by decide +kernel
theorem dX8_partOfSign_121 : decode cX8_partOfSign 121 = .ok (.ireturn, 1) := by decide +kernel
theorem dX8_partOfSign_122 : decode cX8_partOfSign 122 = .ok (.iconst 3, 1) := by decide +kernel
theorem dX8_partOfSign_123 : decode cX8_partOfSign 123 = .ok (.ireturn, 1) := by decide +kernel
theorem dX8_partOfSign_124 : decode cX8_partOfSign 124 = .ok (.iconst 4, 1) := by decide +kernel
theorem dX8_partOfSign_125 : decode cX8_partOfSign 125 = .ok (.ireturn, 1) := by decide +kernel
theorem dX8_partOfSign_126 : decode cX8_partOfSign 126 = .ok (.iconst (-1), 1) := by decide +kernel
theorem dX8_partOfSign_127 : decode cX8_partOfSign 127 = .ok (.ireturn, 1) := by decide +kernel
theorem dX8_nameOf_0 : decode cX8_nameOf 0 = .ok (.iload_n 0, 1) := by decide +kernel
theorem dX8_nameOf_1 : decode cX8_nameOf 1 = .ok (.tableswitch 95 103 119 #[87, 85, 95, 95, 91, 95, 95, 83, 95, 95, 95, 95, 89, 95, 95, 95, 93], 83) := by decide +kernel
theorem dX8_nameOf_84 : decode cX8_nameOf 84 = .ok (.iconst 0, 1) := by decide +kernel
theorem dX8_nameOf_85 : decode cX8_nameOf 85 = .ok (.ireturn, 1) := by decide +kernel
theorem dX8_nameOf_86 : decode cX8_nameOf 86 = .ok (.iconst 1, 1) := by decide +kernel
theorem dX8_nameOf_87 : decode cX8_nameOf 87 = .ok (.ireturn, 1) := by decide +kernel
theorem dX8_nameOf_88 : decode cX8_nameOf 88 = .ok (.iconst 2, 1) := by decide +kernel
theorem dX8_nameOf_89 : decode cX8_nameOf 89 = .ok (.ireturn, 1) := by decide +kernel
theorem dX8_nameOf_90 : decode cX8_nameOf 90 = .ok (.iconst 3, 1) := by decide +kernel
theorem dX8_nameOf_91 : decode cX8_nameOf 91 = .ok (.ireturn, 1) := by decide +kernel
theorem dX8_nameOf_92 : decode cX8_nameOf 92 = .ok (.iconst 4, 1) := by decide +kernel
theorem dX8_nameOf_93 : decode cX8_nameOf 93 = .ok (.ireturn, 1) := by decide +kernel
theorem dX8_nameOf_94 : decode cX8_nameOf 94 = .ok (.iconst 5, 1) := by decide +kernel
theorem dX8_nameOf_95 : decode cX8_nameOf 95 = .ok (.ireturn, 1) := by decide +kernel
theorem dX8_nameOf_96 : decode cX8_nameOf 96 = .ok (.iconst (-1), 1) := by decide +kernel
theorem dX8_nameOf_97 : decode cX8_nameOf 97 = .ok (.ireturn, 1) := by decide +kernel
theorem dJ6_bitCount_0f7a4_0 : decode cJ6_bitCount_0f7a4 0 = .ok (.iload_n 0, 1) := by decide +kernel
theorem dJ6_bitCount_0f7a4_1 : decode cJ6_bitCount_0f7a4 1 = .ok (.iload_n 0, 1) := by decide +kernel
theorem dJ6_bitCount_0f7a4_2 : decode cJ6_bitCount_0f7a4 2 = .ok (.iconst 1, 1) := by decide +kernel
theorem dJ6_bitCount_0f7a4_3 : decode cJ6_bitCount_0f7a4 3 = .ok (.iushr, 1) := by decide +kernel
theorem dJ6_bitCount_0f7a4_4 : decode cJ6_bitCount_0f7a4 4 = .ok (.ldc_w 265, 3) := by decide +kernel
theorem dJ6_bitCount_0f7a4_7 : decode cJ6_bitCount_0f7a4 7 = .ok (.iand, 1) := by decide +kernel
theorem dJ6_bitCount_0f7a4_8 : decode cJ6_bitCount_0f7a4 8 = .ok (.isub, 1) := by decide +kernel
theorem dJ6_bitCount_0f7a4_9 : decode cJ6_bitCount_0f7a4 9 = .ok (.istore_n 0, 1) := by decide +kernel
theorem dJ6_bitCount_0f7a4_10 : decode cJ6_bitCount_0f7a4 10 = .ok (.iload_n 0, 1) := by decide +kernel
theorem dJ6_bitCount_0f7a4_11 : decode cJ6_bitCount_0f7a4 11 = .ok (.ldc_w 266, 3) := by decide +kernel
theorem dJ6_bitCount_0f7a4_14 : decode cJ6_bitCount_0f7a4 14 = .ok (.iand, 1) := by decide +kernel
theorem dJ6_bitCount_0f7a4_15 : decode cJ6_bitCount_0f7a4 15 = .ok (.iload_n 0, 1) := by decide +kernel
theorem dJ6_bitCount_0f7a4_16 : decode cJ6_bitCount_0f7a4 16 = .ok (.iconst 2, 1) := by decide +kernel
theorem dJ6_bitCount_0f7a4_17 : decode cJ6_bitCount_0f7a4 17 = .ok (.iushr, 1) := by decide +kernel
theorem dJ6_bitCount_0f7a4_18 : decode cJ6_bitCount_0f7a4 18 = .ok (.ldc_w 266, 3) := by decide +kernel
theorem dJ6_bitCount_0f7a4_21 : decode cJ6_bitCount_0f7a4 21 = .ok (.iand, 1) := by decide +kernel
theorem dJ6_bitCount_0f7a4_22 : decode cJ6_bitCount_0f7a4 22 = .ok (.iadd, 1) := by decide +kernel
theorem dJ6_bitCount_0f7a4_23 : decode cJ6_bitCount_0f7a4 23 = .ok (.istore_n 0, 1) := by decide +kernel
theorem dJ6_bitCount_0f7a4_24 : decode cJ6_bitCount_0f7a4 24 = .ok (.iload_n 0, 1) := by decide +kernel
theorem dJ6_bitCount_0f7a4_25 : decode cJ6_bitCount_0f7a4 25 = .ok (.iload_n 0, 1) := by decide +kernel
theorem dJ6_bitCount_0f7a4_26 : decode cJ6_bitCount_0f7a4 26 = .ok (.iconst 4, 1) := by decide +kernel
theorem dJ6_bitCount_0f7a4_27 : decode cJ6_bitCount_0f7a4 27 = .ok (.iushr, 1) := by decide +kernel
theorem dJ6_bitCount_0f7a4_28 : decode cJ6_bitCount_0f7a4 28 = .ok (.iadd, 1) := by decide +kernel
theorem dJ6_bitCount_0f7a4_29 : decode cJ6_bitCount_0f7a4 29 = .ok (.ldc_w 267, 3) := by decide +kernel
theorem dJ6_bitCount_0f7a4_32 : decode cJ6_bitCount_0f7a4 32 = .ok (.iand, 1) := by decide +kernel
theorem dJ6_bitCount_0f7a4_33 : decode cJ6_bitCount_0f7a4 33 = .ok (.istore_n 0, 1) := by decide +kernel
theorem dJ6_bitCount_0f7a4_34 : decode cJ6_bitCount_0f7a4 34 = .ok (.iload_n 0, 1) := by decide +kernel
theorem dJ6_bitCount_0f7a4_35 : decode cJ6_bitCount_0f7a4 35 = .ok (.iload_n 0, 1) := by decide +kernel
theorem dJ6_bitCount_0f7a4_36 : decode cJ6_bitCount_0f7a4 36 = .ok (.bipush 8, 2) := by decide +kernel
theorem dJ6_bitCount_0f7a4_38 : decode cJ6_bitCount_0f7a4 38 = .ok (.iushr, 1) := by decide +kernel
theorem dJ6_bitCount_0f7a4_39 : decode cJ6_bitCount_0f7a4 39 = .ok (.iadd, 1) := by decide +kernel
theorem dJ6_bitCount_0f7a4_40 : decode cJ6_bitCount_0f7a4 40 = .ok (.istore_n 0, 1) := by decide +kernel
theorem dJ6_bitCount_0f7a4_41 : decode cJ6_bitCount_0f7a4 41 = .ok (.iload_n 0, 1) := by decide +kernel
theorem dJ6_bitCount_0f7a4_42 : decode cJ6_bitCount_0f7a4 42 = .ok (.iload_n 0, 1) := by decide +kernel
theorem dJ6_bitCount_0f7a4_43 : decode cJ6_bitCount_0f7a4 43 = .ok (.bipush 16, 2) := by decide +kernel
theorem dJ6_bitCount_0f7a4_45 : decode cJ6_bitCount_0f7a4 45 = .ok (.iushr, 1) := by decide +kernel
theorem dJ6_bitCount_0f7a4_46 : decode cJ6_bitCount_0f7a4 46 = .ok (.iadd, 1) := by decide +kernel
theorem dJ6_bitCount_0f7a4_47 : decode cJ6_bitCount_0f7a4 47 = .ok (.istore_n 0, 1) := by decide +kernel
theorem dJ6_bitCount_0f7a4_48 : decode cJ6_bitCount_0f7a4 48 = .ok (.iload_n 0, 1) := by decide +kernel
theorem dJ6_bitCount_0f7a4_49 : decode cJ6_bitCount_0f7a4 49 = .ok (.bipush 63, 2) := by decide +kernel
theorem dJ6_bitCount_0f7a4_51 : decode cJ6_bitCount_0f7a4 51 = .ok (.iand, 1) := by decide +kernel
theorem dJ6_bitCount_0f7a4_52 : decode cJ6_bitCount_0f7a4 52 = .ok (.ireturn, 1) := by decide +kernel
theorem dJ9_max_7cf53_0 : decode cJ9_max_7cf53 0 = .ok (.iload_n 0, 1) := by decide +kernel
theorem dJ9_max_7cf53_1 : decode cJ9_max_7cf53 1 = .ok (.iload_n 1, 1) := by decide +kernel
theorem dJ9_max_7cf53_2 : decode cJ9_max_7cf53 2 = .ok (.if_icmp .lt 7, 3) := by decide +kernel
theorem dJ9_max_7cf53_5 : decode cJ9_max_7cf53 5 = .ok (.iload_n 0, 1) := by decide +kernel
theorem dJ9_max_7cf53_6 : decode cJ9_max_7cf53 6 = .ok (.goto 4, 3) := by decide +kernel
theorem dJ9_max_7cf53_9 : decode cJ9_max_7cf53 9 = .ok (.iload_n 1, 1) := by decide +kernel
theorem dJ9_max_7cf53_10 : decode cJ9_max_7cf53 10 = .ok (.ireturn, 1) := by decide +kernel
theorem dJ9_min_7cf53_0 : decode cJ9_min_7cf53 0 = .ok (.iload_n 0, 1) := by decide +kernel
theorem dJ9_min_7cf53_1 : decode cJ9_min_7cf53 1 = .ok (.iload_n 1, 1) := by decide +kernel
theorem dJ9_min_7cf53_2 : decode cJ9_min_7cf53 2 = .ok (.if_icmp .gt 7, 3) := by decide +kernel
theorem dJ9_min_7cf53_5 : decode cJ9_min_7cf53 5 = .ok (.iload_n 0, 1) := by decide +kernel
theorem dJ9_min_7cf53_6 : decode cJ9_min_7cf53 6 = .ok (.goto 4, 3) := by decide +kernel
theorem dJ9_min_7cf53_9 : decode cJ9_min_7cf53 9 = .ok (.iload_n 1, 1) := by decide +kernel
theorem dJ9_min_7cf53_10 : decode cJ9_min_7cf53 10 = .ok (.ireturn, 1) := by decide +kernel
theorem dJ7_fill_d0a16_0 : decode cJ7_fill_d0a16 0 = .ok (.iconst 0, 1) := by decide +kernel
theorem dJ7_fill_d0a16_1 : decode cJ7_fill_d0a16 1 = .ok (.istore_n 3, 1) := by decide +kernel
theorem dJ7_fill_d0a16_2 : decode cJ7_fill_d0a16 2 = .ok (.aload_n 0, 1) := by decide +kernel
theorem dJ7_fill_d0a16_3 : decode cJ7_fill_d0a16 3 = .ok (.arraylength, 1) := by decide +kernel
theorem dJ7_fill_d0a16_4 : decode cJ7_fill_d0a16 4 = .ok (.istore 4, 2) := by decide +kernel
theorem dJ7_fill_d0a16_6 : decode cJ7_fill_d0a16 6 = .ok (.iload_n 3, 1) := by decide +kernel
theorem dJ7_fill_d0a16_7 : decode cJ7_fill_d0a16 7 = .ok (.iload 4, 2) := by decide +kernel
theorem dJ7_fill_d0a16_9 : decode cJ7_fill_d0a16 9 = .ok (.if_icmp .ge 13, 3) := by decide +kernel
theorem dJ7_fill_d0a16_12 : decode cJ7_fill_d0a16 12 = .ok (.aload_n 0, 1) := by decide +kernel
theorem dJ7_fill_d0a16_13 : decode cJ7_fill_d0a16 13 = .ok (.iload_n 3, 1) := by decide +kernel
theorem dJ7_fill_d0a16_14 : decode cJ7_fill_d0a16 14 = .ok (.lload_n 1, 1) := by decide +kernel
theorem dJ7_fill_d0a16_15 : decode cJ7_fill_d0a16 15 = .ok (.lastore, 1) := by decide +kernel
theorem dJ7_fill_d0a16_16 : decode cJ7_fill_d0a16 16 = .ok (.iinc 3 1, 3) := by decide +kernel
theorem dJ7_fill_d0a16_19 : decode cJ7_fill_d0a16 19 = .ok (.goto (-13), 3) := by decide +kernel
theorem dJ7_fill_d0a16_22 : decode cJ7_fill_d0a16 22 = .ok (.return_, 1) := by decide +kernel
theorem dJ7_fill_53178_0 : decode cJ7_fill_53178 0 = .ok (.iconst 0, 1) := by decide +kernel
theorem dJ7_fill_53178_1 : decode cJ7_fill_53178 1 = .ok (.istore_n 2, 1) := by decide +kernel
theorem dJ7_fill_53178_2 : decode cJ7_fill_53178 2 = .ok (.aload_n 0, 1) := by decide +kernel
theorem dJ7_fill_53178_3 : decode cJ7_fill_53178 3 = .ok (.arraylength, 1) := by decide +kernel
theorem dJ7_fill_53178_4 : decode cJ7_fill_53178 4 = .ok (.istore_n 3, 1) := by decide +kernel
theorem dJ7_fill_53178_5 : decode cJ7_fill_53178 5 = .ok (.iload_n 2, 1) := by decide +kernel
theorem dJ7_fill_53178_6 : decode cJ7_fill_53178 6 = .ok (.iload_n 3, 1) := by decide +kernel
theorem dJ7_fill_53178_7 : decode cJ7_fill_53178 7 = .ok (.if_icmp .ge 13, 3) := by decide +kernel
theorem dJ7_fill_53178_10 : decode cJ7_fill_53178 10 = .ok (.aload_n 0, 1) := by decide +kernel
theorem dJ7_fill_53178_11 : decode cJ7_fill_53178 11 = .ok (.iload_n 2, 1) := by decide +kernel
theorem dJ7_fill_53178_12 : decode cJ7_fill_53178 12 = .ok (.iload_n 1, 1) := by decide +kernel
theorem dJ7_fill_53178_13 : decode cJ7_fill_53178 13 = .ok (.iastore, 1) := by decide +kernel
theorem dJ7_fill_53178_14 : decode cJ7_fill_53178 14 = .ok (.iinc 2 1, 3) := by decide +kernel
theorem dJ7_fill_53178_17 : decode cJ7_fill_53178 17 = .ok (.goto (-12), 3) := by decide +kernel
theorem dJ7_fill_53178_20 : decode cJ7_fill_53178 20 = .ok (.return_, 1) := by decide +kernel
theorem dJ7_fill_031fb_0 : decode cJ7_fill_031fb 0 = .ok (.iconst 0, 1) := by decide +kernel
theorem dJ7_fill_031fb_1 : decode cJ7_fill_031fb 1 = .ok (.istore_n 2, 1) := by decide +kernel
theorem dJ7_fill_031fb_2 : decode cJ7_fill_031fb 2 = .ok (.aload_n 0, 1) := by decide +kernel
theorem dJ7_fill_031fb_3 : decode cJ7_fill_031fb 3 = .ok (.arraylength, 1) := by decide +kernel
theorem dJ7_fill_031fb_4 : decode cJ7_fill_031fb 4 = .ok (.istore_n 3, 1) := by decide +kernel
theorem dJ7_fill_031fb_5 : decode cJ7_fill_031fb 5 = .ok (.iload_n 2, 1) := by decide +kernel
theorem dJ7_fill_031fb_6 : decode cJ7_fill_031fb 6 = .ok (.iload_n 3, 1) := by decide +kernel
theorem dJ7_fill_031fb_7 : decode cJ7_fill_031fb 7 = .ok (.if_icmp .ge 13, 3) := by decide +kernel
theorem dJ7_fill_031fb_10 : decode cJ7_fill_031fb 10 = .ok (.aload_n 0, 1) := by decide +kernel
theorem dJ7_fill_031fb_11 : decode cJ7_fill_031fb 11 = .ok (.iload_n 2, 1) := by decide +kernel
theorem dJ7_fill_031fb_12 : decode cJ7_fill_031fb 12 = .ok (.iload_n 1, 1) := by decide +kernel
theorem dJ7_fill_031fb_13 : decode cJ7_fill_031fb 13 = .ok (.bastore, 1) := by decide +kernel
theorem dJ7_fill_031fb_14 : decode cJ7_fill_031fb 14 = .ok (.iinc 2 1, 3) := by decide +kernel
theorem dJ7_fill_031fb_17 : decode cJ7_fill_031fb 17 = .ok (.goto (-12), 3) := by decide +kernel
theorem dJ7_fill_031fb_20 : decode cJ7_fill_031fb 20 = .ok (.return_, 1) := by decide +kernel
