theorem dX0_init_0 : decode cX0_init 0 = .ok (.aload_n 0, 1) := by decide +kernel
theorem dX0_init_1 : decode cX0_init 1 = .ok (.invokespecial 3, 3) := by decide +kernel
theorem dX0_init_4 : decode cX0_init 4 = .ok (.aload_n 0, 1) := by decide +kernel
theorem dX0_init_5 : decode cX0_init 5 = .ok (.bipush 81, 2) := by decide +kernel
theorem dX0_init_7 : decode cX0_init 7 = .ok (.newarray .int, 2) := by decide +kernel
theorem dX0_init_9 : decode cX0_init 9 = .ok (.putfield 9, 3) := by decide +kernel
theorem dX0_init_12 : decode cX0_init 12 = .ok (.return_, 1) := by decide +kernel
theorem dX0_isFree_0 : decode cX0_isFree 0 = .ok (.iconst 4, 1) := by decide +kernel
theorem dX0_isFree_1 : decode cX0_isFree 1 = .ok (.istore 6, 2) := by decide +kernel
theorem dX0_isFree_3 : decode cX0_isFree 3 = .ok (.iload 6, 2) := by decide +kernel
theorem dX0_isFree_5 : decode cX0_isFree 5 = .ok (.aload_n 0, 1) := by decide +kernel
theorem dX0_isFree_6 : decode cX0_isFree 6 = .ok (.getfield 15, 3) := by decide +kernel
theorem dX0_isFree_9 : decode cX0_isFree 9 = .ok (.if_icmp .ge 32, 3) := by decide +kernel
theorem dX0_isFree_12 : decode cX0_isFree 12 = .ok (.iload 6, 2) := by decide +kernel
theorem dX0_isFree_14 : decode cX0_isFree 14 = .ok (.iload 5, 2) := by decide +kernel
theorem dX0_isFree_16 : decode cX0_isFree 16 = .ok (.if_icmp .eq 19, 3) := by decide +kernel
theorem dX0_isFree_19 : decode cX0_isFree 19 = .ok (.aload_n 0, 1) := by decide +kernel
theorem dX0_isFree_20 : decode cX0_isFree 20 = .ok (.iload 6, 2) := by decide +kernel
theorem dX0_isFree_22 : decode cX0_isFree 22 = .ok (.iload_n 1, 1) := by decide +kernel
theorem dX0_isFree_23 : decode cX0_isFree 23 = .ok (.iload_n 2, 1) := by decide +kernel
theorem dX0_isFree_24 : decode cX0_isFree 24 = .ok (.iload_n 3, 1) := by decide +kernel
theorem dX0_isFree_25 : decode cX0_isFree 25 = .ok (.iload 4, 2) := by decide +kernel
theorem dX0_isFree_27 : decode cX0_isFree 27 = .ok (.invokestatic 21, 3) := by decide +kernel
theorem dX0_isFree_30 : decode cX0_isFree 30 = .ok (.ifCond .eq 5, 3) := by decide +kernel
theorem dX0_isFree_33 : decode cX0_isFree 33 = .ok (.iconst 0, 1) := by decide +kernel
theorem dX0_isFree_34 : decode cX0_isFree 34 = .ok (.ireturn, 1) := by decide +kernel
theorem dX0_isFree_35 : decode cX0_isFree 35 = .ok (.iinc 6 1, 3) := by decide +kernel
theorem dX0_isFree_38 : decode cX0_isFree 38 = .ok (.goto (-35), 3) := by decide +kernel
theorem dX0_isFree_41 : decode cX0_isFree 41 = .ok (.iconst 1, 1) := by decide +kernel
theorem dX0_isFree_42 : decode cX0_isFree 42 = .ok (.ireturn, 1) := by decide +kernel
theorem dX0_isStopped_0 : decode cX0_isStopped 0 = .ok (.aload_n 0, 1) := by decide +kernel
theorem dX0_isStopped_1 : decode cX0_isStopped 1 = .ok (.iload_n 1, 1) := by decide +kernel
theorem dX0_isStopped_2 : decode cX0_isStopped 2 = .ok (.iconst 3, 1) := by decide +kernel
theorem dX0_isStopped_3 : decode cX0_isStopped 3 = .ok (.invokevirtual 25, 3) := by decide +kernel
theorem dX0_isStopped_6 : decode cX0_isStopped 6 = .ok (.iconst 1, 1) := by decide +kernel
theorem dX0_isStopped_7 : decode cX0_isStopped 7 = .ok (.if_icmp .ne 7, 3) := by decide +kernel
theorem dX0_isStopped_10 : decode cX0_isStopped 10 = .ok (.iconst 1, 1) := by decide +kernel
theorem dX0_isStopped_11 : decode cX0_isStopped 11 = .ok (.goto 4, 3) := by decide +kernel
theorem dX0_isStopped_14 : decode cX0_isStopped 14 = .ok (.iconst 0, 1) := by decide +kernel
theorem dX0_isStopped_15 : decode cX0_isStopped 15 = .ok (.istore 6, 2) := by decide +kernel
theorem dX0_isStopped_17 : decode cX0_isStopped 17 = .ok (.iconst 2, 1) := by decide +kernel
theorem dX0_isStopped_18 : decode cX0_isStopped 18 = .ok (.aload_n 0, 1) := by decide +kernel
theorem dX0_isStopped_19 : decode cX0_isStopped 19 = .ok (.iload_n 1, 1) := by decide +kernel
theorem dX0_isStopped_20 : decode cX0_isStopped 20 = .ok (.iload 6, 2) := by decide +kernel
theorem dX0_isStopped_22 : decode cX0_isStopped 22 = .ok (.ifCond .eq 7, 3) := by decide +kernel
theorem dX0_isStopped_25 : decode cX0_isStopped 25 = .ok (.iconst 0, 1) := by decide +kernel
theorem dX0_isStopped_26 : decode cX0_isStopped 26 = .ok (.goto 4, 3) := by decide +kernel
theorem dX0_isStopped_29 : decode cX0_isStopped 29 = .ok (.iconst 1, 1) := by decide +kernel
theorem dX0_isStopped_30 : decode cX0_isStopped 30 = .ok (.invokevirtual 25, 3) := by decide +kernel
theorem dX0_isStopped_33 : decode cX0_isStopped 33 = .ok (.imul, 1) := by decide +kernel
theorem dX0_isStopped_34 : decode cX0_isStopped 34 = .ok (.istore 7, 2) := by decide +kernel
theorem dX0_isStopped_36 : decode cX0_isStopped 36 = .ok (.iconst 2, 1) := by decide +kernel
theorem dX0_isStopped_37 : decode cX0_isStopped 37 = .ok (.iload 6, 2) := by decide +kernel
theorem dX0_isStopped_39 : decode cX0_isStopped 39 = .ok (.ifCond .eq 7, 3) := by decide +kernel
theorem dX0_isStopped_42 : decode cX0_isStopped 42 = .ok (.iload_n 2, 1) := by decide +kernel
theorem dX0_isStopped_43 : decode cX0_isStopped 43 = .ok (.goto 4, 3) := by decide +kernel
theorem dX0_isStopped_46 : decode cX0_isStopped 46 = .ok (.iload_n 3, 1) := by decide +kernel
theorem dX0_isStopped_47 : decode cX0_isStopped 47 = .ok (.imul, 1) := by decide +kernel
theorem dX0_isStopped_48 : decode cX0_isStopped 48 = .ok (.iconst 1, 1) := by decide +kernel
theorem dX0_isStopped_49 : decode cX0_isStopped 49 = .ok (.iadd, 1) := by decide +kernel
theorem dX0_isStopped_50 : decode cX0_isStopped 50 = .ok (.istore 8, 2) := by decide +kernel
theorem dX0_isStopped_52 : decode cX0_isStopped 52 = .ok (.iconst 2, 1) := by decide +kernel
theorem dX0_isStopped_53 : decode cX0_isStopped 53 = .ok (.iload 6, 2) := by decide +kernel
theorem dX0_isStopped_55 : decode cX0_isStopped 55 = .ok (.ifCond .eq 8, 3) := by decide +kernel
theorem dX0_isStopped_58 : decode cX0_isStopped 58 = .ok (.iload 4, 2) := by decide +kernel
theorem dX0_isStopped_60 : decode cX0_isStopped 60 = .ok (.goto 5, 3) := by decide +kernel
theorem dX0_isStopped_63 : decode cX0_isStopped 63 = .ok (.iload 5, 2) := by decide +kernel
theorem dX0_isStopped_65 : decode cX0_isStopped 65 = .ok (.imul, 1) := by decide +kernel
theorem dX0_isStopped_66 : decode cX0_isStopped 66 = .ok (.iconst 1, 1) := by decide +kernel
theorem dX0_isStopped_67 : decode cX0_isStopped 67 = .ok (.iadd, 1) := by decide +kernel
theorem dX0_isStopped_68 : decode cX0_isStopped 68 = .ok (.istore 9, 2) := by decide +kernel
theorem dX0_isStopped_70 : decode cX0_isStopped 70 = .ok (.iload 8, 2) := by decide +kernel
theorem dX0_isStopped_72 : decode cX0_isStopped 72 = .ok (.iload 7, 2) := by decide +kernel
theorem dX0_isStopped_74 : decode cX0_isStopped 74 = .ok (.if_icmp .ge 7, 3) := by decide +kernel
theorem dX0_isStopped_77 : decode cX0_isStopped 77 = .ok (.iconst 1, 1) := by decide +kernel
theorem dX0_isStopped_78 : decode cX0_isStopped 78 = .ok (.goto 4, 3) := by decide +kernel
theorem dX0_isStopped_81 : decode cX0_isStopped 81 = .ok (.iconst 0, 1) := by decide +kernel
theorem dX0_isStopped_82 : decode cX0_isStopped 82 = .ok (.iload 9, 2) := by decide +kernel
theorem dX0_isStopped_84 : decode cX0_isStopped 84 = .ok (.iload 7, 2) := by decide +kernel
theorem dX0_isStopped_86 : decode cX0_isStopped 86 = .ok (.if_icmp .ge 7, 3) := by decide +kernel
theorem dX0_isStopped_89 : decode cX0_isStopped 89 = .ok (.iconst 1, 1) := by decide +kernel
theorem dX0_isStopped_90 : decode cX0_isStopped 90 = .ok (.goto 4, 3) := by decide +kernel
theorem dX0_isStopped_93 : decode cX0_isStopped 93 = .ok (.iconst 0, 1) := by decide +kernel
theorem dX0_isStopped_94 : decode cX0_isStopped 94 = .ok (.if_icmp .ne 5, 3) := by decide +kernel
theorem dX0_isStopped_97 : decode cX0_isStopped 97 = .ok (.iconst 0, 1) := by decide +kernel
theorem dX0_isStopped_98 : decode cX0_isStopped 98 = .ok (.ireturn, 1) := by decide +kernel
theorem dX0_isStopped_99 : decode cX0_isStopped 99 = .ok (.iconst 2, 1) := by decide +kernel
theorem dX0_isStopped_100 : decode cX0_isStopped 100 = .ok (.iload 6, 2) := by decide +kernel
theorem dX0_isStopped_102 : decode cX0_isStopped 102 = .ok (.ifCond .eq 7, 3) := by decide +kernel
theorem dX0_isStopped_105 : decode cX0_isStopped 105 = .ok (.iload_n 3, 1) := by decide +kernel
theorem dX0_isStopped_106 : decode cX0_isStopped 106 = .ok (.goto 4, 3) := by decide +kernel
theorem dX0_isStopped_109 : decode cX0_isStopped 109 = .ok (.iload_n 2, 1) := by decide +kernel
theorem dX0_isStopped_110 : decode cX0_isStopped 110 = .ok (.imul, 1) := by decide +kernel
theorem dX0_isStopped_111 : decode cX0_isStopped 111 = .ok (.iconst 1, 1) := by decide +kernel
theorem dX0_isStopped_112 : decode cX0_isStopped 112 = .ok (.iadd, 1) := by decide +kernel
theorem dX0_isStopped_113 : decode cX0_isStopped 113 = .ok (.istore 10, 2) := by decide +kernel
theorem dX0_isStopped_115 : decode cX0_isStopped 115 = .ok (.iconst 2, 1) := by decide +kernel
theorem dX0_isStopped_116 : decode cX0_isStopped 116 = .ok (.iload 6, 2) := by decide +kernel
theorem dX0_isStopped_118 : decode cX0_isStopped 118 = .ok (.ifCond .eq 8, 3) := by decide +kernel
theorem dX0_isStopped_121 : decode cX0_isStopped 121 = .ok (.iload 5, 2) := by decide +kernel
theorem dX0_isStopped_123 : decode cX0_isStopped 123 = .ok (.goto 5, 3) := by decide +kernel
theorem dX0_isStopped_126 : decode cX0_isStopped 126 = .ok (.iload 4, 2) := by decide +kernel
theorem dX0_isStopped_128 : decode cX0_isStopped 128 = .ok (.imul, 1) := by decide +kernel
theorem dX0_isStopped_129 : decode cX0_isStopped 129 = .ok (.iconst 1, 1) := by decide +kernel
theorem dX0_isStopped_130 : decode cX0_isStopped 130 = .ok (.iadd, 1) := by decide +kernel
theorem dX0_isStopped_131 : decode cX0_isStopped 131 = .ok (.istore 11, 2) := by decide +kernel
theorem dX0_isStopped_133 : decode cX0_isStopped 133 = .ok (.iconst 2, 1) := by decide +kernel
theorem dX0_isStopped_134 : decode cX0_isStopped 134 = .ok (.aload_n 0, 1) := by decide +kernel
theorem dX0_isStopped_135 : decode cX0_isStopped 135 = .ok (.iload_n 1, 1) := by decide +kernel
theorem dX0_isStopped_136 : decode cX0_isStopped 136 = .ok (.iload 6, 2) := by decide +kernel
theorem dX0_isStopped_138 : decode cX0_isStopped 138 = .ok (.ifCond .eq 7, 3) := by decide +kernel
theorem dX0_isStopped_141 : decode cX0_isStopped 141 = .ok (.iconst 1, 1) := by decide +kernel
theorem dX0_isStopped_142 : decode cX0_isStopped 142 = .ok (.goto 4, 3) := by decide +kernel
theorem dX0_isStopped_145 : decode cX0_isStopped 145 = .ok (.iconst 0, 1) := by decide +kernel
theorem dX0_isStopped_146 : decode cX0_isStopped 146 = .ok (.invokevirtual 25, 3) := by decide +kernel
theorem dX0_isStopped_149 : decode cX0_isStopped 149 = .ok (.imul, 1) := by decide +kernel
theorem dX0_isStopped_150 : decode cX0_isStopped 150 = .ok (.istore 12, 2) := by decide +kernel
theorem dX0_isStopped_152 : decode cX0_isStopped 152 = .ok (.iload 12, 2) := by decide +kernel
theorem dX0_isStopped_154 : decode cX0_isStopped 154 = .ok (.iconst 2, 1) := by decide +kernel
theorem dX0_isStopped_155 : decode cX0_isStopped 155 = .ok (.aload_n 0, 1) := by decide +kernel
theorem dX0_isStopped_156 : decode cX0_isStopped 156 = .ok (.iload_n 1, 1) := by decide +kernel
theorem dX0_isStopped_157 : decode cX0_isStopped 157 = .ok (.iconst 2, 1) := by decide +kernel
theorem dX0_isStopped_158 : decode cX0_isStopped 158 = .ok (.invokevirtual 25, 3) := by decide +kernel
theorem dX0_isStopped_161 : decode cX0_isStopped 161 = .ok (.imul, 1) := by decide +kernel
theorem dX0_isStopped_162 : decode cX0_isStopped 162 = .ok (.iadd, 1) := by decide +kernel
theorem dX0_isStopped_163 : decode cX0_isStopped 163 = .ok (.istore 13, 2) := by decide +kernel
theorem dX0_isStopped_165 : decode cX0_isStopped 165 = .ok (.iload 9, 2) := by decide +kernel
theorem dX0_isStopped_167 : decode cX0_isStopped 167 = .ok (.iload 8, 2) := by decide +kernel
theorem dX0_isStopped_169 : decode cX0_isStopped 169 = .ok (.isub, 1) := by decide +kernel
theorem dX0_isStopped_170 : decode cX0_isStopped 170 = .ok (.istore 14, 2) := by decide +kernel
theorem dX0_isStopped_172 : decode cX0_isStopped 172 = .ok (.iload 10, 2) := by decide +kernel
theorem dX0_isStopped_174 : decode cX0_isStopped 174 = .ok (.iload 14, 2) := by decide +kernel
theorem dX0_isStopped_176 : decode cX0_isStopped 176 = .ok (.imul, 1) := by decide +kernel
theorem dX0_isStopped_177 : decode cX0_isStopped 177 = .ok (.iload 11, 2) := by decide +kernel
theorem dX0_isStopped_179 : decode cX0_isStopped 179 = .ok (.iload 10, 2) := by decide +kernel
theorem dX0_isStopped_181 : decode cX0_isStopped 181 = .ok (.isub, 1) := by decide +kernel
theorem dX0_isStopped_182 : decode cX0_isStopped 182 = .ok (.iload 7, 2) := by decide +kernel
theorem dX0_isStopped_184 : decode cX0_isStopped 184 = .ok (.iload 8, 2) := by decide +kernel
theorem dX0_isStopped_186 : decode cX0_isStopped 186 = .ok (.isub, 1) := by decide +kernel
theorem dX0_isStopped_187 : decode cX0_isStopped 187 = .ok (.imul, 1) := by decide +kernel
theorem dX0_isStopped_188 : decode cX0_isStopped 188 = .ok (.iadd, 1) := by decide +kernel
theorem dX0_isStopped_189 : decode cX0_isStopped 189 = .ok (.istore 15, 2) := by decide +kernel
theorem dX0_isStopped_191 : decode cX0_isStopped 191 = .ok (.iload 14, 2) := by decide +kernel
theorem dX0_isStopped_193 : decode cX0_isStopped 193 = .ok (.ifCond .le 31, 3) := by decide +kernel
theorem dX0_isStopped_196 : decode cX0_isStopped 196 = .ok (.iload 12, 2) := by decide +kernel
theorem dX0_isStopped_198 : decode cX0_isStopped 198 = .ok (.iload 14, 2) := by decide +kernel
theorem dX0_isStopped_200 : decode cX0_isStopped 200 = .ok (.imul, 1) := by decide +kernel
theorem dX0_isStopped_201 : decode cX0_isStopped 201 = .ok (.iload 15, 2) := by decide +kernel
theorem dX0_isStopped_203 : decode cX0_isStopped 203 = .ok (.if_icmp .gt 17, 3) := by decide +kernel
theorem dX0_isStopped_206 : decode cX0_isStopped 206 = .ok (.iload 15, 2) := by decide +kernel
theorem dX0_isStopped_208 : decode cX0_isStopped 208 = .ok (.iload 13, 2) := by decide +kernel
theorem dX0_isStopped_210 : decode cX0_isStopped 210 = .ok (.iload 14, 2) := by decide +kernel
theorem dX0_isStopped_212 : decode cX0_isStopped 212 = .ok (.imul, 1) := by decide +kernel
theorem dX0_isStopped_213 : decode cX0_isStopped 213 = .ok (.if_icmp .gt 7, 3) := by decide +kernel
theorem dX0_isStopped_216 : decode cX0_isStopped 216 = .ok (.iconst 1, 1) := by decide +kernel
theorem dX0_isStopped_217 : decode cX0_isStopped 217 = .ok (.goto 32, 3) := by decide +kernel
theorem dX0_isStopped_220 : decode cX0_isStopped 220 = .ok (.iconst 0, 1) := by decide +kernel
theorem dX0_isStopped_221 : decode cX0_isStopped 221 = .ok (.goto 28, 3) := by decide +kernel
theorem dX0_isStopped_224 : decode cX0_isStopped 224 = .ok (.iload 13, 2) := by decide +kernel
theorem dX0_isStopped_226 : decode cX0_isStopped 226 = .ok (.iload 14, 2) := by decide +kernel
theorem dX0_isStopped_228 : decode cX0_isStopped 228 = .ok (.imul, 1) := by decide +kernel
theorem dX0_isStopped_229 : decode cX0_isStopped 229 = .ok (.iload 15, 2) := by decide +kernel
theorem dX0_isStopped_231 : decode cX0_isStopped 231 = .ok (.if_icmp .gt 17, 3) := by decide +kernel
theorem dX0_isStopped_234 : decode cX0_isStopped 234 = .ok (.iload 15, 2) := by decide +kernel
theorem dX0_isStopped_236 : decode cX0_isStopped 236 = .ok (.iload 12, 2) := by decide +kernel
theorem dX0_isStopped_238 : decode cX0_isStopped 238 = .ok (.iload 14, 2) := by decide +kernel
theorem dX0_isStopped_240 : decode cX0_isStopped 240 = .ok (.imul, 1) := by decide +kernel
theorem dX0_isStopped_241 : decode cX0_isStopped 241 = .ok (.if_icmp .gt 7, 3) := by decide +kernel
theorem dX0_isStopped_244 : decode cX0_isStopped 244 = .ok (.iconst 1, 1) := by decide +kernel
theorem dX0_isStopped_245 : decode cX0_isStopped 245 = .ok (.goto 4, 3) := by decide +kernel
theorem dX0_isStopped_248 : decode cX0_isStopped 248 = .ok (.iconst 0, 1) := by decide +kernel
theorem dX0_isStopped_249 : decode cX0_isStopped 249 = .ok (.ireturn, 1) := by decide +kernel
theorem dX0_lampsOnAt_0 : decode cX0_lampsOnAt 0 = .ok (.aload_n 0, 1) := by decide +kernel
theorem dX0_lampsOnAt_1 : decode cX0_lampsOnAt 1 = .ok (.iload_n 1, 1) := by decide +kernel
theorem dX0_lampsOnAt_2 : decode cX0_lampsOnAt 2 = .ok (.iload_n 2, 1) := by decide +kernel
theorem dX0_lampsOnAt_3 : decode cX0_lampsOnAt 3 = .ok (.aload_n 0, 1) := by decide +kernel
theorem dX0_lampsOnAt_4 : decode cX0_lampsOnAt 4 = .ok (.invokevirtual 29, 3) := by decide +kernel
theorem dX0_lampsOnAt_7 : decode cX0_lampsOnAt 7 = .ok (.bipush (-9), 2) := by decide +kernel
theorem dX0_lampsOnAt_9 : decode cX0_lampsOnAt 9 = .ok (.invokestatic 33, 3) := by decide +kernel
theorem dX0_lampsOnAt_12 : decode cX0_lampsOnAt 12 = .ok (.ireturn, 1) := by decide +kernel
theorem dX0_lampsAt_0 : decode cX0_lampsAt 0 = .ok (.iconst 0, 1) := by decide +kernel
theorem dX0_lampsAt_1 : decode cX0_lampsAt 1 = .ok (.istore 5, 2) := by decide +kernel
theorem dX0_lampsAt_3 : decode cX0_lampsAt 3 = .ok (.iconst 0, 1) := by decide +kernel
theorem dX0_lampsAt_4 : decode cX0_lampsAt 4 = .ok (.istore 6, 2) := by decide +kernel
theorem dX0_lampsAt_6 : decode cX0_lampsAt 6 = .ok (.iload 6, 2) := by decide +kernel
theorem dX0_lampsAt_8 : decode cX0_lampsAt 8 = .ok (.aload_n 0, 1) := by decide +kernel
theorem dX0_lampsAt_9 : decode cX0_lampsAt 9 = .ok (.getfield 37, 3) := by decide +kernel
theorem dX0_lampsAt_12 : decode cX0_lampsAt 12 = .ok (.if_icmp .ge 53, 3) := by decide +kernel
theorem dX0_lampsAt_15 : decode cX0_lampsAt 15 = .ok (.iload_n 3, 1) := by decide +kernel
theorem dX0_lampsAt_16 : decode cX0_lampsAt 16 = .ok (.iload 6, 2) := by decide +kernel
theorem dX0_lampsAt_18 : decode cX0_lampsAt 18 = .ok (.ishr, 1) := by decide +kernel
theorem dX0_lampsAt_19 : decode cX0_lampsAt 19 = .ok (.iconst 1, 1) := by decide +kernel
theorem dX0_lampsAt_20 : decode cX0_lampsAt 20 = .ok (.iand, 1) := by decide +kernel
theorem dX0_lampsAt_21 : decode cX0_lampsAt 21 = .ok (.iconst 1, 1) := by decide +kernel
theorem dX0_lampsAt_22 : decode cX0_lampsAt 22 = .ok (.if_icmp .ne 37, 3) := by decide +kernel
theorem dX0_lampsAt_25 : decode cX0_lampsAt 25 = .ok (.aload_n 0, 1) := by decide +kernel
theorem dX0_lampsAt_26 : decode cX0_lampsAt 26 = .ok (.aload_n 0, 1) := by decide +kernel
theorem dX0_lampsAt_27 : decode cX0_lampsAt 27 = .ok (.iload 6, 2) := by decide +kernel
theorem dX0_lampsAt_29 : decode cX0_lampsAt 29 = .ok (.iconst 0, 1) := by decide +kernel
theorem dX0_lampsAt_30 : decode cX0_lampsAt 30 = .ok (.invokevirtual 40, 3) := by decide +kernel
theorem dX0_lampsAt_33 : decode cX0_lampsAt 33 = .ok (.aload_n 0, 1) := by decide +kernel
theorem dX0_lampsAt_34 : decode cX0_lampsAt 34 = .ok (.iload 6, 2) := by decide +kernel
theorem dX0_lampsAt_36 : decode cX0_lampsAt 36 = .ok (.iconst 1, 1) := by decide +kernel
theorem dX0_lampsAt_37 : decode cX0_lampsAt 37 = .ok (.invokevirtual 40, 3) := by decide +kernel
theorem dX0_lampsAt_40 : decode cX0_lampsAt 40 = .ok (.iload_n 1, 1) := by decide +kernel
theorem dX0_lampsAt_41 : decode cX0_lampsAt 41 = .ok (.iload_n 2, 1) := by decide +kernel
theorem dX0_lampsAt_42 : decode cX0_lampsAt 42 = .ok (.iload 4, 2) := by decide +kernel
theorem dX0_lampsAt_44 : decode cX0_lampsAt 44 = .ok (.invokestatic 43, 3) := by decide +kernel
theorem dX0_lampsAt_47 : decode cX0_lampsAt 47 = .ok (.ifCond .eq 12, 3) := by decide +kernel
theorem dX0_lampsAt_50 : decode cX0_lampsAt 50 = .ok (.iload 5, 2) := by decide +kernel
theorem dX0_lampsAt_52 : decode cX0_lampsAt 52 = .ok (.iconst 1, 1) := by decide +kernel
theorem dX0_lampsAt_53 : decode cX0_lampsAt 53 = .ok (.iload 6, 2) := by decide +kernel
theorem dX0_lampsAt_55 : decode cX0_lampsAt 55 = .ok (.ishl, 1) := by decide +kernel
theorem dX0_lampsAt_56 : decode cX0_lampsAt 56 = .ok (.ior, 1) := by decide +kernel
theorem dX0_lampsAt_57 : decode cX0_lampsAt 57 = .ok (.istore 5, 2) := by decide +kernel
theorem dX0_lampsAt_59 : decode cX0_lampsAt 59 = .ok (.iinc 6 1, 3) := by decide +kernel
theorem dX0_lampsAt_62 : decode cX0_lampsAt 62 = .ok (.goto (-56), 3) := by decide +kernel
theorem dX0_lampsAt_65 : decode cX0_lampsAt 65 = .ok (.iload 5, 2) := by decide +kernel
theorem dX0_lampsAt_67 : decode cX0_lampsAt 67 = .ok (.ireturn, 1) := by decide +kernel
theorem dX0_shine_0 : decode cX0_shine 0 = .ok (.iconst 0, 1) := by decide +kernel
theorem dX0_shine_1 : decode cX0_shine 1 = .ok (.istore 4, 2) := by decide +kernel
theorem dX0_shine_3 : decode cX0_shine 3 = .ok (.iconst 0, 1) := by decide +kernel
theorem dX0_shine_4 : decode cX0_shine 4 = .ok (.istore 5, 2) := by decide +kernel
theorem dX0_shine_6 : decode cX0_shine 6 = .ok (.iload 5, 2) := by decide +kernel
theorem dX0_shine_8 : decode cX0_shine 8 = .ok (.aload_n 1, 1) := by decide +kernel
theorem dX0_shine_9 : decode cX0_shine 9 = .ok (.getfield 46, 3) := by decide +kernel
theorem dX0_shine_12 : decode cX0_shine 12 = .ok (.if_icmp .ge 47, 3) := by decide +kernel
theorem dX0_shine_15 : decode cX0_shine 15 = .ok (.iconst 0, 1) := by decide +kernel
theorem dX0_shine_16 : decode cX0_shine 16 = .ok (.istore 6, 2) := by decide +kernel
theorem dX0_shine_18 : decode cX0_shine 18 = .ok (.iload 6, 2) := by decide +kernel
theorem dX0_shine_20 : decode cX0_shine 20 = .ok (.aload_n 1, 1) := by decide +kernel
theorem dX0_shine_21 : decode cX0_shine 21 = .ok (.getfield 49, 3) := by decide +kernel
theorem dX0_shine_24 : decode cX0_shine 24 = .ok (.if_icmp .ge 29, 3) := by decide +kernel
theorem dX0_shine_27 : decode cX0_shine 27 = .ok (.aload_n 0, 1) := by decide +kernel
theorem dX0_shine_28 : decode cX0_shine 28 = .ok (.getfield 9, 3) := by decide +kernel
theorem dX0_shine_31 : decode cX0_shine 31 = .ok (.iload 4, 2) := by decide +kernel
theorem dX0_shine_33 : decode cX0_shine 33 = .ok (.aload_n 1, 1) := by decide +kernel
theorem dX0_shine_34 : decode cX0_shine 34 = .ok (.iload 6, 2) := by decide +kernel
theorem dX0_shine_36 : decode cX0_shine 36 = .ok (.iload 5, 2) := by decide +kernel
theorem dX0_shine_38 : decode cX0_shine 38 = .ok (.iload_n 2, 1) := by decide +kernel
theorem dX0_shine_39 : decode cX0_shine 39 = .ok (.iload_n 3, 1) := by decide +kernel
theorem dX0_shine_40 : decode cX0_shine 40 = .ok (.invokestatic 33, 3) := by decide +kernel
theorem dX0_shine_43 : decode cX0_shine 43 = .ok (.iastore, 1) := by decide +kernel
theorem dX0_shine_44 : decode cX0_shine 44 = .ok (.iinc 4 1, 3) := by decide +kernel
theorem dX0_shine_47 : decode cX0_shine 47 = .ok (.iinc 6 1, 3) := by decide +kernel
theorem dX0_shine_50 : decode cX0_shine 50 = .ok (.goto (-32), 3) := by decide +kernel
theorem dX0_shine_53 : decode cX0_shine 53 = .ok (.iinc 5 1, 3) := by decide +kernel
theorem dX0_shine_56 : decode cX0_shine 56 = .ok (.goto (-50), 3) := by decide +kernel
theorem dX0_shine_59 : decode cX0_shine 59 = .ok (.return_, 1) := by decide +kernel
theorem dX0_spotsLitBy_0 : decode cX0_spotsLitBy 0 = .ok (.aload_n 0, 1) := by decide +kernel
theorem dX0_spotsLitBy_1 : decode cX0_spotsLitBy 1 = .ok (.aload_n 1, 1) := by decide +kernel
theorem dX0_spotsLitBy_2 : decode cX0_spotsLitBy 2 = .ok (.iload_n 2, 1) := by decide +kernel
theorem dX0_spotsLitBy_3 : decode cX0_spotsLitBy 3 = .ok (.iload_n 3, 1) := by decide +kernel
theorem dX0_spotsLitBy_4 : decode cX0_spotsLitBy 4 = .ok (.invokevirtual 52, 3) := by decide +kernel
theorem dX0_spotsLitBy_7 : decode cX0_spotsLitBy 7 = .ok (.iconst 0, 1) := by decide +kernel
theorem dX0_spotsLitBy_8 : decode cX0_spotsLitBy 8 = .ok (.istore 4, 2) := by decide +kernel
theorem dX0_spotsLitBy_10 : decode cX0_spotsLitBy 10 = .ok (.iconst 0, 1) := by decide +kernel
theorem dX0_spotsLitBy_11 : decode cX0_spotsLitBy 11 = .ok (.istore 5, 2) := by decide +kernel
theorem dX0_spotsLitBy_13 : decode cX0_spotsLitBy 13 = .ok (.iload 5, 2) := by decide +kernel
theorem dX0_spotsLitBy_15 : decode cX0_spotsLitBy 15 = .ok (.aload_n 1, 1) := by decide +kernel
theorem dX0_spotsLitBy_16 : decode cX0_spotsLitBy 16 = .ok (.getfield 49, 3) := by decide +kernel
theorem dX0_spotsLitBy_19 : decode cX0_spotsLitBy 19 = .ok (.aload_n 1, 1) := by decide +kernel
theorem dX0_spotsLitBy_20 : decode cX0_spotsLitBy 20 = .ok (.getfield 46, 3) := by decide +kernel
theorem dX0_spotsLitBy_23 : decode cX0_spotsLitBy 23 = .ok (.imul, 1) := by decide +kernel
theorem dX0_spotsLitBy_24 : decode cX0_spotsLitBy 24 = .ok (.if_icmp .ge 22, 3) := by decide +kernel
theorem dX0_spotsLitBy_27 : decode cX0_spotsLitBy 27 = .ok (.aload_n 0, 1) := by decide +kernel
theorem dX0_spotsLitBy_28 : decode cX0_spotsLitBy 28 = .ok (.getfield 9, 3) := by decide +kernel
theorem dX0_spotsLitBy_31 : decode cX0_spotsLitBy 31 = .ok (.iload 5, 2) := by decide +kernel
theorem dX0_spotsLitBy_33 : decode cX0_spotsLitBy 33 = .ok (.iaload, 1) := by decide +kernel
theorem dX0_spotsLitBy_34 : decode cX0_spotsLitBy 34 = .ok (.ifCond .eq 6, 3) := by decide +kernel
theorem dX0_spotsLitBy_37 : decode cX0_spotsLitBy 37 = .ok (.iinc 4 1, 3) := by decide +kernel
theorem dX0_spotsLitBy_40 : decode cX0_spotsLitBy 40 = .ok (.iinc 5 1, 3) := by decide +kernel
theorem dX0_spotsLitBy_43 : decode cX0_spotsLitBy 43 = .ok (.goto (-30), 3) := by decide +kernel
theorem dX0_spotsLitBy_46 : decode cX0_spotsLitBy 46 = .ok (.iload 4, 2) := by decide +kernel
theorem dX0_spotsLitBy_48 : decode cX0_spotsLitBy 48 = .ok (.ireturn, 1) := by decide +kernel
theorem dX0_isEnough_0 : decode cX0_isEnough 0 = .ok (.iconst 0, 1) := by decide +kernel
theorem dX0_isEnough_1 : decode cX0_isEnough 1 = .ok (.istore_n 3, 1) := by decide +kernel
theorem dX0_isEnough_2 : decode cX0_isEnough 2 = .ok (.iload_n 3, 1) := by decide +kernel
theorem dX0_isEnough_3 : decode cX0_isEnough 3 = .ok (.aload_n 1, 1) := by decide +kernel
theorem dX0_isEnough_4 : decode cX0_isEnough 4 = .ok (.getfield 49, 3) := by decide +kernel
theorem dX0_isEnough_7 : decode cX0_isEnough 7 = .ok (.aload_n 1, 1) := by decide +kernel
theorem dX0_isEnough_8 : decode cX0_isEnough 8 = .ok (.getfield 46, 3) := by decide +kernel
theorem dX0_isEnough_11 : decode cX0_isEnough 11 = .ok (.imul, 1) := by decide +kernel
theorem dX0_isEnough_12 : decode cX0_isEnough 12 = .ok (.if_icmp .ge 31, 3) := by decide +kernel
theorem dX0_isEnough_15 : decode cX0_isEnough 15 = .ok (.aload_n 0, 1) := by decide +kernel
theorem dX0_isEnough_16 : decode cX0_isEnough 16 = .ok (.getfield 9, 3) := by decide +kernel
theorem dX0_isEnough_19 : decode cX0_isEnough 19 = .ok (.iload_n 3, 1) := by decide +kernel
theorem dX0_isEnough_20 : decode cX0_isEnough 20 = .ok (.iaload, 1) := by decide +kernel
theorem dX0_isEnough_21 : decode cX0_isEnough 21 = .ok (.ifCond .eq 16, 3) := by decide +kernel
theorem dX0_isEnough_24 : decode cX0_isEnough 24 = .ok (.aload_n 0, 1) := by decide +kernel
theorem dX0_isEnough_25 : decode cX0_isEnough 25 = .ok (.getfield 9, 3) := by decide +kernel
theorem dX0_isEnough_28 : decode cX0_isEnough 28 = .ok (.iload_n 3, 1) := by decide +kernel
theorem dX0_isEnough_29 : decode cX0_isEnough 29 = .ok (.iaload, 1) := by decide +kernel
theorem dX0_isEnough_30 : decode cX0_isEnough 30 = .ok (.iload_n 2, 1) := by decide +kernel
theorem dX0_isEnough_31 : decode cX0_isEnough 31 = .ok (.iand, 1) := by decide +kernel
theorem dX0_isEnough_32 : decode cX0_isEnough 32 = .ok (.ifCond .ne 5, 3) := by decide +kernel
theorem dX0_isEnough_35 : decode cX0_isEnough 35 = .ok (.iconst 0, 1) := by decide +kernel
theorem dX0_isEnough_36 : decode cX0_isEnough 36 = .ok (.ireturn, 1) := by decide +kernel
theorem dX0_isEnough_37 : decode cX0_isEnough 37 = .ok (.iinc 3 1, 3) := by decide +kernel
theorem dX0_isEnough_40 : decode cX0_isEnough 40 = .ok (.goto (-38), 3) := by decide +kernel
theorem dX0_isEnough_43 : decode cX0_isEnough 43 = .ok (.iconst 1, 1) := by decide +kernel
theorem dX0_isEnough_44 : decode cX0_isEnough 44 = .ok (.ireturn, 1) := by decide +kernel
theorem dX0_darkSpotsSeenFrom_0 : decode cX0_darkSpotsSeenFrom 0 = .ok (.iconst 0, 1) := by decide +kernel
theorem dX0_darkSpotsSeenFrom_1 : decode cX0_darkSpotsSeenFrom 1 = .ok (.istore 4, 2) := by decide +kernel
theorem dX0_darkSpotsSeenFrom_3 : decode cX0_darkSpotsSeenFrom 3 = .ok (.iconst 0, 1) := by decide +kernel
theorem dX0_darkSpotsSeenFrom_4 : decode cX0_darkSpotsSeenFrom 4 = .ok (.istore 5, 2) := by decide +kernel
theorem dX0_darkSpotsSeenFrom_6 : decode cX0_darkSpotsSeenFrom 6 = .ok (.iconst 0, 1) := by decide +kernel
theorem dX0_darkSpotsSeenFrom_7 : decode cX0_darkSpotsSeenFrom 7 = .ok (.istore 6, 2) := by decide +kernel
theorem dX0_darkSpotsSeenFrom_9 : decode cX0_darkSpotsSeenFrom 9 = .ok (.iload 6, 2) := by decide +kernel
theorem dX0_darkSpotsSeenFrom_11 : decode cX0_darkSpotsSeenFrom 11 = .ok (.aload_n 1, 1) := by decide +kernel
theorem dX0_darkSpotsSeenFrom_12 : decode cX0_darkSpotsSeenFrom 12 = .ok (.getfield 46, 3) := by decide +kernel
theorem dX0_darkSpotsSeenFrom_15 : decode cX0_darkSpotsSeenFrom 15 = .ok (.if_icmp .ge 58, 3) := by decide +kernel
theorem dX0_darkSpotsSeenFrom_18 : decode cX0_darkSpotsSeenFrom 18 = .ok (.iconst 0, 1) := by decide +kernel
theorem dX0_darkSpotsSeenFrom_19 : decode cX0_darkSpotsSeenFrom 19 = .ok (.istore 7, 2) := by decide +kernel
theorem dX0_darkSpotsSeenFrom_21 : decode cX0_darkSpotsSeenFrom 21 = .ok (.iload 7, 2) := by decide +kernel
theorem dX0_darkSpotsSeenFrom_23 : decode cX0_darkSpotsSeenFrom 23 = .ok (.aload_n 1, 1) := by decide +kernel
theorem dX0_darkSpotsSeenFrom_24 : decode cX0_darkSpotsSeenFrom 24 = .ok (.getfield 49, 3) := by decide +kernel
theorem dX0_darkSpotsSeenFrom_27 : decode cX0_darkSpotsSeenFrom 27 = .ok (.if_icmp .ge 40, 3) := by decide +kernel
theorem dX0_darkSpotsSeenFrom_30 : decode cX0_darkSpotsSeenFrom 30 = .ok (.aload_n 0, 1) := by decide +kernel
theorem dX0_darkSpotsSeenFrom_31 : decode cX0_darkSpotsSeenFrom 31 = .ok (.getfield 9, 3) := by decide +kernel
theorem dX0_darkSpotsSeenFrom_34 : decode cX0_darkSpotsSeenFrom 34 = .ok (.iload 5, 2) := by decide +kernel
theorem dX0_darkSpotsSeenFrom_36 : decode cX0_darkSpotsSeenFrom 36 = .ok (.iaload, 1) := by decide +kernel
theorem dX0_darkSpotsSeenFrom_37 : decode cX0_darkSpotsSeenFrom 37 = .ok (.ifCond .ne 21, 3) := by decide +kernel
theorem dX0_darkSpotsSeenFrom_40 : decode cX0_darkSpotsSeenFrom 40 = .ok (.aload_n 1, 1) := by decide +kernel
theorem dX0_darkSpotsSeenFrom_41 : decode cX0_darkSpotsSeenFrom 41 = .ok (.iload_n 2, 1) := by decide +kernel
theorem dX0_darkSpotsSeenFrom_42 : decode cX0_darkSpotsSeenFrom 42 = .ok (.iload_n 3, 1) := by decide +kernel
theorem dX0_darkSpotsSeenFrom_43 : decode cX0_darkSpotsSeenFrom 43 = .ok (.iload 7, 2) := by decide +kernel
theorem dX0_darkSpotsSeenFrom_45 : decode cX0_darkSpotsSeenFrom 45 = .ok (.iload 6, 2) := by decide +kernel
theorem dX0_darkSpotsSeenFrom_47 : decode cX0_darkSpotsSeenFrom 47 = .ok (.bipush (-9), 2) := by decide +kernel
theorem dX0_darkSpotsSeenFrom_49 : decode cX0_darkSpotsSeenFrom 49 = .ok (.invokestatic 43, 3) := by decide +kernel
theorem dX0_darkSpotsSeenFrom_52 : decode cX0_darkSpotsSeenFrom 52 = .ok (.ifCond .eq 6, 3) := by decide +kernel
theorem dX0_darkSpotsSeenFrom_55 : decode cX0_darkSpotsSeenFrom 55 = .ok (.iinc 4 1, 3) := by decide +kernel
theorem dX0_darkSpotsSeenFrom_58 : decode cX0_darkSpotsSeenFrom 58 = .ok (.iinc 5 1, 3) := by decide +kernel
theorem dX0_darkSpotsSeenFrom_61 : decode cX0_darkSpotsSeenFrom 61 = .ok (.iinc 7 1, 3) := by decide +kernel
theorem dX0_darkSpotsSeenFrom_64 : decode cX0_darkSpotsSeenFrom 64 = .ok (.goto (-43), 3) := by decide +kernel
theorem dX0_darkSpotsSeenFrom_67 : decode cX0_darkSpotsSeenFrom 67 = .ok (.iinc 6 1, 3) := by decide +kernel
theorem dX0_darkSpotsSeenFrom_70 : decode cX0_darkSpotsSeenFrom 70 = .ok (.goto (-61), 3) := by decide +kernel
theorem dX0_darkSpotsSeenFrom_73 : decode cX0_darkSpotsSeenFrom 73 = .ok (.iload 4, 2) := by decide +kernel
theorem dX0_darkSpotsSeenFrom_75 : decode cX0_darkSpotsSeenFrom 75 = .ok (.ireturn, 1) := by decide +kernel
theorem dX1_init_0 : decode cX1_init 0 = .ok (.aload_n 0, 1) := by decide +kernel
theorem dX1_init_1 : decode cX1_init 1 = .ok (.invokespecial 3, 3) := by decide +kernel
theorem dX1_init_4 : decode cX1_init 4 = .ok (.aload_n 0, 1) := by decide +kernel
theorem dX1_init_5 : decode cX1_init 5 = .ok (.bipush 10, 2) := by decide +kernel
theorem dX1_init_7 : decode cX1_init 7 = .ok (.anewarray 9, 3) := by decide +kernel
theorem dX1_init_10 : decode cX1_init 10 = .ok (.putfield 11, 3) := by decide +kernel
theorem dX1_init_13 : decode cX1_init 13 = .ok (.iconst 0, 1) := by decide +kernel
theorem dX1_init_14 : decode cX1_init 14 = .ok (.istore_n 1, 1) := by decide +kernel
theorem dX1_init_15 : decode cX1_init 15 = .ok (.iload_n 1, 1) := by decide +kernel
theorem dX1_init_16 : decode cX1_init 16 = .ok (.bipush 10, 2) := by decide +kernel
theorem dX1_init_18 : decode cX1_init 18 = .ok (.if_icmp .ge 22, 3) := by decide +kernel
theorem dX1_init_21 : decode cX1_init 21 = .ok (.aload_n 0, 1) := by decide +kernel
theorem dX1_init_22 : decode cX1_init 22 = .ok (.getfield 11, 3) := by decide +kernel
theorem dX1_init_25 : decode cX1_init 25 = .ok (.iload_n 1, 1) := by decide +kernel
theorem dX1_init_26 : decode cX1_init 26 = .ok (.new 9, 3) := by decide +kernel
theorem dX1_init_29 : decode cX1_init 29 = .ok (.dup, 1) := by decide +kernel
theorem dX1_init_30 : decode cX1_init 30 = .ok (.invokespecial 17, 3) := by decide +kernel
theorem dX1_init_33 : decode cX1_init 33 = .ok (.aastore, 1) := by decide +kernel
theorem dX1_init_34 : decode cX1_init 34 = .ok (.iinc 1 1, 3) := by decide +kernel
theorem dX1_init_37 : decode cX1_init 37 = .ok (.goto (-22), 3) := by decide +kernel
theorem dX1_init_40 : decode cX1_init 40 = .ok (.return_, 1) := by decide +kernel
theorem dX1_remember_0 : decode cX1_remember 0 = .ok (.aload_n 0, 1) := by decide +kernel
theorem dX1_remember_1 : decode cX1_remember 1 = .ok (.getfield 11, 3) := by decide +kernel
theorem dX1_remember_4 : decode cX1_remember 4 = .ok (.aload_n 0, 1) := by decide +kernel
theorem dX1_remember_5 : decode cX1_remember 5 = .ok (.getfield 18, 3) := by decide +kernel
theorem dX1_remember_8 : decode cX1_remember 8 = .ok (.aaload, 1) := by decide +kernel
theorem dX1_remember_9 : decode cX1_remember 9 = .ok (.aload_n 1, 1) := by decide +kernel
theorem dX1_remember_10 : decode cX1_remember 10 = .ok (.invokevirtual 22, 3) := by decide +kernel
theorem dX1_remember_13 : decode cX1_remember 13 = .ok (.aload_n 0, 1) := by decide +kernel
theorem dX1_remember_14 : decode cX1_remember 14 = .ok (.aload_n 0, 1) := by decide +kernel
theorem dX1_remember_15 : decode cX1_remember 15 = .ok (.getfield 18, 3) := by decide +kernel
theorem dX1_remember_18 : decode cX1_remember 18 = .ok (.iconst 1, 1) := by decide +kernel
theorem dX1_remember_19 : decode cX1_remember 19 = .ok (.iadd, 1) := by decide +kernel
theorem dX1_remember_20 : decode cX1_remember 20 = .ok (.bipush 10, 2) := by decide +kernel
theorem dX1_remember_22 : decode cX1_remember 22 = .ok (.if_icmp .ge 12, 3) := by decide +kernel
theorem dX1_remember_25 : decode cX1_remember 25 = .ok (.aload_n 0, 1) := by decide +kernel
theorem dX1_remember_26 : decode cX1_remember 26 = .ok (.getfield 18, 3) := by decide +kernel
theorem dX1_remember_29 : decode cX1_remember 29 = .ok (.iconst 1, 1) := by decide +kernel
theorem dX1_remember_30 : decode cX1_remember 30 = .ok (.iadd, 1) := by decide +kernel
theorem dX1_remember_31 : decode cX1_remember 31 = .ok (.goto 4, 3) := by decide +kernel
theorem dX1_remember_34 : decode cX1_remember 34 = .ok (.iconst 0, 1) := by decide +kernel
theorem dX1_remember_35 : decode cX1_remember 35 = .ok (.putfield 18, 3) := by decide +kernel
theorem dX1_remember_38 : decode cX1_remember 38 = .ok (.aload_n 0, 1) := by decide +kernel
theorem dX1_remember_39 : decode cX1_remember 39 = .ok (.aload_n 0, 1) := by decide +kernel
theorem dX1_remember_40 : decode cX1_remember 40 = .ok (.getfield 26, 3) := by decide +kernel
theorem dX1_remember_43 : decode cX1_remember 43 = .ok (.iconst 1, 1) := by decide +kernel
theorem dX1_remember_44 : decode cX1_remember 44 = .ok (.iadd, 1) := by decide +kernel
theorem dX1_remember_45 : decode cX1_remember 45 = .ok (.bipush 10, 2) := by decide +kernel
theorem dX1_remember_47 : decode cX1_remember 47 = .ok (.invokestatic 29, 3) := by decide +kernel
theorem dX1_remember_50 : decode cX1_remember 50 = .ok (.putfield 26, 3) := by decide +kernel
theorem dX1_remember_53 : decode cX1_remember 53 = .ok (.return_, 1) := by decide +kernel
theorem dX1_restore_0 : decode cX1_restore 0 = .ok (.aload_n 0, 1) := by decide +kernel
theorem dX1_restore_1 : decode cX1_restore 1 = .ok (.aload_n 0, 1) := by decide +kernel
theorem dX1_restore_2 : decode cX1_restore 2 = .ok (.getfield 18, 3) := by decide +kernel
theorem dX1_restore_5 : decode cX1_restore 5 = .ok (.ifCond .le 12, 3) := by decide +kernel
theorem dX1_restore_8 : decode cX1_restore 8 = .ok (.aload_n 0, 1) := by decide +kernel
theorem dX1_restore_9 : decode cX1_restore 9 = .ok (.getfield 18, 3) := by decide +kernel
theorem dX1_restore_12 : decode cX1_restore 12 = .ok (.iconst 1, 1) := by decide +kernel
theorem dX1_restore_13 : decode cX1_restore 13 = .ok (.isub, 1) := by decide +kernel
theorem dX1_restore_14 : decode cX1_restore 14 = .ok (.goto 5, 3) := by decide +kernel
theorem dX1_restore_17 : decode cX1_restore 17 = .ok (.bipush 9, 2) := by decide +kernel
theorem dX1_restore_19 : decode cX1_restore 19 = .ok (.putfield 18, 3) := by decide +kernel
theorem dX1_restore_22 : decode cX1_restore 22 = .ok (.aload_n 1, 1) := by decide +kernel
theorem dX1_restore_23 : decode cX1_restore 23 = .ok (.aload_n 0, 1) := by decide +kernel
theorem dX1_restore_24 : decode cX1_restore 24 = .ok (.getfield 11, 3) := by decide +kernel
theorem dX1_restore_27 : decode cX1_restore 27 = .ok (.aload_n 0, 1) := by decide +kernel
theorem dX1_restore_28 : decode cX1_restore 28 = .ok (.getfield 18, 3) := by decide +kernel
theorem dX1_restore_31 : decode cX1_restore 31 = .ok (.aaload, 1) := by decide +kernel
theorem dX1_restore_32 : decode cX1_restore 32 = .ok (.invokevirtual 22, 3) := by decide +kernel
theorem dX1_restore_35 : decode cX1_restore 35 = .ok (.aload_n 0, 1) := by decide +kernel
theorem dX1_restore_36 : decode cX1_restore 36 = .ok (.dup, 1) := by decide +kernel
theorem dX1_restore_37 : decode cX1_restore 37 = .ok (.getfield 26, 3) := by decide +kernel
theorem dX1_restore_40 : decode cX1_restore 40 = .ok (.iconst 1, 1) := by decide +kernel
theorem dX1_restore_41 : decode cX1_restore 41 = .ok (.isub, 1) := by decide +kernel
theorem dX1_restore_42 : decode cX1_restore 42 = .ok (.putfield 26, 3) := by decide +kernel
theorem dX1_restore_45 : decode cX1_restore 45 = .ok (.return_, 1) := by decide +kernel
theorem dX2_init_0 : decode cX2_init 0 = .ok (.aload_n 0, 1) := by decide +kernel
theorem dX2_init_1 : decode cX2_init 1 = .ok (.invokespecial 3, 3) := by decide +kernel
theorem dX2_init_4 : decode cX2_init 4 = .ok (.aload_n 0, 1) := by decide +kernel
theorem dX2_init_5 : decode cX2_init 5 = .ok (.bipush 56, 2) := by decide +kernel
theorem dX2_init_7 : decode cX2_init 7 = .ok (.newarray .int, 2) := by decide +kernel
theorem dX2_init_9 : decode cX2_init 9 = .ok (.putfield 9, 3) := by decide +kernel
theorem dX2_init_12 : decode cX2_init 12 = .ok (.aload_n 0, 1) := by decide +kernel
theorem dX2_init_13 : decode cX2_init 13 = .ok (.bipush 24, 2) := by decide +kernel
theorem dX2_init_15 : decode cX2_init 15 = .ok (.newarray .int, 2) := by decide +kernel
theorem dX2_init_17 : decode cX2_init 17 = .ok (.putfield 15, 3) := by decide +kernel
theorem dX2_init_20 : decode cX2_init 20 = .ok (.return_, 1) := by decide +kernel
theorem dX2_begin_0 : decode cX2_begin 0 = .ok (.aload_n 0, 1) := by decide +kernel
theorem dX2_begin_1 : decode cX2_begin 1 = .ok (.iload_n 1, 1) := by decide +kernel
theorem dX2_begin_2 : decode cX2_begin 2 = .ok (.putfield 18, 3) := by decide +kernel
theorem dX2_begin_5 : decode cX2_begin 5 = .ok (.aload_n 0, 1) := by decide +kernel
theorem dX2_begin_6 : decode cX2_begin 6 = .ok (.iload_n 2, 1) := by decide +kernel
theorem dX2_begin_7 : decode cX2_begin 7 = .ok (.putfield 22, 3) := by decide +kernel
theorem dX2_begin_10 : decode cX2_begin 10 = .ok (.aload_n 0, 1) := by decide +kernel
theorem dX2_begin_11 : decode cX2_begin 11 = .ok (.iconst 0, 1) := by decide +kernel
theorem dX2_begin_12 : decode cX2_begin 12 = .ok (.putfield 25, 3) := by decide +kernel
theorem dX2_begin_15 : decode cX2_begin 15 = .ok (.aload_n 0, 1) := by decide +kernel
theorem dX2_begin_16 : decode cX2_begin 16 = .ok (.iconst 0, 1) := by decide +kernel
theorem dX2_begin_17 : decode cX2_begin 17 = .ok (.putfield 28, 3) := by decide +kernel
theorem dX2_begin_20 : decode cX2_begin 20 = .ok (.aload_n 0, 1) := by decide +kernel
theorem dX2_begin_21 : decode cX2_begin 21 = .ok (.iconst 0, 1) := by decide +kernel
theorem dX2_begin_22 : decode cX2_begin 22 = .ok (.iconst 0, 1) := by decide +kernel
theorem dX2_begin_23 : decode cX2_begin 23 = .ok (.aload_n 0, 1) := by decide +kernel
theorem dX2_begin_24 : decode cX2_begin 24 = .ok (.getfield 18, 3) := by decide +kernel
theorem dX2_begin_27 : decode cX2_begin 27 = .ok (.iconst 0, 1) := by decide +kernel
theorem dX2_begin_28 : decode cX2_begin 28 = .ok (.invokevirtual 31, 3) := by decide +kernel
theorem dX2_begin_31 : decode cX2_begin 31 = .ok (.aload_n 0, 1) := by decide +kernel
theorem dX2_begin_32 : decode cX2_begin 32 = .ok (.aload_n 0, 1) := by decide +kernel
theorem dX2_begin_33 : decode cX2_begin 33 = .ok (.getfield 18, 3) := by decide +kernel
theorem dX2_begin_36 : decode cX2_begin 36 = .ok (.iconst 0, 1) := by decide +kernel
theorem dX2_begin_37 : decode cX2_begin 37 = .ok (.aload_n 0, 1) := by decide +kernel
theorem dX2_begin_38 : decode cX2_begin 38 = .ok (.getfield 22, 3) := by decide +kernel
theorem dX2_begin_41 : decode cX2_begin 41 = .ok (.iconst 1, 1) := by decide +kernel
theorem dX2_begin_42 : decode cX2_begin 42 = .ok (.invokevirtual 31, 3) := by decide +kernel
theorem dX2_begin_45 : decode cX2_begin 45 = .ok (.aload_n 0, 1) := by decide +kernel
theorem dX2_begin_46 : decode cX2_begin 46 = .ok (.iconst 0, 1) := by decide +kernel
theorem dX2_begin_47 : decode cX2_begin 47 = .ok (.aload_n 0, 1) := by decide +kernel
theorem dX2_begin_48 : decode cX2_begin 48 = .ok (.getfield 22, 3) := by decide +kernel
theorem dX2_begin_51 : decode cX2_begin 51 = .ok (.aload_n 0, 1) := by decide +kernel
theorem dX2_begin_52 : decode cX2_begin 52 = .ok (.getfield 18, 3) := by decide +kernel
theorem dX2_begin_55 : decode cX2_begin 55 = .ok (.iconst 0, 1) := by decide +kernel
theorem dX2_begin_56 : decode cX2_begin 56 = .ok (.invokevirtual 31, 3) := by decide +kernel
theorem dX2_begin_59 : decode cX2_begin 59 = .ok (.aload_n 0, 1) := by decide +kernel
theorem dX2_begin_60 : decode cX2_begin 60 = .ok (.iconst 0, 1) := by decide +kernel
theorem dX2_begin_61 : decode cX2_begin 61 = .ok (.iconst 0, 1) := by decide +kernel
theorem dX2_begin_62 : decode cX2_begin 62 = .ok (.aload_n 0, 1) := by decide +kernel
theorem dX2_begin_63 : decode cX2_begin 63 = .ok (.getfield 22, 3) := by decide +kernel
theorem dX2_begin_66 : decode cX2_begin 66 = .ok (.iconst 1, 1) := by decide +kernel
theorem dX2_begin_67 : decode cX2_begin 67 = .ok (.invokevirtual 31, 3) := by decide +kernel
theorem dX2_begin_70 : decode cX2_begin 70 = .ok (.return_, 1) := by decide +kernel
theorem dX2_copyFrom_0 : decode cX2_copyFrom 0 = .ok (.aload_n 0, 1) := by decide +kernel
theorem dX2_copyFrom_1 : decode cX2_copyFrom 1 = .ok (.aload_n 1, 1) := by decide +kernel
theorem dX2_copyFrom_2 : decode cX2_copyFrom 2 = .ok (.getfield 18, 3) := by decide +kernel
theorem dX2_copyFrom_5 : decode cX2_copyFrom 5 = .ok (.putfield 18, 3) := by decide +kernel
theorem dX2_copyFrom_8 : decode cX2_copyFrom 8 = .ok (.aload_n 0, 1) := by decide +kernel
theorem dX2_copyFrom_9 : decode cX2_copyFrom 9 = .ok (.aload_n 1, 1) := by decide +kernel
theorem dX2_copyFrom_10 : decode cX2_copyFrom 10 = .ok (.getfield 22, 3) := by decide +kernel
theorem dX2_copyFrom_13 : decode cX2_copyFrom 13 = .ok (.putfield 22, 3) := by decide +kernel
theorem dX2_copyFrom_16 : decode cX2_copyFrom 16 = .ok (.aload_n 0, 1) := by decide +kernel
theorem dX2_copyFrom_17 : decode cX2_copyFrom 17 = .ok (.aload_n 1, 1) := by decide +kernel
theorem dX2_copyFrom_18 : decode cX2_copyFrom 18 = .ok (.getfield 25, 3) := by decide +kernel
theorem dX2_copyFrom_21 : decode cX2_copyFrom 21 = .ok (.putfield 25, 3) := by decide +kernel
theorem dX2_copyFrom_24 : decode cX2_copyFrom 24 = .ok (.aload_n 0, 1) := by decide +kernel
theorem dX2_copyFrom_25 : decode cX2_copyFrom 25 = .ok (.aload_n 1, 1) := by decide +kernel
theorem dX2_copyFrom_26 : decode cX2_copyFrom 26 = .ok (.getfield 28, 3) := by decide +kernel
theorem dX2_copyFrom_29 : decode cX2_copyFrom 29 = .ok (.putfield 28, 3) := by decide +kernel
theorem dX2_copyFrom_32 : decode cX2_copyFrom 32 = .ok (.aload_n 1, 1) := by decide +kernel
theorem dX2_copyFrom_33 : decode cX2_copyFrom 33 = .ok (.getfield 9, 3) := by decide +kernel
theorem dX2_copyFrom_36 : decode cX2_copyFrom 36 = .ok (.iconst 0, 1) := by decide +kernel
theorem dX2_copyFrom_37 : decode cX2_copyFrom 37 = .ok (.aload_n 0, 1) := by decide +kernel
theorem dX2_copyFrom_38 : decode cX2_copyFrom 38 = .ok (.getfield 9, 3) := by decide +kernel
theorem dX2_copyFrom_41 : decode cX2_copyFrom 41 = .ok (.iconst 0, 1) := by decide +kernel
theorem dX2_copyFrom_42 : decode cX2_copyFrom 42 = .ok (.aload_n 0, 1) := by decide +kernel
theorem dX2_copyFrom_43 : decode cX2_copyFrom 43 = .ok (.getfield 9, 3) := by decide +kernel
theorem dX2_copyFrom_46 : decode cX2_copyFrom 46 = .ok (.arraylength, 1) := by decide +kernel
theorem dX2_copyFrom_47 : decode cX2_copyFrom 47 = .ok (.invokestatic 35, 3) := by decide +kernel
theorem dX2_copyFrom_50 : decode cX2_copyFrom 50 = .ok (.aload_n 1, 1) := by decide +kernel
theorem dX2_copyFrom_51 : decode cX2_copyFrom 51 = .ok (.getfield 15, 3) := by decide +kernel
theorem dX2_copyFrom_54 : decode cX2_copyFrom 54 = .ok (.iconst 0, 1) := by decide +kernel
theorem dX2_copyFrom_55 : decode cX2_copyFrom 55 = .ok (.aload_n 0, 1) := by decide +kernel
theorem dX2_copyFrom_56 : decode cX2_copyFrom 56 = .ok (.getfield 15, 3) := by decide +kernel
theorem dX2_copyFrom_59 : decode cX2_copyFrom 59 = .ok (.iconst 0, 1) := by decide +kernel
theorem dX2_copyFrom_60 : decode cX2_copyFrom 60 = .ok (.aload_n 0, 1) := by decide +kernel
theorem dX2_copyFrom_61 : decode cX2_copyFrom 61 = .ok (.getfield 15, 3) := by decide +kernel
theorem dX2_copyFrom_64 : decode cX2_copyFrom 64 = .ok (.arraylength, 1) := by decide +kernel
theorem dX2_copyFrom_65 : decode cX2_copyFrom 65 = .ok (.invokestatic 35, 3) := by decide +kernel
theorem dX2_copyFrom_68 : decode cX2_copyFrom 68 = .ok (.return_, 1) := by decide +kernel
theorem dX2_hasWall_0 : decode cX2_hasWall 0 = .ok (.iload_n 1, 1) := by decide +kernel
theorem dX2_hasWall_1 : decode cX2_hasWall 1 = .ok (.ifCond .lt 15, 3) := by decide +kernel
theorem dX2_hasWall_4 : decode cX2_hasWall 4 = .ok (.iload_n 1, 1) := by decide +kernel
theorem dX2_hasWall_5 : decode cX2_hasWall 5 = .ok (.aload_n 0, 1) := by decide +kernel
theorem dX2_hasWall_6 : decode cX2_hasWall 6 = .ok (.getfield 25, 3) := by decide +kernel
theorem dX2_hasWall_9 : decode cX2_hasWall 9 = .ok (.if_icmp .ge 7, 3) := by decide +kernel
theorem dX2_hasWall_12 : decode cX2_hasWall 12 = .ok (.iconst 1, 1) := by decide +kernel
theorem dX2_hasWall_13 : decode cX2_hasWall 13 = .ok (.goto 4, 3) := by decide +kernel
theorem dX2_hasWall_16 : decode cX2_hasWall 16 = .ok (.iconst 0, 1) := by decide +kernel
theorem dX2_hasWall_17 : decode cX2_hasWall 17 = .ok (.ireturn, 1) := by decide +kernel
theorem dX2_hasInnerWall_0 : decode cX2_hasInnerWall 0 = .ok (.iload_n 1, 1) := by decide +kernel
theorem dX2_hasInnerWall_1 : decode cX2_hasInnerWall 1 = .ok (.iconst 4, 1) := by decide +kernel
theorem dX2_hasInnerWall_2 : decode cX2_hasInnerWall 2 = .ok (.if_icmp .lt 15, 3) := by decide +kernel
theorem dX2_hasInnerWall_5 : decode cX2_hasInnerWall 5 = .ok (.iload_n 1, 1) := by decide +kernel
theorem dX2_hasInnerWall_6 : decode cX2_hasInnerWall 6 = .ok (.aload_n 0, 1) := by decide +kernel
theorem dX2_hasInnerWall_7 : decode cX2_hasInnerWall 7 = .ok (.getfield 25, 3) := by decide +kernel
theorem dX2_hasInnerWall_10 : decode cX2_hasInnerWall 10 = .ok (.if_icmp .ge 7, 3) := by decide +kernel
theorem dX2_hasInnerWall_13 : decode cX2_hasInnerWall 13 = .ok (.iconst 1, 1) := by decide +kernel
theorem dX2_hasInnerWall_14 : decode cX2_hasInnerWall 14 = .ok (.goto 4, 3) := by decide +kernel
theorem dX2_hasInnerWall_17 : decode cX2_hasInnerWall 17 = .ok (.iconst 0, 1) := by decide +kernel
theorem dX2_hasInnerWall_18 : decode cX2_hasInnerWall 18 = .ok (.ireturn, 1) := by decide +kernel
theorem dX2_hasLamp_0 : decode cX2_hasLamp 0 = .ok (.iload_n 1, 1) := by decide +kernel
theorem dX2_hasLamp_1 : decode cX2_hasLamp 1 = .ok (.ifCond .lt 15, 3) := by decide +kernel
theorem dX2_hasLamp_4 : decode cX2_hasLamp 4 = .ok (.iload_n 1, 1) := by decide +kernel
theorem dX2_hasLamp_5 : decode cX2_hasLamp 5 = .ok (.aload_n 0, 1) := by decide +kernel
theorem dX2_hasLamp_6 : decode cX2_hasLamp 6 = .ok (.getfield 28, 3) := by decide +kernel
theorem dX2_hasLamp_9 : decode cX2_hasLamp 9 = .ok (.if_icmp .ge 7, 3) := by decide +kernel
theorem dX2_hasLamp_12 : decode cX2_hasLamp 12 = .ok (.iconst 1, 1) := by decide +kernel
theorem dX2_hasLamp_13 : decode cX2_hasLamp 13 = .ok (.goto 4, 3) := by decide +kernel
theorem dX2_hasLamp_16 : decode cX2_hasLamp 16 = .ok (.iconst 0, 1) := by decide +kernel
theorem dX2_hasLamp_17 : decode cX2_hasLamp 17 = .ok (.ireturn, 1) := by decide +kernel
theorem dX2_hasSpot_0 : decode cX2_hasSpot 0 = .ok (.iload_n 1, 1) := by decide +kernel
theorem dX2_hasSpot_1 : decode cX2_hasSpot 1 = .ok (.ifCond .lt 27, 3) := by decide +kernel
theorem dX2_hasSpot_4 : decode cX2_hasSpot 4 = .ok (.iload_n 1, 1) := by decide +kernel
theorem dX2_hasSpot_5 : decode cX2_hasSpot 5 = .ok (.aload_n 0, 1) := by decide +kernel
theorem dX2_hasSpot_6 : decode cX2_hasSpot 6 = .ok (.getfield 18, 3) := by decide +kernel
theorem dX2_hasSpot_9 : decode cX2_hasSpot 9 = .ok (.if_icmp .ge 19, 3) := by decide +kernel
theorem dX2_hasSpot_12 : decode cX2_hasSpot 12 = .ok (.iload_n 2, 1) := by decide +kernel
theorem dX2_hasSpot_13 : decode cX2_hasSpot 13 = .ok (.ifCond .lt 15, 3) := by decide +kernel
theorem dX2_hasSpot_16 : decode cX2_hasSpot 16 = .ok (.iload_n 2, 1) := by decide +kernel
theorem dX2_hasSpot_17 : decode cX2_hasSpot 17 = .ok (.aload_n 0, 1) := by decide +kernel
theorem dX2_hasSpot_18 : decode cX2_hasSpot 18 = .ok (.getfield 22, 3) := by decide +kernel
theorem dX2_hasSpot_21 : decode cX2_hasSpot 21 = .ok (.if_icmp .ge 7, 3) := by decide +kernel
theorem dX2_hasSpot_24 : decode cX2_hasSpot 24 = .ok (.iconst 1, 1) := by decide +kernel
theorem dX2_hasSpot_25 : decode cX2_hasSpot 25 = .ok (.goto 4, 3) := by decide +kernel
theorem dX2_hasSpot_28 : decode cX2_hasSpot 28 = .ok (.iconst 0, 1) := by decide +kernel
theorem dX2_hasSpot_29 : decode cX2_hasSpot 29 = .ok (.ireturn, 1) := by decide +kernel
theorem dX2_hasLampAt_0 : decode cX2_hasLampAt 0 = .ok (.iconst 0, 1) := by decide +kernel
theorem dX2_hasLampAt_1 : decode cX2_hasLampAt 1 = .ok (.istore_n 3, 1) := by decide +kernel
theorem dX2_hasLampAt_2 : decode cX2_hasLampAt 2 = .ok (.iload_n 3, 1) := by decide +kernel
theorem dX2_hasLampAt_3 : decode cX2_hasLampAt 3 = .ok (.aload_n 0, 1) := by decide +kernel
theorem dX2_hasLampAt_4 : decode cX2_hasLampAt 4 = .ok (.getfield 28, 3) := by decide +kernel
theorem dX2_hasLampAt_7 : decode cX2_hasLampAt 7 = .ok (.if_icmp .ge 31, 3) := by decide +kernel
theorem dX2_hasLampAt_10 : decode cX2_hasLampAt 10 = .ok (.aload_n 0, 1) := by decide +kernel
theorem dX2_hasLampAt_11 : decode cX2_hasLampAt 11 = .ok (.iload_n 3, 1) := by decide +kernel
theorem dX2_hasLampAt_12 : decode cX2_hasLampAt 12 = .ok (.iconst 0, 1) := by decide +kernel
theorem dX2_hasLampAt_13 : decode cX2_hasLampAt 13 = .ok (.invokevirtual 41, 3) := by decide +kernel
theorem dX2_hasLampAt_16 : decode cX2_hasLampAt 16 = .ok (.iload_n 1, 1) := by decide +kernel
theorem dX2_hasLampAt_17 : decode cX2_hasLampAt 17 = .ok (.if_icmp .ne 15, 3) := by decide +kernel
theorem dX2_hasLampAt_20 : decode cX2_hasLampAt 20 = .ok (.aload_n 0, 1) := by decide +kernel
theorem dX2_hasLampAt_21 : decode cX2_hasLampAt 21 = .ok (.iload_n 3, 1) := by decide +kernel
theorem dX2_hasLampAt_22 : decode cX2_hasLampAt 22 = .ok (.iconst 1, 1) := by decide +kernel
theorem dX2_hasLampAt_23 : decode cX2_hasLampAt 23 = .ok (.invokevirtual 41, 3) := by decide +kernel
theorem dX2_hasLampAt_26 : decode cX2_hasLampAt 26 = .ok (.iload_n 2, 1) := by decide +kernel
theorem dX2_hasLampAt_27 : decode cX2_hasLampAt 27 = .ok (.if_icmp .ne 5, 3) := by decide +kernel
theorem dX2_hasLampAt_30 : decode cX2_hasLampAt 30 = .ok (.iconst 1, 1) := by decide +kernel
theorem dX2_hasLampAt_31 : decode cX2_hasLampAt 31 = .ok (.ireturn, 1) := by decide +kernel
theorem dX2_hasLampAt_32 : decode cX2_hasLampAt 32 = .ok (.iinc 3 1, 3) := by decide +kernel
theorem dX2_hasLampAt_35 : decode cX2_hasLampAt 35 = .ok (.goto (-33), 3) := by decide +kernel
theorem dX2_hasLampAt_38 : decode cX2_hasLampAt 38 = .ok (.iconst 0, 1) := by decide +kernel
theorem dX2_hasLampAt_39 : decode cX2_hasLampAt 39 = .ok (.ireturn, 1) := by decide +kernel
theorem dX2_canHoldWall_0 : decode cX2_canHoldWall 0 = .ok (.iload_n 1, 1) := by decide +kernel
theorem dX2_canHoldWall_1 : decode cX2_canHoldWall 1 = .ok (.ifCond .lt 28, 3) := by decide +kernel
theorem dX2_canHoldWall_4 : decode cX2_canHoldWall 4 = .ok (.iload_n 1, 1) := by decide +kernel
theorem dX2_canHoldWall_5 : decode cX2_canHoldWall 5 = .ok (.aload_n 0, 1) := by decide +kernel
theorem dX2_canHoldWall_6 : decode cX2_canHoldWall 6 = .ok (.getfield 18, 3) := by decide +kernel
theorem dX2_canHoldWall_9 : decode cX2_canHoldWall 9 = .ok (.if_icmp .gt 20, 3) := by decide +kernel
theorem dX2_canHoldWall_12 : decode cX2_canHoldWall 12 = .ok (.iload_n 2, 1) := by decide +kernel
theorem dX2_canHoldWall_13 : decode cX2_canHoldWall 13 = .ok (.ifCond .lt 16, 3) := by decide +kernel
theorem dX2_canHoldWall_16 : decode cX2_canHoldWall 16 = .ok (.iload_n 2, 1) := by decide +kernel
theorem dX2_canHoldWall_17 : decode cX2_canHoldWall 17 = .ok (.aload_n 0, 1) := by decide +kernel
theorem dX2_canHoldWall_18 : decode cX2_canHoldWall 18 = .ok (.getfield 22, 3) := by decide +kernel
theorem dX2_canHoldWall_21 : decode cX2_canHoldWall 21 = .ok (.if_icmp .gt 8, 3) := by decide +kernel
theorem dX2_canHoldWall_24 : decode cX2_canHoldWall 24 = .ok (.iload_n 3, 1) := by decide +kernel
theorem dX2_canHoldWall_25 : decode cX2_canHoldWall 25 = .ok (.iconst 1, 1) := by decide +kernel
theorem dX2_canHoldWall_26 : decode cX2_canHoldWall 26 = .ok (.if_icmp .ge 5, 3) := by decide +kernel
theorem dX2_canHoldWall_29 : decode cX2_canHoldWall 29 = .ok (.iconst 0, 1) := by decide +kernel
theorem dX2_canHoldWall_30 : decode cX2_canHoldWall 30 = .ok (.ireturn, 1) := by decide +kernel
theorem dX2_canHoldWall_31 : decode cX2_canHoldWall 31 = .ok (.iload 4, 2) := by decide +kernel
theorem dX2_canHoldWall_33 : decode cX2_canHoldWall 33 = .ok (.iconst 1, 1) := by decide +kernel
theorem dX2_canHoldWall_34 : decode cX2_canHoldWall 34 = .ok (.if_icmp .ne 21, 3) := by decide +kernel
theorem dX2_canHoldWall_37 : decode cX2_canHoldWall 37 = .ok (.iload_n 3, 1) := by decide +kernel
theorem dX2_canHoldWall_38 : decode cX2_canHoldWall 38 = .ok (.aload_n 0, 1) := by decide +kernel
theorem dX2_canHoldWall_39 : decode cX2_canHoldWall 39 = .ok (.getfield 22, 3) := by decide +kernel
theorem dX2_canHoldWall_42 : decode cX2_canHoldWall 42 = .ok (.iload_n 2, 1) := by decide +kernel
theorem dX2_canHoldWall_43 : decode cX2_canHoldWall 43 = .ok (.isub, 1) := by decide +kernel
theorem dX2_canHoldWall_44 : decode cX2_canHoldWall 44 = .ok (.if_icmp .gt 7, 3) := by decide +kernel
theorem dX2_canHoldWall_47 : decode cX2_canHoldWall 47 = .ok (.iconst 1, 1) := by decide +kernel
theorem dX2_canHoldWall_48 : decode cX2_canHoldWall 48 = .ok (.goto 27, 3) := by decide +kernel
theorem dX2_canHoldWall_51 : decode cX2_canHoldWall 51 = .ok (.iconst 0, 1) := by decide +kernel
theorem dX2_canHoldWall_52 : decode cX2_canHoldWall 52 = .ok (.goto 23, 3) := by decide +kernel
theorem dX2_canHoldWall_55 : decode cX2_canHoldWall 55 = .ok (.iload 4, 2) := by decide +kernel
theorem dX2_canHoldWall_57 : decode cX2_canHoldWall 57 = .ok (.ifCond .ne 17, 3) := by decide +kernel
theorem dX2_canHoldWall_60 : decode cX2_canHoldWall 60 = .ok (.iload_n 3, 1) := by decide +kernel
theorem dX2_canHoldWall_61 : decode cX2_canHoldWall 61 = .ok (.aload_n 0, 1) := by decide +kernel
theorem dX2_canHoldWall_62 : decode cX2_canHoldWall 62 = .ok (.getfield 18, 3) := by decide +kernel
theorem dX2_canHoldWall_65 : decode cX2_canHoldWall 65 = .ok (.iload_n 1, 1) := by decide +kernel
theorem dX2_canHoldWall_66 : decode cX2_canHoldWall 66 = .ok (.isub, 1) := by decide +kernel
theorem dX2_canHoldWall_67 : decode cX2_canHoldWall 67 = .ok (.if_icmp .gt 7, 3) := by decide +kernel
theorem dX2_canHoldWall_70 : decode cX2_canHoldWall 70 = .ok (.iconst 1, 1) := by decide +kernel
theorem dX2_canHoldWall_71 : decode cX2_canHoldWall 71 = .ok (.goto 4, 3) := by decide +kernel
theorem dX2_canHoldWall_74 : decode cX2_canHoldWall 74 = .ok (.iconst 0, 1) := by decide +kernel
theorem dX2_canHoldWall_75 : decode cX2_canHoldWall 75 = .ok (.ireturn, 1) := by decide +kernel
theorem dX2_wallPart_0 : decode cX2_wallPart 0 = .ok (.aload_n 0, 1) := by decide +kernel
theorem dX2_wallPart_1 : decode cX2_wallPart 1 = .ok (.getfield 9, 3) := by decide +kernel
theorem dX2_wallPart_4 : decode cX2_wallPart 4 = .ok (.iload_n 1, 1) := by decide +kernel
theorem dX2_wallPart_5 : decode cX2_wallPart 5 = .ok (.iconst 4, 1) := by decide +kernel
theorem dX2_wallPart_6 : decode cX2_wallPart 6 = .ok (.imul, 1) := by decide +kernel
theorem dX2_wallPart_7 : decode cX2_wallPart 7 = .ok (.iload_n 2, 1) := by decide +kernel
theorem dX2_wallPart_8 : decode cX2_wallPart 8 = .ok (.iadd, 1) := by decide +kernel
theorem dX2_wallPart_9 : decode cX2_wallPart 9 = .ok (.iaload, 1) := by decide +kernel
theorem dX2_wallPart_10 : decode cX2_wallPart 10 = .ok (.ireturn, 1) := by decide +kernel
theorem dX2_lampPart_0 : decode cX2_lampPart 0 = .ok (.aload_n 0, 1) := by decide +kernel
theorem dX2_lampPart_1 : decode cX2_lampPart 1 = .ok (.getfield 15, 3) := by decide +kernel
theorem dX2_lampPart_4 : decode cX2_lampPart 4 = .ok (.iload_n 1, 1) := by decide +kernel
theorem dX2_lampPart_5 : decode cX2_lampPart 5 = .ok (.iconst 3, 1) := by decide +kernel
theorem dX2_lampPart_6 : decode cX2_lampPart 6 = .ok (.imul, 1) := by decide +kernel
theorem dX2_lampPart_7 : decode cX2_lampPart 7 = .ok (.iload_n 2, 1) := by decide +kernel
theorem dX2_lampPart_8 : decode cX2_lampPart 8 = .ok (.iadd, 1) := by decide +kernel
theorem dX2_lampPart_9 : decode cX2_lampPart 9 = .ok (.iaload, 1) := by decide +kernel
theorem dX2_lampPart_10 : decode cX2_lampPart 10 = .ok (.ireturn, 1) := by decide +kernel
theorem dX2_lampsOn_0 : decode cX2_lampsOn 0 = .ok (.iconst 0, 1) := by decide +kernel
theorem dX2_lampsOn_1 : decode cX2_lampsOn 1 = .ok (.istore_n 1, 1) := by decide +kernel
theorem dX2_lampsOn_2 : decode cX2_lampsOn 2 = .ok (.iconst 0, 1) := by decide +kernel
theorem dX2_lampsOn_3 : decode cX2_lampsOn 3 = .ok (.istore_n 2, 1) := by decide +kernel
theorem dX2_lampsOn_4 : decode cX2_lampsOn 4 = .ok (.iload_n 2, 1) := by decide +kernel
theorem dX2_lampsOn_5 : decode cX2_lampsOn 5 = .ok (.aload_n 0, 1) := by decide +kernel
theorem dX2_lampsOn_6 : decode cX2_lampsOn 6 = .ok (.getfield 28, 3) := by decide +kernel
theorem dX2_lampsOn_9 : decode cX2_lampsOn 9 = .ok (.if_icmp .ge 20, 3) := by decide +kernel
theorem dX2_lampsOn_12 : decode cX2_lampsOn 12 = .ok (.iload_n 1, 1) := by decide +kernel
theorem dX2_lampsOn_13 : decode cX2_lampsOn 13 = .ok (.aload_n 0, 1) := by decide +kernel
theorem dX2_lampsOn_14 : decode cX2_lampsOn 14 = .ok (.iload_n 2, 1) := by decide +kernel
theorem dX2_lampsOn_15 : decode cX2_lampsOn 15 = .ok (.iconst 2, 1) := by decide +kernel
theorem dX2_lampsOn_16 : decode cX2_lampsOn 16 = .ok (.invokevirtual 41, 3) := by decide +kernel
theorem dX2_lampsOn_19 : decode cX2_lampsOn 19 = .ok (.iload_n 2, 1) := by decide +kernel
theorem dX2_lampsOn_20 : decode cX2_lampsOn 20 = .ok (.ishl, 1) := by decide +kernel
theorem dX2_lampsOn_21 : decode cX2_lampsOn 21 = .ok (.ior, 1) := by decide +kernel
theorem dX2_lampsOn_22 : decode cX2_lampsOn 22 = .ok (.istore_n 1, 1) := by decide +kernel
theorem dX2_lampsOn_23 : decode cX2_lampsOn 23 = .ok (.iinc 2 1, 3) := by decide +kernel
theorem dX2_lampsOn_26 : decode cX2_lampsOn 26 = .ok (.goto (-22), 3) := by decide +kernel
theorem dX2_lampsOn_29 : decode cX2_lampsOn 29 = .ok (.iload_n 1, 1) := by decide +kernel
theorem dX2_lampsOn_30 : decode cX2_lampsOn 30 = .ok (.ireturn, 1) := by decide +kernel
theorem dX2_addWall_0 : decode cX2_addWall 0 = .ok (.aload_n 0, 1) := by decide +kernel
theorem dX2_addWall_1 : decode cX2_addWall 1 = .ok (.getfield 25, 3) := by decide +kernel
theorem dX2_addWall_4 : decode cX2_addWall 4 = .ok (.bipush 14, 2) := by decide +kernel
theorem dX2_addWall_6 : decode cX2_addWall 6 = .ok (.if_icmp .lt 4, 3) := by decide +kernel
theorem dX2_addWall_9 : decode cX2_addWall 9 = .ok (.return_, 1) := by decide +kernel
theorem dX2_addWall_10 : decode cX2_addWall 10 = .ok (.aload_n 0, 1) := by decide +kernel
theorem dX2_addWall_11 : decode cX2_addWall 11 = .ok (.getfield 25, 3) := by decide +kernel
theorem dX2_addWall_14 : decode cX2_addWall 14 = .ok (.iconst 4, 1) := by decide +kernel
theorem dX2_addWall_15 : decode cX2_addWall 15 = .ok (.imul, 1) := by decide +kernel
theorem dX2_addWall_16 : decode cX2_addWall 16 = .ok (.istore 5, 2) := by decide +kernel
theorem dX2_addWall_18 : decode cX2_addWall 18 = .ok (.aload_n 0, 1) := by decide +kernel
theorem dX2_addWall_19 : decode cX2_addWall 19 = .ok (.getfield 9, 3) := by decide +kernel
theorem dX2_addWall_22 : decode cX2_addWall 22 = .ok (.iload 5, 2) := by decide +kernel
theorem dX2_addWall_24 : decode cX2_addWall 24 = .ok (.iconst 0, 1) := by decide +kernel
theorem dX2_addWall_25 : decode cX2_addWall 25 = .ok (.iadd, 1) := by decide +kernel
theorem dX2_addWall_26 : decode cX2_addWall 26 = .ok (.iload_n 1, 1) := by decide +kernel
theorem dX2_addWall_27 : decode cX2_addWall 27 = .ok (.iastore, 1) := by decide +kernel
theorem dX2_addWall_28 : decode cX2_addWall 28 = .ok (.aload_n 0, 1) := by decide +kernel
theorem dX2_addWall_29 : decode cX2_addWall 29 = .ok (.getfield 9, 3) := by decide +kernel
theorem dX2_addWall_32 : decode cX2_addWall 32 = .ok (.iload 5, 2) := by decide +kernel
theorem dX2_addWall_34 : decode cX2_addWall 34 = .ok (.iconst 1, 1) := by decide +kernel
theorem dX2_addWall_35 : decode cX2_addWall 35 = .ok (.iadd, 1) := by decide +kernel
theorem dX2_addWall_36 : decode cX2_addWall 36 = .ok (.iload_n 2, 1) := by decide +kernel
theorem dX2_addWall_37 : decode cX2_addWall 37 = .ok (.iastore, 1) := by decide +kernel
theorem dX2_addWall_38 : decode cX2_addWall 38 = .ok (.aload_n 0, 1) := by decide +kernel
theorem dX2_addWall_39 : decode cX2_addWall 39 = .ok (.getfield 9, 3) := by decide +kernel
theorem dX2_addWall_42 : decode cX2_addWall 42 = .ok (.iload 5, 2) := by decide +kernel
theorem dX2_addWall_44 : decode cX2_addWall 44 = .ok (.iconst 2, 1) := by decide +kernel
theorem dX2_addWall_45 : decode cX2_addWall 45 = .ok (.iadd, 1) := by decide +kernel
theorem dX2_addWall_46 : decode cX2_addWall 46 = .ok (.iload_n 3, 1) := by decide +kernel
theorem dX2_addWall_47 : decode cX2_addWall 47 = .ok (.iastore, 1) := by decide +kernel
theorem dX2_addWall_48 : decode cX2_addWall 48 = .ok (.aload_n 0, 1) := by decide +kernel
theorem dX2_addWall_49 : decode cX2_addWall 49 = .ok (.getfield 9, 3) := by decide +kernel
theorem dX2_addWall_52 : decode cX2_addWall 52 = .ok (.iload 5, 2) := by decide +kernel
theorem dX2_addWall_54 : decode cX2_addWall 54 = .ok (.iconst 3, 1) := by decide +kernel
theorem dX2_addWall_55 : decode cX2_addWall 55 = .ok (.iadd, 1) := by decide +kernel
theorem dX2_addWall_56 : decode cX2_addWall 56 = .ok (.iload 4, 2) := by decide +kernel
theorem dX2_addWall_58 : decode cX2_addWall 58 = .ok (.iastore, 1) := by decide +kernel
theorem dX2_addWall_59 : decode cX2_addWall 59 = .ok (.aload_n 0, 1) := by decide +kernel
theorem dX2_addWall_60 : decode cX2_addWall 60 = .ok (.dup, 1) := by decide +kernel
theorem dX2_addWall_61 : decode cX2_addWall 61 = .ok (.getfield 25, 3) := by decide +kernel
theorem dX2_addWall_64 : decode cX2_addWall 64 = .ok (.iconst 1, 1) := by decide +kernel
theorem dX2_addWall_65 : decode cX2_addWall 65 = .ok (.iadd, 1) := by decide +kernel
theorem dX2_addWall_66 : decode cX2_addWall 66 = .ok (.putfield 25, 3) := by decide +kernel
theorem dX2_addWall_69 : decode cX2_addWall 69 = .ok (.return_, 1) := by decide +kernel
theorem dX2_addLamp_0 : decode cX2_addLamp 0 = .ok (.aload_n 0, 1) := by decide +kernel
theorem dX2_addLamp_1 : decode cX2_addLamp 1 = .ok (.getfield 28, 3) := by decide +kernel
theorem dX2_addLamp_4 : decode cX2_addLamp 4 = .ok (.bipush 8, 2) := by decide +kernel
theorem dX2_addLamp_6 : decode cX2_addLamp 6 = .ok (.if_icmp .lt 4, 3) := by decide +kernel
theorem dX2_addLamp_9 : decode cX2_addLamp 9 = .ok (.return_, 1) := by decide +kernel
theorem dX2_addLamp_10 : decode cX2_addLamp 10 = .ok (.aload_n 0, 1) := by decide +kernel
theorem dX2_addLamp_11 : decode cX2_addLamp 11 = .ok (.getfield 28, 3) := by decide +kernel
theorem dX2_addLamp_14 : decode cX2_addLamp 14 = .ok (.iconst 3, 1) := by decide +kernel
theorem dX2_addLamp_15 : decode cX2_addLamp 15 = .ok (.imul, 1) := by decide +kernel
theorem dX2_addLamp_16 : decode cX2_addLamp 16 = .ok (.istore_n 3, 1) := by decide +kernel
theorem dX2_addLamp_17 : decode cX2_addLamp 17 = .ok (.aload_n 0, 1) := by decide +kernel
theorem dX2_addLamp_18 : decode cX2_addLamp 18 = .ok (.getfield 15, 3) := by decide +kernel
theorem dX2_addLamp_21 : decode cX2_addLamp 21 = .ok (.iload_n 3, 1) := by decide +kernel
theorem dX2_addLamp_22 : decode cX2_addLamp 22 = .ok (.iconst 0, 1) := by decide +kernel
theorem dX2_addLamp_23 : decode cX2_addLamp 23 = .ok (.iadd, 1) := by decide +kernel
theorem dX2_addLamp_24 : decode cX2_addLamp 24 = .ok (.iload_n 1, 1) := by decide +kernel
theorem dX2_addLamp_25 : decode cX2_addLamp 25 = .ok (.iastore, 1) := by decide +kernel
theorem dX2_addLamp_26 : decode cX2_addLamp 26 = .ok (.aload_n 0, 1) := by decide +kernel
theorem dX2_addLamp_27 : decode cX2_addLamp 27 = .ok (.getfield 15, 3) := by decide +kernel
theorem dX2_addLamp_30 : decode cX2_addLamp 30 = .ok (.iload_n 3, 1) := by decide +kernel
theorem dX2_addLamp_31 : decode cX2_addLamp 31 = .ok (.iconst 1, 1) := by decide +kernel
theorem dX2_addLamp_32 : decode cX2_addLamp 32 = .ok (.iadd, 1) := by decide +kernel
theorem dX2_addLamp_33 : decode cX2_addLamp 33 = .ok (.iload_n 2, 1) := by decide +kernel
theorem dX2_addLamp_34 : decode cX2_addLamp 34 = .ok (.iastore, 1) := by decide +kernel
theorem dX2_addLamp_35 : decode cX2_addLamp 35 = .ok (.aload_n 0, 1) := by decide +kernel
theorem dX2_addLamp_36 : decode cX2_addLamp 36 = .ok (.getfield 15, 3) := by decide +kernel
theorem dX2_addLamp_39 : decode cX2_addLamp 39 = .ok (.iload_n 3, 1) := by decide +kernel
theorem dX2_addLamp_40 : decode cX2_addLamp 40 = .ok (.iconst 2, 1) := by decide +kernel
theorem dX2_addLamp_41 : decode cX2_addLamp 41 = .ok (.iadd, 1) := by decide +kernel
theorem dX2_addLamp_42 : decode cX2_addLamp 42 = .ok (.iconst 1, 1) := by decide +kernel
theorem dX2_addLamp_43 : decode cX2_addLamp 43 = .ok (.iastore, 1) := by decide +kernel
theorem dX2_addLamp_44 : decode cX2_addLamp 44 = .ok (.aload_n 0, 1) := by decide +kernel
theorem dX2_addLamp_45 : decode cX2_addLamp 45 = .ok (.dup, 1) := by decide +kernel
theorem dX2_addLamp_46 : decode cX2_addLamp 46 = .ok (.getfield 28, 3) := by decide +kernel
theorem dX2_addLamp_49 : decode cX2_addLamp 49 = .ok (.iconst 1, 1) := by decide +kernel
theorem dX2_addLamp_50 : decode cX2_addLamp 50 = .ok (.iadd, 1) := by decide +kernel
theorem dX2_addLamp_51 : decode cX2_addLamp 51 = .ok (.putfield 28, 3) := by decide +kernel
theorem dX2_addLamp_54 : decode cX2_addLamp 54 = .ok (.return_, 1) := by decide +kernel
theorem dX2_removeWall_0 : decode cX2_removeWall 0 = .ok (.aload_n 0, 1) := by decide +kernel
theorem dX2_removeWall_1 : decode cX2_removeWall 1 = .ok (.getfield 9, 3) := by decide +kernel
theorem dX2_removeWall_4 : decode cX2_removeWall 4 = .ok (.iload_n 1, 1) := by decide +kernel
theorem dX2_removeWall_5 : decode cX2_removeWall 5 = .ok (.iconst 4, 1) := by decide +kernel
theorem dX2_removeWall_6 : decode cX2_removeWall 6 = .ok (.imul, 1) := by decide +kernel
theorem dX2_removeWall_7 : decode cX2_removeWall 7 = .ok (.iconst 4, 1) := by decide +kernel
theorem dX2_removeWall_8 : decode cX2_removeWall 8 = .ok (.aload_n 0, 1) := by decide +kernel
theorem dX2_removeWall_9 : decode cX2_removeWall 9 = .ok (.getfield 25, 3) := by decide +kernel
theorem dX2_removeWall_12 : decode cX2_removeWall 12 = .ok (.iconst 4, 1) := by decide +kernel
theorem dX2_removeWall_13 : decode cX2_removeWall 13 = .ok (.imul, 1) := by decide +kernel
theorem dX2_removeWall_14 : decode cX2_removeWall 14 = .ok (.invokestatic 45, 3) := by decide +kernel
theorem dX2_removeWall_17 : decode cX2_removeWall 17 = .ok (.aload_n 0, 1) := by decide +kernel
theorem dX2_removeWall_18 : decode cX2_removeWall 18 = .ok (.dup, 1) := by decide +kernel
theorem dX2_removeWall_19 : decode cX2_removeWall 19 = .ok (.getfield 25, 3) := by decide +kernel
theorem dX2_removeWall_22 : decode cX2_removeWall 22 = .ok (.iconst 1, 1) := by decide +kernel
theorem dX2_removeWall_23 : decode cX2_removeWall 23 = .ok (.isub, 1) := by decide +kernel
theorem dX2_removeWall_24 : decode cX2_removeWall 24 = .ok (.putfield 25, 3) := by decide +kernel
theorem dX2_removeWall_27 : decode cX2_removeWall 27 = .ok (.return_, 1) := by decide +kernel
theorem dX2_removeLamp_0 : decode cX2_removeLamp 0 = .ok (.aload_n 0, 1) := by decide +kernel
theorem dX2_removeLamp_1 : decode cX2_removeLamp 1 = .ok (.getfield 15, 3) := by decide +kernel
theorem dX2_removeLamp_4 : decode cX2_removeLamp 4 = .ok (.iload_n 1, 1) := by decide +kernel
theorem dX2_removeLamp_5 : decode cX2_removeLamp 5 = .ok (.iconst 3, 1) := by decide +kernel
theorem dX2_removeLamp_6 : decode cX2_removeLamp 6 = .ok (.imul, 1) := by decide +kernel
theorem dX2_removeLamp_7 : decode cX2_removeLamp 7 = .ok (.iconst 3, 1) := by decide +kernel
theorem dX2_removeLamp_8 : decode cX2_removeLamp 8 = .ok (.aload_n 0, 1) := by decide +kernel
theorem dX2_removeLamp_9 : decode cX2_removeLamp 9 = .ok (.getfield 28, 3) := by decide +kernel
theorem dX2_removeLamp_12 : decode cX2_removeLamp 12 = .ok (.iconst 3, 1) := by decide +kernel
theorem dX2_removeLamp_13 : decode cX2_removeLamp 13 = .ok (.imul, 1) := by decide +kernel
theorem dX2_removeLamp_14 : decode cX2_removeLamp 14 = .ok (.invokestatic 45, 3) := by decide +kernel
theorem dX2_removeLamp_17 : decode cX2_removeLamp 17 = .ok (.aload_n 0, 1) := by decide +kernel
theorem dX2_removeLamp_18 : decode cX2_removeLamp 18 = .ok (.dup, 1) := by decide +kernel
theorem dX2_removeLamp_19 : decode cX2_removeLamp 19 = .ok (.getfield 28, 3) := by decide +kernel
theorem dX2_removeLamp_22 : decode cX2_removeLamp 22 = .ok (.iconst 1, 1) := by decide +kernel
theorem dX2_removeLamp_23 : decode cX2_removeLamp 23 = .ok (.isub, 1) := by decide +kernel
theorem dX2_removeLamp_24 : decode cX2_removeLamp 24 = .ok (.putfield 28, 3) := by decide +kernel
theorem dX2_removeLamp_27 : decode cX2_removeLamp 27 = .ok (.return_, 1) := by decide +kernel
theorem dX2_switchLamp_0 : decode cX2_switchLamp 0 = .ok (.iload_n 1, 1) := by decide +kernel
theorem dX2_switchLamp_1 : decode cX2_switchLamp 1 = .ok (.iconst 3, 1) := by decide +kernel
theorem dX2_switchLamp_2 : decode cX2_switchLamp 2 = .ok (.imul, 1) := by decide +kernel
theorem dX2_switchLamp_3 : decode cX2_switchLamp 3 = .ok (.iconst 2, 1) := by decide +kernel
theorem dX2_switchLamp_4 : decode cX2_switchLamp 4 = .ok (.iadd, 1) := by decide +kernel
theorem dX2_switchLamp_5 : decode cX2_switchLamp 5 = .ok (.istore_n 2, 1) := by decide +kernel
theorem dX2_switchLamp_6 : decode cX2_switchLamp 6 = .ok (.aload_n 0, 1) := by decide +kernel
theorem dX2_switchLamp_7 : decode cX2_switchLamp 7 = .ok (.getfield 15, 3) := by decide +kernel
theorem dX2_switchLamp_10 : decode cX2_switchLamp 10 = .ok (.iload_n 2, 1) := by decide +kernel
theorem dX2_switchLamp_11 : decode cX2_switchLamp 11 = .ok (.iconst 1, 1) := by decide +kernel
theorem dX2_switchLamp_12 : decode cX2_switchLamp 12 = .ok (.aload_n 0, 1) := by decide +kernel
theorem dX2_switchLamp_13 : decode cX2_switchLamp 13 = .ok (.getfield 15, 3) := by decide +kernel
theorem dX2_switchLamp_16 : decode cX2_switchLamp 16 = .ok (.iload_n 2, 1) := by decide +kernel
theorem dX2_switchLamp_17 : decode cX2_switchLamp 17 = .ok (.iaload, 1) := by decide +kernel
theorem dX2_switchLamp_18 : decode cX2_switchLamp 18 = .ok (.isub, 1) := by decide +kernel
theorem dX2_switchLamp_19 : decode cX2_switchLamp 19 = .ok (.iastore, 1) := by decide +kernel
theorem dX2_switchLamp_20 : decode cX2_switchLamp 20 = .ok (.aload_n 0, 1) := by decide +kernel
theorem dX2_switchLamp_21 : decode cX2_switchLamp 21 = .ok (.getfield 15, 3) := by decide +kernel
theorem dX2_switchLamp_24 : decode cX2_switchLamp 24 = .ok (.iload_n 2, 1) := by decide +kernel
theorem dX2_switchLamp_25 : decode cX2_switchLamp 25 = .ok (.iaload, 1) := by decide +kernel
theorem dX2_switchLamp_26 : decode cX2_switchLamp 26 = .ok (.ireturn, 1) := by decide +kernel
theorem dX2_closeGap_0 : decode cX2_closeGap 0 = .ok (.iload_n 1, 1) := by decide +kernel
theorem dX2_closeGap_1 : decode cX2_closeGap 1 = .ok (.istore 4, 2) := by decide +kernel
theorem dX2_closeGap_3 : decode cX2_closeGap 3 = .ok (.iload 4, 2) := by decide +kernel
theorem dX2_closeGap_5 : decode cX2_closeGap 5 = .ok (.iload_n 2, 1) := by decide +kernel
theorem dX2_closeGap_6 : decode cX2_closeGap 6 = .ok (.iadd, 1) := by decide +kernel
theorem dX2_closeGap_7 : decode cX2_closeGap 7 = .ok (.iload_n 3, 1) := by decide +kernel
theorem dX2_closeGap_8 : decode cX2_closeGap 8 = .ok (.if_icmp .ge 19, 3) := by decide +kernel
theorem dX2_closeGap_11 : decode cX2_closeGap 11 = .ok (.aload_n 0, 1) := by decide +kernel
theorem dX2_closeGap_12 : decode cX2_closeGap 12 = .ok (.iload 4, 2) := by decide +kernel
theorem dX2_closeGap_14 : decode cX2_closeGap 14 = .ok (.aload_n 0, 1) := by decide +kernel
theorem dX2_closeGap_15 : decode cX2_closeGap 15 = .ok (.iload 4, 2) := by decide +kernel
theorem dX2_closeGap_17 : decode cX2_closeGap 17 = .ok (.iload_n 2, 1) := by decide +kernel
theorem dX2_closeGap_18 : decode cX2_closeGap 18 = .ok (.iadd, 1) := by decide +kernel
theorem dX2_closeGap_19 : decode cX2_closeGap 19 = .ok (.iaload, 1) := by decide +kernel
theorem dX2_closeGap_20 : decode cX2_closeGap 20 = .ok (.iastore, 1) := by decide +kernel
theorem dX2_closeGap_21 : decode cX2_closeGap 21 = .ok (.iinc 4 1, 3) := by decide +kernel
theorem dX2_closeGap_24 : decode cX2_closeGap 24 = .ok (.goto (-21), 3) := by decide +kernel
theorem dX2_closeGap_27 : decode cX2_closeGap 27 = .ok (.return_, 1) := by decide +kernel
theorem dX3_init_0 : decode cX3_init 0 = .ok (.aload_n 0, 1) := by decide +kernel
theorem dX3_init_1 : decode cX3_init 1 = .ok (.invokespecial 3, 3) := by decide +kernel
theorem dX3_init_4 : decode cX3_init 4 = .ok (.aload_n 0, 1) := by decide +kernel
theorem dX3_init_5 : decode cX3_init 5 = .ok (.bipush 100, 2) := by decide +kernel
theorem dX3_init_7 : decode cX3_init 7 = .ok (.newarray .int, 2) := by decide +kernel
theorem dX3_init_9 : decode cX3_init 9 = .ok (.putfield 9, 3) := by decide +kernel
theorem dX3_init_12 : decode cX3_init 12 = .ok (.aload_n 0, 1) := by decide +kernel
theorem dX3_init_13 : decode cX3_init 13 = .ok (.bipush 100, 2) := by decide +kernel
theorem dX3_init_15 : decode cX3_init 15 = .ok (.newarray .int, 2) := by decide +kernel
theorem dX3_init_17 : decode cX3_init 17 = .ok (.putfield 15, 3) := by decide +kernel
theorem dX3_init_20 : decode cX3_init 20 = .ok (.return_, 1) := by decide +kernel
theorem dX3_turnRound_0 : decode cX3_turnRound 0 = .ok (.aload_n 0, 1) := by decide +kernel
theorem dX3_turnRound_1 : decode cX3_turnRound 1 = .ok (.iconst 2, 1) := by decide +kernel
theorem dX3_turnRound_2 : decode cX3_turnRound 2 = .ok (.aload_n 1, 1) := by decide +kernel
theorem dX3_turnRound_3 : decode cX3_turnRound 3 = .ok (.iload_n 2, 1) := by decide +kernel
theorem dX3_turnRound_4 : decode cX3_turnRound 4 = .ok (.iconst 0, 1) := by decide +kernel
theorem dX3_turnRound_5 : decode cX3_turnRound 5 = .ok (.invokevirtual 18, 3) := by decide +kernel
theorem dX3_turnRound_8 : decode cX3_turnRound 8 = .ok (.imul, 1) := by decide +kernel
theorem dX3_turnRound_9 : decode cX3_turnRound 9 = .ok (.iconst 1, 1) := by decide +kernel
theorem dX3_turnRound_10 : decode cX3_turnRound 10 = .ok (.iadd, 1) := by decide +kernel
theorem dX3_turnRound_11 : decode cX3_turnRound 11 = .ok (.putfield 24, 3) := by decide +kernel
theorem dX3_turnRound_14 : decode cX3_turnRound 14 = .ok (.aload_n 0, 1) := by decide +kernel
theorem dX3_turnRound_15 : decode cX3_turnRound 15 = .ok (.iconst 2, 1) := by decide +kernel
theorem dX3_turnRound_16 : decode cX3_turnRound 16 = .ok (.aload_n 1, 1) := by decide +kernel
theorem dX3_turnRound_17 : decode cX3_turnRound 17 = .ok (.iload_n 2, 1) := by decide +kernel
theorem dX3_turnRound_18 : decode cX3_turnRound 18 = .ok (.iconst 1, 1) := by decide +kernel
theorem dX3_turnRound_19 : decode cX3_turnRound 19 = .ok (.invokevirtual 18, 3) := by decide +kernel
theorem dX3_turnRound_22 : decode cX3_turnRound 22 = .ok (.imul, 1) := by decide +kernel
theorem dX3_turnRound_23 : decode cX3_turnRound 23 = .ok (.iconst 1, 1) := by decide +kernel
theorem dX3_turnRound_24 : decode cX3_turnRound 24 = .ok (.iadd, 1) := by decide +kernel
theorem dX3_turnRound_25 : decode cX3_turnRound 25 = .ok (.putfield 28, 3) := by decide +kernel
theorem dX3_turnRound_28 : decode cX3_turnRound 28 = .ok (.aload_n 0, 1) := by decide +kernel
theorem dX3_turnRound_29 : decode cX3_turnRound 29 = .ok (.iconst 0, 1) := by decide +kernel
theorem dX3_turnRound_30 : decode cX3_turnRound 30 = .ok (.putfield 31, 3) := by decide +kernel
theorem dX3_turnRound_33 : decode cX3_turnRound 33 = .ok (.iconst 0, 1) := by decide +kernel
theorem dX3_turnRound_34 : decode cX3_turnRound 34 = .ok (.istore_n 3, 1) := by decide +kernel
theorem dX3_turnRound_35 : decode cX3_turnRound 35 = .ok (.iload_n 3, 1) := by decide +kernel
theorem dX3_turnRound_36 : decode cX3_turnRound 36 = .ok (.aload_n 1, 1) := by decide +kernel
theorem dX3_turnRound_37 : decode cX3_turnRound 37 = .ok (.getfield 34, 3) := by decide +kernel
theorem dX3_turnRound_40 : decode cX3_turnRound 40 = .ok (.if_icmp .gt 58, 3) := by decide +kernel
theorem dX3_turnRound_43 : decode cX3_turnRound 43 = .ok (.iconst 0, 1) := by decide +kernel
theorem dX3_turnRound_44 : decode cX3_turnRound 44 = .ok (.istore 4, 2) := by decide +kernel
theorem dX3_turnRound_46 : decode cX3_turnRound 46 = .ok (.iload 4, 2) := by decide +kernel
theorem dX3_turnRound_48 : decode cX3_turnRound 48 = .ok (.aload_n 1, 1) := by decide +kernel
theorem dX3_turnRound_49 : decode cX3_turnRound 49 = .ok (.getfield 37, 3) := by decide +kernel
theorem dX3_turnRound_52 : decode cX3_turnRound 52 = .ok (.if_icmp .gt 40, 3) := by decide +kernel
theorem dX3_turnRound_55 : decode cX3_turnRound 55 = .ok (.aload_n 1, 1) := by decide +kernel
theorem dX3_turnRound_56 : decode cX3_turnRound 56 = .ok (.iload 4, 2) := by decide +kernel
theorem dX3_turnRound_58 : decode cX3_turnRound 58 = .ok (.iload_n 3, 1) := by decide +kernel
theorem dX3_turnRound_59 : decode cX3_turnRound 59 = .ok (.invokestatic 40, 3) := by decide +kernel
theorem dX3_turnRound_62 : decode cX3_turnRound 62 = .ok (.ifCond .eq 24, 3) := by decide +kernel
theorem dX3_turnRound_65 : decode cX3_turnRound 65 = .ok (.aload_n 0, 1) := by decide +kernel
theorem dX3_turnRound_66 : decode cX3_turnRound 66 = .ok (.iconst 2, 1) := by decide +kernel
theorem dX3_turnRound_67 : decode cX3_turnRound 67 = .ok (.iload 4, 2) := by decide +kernel
theorem dX3_turnRound_69 : decode cX3_turnRound 69 = .ok (.imul, 1) := by decide +kernel
theorem dX3_turnRound_70 : decode cX3_turnRound 70 = .ok (.aload_n 0, 1) := by decide +kernel
theorem dX3_turnRound_71 : decode cX3_turnRound 71 = .ok (.getfield 24, 3) := by decide +kernel
theorem dX3_turnRound_74 : decode cX3_turnRound 74 = .ok (.isub, 1) := by decide +kernel
theorem dX3_turnRound_75 : decode cX3_turnRound 75 = .ok (.iconst 2, 1) := by decide +kernel
theorem dX3_turnRound_76 : decode cX3_turnRound 76 = .ok (.iload_n 3, 1) := by decide +kernel
theorem dX3_turnRound_77 : decode cX3_turnRound 77 = .ok (.imul, 1) := by decide +kernel
theorem dX3_turnRound_78 : decode cX3_turnRound 78 = .ok (.aload_n 0, 1) := by decide +kernel
theorem dX3_turnRound_79 : decode cX3_turnRound 79 = .ok (.getfield 28, 3) := by decide +kernel
theorem dX3_turnRound_82 : decode cX3_turnRound 82 = .ok (.isub, 1) := by decide +kernel
theorem dX3_turnRound_83 : decode cX3_turnRound 83 = .ok (.invokevirtual 44, 3) := by decide +kernel
theorem dX3_turnRound_86 : decode cX3_turnRound 86 = .ok (.iinc 4 1, 3) := by decide +kernel
theorem dX3_turnRound_89 : decode cX3_turnRound 89 = .ok (.goto (-43), 3) := by decide +kernel
theorem dX3_turnRound_92 : decode cX3_turnRound 92 = .ok (.iinc 3 1, 3) := by decide +kernel
theorem dX3_turnRound_95 : decode cX3_turnRound 95 = .ok (.goto (-60), 3) := by decide +kernel
theorem dX3_turnRound_98 : decode cX3_turnRound 98 = .ok (.return_, 1) := by decide +kernel
theorem dX3_isEventPoint_0 : decode cX3_isEventPoint 0 = .ok (.iconst 0, 1) := by decide +kernel
theorem dX3_isEventPoint_1 : decode cX3_isEventPoint 1 = .ok (.istore_n 3, 1) := by decide +kernel
theorem dX3_isEventPoint_2 : decode cX3_isEventPoint 2 = .ok (.iconst 0, 1) := by decide +kernel
theorem dX3_isEventPoint_3 : decode cX3_isEventPoint 3 = .ok (.istore 4, 2) := by decide +kernel
theorem dX3_isEventPoint_5 : decode cX3_isEventPoint 5 = .ok (.iconst 0, 1) := by decide +kernel
theorem dX3_isEventPoint_6 : decode cX3_isEventPoint 6 = .ok (.istore 5, 2) := by decide +kernel
theorem dX3_isEventPoint_8 : decode cX3_isEventPoint 8 = .ok (.iload 5, 2) := by decide +kernel
theorem dX3_isEventPoint_10 : decode cX3_isEventPoint 10 = .ok (.aload_n 0, 1) := by decide +kernel
theorem dX3_isEventPoint_11 : decode cX3_isEventPoint 11 = .ok (.getfield 48, 3) := by decide +kernel
theorem dX3_isEventPoint_14 : decode cX3_isEventPoint 14 = .ok (.if_icmp .ge 148, 3) := by decide +kernel
theorem dX3_isEventPoint_17 : decode cX3_isEventPoint 17 = .ok (.aload_n 0, 1) := by decide +kernel
theorem dX3_isEventPoint_18 : decode cX3_isEventPoint 18 = .ok (.iload 5, 2) := by decide +kernel
theorem dX3_isEventPoint_20 : decode cX3_isEventPoint 20 = .ok (.iconst 3, 1) := by decide +kernel
theorem dX3_isEventPoint_21 : decode cX3_isEventPoint 21 = .ok (.invokevirtual 51, 3) := by decide +kernel
theorem dX3_isEventPoint_24 : decode cX3_isEventPoint 24 = .ok (.iconst 1, 1) := by decide +kernel
theorem dX3_isEventPoint_25 : decode cX3_isEventPoint 25 = .ok (.if_icmp .ne 7, 3) := by decide +kernel
theorem dX3_isEventPoint_28 : decode cX3_isEventPoint 28 = .ok (.iconst 1, 1) := by decide +kernel
theorem dX3_isEventPoint_29 : decode cX3_isEventPoint 29 = .ok (.goto 4, 3) := by decide +kernel
theorem dX3_isEventPoint_32 : decode cX3_isEventPoint 32 = .ok (.iconst 0, 1) := by decide +kernel
theorem dX3_isEventPoint_33 : decode cX3_isEventPoint 33 = .ok (.istore 6, 2) := by decide +kernel
theorem dX3_isEventPoint_35 : decode cX3_isEventPoint 35 = .ok (.iload_n 1, 1) := by decide +kernel
theorem dX3_isEventPoint_36 : decode cX3_isEventPoint 36 = .ok (.aload_n 0, 1) := by decide +kernel
theorem dX3_isEventPoint_37 : decode cX3_isEventPoint 37 = .ok (.iload 5, 2) := by decide +kernel
theorem dX3_isEventPoint_39 : decode cX3_isEventPoint 39 = .ok (.iconst 0, 1) := by decide +kernel
theorem dX3_isEventPoint_40 : decode cX3_isEventPoint 40 = .ok (.invokevirtual 51, 3) := by decide +kernel
theorem dX3_isEventPoint_43 : decode cX3_isEventPoint 43 = .ok (.isub, 1) := by decide +kernel
theorem dX3_isEventPoint_44 : decode cX3_isEventPoint 44 = .ok (.istore 7, 2) := by decide +kernel
theorem dX3_isEventPoint_46 : decode cX3_isEventPoint 46 = .ok (.iload_n 2, 1) := by decide +kernel
theorem dX3_isEventPoint_47 : decode cX3_isEventPoint 47 = .ok (.aload_n 0, 1) := by decide +kernel
theorem dX3_isEventPoint_48 : decode cX3_isEventPoint 48 = .ok (.iload 5, 2) := by decide +kernel
theorem dX3_isEventPoint_50 : decode cX3_isEventPoint 50 = .ok (.iconst 1, 1) := by decide +kernel
theorem dX3_isEventPoint_51 : decode cX3_isEventPoint 51 = .ok (.invokevirtual 51, 3) := by decide +kernel
theorem dX3_isEventPoint_54 : decode cX3_isEventPoint 54 = .ok (.isub, 1) := by decide +kernel
theorem dX3_isEventPoint_55 : decode cX3_isEventPoint 55 = .ok (.istore 8, 2) := by decide +kernel
theorem dX3_isEventPoint_57 : decode cX3_isEventPoint 57 = .ok (.iload 6, 2) := by decide +kernel
theorem dX3_isEventPoint_59 : decode cX3_isEventPoint 59 = .ok (.ifCond .eq 8, 3) := by decide +kernel
theorem dX3_isEventPoint_62 : decode cX3_isEventPoint 62 = .ok (.iload 8, 2) := by decide +kernel
theorem dX3_isEventPoint_64 : decode cX3_isEventPoint 64 = .ok (.goto 5, 3) := by decide +kernel
theorem dX3_isEventPoint_67 : decode cX3_isEventPoint 67 = .ok (.iload 7, 2) := by decide +kernel
theorem dX3_isEventPoint_69 : decode cX3_isEventPoint 69 = .ok (.istore 9, 2) := by decide +kernel
theorem dX3_isEventPoint_71 : decode cX3_isEventPoint 71 = .ok (.aload_n 0, 1) := by decide +kernel
theorem dX3_isEventPoint_72 : decode cX3_isEventPoint 72 = .ok (.iload 5, 2) := by decide +kernel
theorem dX3_isEventPoint_74 : decode cX3_isEventPoint 74 = .ok (.iconst 2, 1) := by decide +kernel
theorem dX3_isEventPoint_75 : decode cX3_isEventPoint 75 = .ok (.invokevirtual 51, 3) := by decide +kernel
theorem dX3_isEventPoint_78 : decode cX3_isEventPoint 78 = .ok (.istore 10, 2) := by decide +kernel
theorem dX3_isEventPoint_80 : decode cX3_isEventPoint 80 = .ok (.iload 6, 2) := by decide +kernel
theorem dX3_isEventPoint_82 : decode cX3_isEventPoint 82 = .ok (.ifCond .eq 8, 3) := by decide +kernel
theorem dX3_isEventPoint_85 : decode cX3_isEventPoint 85 = .ok (.iload 7, 2) := by decide +kernel
theorem dX3_isEventPoint_87 : decode cX3_isEventPoint 87 = .ok (.goto 5, 3) := by decide +kernel
theorem dX3_isEventPoint_90 : decode cX3_isEventPoint 90 = .ok (.iload 8, 2) := by decide +kernel
theorem dX3_isEventPoint_92 : decode cX3_isEventPoint 92 = .ok (.ifCond .ne 64, 3) := by decide +kernel
theorem dX3_isEventPoint_95 : decode cX3_isEventPoint 95 = .ok (.iload 9, 2) := by decide +kernel
theorem dX3_isEventPoint_97 : decode cX3_isEventPoint 97 = .ok (.ifCond .lt 59, 3) := by decide +kernel
theorem dX3_isEventPoint_100 : decode cX3_isEventPoint 100 = .ok (.iload 9, 2) := by decide +kernel
theorem dX3_isEventPoint_102 : decode cX3_isEventPoint 102 = .ok (.iload 10, 2) := by decide +kernel
theorem dX3_isEventPoint_104 : decode cX3_isEventPoint 104 = .ok (.if_icmp .le 6, 3) := by decide +kernel
theorem dX3_isEventPoint_107 : decode cX3_isEventPoint 107 = .ok (.goto 49, 3) := by decide +kernel
theorem dX3_isEventPoint_110 : decode cX3_isEventPoint 110 = .ok (.iload 9, 2) := by decide +kernel
theorem dX3_isEventPoint_112 : decode cX3_isEventPoint 112 = .ok (.ifCond .eq 10, 3) := by decide +kernel
theorem dX3_isEventPoint_115 : decode cX3_isEventPoint 115 = .ok (.iload 9, 2) := by decide +kernel
theorem dX3_isEventPoint_117 : decode cX3_isEventPoint 117 = .ok (.iload 10, 2) := by decide +kernel
theorem dX3_isEventPoint_119 : decode cX3_isEventPoint 119 = .ok (.if_icmp .ne 5, 3) := by decide +kernel
theorem dX3_isEventPoint_122 : decode cX3_isEventPoint 122 = .ok (.iconst 1, 1) := by decide +kernel
theorem dX3_isEventPoint_123 : decode cX3_isEventPoint 123 = .ok (.ireturn, 1) := by decide +kernel
theorem dX3_isEventPoint_124 : decode cX3_isEventPoint 124 = .ok (.iload_n 3, 1) := by decide +kernel
theorem dX3_isEventPoint_125 : decode cX3_isEventPoint 125 = .ok (.ifCond .ne 8, 3) := by decide +kernel
theorem dX3_isEventPoint_128 : decode cX3_isEventPoint 128 = .ok (.iload 6, 2) := by decide +kernel
theorem dX3_isEventPoint_130 : decode cX3_isEventPoint 130 = .ok (.ifCond .ne 7, 3) := by decide +kernel
theorem dX3_isEventPoint_133 : decode cX3_isEventPoint 133 = .ok (.iconst 1, 1) := by decide +kernel
theorem dX3_isEventPoint_134 : decode cX3_isEventPoint 134 = .ok (.goto 4, 3) := by decide +kernel
theorem dX3_isEventPoint_137 : decode cX3_isEventPoint 137 = .ok (.iconst 0, 1) := by decide +kernel
theorem dX3_isEventPoint_138 : decode cX3_isEventPoint 138 = .ok (.istore_n 3, 1) := by decide +kernel
theorem dX3_isEventPoint_139 : decode cX3_isEventPoint 139 = .ok (.iload 4, 2) := by decide +kernel
theorem dX3_isEventPoint_141 : decode cX3_isEventPoint 141 = .ok (.ifCond .ne 8, 3) := by decide +kernel
theorem dX3_isEventPoint_144 : decode cX3_isEventPoint 144 = .ok (.iload 6, 2) := by decide +kernel
theorem dX3_isEventPoint_146 : decode cX3_isEventPoint 146 = .ok (.ifCond .eq 7, 3) := by decide +kernel
theorem dX3_isEventPoint_149 : decode cX3_isEventPoint 149 = .ok (.iconst 1, 1) := by decide +kernel
theorem dX3_isEventPoint_150 : decode cX3_isEventPoint 150 = .ok (.goto 4, 3) := by decide +kernel
theorem dX3_isEventPoint_153 : decode cX3_isEventPoint 153 = .ok (.iconst 0, 1) := by decide +kernel
theorem dX3_isEventPoint_154 : decode cX3_isEventPoint 154 = .ok (.istore 4, 2) := by decide +kernel
theorem dX3_isEventPoint_156 : decode cX3_isEventPoint 156 = .ok (.iinc 5 1, 3) := by decide +kernel
theorem dX3_isEventPoint_159 : decode cX3_isEventPoint 159 = .ok (.goto (-151), 3) := by decide +kernel
theorem dX3_isEventPoint_162 : decode cX3_isEventPoint 162 = .ok (.iload_n 3, 1) := by decide +kernel
theorem dX3_isEventPoint_163 : decode cX3_isEventPoint 163 = .ok (.ifCond .eq 12, 3) := by decide +kernel
theorem dX3_isEventPoint_166 : decode cX3_isEventPoint 166 = .ok (.iload 4, 2) := by decide +kernel
theorem dX3_isEventPoint_168 : decode cX3_isEventPoint 168 = .ok (.ifCond .eq 7, 3) := by decide +kernel
theorem dX3_isEventPoint_171 : decode cX3_isEventPoint 171 = .ok (.iconst 1, 1) := by decide +kernel
theorem dX3_isEventPoint_172 : decode cX3_isEventPoint 172 = .ok (.goto 4, 3) := by decide +kernel
theorem dX3_isEventPoint_175 : decode cX3_isEventPoint 175 = .ok (.iconst 0, 1) := by decide +kernel
theorem dX3_isEventPoint_176 : decode cX3_isEventPoint 176 = .ok (.ireturn, 1) := by decide +kernel
theorem dX3_addEvent_0 : decode cX3_addEvent 0 = .ok (.iload_n 1, 1) := by decide +kernel
theorem dX3_addEvent_1 : decode cX3_addEvent 1 = .ok (.iload_n 2, 1) := by decide +kernel
theorem dX3_addEvent_2 : decode cX3_addEvent 2 = .ok (.invokestatic 54, 3) := by decide +kernel
theorem dX3_addEvent_5 : decode cX3_addEvent 5 = .ok (.istore_n 3, 1) := by decide +kernel
theorem dX3_addEvent_6 : decode cX3_addEvent 6 = .ok (.iload_n 3, 1) := by decide +kernel
theorem dX3_addEvent_7 : decode cX3_addEvent 7 = .ok (.ifCond .le 12, 3) := by decide +kernel
theorem dX3_addEvent_10 : decode cX3_addEvent 10 = .ok (.aload_n 0, 1) := by decide +kernel
theorem dX3_addEvent_11 : decode cX3_addEvent 11 = .ok (.getfield 31, 3) := by decide +kernel
theorem dX3_addEvent_14 : decode cX3_addEvent 14 = .ok (.bipush 100, 2) := by decide +kernel
theorem dX3_addEvent_16 : decode cX3_addEvent 16 = .ok (.if_icmp .lt 4, 3) := by decide +kernel
theorem dX3_addEvent_19 : decode cX3_addEvent 19 = .ok (.return_, 1) := by decide +kernel
theorem dX3_addEvent_20 : decode cX3_addEvent 20 = .ok (.iload_n 1, 1) := by decide +kernel
theorem dX3_addEvent_21 : decode cX3_addEvent 21 = .ok (.iload_n 3, 1) := by decide +kernel
theorem dX3_addEvent_22 : decode cX3_addEvent 22 = .ok (.idiv, 1) := by decide +kernel
theorem dX3_addEvent_23 : decode cX3_addEvent 23 = .ok (.istore 4, 2) := by decide +kernel
theorem dX3_addEvent_25 : decode cX3_addEvent 25 = .ok (.iload_n 2, 1) := by decide +kernel
theorem dX3_addEvent_26 : decode cX3_addEvent 26 = .ok (.iload_n 3, 1) := by decide +kernel
theorem dX3_addEvent_27 : decode cX3_addEvent 27 = .ok (.idiv, 1) := by decide +kernel
theorem dX3_addEvent_28 : decode cX3_addEvent 28 = .ok (.istore 5, 2) := by decide +kernel
theorem dX3_addEvent_30 : decode cX3_addEvent 30 = .ok (.iconst 0, 1) := by decide +kernel
theorem dX3_addEvent_31 : decode cX3_addEvent 31 = .ok (.istore 6, 2) := by decide +kernel
theorem dX3_addEvent_33 : decode cX3_addEvent 33 = .ok (.iload 6, 2) := by decide +kernel
theorem dX3_addEvent_35 : decode cX3_addEvent 35 = .ok (.aload_n 0, 1) := by decide +kernel
theorem dX3_addEvent_36 : decode cX3_addEvent 36 = .ok (.getfield 31, 3) := by decide +kernel
theorem dX3_addEvent_39 : decode cX3_addEvent 39 = .ok (.if_icmp .ge 33, 3) := by decide +kernel
theorem dX3_addEvent_42 : decode cX3_addEvent 42 = .ok (.aload_n 0, 1) := by decide +kernel
theorem dX3_addEvent_43 : decode cX3_addEvent 43 = .ok (.getfield 9, 3) := by decide +kernel
theorem dX3_addEvent_46 : decode cX3_addEvent 46 = .ok (.iload 6, 2) := by decide +kernel
theorem dX3_addEvent_48 : decode cX3_addEvent 48 = .ok (.iaload, 1) := by decide +kernel
theorem dX3_addEvent_49 : decode cX3_addEvent 49 = .ok (.aload_n 0, 1) := by decide +kernel
theorem dX3_addEvent_50 : decode cX3_addEvent 50 = .ok (.getfield 15, 3) := by decide +kernel
theorem dX3_addEvent_53 : decode cX3_addEvent 53 = .ok (.iload 6, 2) := by decide +kernel
theorem dX3_addEvent_55 : decode cX3_addEvent 55 = .ok (.iaload, 1) := by decide +kernel
theorem dX3_addEvent_56 : decode cX3_addEvent 56 = .ok (.iload 4, 2) := by decide +kernel
theorem dX3_addEvent_58 : decode cX3_addEvent 58 = .ok (.iload 5, 2) := by decide +kernel
theorem dX3_addEvent_60 : decode cX3_addEvent 60 = .ok (.invokestatic 57, 3) := by decide +kernel
theorem dX3_addEvent_63 : decode cX3_addEvent 63 = .ok (.ifCond .eq 9, 3) := by decide +kernel
theorem dX3_addEvent_66 : decode cX3_addEvent 66 = .ok (.iinc 6 1, 3) := by decide +kernel
theorem dX3_addEvent_69 : decode cX3_addEvent 69 = .ok (.goto (-36), 3) := by decide +kernel
theorem dX3_addEvent_72 : decode cX3_addEvent 72 = .ok (.iload 6, 2) := by decide +kernel
theorem dX3_addEvent_74 : decode cX3_addEvent 74 = .ok (.aload_n 0, 1) := by decide +kernel
theorem dX3_addEvent_75 : decode cX3_addEvent 75 = .ok (.getfield 31, 3) := by decide +kernel
theorem dX3_addEvent_78 : decode cX3_addEvent 78 = .ok (.if_icmp .ge 28, 3) := by decide +kernel
theorem dX3_addEvent_81 : decode cX3_addEvent 81 = .ok (.aload_n 0, 1) := by decide +kernel
theorem dX3_addEvent_82 : decode cX3_addEvent 82 = .ok (.getfield 9, 3) := by decide +kernel
theorem dX3_addEvent_85 : decode cX3_addEvent 85 = .ok (.iload 6, 2) := by decide +kernel
theorem dX3_addEvent_87 : decode cX3_addEvent 87 = .ok (.iaload, 1) := by decide +kernel
theorem dX3_addEvent_88 : decode cX3_addEvent 88 = .ok (.iload 4, 2) := by decide +kernel
theorem dX3_addEvent_90 : decode cX3_addEvent 90 = .ok (.if_icmp .ne 16, 3) := by decide +kernel
theorem dX3_addEvent_93 : decode cX3_addEvent 93 = .ok (.aload_n 0, 1) := by decide +kernel
theorem dX3_addEvent_94 : decode cX3_addEvent 94 = .ok (.getfield 15, 3) := by decide +kernel
theorem dX3_addEvent_97 : decode cX3_addEvent 97 = .ok (.iload 6, 2) := by decide +kernel
theorem dX3_addEvent_99 : decode cX3_addEvent 99 = .ok (.iaload, 1) := by decide +kernel
theorem dX3_addEvent_100 : decode cX3_addEvent 100 = .ok (.iload 5, 2) := by decide +kernel
theorem dX3_addEvent_102 : decode cX3_addEvent 102 = .ok (.if_icmp .ne 4, 3) := by decide +kernel
theorem dX3_addEvent_105 : decode cX3_addEvent 105 = .ok (.return_, 1) := by decide +kernel
theorem dX3_addEvent_106 : decode cX3_addEvent 106 = .ok (.aload_n 0, 1) := by decide +kernel
theorem dX3_addEvent_107 : decode cX3_addEvent 107 = .ok (.getfield 31, 3) := by decide +kernel
theorem dX3_addEvent_110 : decode cX3_addEvent 110 = .ok (.istore 7, 2) := by decide +kernel
theorem dX3_addEvent_112 : decode cX3_addEvent 112 = .ok (.iload 7, 2) := by decide +kernel
theorem dX3_addEvent_114 : decode cX3_addEvent 114 = .ok (.iload 6, 2) := by decide +kernel
theorem dX3_addEvent_116 : decode cX3_addEvent 116 = .ok (.if_icmp .le 41, 3) := by decide +kernel
theorem dX3_addEvent_119 : decode cX3_addEvent 119 = .ok (.aload_n 0, 1) := by decide +kernel
theorem dX3_addEvent_120 : decode cX3_addEvent 120 = .ok (.getfield 9, 3) := by decide +kernel
theorem dX3_addEvent_123 : decode cX3_addEvent 123 = .ok (.iload 7, 2) := by decide +kernel
theorem dX3_addEvent_125 : decode cX3_addEvent 125 = .ok (.aload_n 0, 1) := by decide +kernel
theorem dX3_addEvent_126 : decode cX3_addEvent 126 = .ok (.getfield 9, 3) := by decide +kernel
theorem dX3_addEvent_129 : decode cX3_addEvent 129 = .ok (.iload 7, 2) := by decide +kernel
theorem dX3_addEvent_131 : decode cX3_addEvent 131 = .ok (.iconst 1, 1) := by decide +kernel
theorem dX3_addEvent_132 : decode cX3_addEvent 132 = .ok (.isub, 1) := by decide +kernel
theorem dX3_addEvent_133 : decode cX3_addEvent 133 = .ok (.iaload, 1) := by decide +kernel
theorem dX3_addEvent_134 : decode cX3_addEvent 134 = .ok (.iastore, 1) := by decide +kernel
theorem dX3_addEvent_135 : decode cX3_addEvent 135 = .ok (.aload_n 0, 1) := by decide +kernel
theorem dX3_addEvent_136 : decode cX3_addEvent 136 = .ok (.getfield 15, 3) := by decide +kernel
theorem dX3_addEvent_139 : decode cX3_addEvent 139 = .ok (.iload 7, 2) := by decide +kernel
theorem dX3_addEvent_141 : decode cX3_addEvent 141 = .ok (.aload_n 0, 1) := by decide +kernel
theorem dX3_addEvent_142 : decode cX3_addEvent 142 = .ok (.getfield 15, 3) := by decide +kernel
theorem dX3_addEvent_145 : decode cX3_addEvent 145 = .ok (.iload 7, 2) := by decide +kernel
theorem dX3_addEvent_147 : decode cX3_addEvent 147 = .ok (.iconst 1, 1) := by decide +kernel
theorem dX3_addEvent_148 : decode cX3_addEvent 148 = .ok (.isub, 1) := by decide +kernel
theorem dX3_addEvent_149 : decode cX3_addEvent 149 = .ok (.iaload, 1) := by decide +kernel
theorem dX3_addEvent_150 : decode cX3_addEvent 150 = .ok (.iastore, 1) := by decide +kernel
theorem dX3_addEvent_151 : decode cX3_addEvent 151 = .ok (.iinc 7 (-1), 3) := by decide +kernel
theorem dX3_addEvent_154 : decode cX3_addEvent 154 = .ok (.goto (-42), 3) := by decide +kernel
theorem dX3_addEvent_157 : decode cX3_addEvent 157 = .ok (.aload_n 0, 1) := by decide +kernel
theorem dX3_addEvent_158 : decode cX3_addEvent 158 = .ok (.getfield 9, 3) := by decide +kernel
theorem dX3_addEvent_161 : decode cX3_addEvent 161 = .ok (.iload 6, 2) := by decide +kernel
theorem dX3_addEvent_163 : decode cX3_addEvent 163 = .ok (.iload 4, 2) := by decide +kernel
theorem dX3_addEvent_165 : decode cX3_addEvent 165 = .ok (.iastore, 1) := by decide +kernel
theorem dX3_addEvent_166 : decode cX3_addEvent 166 = .ok (.aload_n 0, 1) := by decide +kernel
theorem dX3_addEvent_167 : decode cX3_addEvent 167 = .ok (.getfield 15, 3) := by decide +kernel
theorem dX3_addEvent_170 : decode cX3_addEvent 170 = .ok (.iload 6, 2) := by decide +kernel
theorem dX3_addEvent_172 : decode cX3_addEvent 172 = .ok (.iload 5, 2) := by decide +kernel
theorem dX3_addEvent_174 : decode cX3_addEvent 174 = .ok (.iastore, 1) := by decide +kernel
theorem dX3_addEvent_175 : decode cX3_addEvent 175 = .ok (.aload_n 0, 1) := by decide +kernel
theorem dX3_addEvent_176 : decode cX3_addEvent 176 = .ok (.dup, 1) := by decide +kernel
theorem dX3_addEvent_177 : decode cX3_addEvent 177 = .ok (.getfield 31, 3) := by decide +kernel
theorem dX3_addEvent_180 : decode cX3_addEvent 180 = .ok (.iconst 1, 1) := by decide +kernel
theorem dX3_addEvent_181 : decode cX3_addEvent 181 = .ok (.iadd, 1) := by decide +kernel
theorem dX3_addEvent_182 : decode cX3_addEvent 182 = .ok (.putfield 31, 3) := by decide +kernel
theorem dX3_addEvent_185 : decode cX3_addEvent 185 = .ok (.return_, 1) := by decide +kernel
theorem dX3_isAhead_0 : decode cX3_isAhead 0 = .ok (.iload_n 1, 1) := by decide +kernel
theorem dX3_isAhead_1 : decode cX3_isAhead 1 = .ok (.ifCond .le 7, 3) := by decide +kernel
theorem dX3_isAhead_4 : decode cX3_isAhead 4 = .ok (.iconst 1, 1) := by decide +kernel
theorem dX3_isAhead_5 : decode cX3_isAhead 5 = .ok (.goto 4, 3) := by decide +kernel
theorem dX3_isAhead_8 : decode cX3_isAhead 8 = .ok (.iconst 0, 1) := by decide +kernel
theorem dX3_isAhead_9 : decode cX3_isAhead 9 = .ok (.iload_n 3, 1) := by decide +kernel
theorem dX3_isAhead_10 : decode cX3_isAhead 10 = .ok (.ifCond .le 7, 3) := by decide +kernel
theorem dX3_isAhead_13 : decode cX3_isAhead 13 = .ok (.iconst 1, 1) := by decide +kernel
theorem dX3_isAhead_14 : decode cX3_isAhead 14 = .ok (.goto 4, 3) := by decide +kernel
theorem dX3_isAhead_17 : decode cX3_isAhead 17 = .ok (.iconst 0, 1) := by decide +kernel
theorem dX3_isAhead_18 : decode cX3_isAhead 18 = .ok (.if_icmp .eq 13, 3) := by decide +kernel
theorem dX3_isAhead_21 : decode cX3_isAhead 21 = .ok (.iload_n 1, 1) := by decide +kernel
theorem dX3_isAhead_22 : decode cX3_isAhead 22 = .ok (.ifCond .le 7, 3) := by decide +kernel
theorem dX3_isAhead_25 : decode cX3_isAhead 25 = .ok (.iconst 1, 1) := by decide +kernel
theorem dX3_isAhead_26 : decode cX3_isAhead 26 = .ok (.goto 4, 3) := by decide +kernel
theorem dX3_isAhead_29 : decode cX3_isAhead 29 = .ok (.iconst 0, 1) := by decide +kernel
theorem dX3_isAhead_30 : decode cX3_isAhead 30 = .ok (.ireturn, 1) := by decide +kernel
theorem dX3_isAhead_31 : decode cX3_isAhead 31 = .ok (.iload_n 0, 1) := by decide +kernel
theorem dX3_isAhead_32 : decode cX3_isAhead 32 = .ok (.iload_n 3, 1) := by decide +kernel
theorem dX3_isAhead_33 : decode cX3_isAhead 33 = .ok (.imul, 1) := by decide +kernel
theorem dX3_isAhead_34 : decode cX3_isAhead 34 = .ok (.iload_n 1, 1) := by decide +kernel
theorem dX3_isAhead_35 : decode cX3_isAhead 35 = .ok (.iload_n 2, 1) := by decide +kernel
theorem dX3_isAhead_36 : decode cX3_isAhead 36 = .ok (.imul, 1) := by decide +kernel
theorem dX3_isAhead_37 : decode cX3_isAhead 37 = .ok (.isub, 1) := by decide +kernel
theorem dX3_isAhead_38 : decode cX3_isAhead 38 = .ok (.ifCond .le 7, 3) := by decide +kernel
theorem dX3_isAhead_41 : decode cX3_isAhead 41 = .ok (.iconst 1, 1) := by decide +kernel
theorem dX3_isAhead_42 : decode cX3_isAhead 42 = .ok (.goto 4, 3) := by decide +kernel
theorem dX3_isAhead_45 : decode cX3_isAhead 45 = .ok (.iconst 0, 1) := by decide +kernel
theorem dX3_isAhead_46 : decode cX3_isAhead 46 = .ok (.ireturn, 1) := by decide +kernel
theorem dX3_eventBehind_0 : decode cX3_eventBehind 0 = .ok (.iload_n 1, 1) := by decide +kernel
theorem dX3_eventBehind_1 : decode cX3_eventBehind 1 = .ok (.iconst 1, 1) := by decide +kernel
theorem dX3_eventBehind_2 : decode cX3_eventBehind 2 = .ok (.iadd, 1) := by decide +kernel
theorem dX3_eventBehind_3 : decode cX3_eventBehind 3 = .ok (.aload_n 0, 1) := by decide +kernel
theorem dX3_eventBehind_4 : decode cX3_eventBehind 4 = .ok (.getfield 31, 3) := by decide +kernel
theorem dX3_eventBehind_7 : decode cX3_eventBehind 7 = .ok (.if_icmp .ge 9, 3) := by decide +kernel
theorem dX3_eventBehind_10 : decode cX3_eventBehind 10 = .ok (.iload_n 1, 1) := by decide +kernel
theorem dX3_eventBehind_11 : decode cX3_eventBehind 11 = .ok (.iconst 1, 1) := by decide +kernel
theorem dX3_eventBehind_12 : decode cX3_eventBehind 12 = .ok (.iadd, 1) := by decide +kernel
theorem dX3_eventBehind_13 : decode cX3_eventBehind 13 = .ok (.goto 4, 3) := by decide +kernel
theorem dX3_eventBehind_16 : decode cX3_eventBehind 16 = .ok (.iconst 0, 1) := by decide +kernel
theorem dX3_eventBehind_17 : decode cX3_eventBehind 17 = .ok (.ireturn, 1) := by decide +kernel
theorem dX3_wallOfSector_0 : decode cX3_wallOfSector 0 = .ok (.aload_n 0, 1) := by decide +kernel
theorem dX3_wallOfSector_1 : decode cX3_wallOfSector 1 = .ok (.iload_n 2, 1) := by decide +kernel
theorem dX3_wallOfSector_2 : decode cX3_wallOfSector 2 = .ok (.invokevirtual 61, 3) := by decide +kernel
theorem dX3_wallOfSector_5 : decode cX3_wallOfSector 5 = .ok (.istore_n 3, 1) := by decide +kernel
theorem dX3_wallOfSector_6 : decode cX3_wallOfSector 6 = .ok (.aload_n 0, 1) := by decide +kernel
theorem dX3_wallOfSector_7 : decode cX3_wallOfSector 7 = .ok (.getfield 9, 3) := by decide +kernel
theorem dX3_wallOfSector_10 : decode cX3_wallOfSector 10 = .ok (.iload_n 2, 1) := by decide +kernel
theorem dX3_wallOfSector_11 : decode cX3_wallOfSector 11 = .ok (.iaload, 1) := by decide +kernel
theorem dX3_wallOfSector_12 : decode cX3_wallOfSector 12 = .ok (.aload_n 0, 1) := by decide +kernel
theorem dX3_wallOfSector_13 : decode cX3_wallOfSector 13 = .ok (.getfield 9, 3) := by decide +kernel
theorem dX3_wallOfSector_16 : decode cX3_wallOfSector 16 = .ok (.iload_n 3, 1) := by decide +kernel
theorem dX3_wallOfSector_17 : decode cX3_wallOfSector 17 = .ok (.iaload, 1) := by decide +kernel
theorem dX3_wallOfSector_18 : decode cX3_wallOfSector 18 = .ok (.iadd, 1) := by decide +kernel
theorem dX3_wallOfSector_19 : decode cX3_wallOfSector 19 = .ok (.istore 4, 2) := by decide +kernel
theorem dX3_wallOfSector_21 : decode cX3_wallOfSector 21 = .ok (.aload_n 0, 1) := by decide +kernel
theorem dX3_wallOfSector_22 : decode cX3_wallOfSector 22 = .ok (.getfield 15, 3) := by decide +kernel
theorem dX3_wallOfSector_25 : decode cX3_wallOfSector 25 = .ok (.iload_n 2, 1) := by decide +kernel
theorem dX3_wallOfSector_26 : decode cX3_wallOfSector 26 = .ok (.iaload, 1) := by decide +kernel
theorem dX3_wallOfSector_27 : decode cX3_wallOfSector 27 = .ok (.aload_n 0, 1) := by decide +kernel
theorem dX3_wallOfSector_28 : decode cX3_wallOfSector 28 = .ok (.getfield 15, 3) := by decide +kernel
theorem dX3_wallOfSector_31 : decode cX3_wallOfSector 31 = .ok (.iload_n 3, 1) := by decide +kernel
theorem dX3_wallOfSector_32 : decode cX3_wallOfSector 32 = .ok (.iaload, 1) := by decide +kernel
theorem dX3_wallOfSector_33 : decode cX3_wallOfSector 33 = .ok (.iadd, 1) := by decide +kernel
theorem dX3_wallOfSector_34 : decode cX3_wallOfSector 34 = .ok (.istore 5, 2) := by decide +kernel
theorem dX3_wallOfSector_36 : decode cX3_wallOfSector 36 = .ok (.bipush (-9), 2) := by decide +kernel
theorem dX3_wallOfSector_38 : decode cX3_wallOfSector 38 = .ok (.istore 6, 2) := by decide +kernel
theorem dX3_wallOfSector_40 : decode cX3_wallOfSector 40 = .ok (.iconst 0, 1) := by decide +kernel
theorem dX3_wallOfSector_41 : decode cX3_wallOfSector 41 = .ok (.istore 7, 2) := by decide +kernel
theorem dX3_wallOfSector_43 : decode cX3_wallOfSector 43 = .ok (.iconst 0, 1) := by decide +kernel
theorem dX3_wallOfSector_44 : decode cX3_wallOfSector 44 = .ok (.istore 8, 2) := by decide +kernel
theorem dX3_wallOfSector_46 : decode cX3_wallOfSector 46 = .ok (.iconst 0, 1) := by decide +kernel
theorem dX3_wallOfSector_47 : decode cX3_wallOfSector 47 = .ok (.istore 9, 2) := by decide +kernel
theorem dX3_wallOfSector_49 : decode cX3_wallOfSector 49 = .ok (.iload 9, 2) := by decide +kernel
theorem dX3_wallOfSector_51 : decode cX3_wallOfSector 51 = .ok (.aload_n 1, 1) := by decide +kernel
theorem dX3_wallOfSector_52 : decode cX3_wallOfSector 52 = .ok (.getfield 48, 3) := by decide +kernel
theorem dX3_wallOfSector_55 : decode cX3_wallOfSector 55 = .ok (.if_icmp .ge 151, 3) := by decide +kernel
theorem dX3_wallOfSector_58 : decode cX3_wallOfSector 58 = .ok (.aload_n 1, 1) := by decide +kernel
theorem dX3_wallOfSector_59 : decode cX3_wallOfSector 59 = .ok (.iload 9, 2) := by decide +kernel
theorem dX3_wallOfSector_61 : decode cX3_wallOfSector 61 = .ok (.iconst 3, 1) := by decide +kernel
theorem dX3_wallOfSector_62 : decode cX3_wallOfSector 62 = .ok (.invokevirtual 51, 3) := by decide +kernel
theorem dX3_wallOfSector_65 : decode cX3_wallOfSector 65 = .ok (.iconst 1, 1) := by decide +kernel
theorem dX3_wallOfSector_66 : decode cX3_wallOfSector 66 = .ok (.if_icmp .ne 7, 3) := by decide +kernel
theorem dX3_wallOfSector_69 : decode cX3_wallOfSector 69 = .ok (.iconst 1, 1) := by decide +kernel
theorem dX3_wallOfSector_70 : decode cX3_wallOfSector 70 = .ok (.goto 4, 3) := by decide +kernel
theorem dX3_wallOfSector_73 : decode cX3_wallOfSector 73 = .ok (.iconst 0, 1) := by decide +kernel
theorem dX3_wallOfSector_74 : decode cX3_wallOfSector 74 = .ok (.istore 10, 2) := by decide +kernel
theorem dX3_wallOfSector_76 : decode cX3_wallOfSector 76 = .ok (.iload 10, 2) := by decide +kernel
theorem dX3_wallOfSector_78 : decode cX3_wallOfSector 78 = .ok (.ifCond .eq 8, 3) := by decide +kernel
theorem dX3_wallOfSector_81 : decode cX3_wallOfSector 81 = .ok (.iload 4, 2) := by decide +kernel
theorem dX3_wallOfSector_83 : decode cX3_wallOfSector 83 = .ok (.goto 5, 3) := by decide +kernel
theorem dX3_wallOfSector_86 : decode cX3_wallOfSector 86 = .ok (.iload 5, 2) := by decide +kernel
theorem dX3_wallOfSector_88 : decode cX3_wallOfSector 88 = .ok (.invokestatic 65, 3) := by decide +kernel
theorem dX3_wallOfSector_91 : decode cX3_wallOfSector 91 = .ok (.istore 11, 2) := by decide +kernel
theorem dX3_wallOfSector_93 : decode cX3_wallOfSector 93 = .ok (.iload 10, 2) := by decide +kernel
theorem dX3_wallOfSector_95 : decode cX3_wallOfSector 95 = .ok (.ifCond .eq 8, 3) := by decide +kernel
theorem dX3_wallOfSector_98 : decode cX3_wallOfSector 98 = .ok (.iload 4, 2) := by decide +kernel
theorem dX3_wallOfSector_100 : decode cX3_wallOfSector 100 = .ok (.goto 5, 3) := by decide +kernel
theorem dX3_wallOfSector_103 : decode cX3_wallOfSector 103 = .ok (.iload 5, 2) := by decide +kernel
theorem dX3_wallOfSector_105 : decode cX3_wallOfSector 105 = .ok (.ifCond .ge 14, 3) := by decide +kernel
theorem dX3_wallOfSector_108 : decode cX3_wallOfSector 108 = .ok (.aload_n 0, 1) := by decide +kernel
theorem dX3_wallOfSector_109 : decode cX3_wallOfSector 109 = .ok (.aload_n 1, 1) := by decide +kernel
theorem dX3_wallOfSector_110 : decode cX3_wallOfSector 110 = .ok (.iload 9, 2) := by decide +kernel
theorem dX3_wallOfSector_112 : decode cX3_wallOfSector 112 = .ok (.invokevirtual 70, 3) := by decide +kernel
theorem dX3_wallOfSector_115 : decode cX3_wallOfSector 115 = .ok (.ineg, 1) := by decide +kernel
theorem dX3_wallOfSector_116 : decode cX3_wallOfSector 116 = .ok (.goto 10, 3) := by decide +kernel
theorem dX3_wallOfSector_119 : decode cX3_wallOfSector 119 = .ok (.aload_n 0, 1) := by decide +kernel
theorem dX3_wallOfSector_120 : decode cX3_wallOfSector 120 = .ok (.aload_n 1, 1) := by decide +kernel
theorem dX3_wallOfSector_121 : decode cX3_wallOfSector 121 = .ok (.iload 9, 2) := by decide +kernel
theorem dX3_wallOfSector_123 : decode cX3_wallOfSector 123 = .ok (.invokevirtual 70, 3) := by decide +kernel
theorem dX3_wallOfSector_126 : decode cX3_wallOfSector 126 = .ok (.istore 12, 2) := by decide +kernel
theorem dX3_wallOfSector_128 : decode cX3_wallOfSector 128 = .ok (.iload 11, 2) := by decide +kernel
theorem dX3_wallOfSector_130 : decode cX3_wallOfSector 130 = .ok (.ifCond .eq 70, 3) := by decide +kernel
theorem dX3_wallOfSector_133 : decode cX3_wallOfSector 133 = .ok (.iload 12, 2) := by decide +kernel
theorem dX3_wallOfSector_135 : decode cX3_wallOfSector 135 = .ok (.ifCond .lt 65, 3) := by decide +kernel
theorem dX3_wallOfSector_138 : decode cX3_wallOfSector 138 = .ok (.aload_n 0, 1) := by decide +kernel
theorem dX3_wallOfSector_139 : decode cX3_wallOfSector 139 = .ok (.aload_n 1, 1) := by decide +kernel
theorem dX3_wallOfSector_140 : decode cX3_wallOfSector 140 = .ok (.iload 9, 2) := by decide +kernel
theorem dX3_wallOfSector_142 : decode cX3_wallOfSector 142 = .ok (.iload 10, 2) := by decide +kernel
theorem dX3_wallOfSector_144 : decode cX3_wallOfSector 144 = .ok (.ifCond .eq 8, 3) := by decide +kernel
theorem dX3_wallOfSector_147 : decode cX3_wallOfSector 147 = .ok (.iload 5, 2) := by decide +kernel
theorem dX3_wallOfSector_149 : decode cX3_wallOfSector 149 = .ok (.goto 5, 3) := by decide +kernel
theorem dX3_wallOfSector_152 : decode cX3_wallOfSector 152 = .ok (.iload 4, 2) := by decide +kernel
theorem dX3_wallOfSector_154 : decode cX3_wallOfSector 154 = .ok (.iload 12, 2) := by decide +kernel
theorem dX3_wallOfSector_156 : decode cX3_wallOfSector 156 = .ok (.imul, 1) := by decide +kernel
theorem dX3_wallOfSector_157 : decode cX3_wallOfSector 157 = .ok (.iload 11, 2) := by decide +kernel
theorem dX3_wallOfSector_159 : decode cX3_wallOfSector 159 = .ok (.invokevirtual 74, 3) := by decide +kernel
theorem dX3_wallOfSector_162 : decode cX3_wallOfSector 162 = .ok (.ifCond .ne 6, 3) := by decide +kernel
theorem dX3_wallOfSector_165 : decode cX3_wallOfSector 165 = .ok (.goto 35, 3) := by decide +kernel
theorem dX3_wallOfSector_168 : decode cX3_wallOfSector 168 = .ok (.iload 6, 2) := by decide +kernel
theorem dX3_wallOfSector_170 : decode cX3_wallOfSector 170 = .ok (.bipush (-9), 2) := by decide +kernel
theorem dX3_wallOfSector_172 : decode cX3_wallOfSector 172 = .ok (.if_icmp .eq 16, 3) := by decide +kernel
theorem dX3_wallOfSector_175 : decode cX3_wallOfSector 175 = .ok (.iload 12, 2) := by decide +kernel
theorem dX3_wallOfSector_177 : decode cX3_wallOfSector 177 = .ok (.iload 8, 2) := by decide +kernel
theorem dX3_wallOfSector_179 : decode cX3_wallOfSector 179 = .ok (.imul, 1) := by decide +kernel
theorem dX3_wallOfSector_180 : decode cX3_wallOfSector 180 = .ok (.iload 7, 2) := by decide +kernel
theorem dX3_wallOfSector_182 : decode cX3_wallOfSector 182 = .ok (.iload 11, 2) := by decide +kernel
theorem dX3_wallOfSector_184 : decode cX3_wallOfSector 184 = .ok (.imul, 1) := by decide +kernel
theorem dX3_wallOfSector_185 : decode cX3_wallOfSector 185 = .ok (.if_icmp .ge 15, 3) := by decide +kernel
theorem dX3_wallOfSector_188 : decode cX3_wallOfSector 188 = .ok (.iload 9, 2) := by decide +kernel
theorem dX3_wallOfSector_190 : decode cX3_wallOfSector 190 = .ok (.istore 6, 2) := by decide +kernel
theorem dX3_wallOfSector_192 : decode cX3_wallOfSector 192 = .ok (.iload 12, 2) := by decide +kernel
theorem dX3_wallOfSector_194 : decode cX3_wallOfSector 194 = .ok (.istore 7, 2) := by decide +kernel
theorem dX3_wallOfSector_196 : decode cX3_wallOfSector 196 = .ok (.iload 11, 2) := by decide +kernel
theorem dX3_wallOfSector_198 : decode cX3_wallOfSector 198 = .ok (.istore 8, 2) := by decide +kernel
theorem dX3_wallOfSector_200 : decode cX3_wallOfSector 200 = .ok (.iinc 9 1, 3) := by decide +kernel
theorem dX3_wallOfSector_203 : decode cX3_wallOfSector 203 = .ok (.goto (-154), 3) := by decide +kernel
theorem dX3_wallOfSector_206 : decode cX3_wallOfSector 206 = .ok (.iload 6, 2) := by decide +kernel
theorem dX3_wallOfSector_208 : decode cX3_wallOfSector 208 = .ok (.ireturn, 1) := by decide +kernel
theorem dX3_gapTo_0 : decode cX3_gapTo 0 = .ok (.aload_n 1, 1) := by decide +kernel
theorem dX3_gapTo_1 : decode cX3_gapTo 1 = .ok (.iload_n 2, 1) := by decide +kernel
theorem dX3_gapTo_2 : decode cX3_gapTo 2 = .ok (.iconst 3, 1) := by decide +kernel
theorem dX3_gapTo_3 : decode cX3_gapTo 3 = .ok (.invokevirtual 51, 3) := by decide +kernel
theorem dX3_gapTo_6 : decode cX3_gapTo 6 = .ok (.iconst 1, 1) := by decide +kernel
theorem dX3_gapTo_7 : decode cX3_gapTo 7 = .ok (.if_icmp .ne 19, 3) := by decide +kernel
theorem dX3_gapTo_10 : decode cX3_gapTo 10 = .ok (.iconst 2, 1) := by decide +kernel
theorem dX3_gapTo_11 : decode cX3_gapTo 11 = .ok (.aload_n 1, 1) := by decide +kernel
theorem dX3_gapTo_12 : decode cX3_gapTo 12 = .ok (.iload_n 2, 1) := by decide +kernel
theorem dX3_gapTo_13 : decode cX3_gapTo 13 = .ok (.iconst 0, 1) := by decide +kernel
theorem dX3_gapTo_14 : decode cX3_gapTo 14 = .ok (.invokevirtual 51, 3) := by decide +kernel
theorem dX3_gapTo_17 : decode cX3_gapTo 17 = .ok (.imul, 1) := by decide +kernel
theorem dX3_gapTo_18 : decode cX3_gapTo 18 = .ok (.aload_n 0, 1) := by decide +kernel
theorem dX3_gapTo_19 : decode cX3_gapTo 19 = .ok (.getfield 24, 3) := by decide +kernel
theorem dX3_gapTo_22 : decode cX3_gapTo 22 = .ok (.isub, 1) := by decide +kernel
theorem dX3_gapTo_23 : decode cX3_gapTo 23 = .ok (.goto 16, 3) := by decide +kernel
theorem dX3_gapTo_26 : decode cX3_gapTo 26 = .ok (.iconst 2, 1) := by decide +kernel
theorem dX3_gapTo_27 : decode cX3_gapTo 27 = .ok (.aload_n 1, 1) := by decide +kernel
theorem dX3_gapTo_28 : decode cX3_gapTo 28 = .ok (.iload_n 2, 1) := by decide +kernel
theorem dX3_gapTo_29 : decode cX3_gapTo 29 = .ok (.iconst 1, 1) := by decide +kernel
theorem dX3_gapTo_30 : decode cX3_gapTo 30 = .ok (.invokevirtual 51, 3) := by decide +kernel
theorem dX3_gapTo_33 : decode cX3_gapTo 33 = .ok (.imul, 1) := by decide +kernel
theorem dX3_gapTo_34 : decode cX3_gapTo 34 = .ok (.aload_n 0, 1) := by decide +kernel
theorem dX3_gapTo_35 : decode cX3_gapTo 35 = .ok (.getfield 28, 3) := by decide +kernel
theorem dX3_gapTo_38 : decode cX3_gapTo 38 = .ok (.isub, 1) := by decide +kernel
theorem dX3_gapTo_39 : decode cX3_gapTo 39 = .ok (.ireturn, 1) := by decide +kernel
theorem dX3_isOnWall_0 : decode cX3_isOnWall 0 = .ok (.aload_n 1, 1) := by decide +kernel
theorem dX3_isOnWall_1 : decode cX3_isOnWall 1 = .ok (.iload_n 2, 1) := by decide +kernel
theorem dX3_isOnWall_2 : decode cX3_isOnWall 2 = .ok (.iconst 3, 1) := by decide +kernel
theorem dX3_isOnWall_3 : decode cX3_isOnWall 3 = .ok (.invokevirtual 51, 3) := by decide +kernel
theorem dX3_isOnWall_6 : decode cX3_isOnWall 6 = .ok (.iconst 1, 1) := by decide +kernel
theorem dX3_isOnWall_7 : decode cX3_isOnWall 7 = .ok (.if_icmp .ne 7, 3) := by decide +kernel
theorem dX3_isOnWall_10 : decode cX3_isOnWall 10 = .ok (.iconst 1, 1) := by decide +kernel
theorem dX3_isOnWall_11 : decode cX3_isOnWall 11 = .ok (.goto 4, 3) := by decide +kernel
theorem dX3_isOnWall_14 : decode cX3_isOnWall 14 = .ok (.iconst 0, 1) := by decide +kernel
theorem dX3_isOnWall_15 : decode cX3_isOnWall 15 = .ok (.istore 5, 2) := by decide +kernel
theorem dX3_isOnWall_17 : decode cX3_isOnWall 17 = .ok (.iconst 2, 1) := by decide +kernel
theorem dX3_isOnWall_18 : decode cX3_isOnWall 18 = .ok (.aload_n 1, 1) := by decide +kernel
theorem dX3_isOnWall_19 : decode cX3_isOnWall 19 = .ok (.iload_n 2, 1) := by decide +kernel
theorem dX3_isOnWall_20 : decode cX3_isOnWall 20 = .ok (.iload 5, 2) := by decide +kernel
theorem dX3_isOnWall_22 : decode cX3_isOnWall 22 = .ok (.ifCond .eq 7, 3) := by decide +kernel
theorem dX3_isOnWall_25 : decode cX3_isOnWall 25 = .ok (.iconst 1, 1) := by decide +kernel
theorem dX3_isOnWall_26 : decode cX3_isOnWall 26 = .ok (.goto 4, 3) := by decide +kernel
theorem dX3_isOnWall_29 : decode cX3_isOnWall 29 = .ok (.iconst 0, 1) := by decide +kernel
theorem dX3_isOnWall_30 : decode cX3_isOnWall 30 = .ok (.invokevirtual 51, 3) := by decide +kernel
theorem dX3_isOnWall_33 : decode cX3_isOnWall 33 = .ok (.imul, 1) := by decide +kernel
theorem dX3_isOnWall_34 : decode cX3_isOnWall 34 = .ok (.iload 5, 2) := by decide +kernel
theorem dX3_isOnWall_36 : decode cX3_isOnWall 36 = .ok (.ifCond .eq 10, 3) := by decide +kernel
theorem dX3_isOnWall_39 : decode cX3_isOnWall 39 = .ok (.aload_n 0, 1) := by decide +kernel
theorem dX3_isOnWall_40 : decode cX3_isOnWall 40 = .ok (.getfield 28, 3) := by decide +kernel
theorem dX3_isOnWall_43 : decode cX3_isOnWall 43 = .ok (.goto 7, 3) := by decide +kernel
theorem dX3_isOnWall_46 : decode cX3_isOnWall 46 = .ok (.aload_n 0, 1) := by decide +kernel
theorem dX3_isOnWall_47 : decode cX3_isOnWall 47 = .ok (.getfield 24, 3) := by decide +kernel
theorem dX3_isOnWall_50 : decode cX3_isOnWall 50 = .ok (.isub, 1) := by decide +kernel
theorem dX3_isOnWall_51 : decode cX3_isOnWall 51 = .ok (.istore 6, 2) := by decide +kernel
theorem dX3_isOnWall_53 : decode cX3_isOnWall 53 = .ok (.iload 6, 2) := by decide +kernel
theorem dX3_isOnWall_55 : decode cX3_isOnWall 55 = .ok (.iconst 2, 1) := by decide +kernel
theorem dX3_isOnWall_56 : decode cX3_isOnWall 56 = .ok (.aload_n 1, 1) := by decide +kernel
theorem dX3_isOnWall_57 : decode cX3_isOnWall 57 = .ok (.iload_n 2, 1) := by decide +kernel
theorem dX3_isOnWall_58 : decode cX3_isOnWall 58 = .ok (.iconst 2, 1) := by decide +kernel
theorem dX3_isOnWall_59 : decode cX3_isOnWall 59 = .ok (.invokevirtual 51, 3) := by decide +kernel
theorem dX3_isOnWall_62 : decode cX3_isOnWall 62 = .ok (.imul, 1) := by decide +kernel
theorem dX3_isOnWall_63 : decode cX3_isOnWall 63 = .ok (.iadd, 1) := by decide +kernel
theorem dX3_isOnWall_64 : decode cX3_isOnWall 64 = .ok (.istore 7, 2) := by decide +kernel
theorem dX3_isOnWall_66 : decode cX3_isOnWall 66 = .ok (.iload 6, 2) := by decide +kernel
theorem dX3_isOnWall_68 : decode cX3_isOnWall 68 = .ok (.iload 4, 2) := by decide +kernel
theorem dX3_isOnWall_70 : decode cX3_isOnWall 70 = .ok (.imul, 1) := by decide +kernel
theorem dX3_isOnWall_71 : decode cX3_isOnWall 71 = .ok (.iload_n 3, 1) := by decide +kernel
theorem dX3_isOnWall_72 : decode cX3_isOnWall 72 = .ok (.if_icmp .gt 16, 3) := by decide +kernel
theorem dX3_isOnWall_75 : decode cX3_isOnWall 75 = .ok (.iload_n 3, 1) := by decide +kernel
theorem dX3_isOnWall_76 : decode cX3_isOnWall 76 = .ok (.iload 7, 2) := by decide +kernel
theorem dX3_isOnWall_78 : decode cX3_isOnWall 78 = .ok (.iload 4, 2) := by decide +kernel
theorem dX3_isOnWall_80 : decode cX3_isOnWall 80 = .ok (.imul, 1) := by decide +kernel
theorem dX3_isOnWall_81 : decode cX3_isOnWall 81 = .ok (.if_icmp .gt 7, 3) := by decide +kernel
theorem dX3_isOnWall_84 : decode cX3_isOnWall 84 = .ok (.iconst 1, 1) := by decide +kernel
theorem dX3_isOnWall_85 : decode cX3_isOnWall 85 = .ok (.goto 4, 3) := by decide +kernel
theorem dX3_isOnWall_88 : decode cX3_isOnWall 88 = .ok (.iconst 0, 1) := by decide +kernel
theorem dX3_isOnWall_89 : decode cX3_isOnWall 89 = .ok (.ireturn, 1) := by decide +kernel
theorem dX3_measure_0 : decode cX3_measure 0 = .ok (.aload_n 0, 1) := by decide +kernel
theorem dX3_measure_1 : decode cX3_measure 1 = .ok (.iload_n 2, 1) := by decide +kernel
theorem dX3_measure_2 : decode cX3_measure 2 = .ok (.invokevirtual 61, 3) := by decide +kernel
theorem dX3_measure_5 : decode cX3_measure 5 = .ok (.istore 4, 2) := by decide +kernel
theorem dX3_measure_7 : decode cX3_measure 7 = .ok (.aload_n 1, 1) := by decide +kernel
theorem dX3_measure_8 : decode cX3_measure 8 = .ok (.iload_n 3, 1) := by decide +kernel
theorem dX3_measure_9 : decode cX3_measure 9 = .ok (.iconst 3, 1) := by decide +kernel
theorem dX3_measure_10 : decode cX3_measure 10 = .ok (.invokevirtual 51, 3) := by decide +kernel
theorem dX3_measure_13 : decode cX3_measure 13 = .ok (.iconst 1, 1) := by decide +kernel
theorem dX3_measure_14 : decode cX3_measure 14 = .ok (.if_icmp .ne 7, 3) := by decide +kernel
theorem dX3_measure_17 : decode cX3_measure 17 = .ok (.iconst 1, 1) := by decide +kernel
theorem dX3_measure_18 : decode cX3_measure 18 = .ok (.goto 4, 3) := by decide +kernel
theorem dX3_measure_21 : decode cX3_measure 21 = .ok (.iconst 0, 1) := by decide +kernel
theorem dX3_measure_22 : decode cX3_measure 22 = .ok (.istore 5, 2) := by decide +kernel
theorem dX3_measure_24 : decode cX3_measure 24 = .ok (.aload_n 0, 1) := by decide +kernel
theorem dX3_measure_25 : decode cX3_measure 25 = .ok (.getfield 9, 3) := by decide +kernel
theorem dX3_measure_28 : decode cX3_measure 28 = .ok (.iload_n 2, 1) := by decide +kernel
theorem dX3_measure_29 : decode cX3_measure 29 = .ok (.iaload, 1) := by decide +kernel
theorem dX3_measure_30 : decode cX3_measure 30 = .ok (.aload_n 0, 1) := by decide +kernel
theorem dX3_measure_31 : decode cX3_measure 31 = .ok (.getfield 15, 3) := by decide +kernel
theorem dX3_measure_34 : decode cX3_measure 34 = .ok (.iload 4, 2) := by decide +kernel
theorem dX3_measure_36 : decode cX3_measure 36 = .ok (.iaload, 1) := by decide +kernel
theorem dX3_measure_37 : decode cX3_measure 37 = .ok (.imul, 1) := by decide +kernel
theorem dX3_measure_38 : decode cX3_measure 38 = .ok (.aload_n 0, 1) := by decide +kernel
theorem dX3_measure_39 : decode cX3_measure 39 = .ok (.getfield 15, 3) := by decide +kernel
theorem dX3_measure_42 : decode cX3_measure 42 = .ok (.iload_n 2, 1) := by decide +kernel
theorem dX3_measure_43 : decode cX3_measure 43 = .ok (.iaload, 1) := by decide +kernel
theorem dX3_measure_44 : decode cX3_measure 44 = .ok (.aload_n 0, 1) := by decide +kernel
theorem dX3_measure_45 : decode cX3_measure 45 = .ok (.getfield 9, 3) := by decide +kernel
theorem dX3_measure_48 : decode cX3_measure 48 = .ok (.iload 4, 2) := by decide +kernel
theorem dX3_measure_50 : decode cX3_measure 50 = .ok (.iaload, 1) := by decide +kernel
theorem dX3_measure_51 : decode cX3_measure 51 = .ok (.imul, 1) := by decide +kernel
theorem dX3_measure_52 : decode cX3_measure 52 = .ok (.isub, 1) := by decide +kernel
theorem dX3_measure_53 : decode cX3_measure 53 = .ok (.istore 6, 2) := by decide +kernel
theorem dX3_measure_55 : decode cX3_measure 55 = .ok (.aload_n 0, 1) := by decide +kernel
theorem dX3_measure_56 : decode cX3_measure 56 = .ok (.aload_n 1, 1) := by decide +kernel
theorem dX3_measure_57 : decode cX3_measure 57 = .ok (.iload_n 3, 1) := by decide +kernel
theorem dX3_measure_58 : decode cX3_measure 58 = .ok (.invokevirtual 70, 3) := by decide +kernel
theorem dX3_measure_61 : decode cX3_measure 61 = .ok (.istore 7, 2) := by decide +kernel
theorem dX3_measure_63 : decode cX3_measure 63 = .ok (.iload 5, 2) := by decide +kernel
theorem dX3_measure_65 : decode cX3_measure 65 = .ok (.ifCond .eq 20, 3) := by decide +kernel
theorem dX3_measure_68 : decode cX3_measure 68 = .ok (.aload_n 0, 1) := by decide +kernel
theorem dX3_measure_69 : decode cX3_measure 69 = .ok (.getfield 9, 3) := by decide +kernel
theorem dX3_measure_72 : decode cX3_measure 72 = .ok (.iload_n 2, 1) := by decide +kernel
theorem dX3_measure_73 : decode cX3_measure 73 = .ok (.iaload, 1) := by decide +kernel
theorem dX3_measure_74 : decode cX3_measure 74 = .ok (.aload_n 0, 1) := by decide +kernel
theorem dX3_measure_75 : decode cX3_measure 75 = .ok (.getfield 9, 3) := by decide +kernel
theorem dX3_measure_78 : decode cX3_measure 78 = .ok (.iload 4, 2) := by decide +kernel
theorem dX3_measure_80 : decode cX3_measure 80 = .ok (.iaload, 1) := by decide +kernel
theorem dX3_measure_81 : decode cX3_measure 81 = .ok (.imul, 1) := by decide +kernel
theorem dX3_measure_82 : decode cX3_measure 82 = .ok (.goto 17, 3) := by decide +kernel
theorem dX3_measure_85 : decode cX3_measure 85 = .ok (.aload_n 0, 1) := by decide +kernel
theorem dX3_measure_86 : decode cX3_measure 86 = .ok (.getfield 15, 3) := by decide +kernel
theorem dX3_measure_89 : decode cX3_measure 89 = .ok (.iload_n 2, 1) := by decide +kernel
theorem dX3_measure_90 : decode cX3_measure 90 = .ok (.iaload, 1) := by decide +kernel
theorem dX3_measure_91 : decode cX3_measure 91 = .ok (.aload_n 0, 1) := by decide +kernel
theorem dX3_measure_92 : decode cX3_measure 92 = .ok (.getfield 15, 3) := by decide +kernel
theorem dX3_measure_95 : decode cX3_measure 95 = .ok (.iload 4, 2) := by decide +kernel
theorem dX3_measure_97 : decode cX3_measure 97 = .ok (.iaload, 1) := by decide +kernel
theorem dX3_measure_98 : decode cX3_measure 98 = .ok (.imul, 1) := by decide +kernel
theorem dX3_measure_99 : decode cX3_measure 99 = .ok (.istore 8, 2) := by decide +kernel
theorem dX3_measure_101 : decode cX3_measure 101 = .ok (.iload 6, 2) := by decide +kernel
theorem dX3_measure_103 : decode cX3_measure 103 = .ok (.iload 7, 2) := by decide +kernel
theorem dX3_measure_105 : decode cX3_measure 105 = .ok (.imul, 1) := by decide +kernel
theorem dX3_measure_106 : decode cX3_measure 106 = .ok (.iload 7, 2) := by decide +kernel
theorem dX3_measure_108 : decode cX3_measure 108 = .ok (.imul, 1) := by decide +kernel
theorem dX3_measure_109 : decode cX3_measure 109 = .ok (.istore 9, 2) := by decide +kernel
theorem dX3_measure_111 : decode cX3_measure 111 = .ok (.bipush 8, 2) := by decide +kernel
theorem dX3_measure_113 : decode cX3_measure 113 = .ok (.iload 8, 2) := by decide +kernel
theorem dX3_measure_115 : decode cX3_measure 115 = .ok (.invokestatic 65, 3) := by decide +kernel
theorem dX3_measure_118 : decode cX3_measure 118 = .ok (.imul, 1) := by decide +kernel
theorem dX3_measure_119 : decode cX3_measure 119 = .ok (.istore 10, 2) := by decide +kernel
theorem dX3_measure_121 : decode cX3_measure 121 = .ok (.iload 9, 2) := by decide +kernel
theorem dX3_measure_123 : decode cX3_measure 123 = .ok (.iload 10, 2) := by decide +kernel
theorem dX3_measure_125 : decode cX3_measure 125 = .ok (.invokestatic 54, 3) := by decide +kernel
theorem dX3_measure_128 : decode cX3_measure 128 = .ok (.istore 11, 2) := by decide +kernel
theorem dX3_measure_130 : decode cX3_measure 130 = .ok (.aload_n 0, 1) := by decide +kernel
theorem dX3_measure_131 : decode cX3_measure 131 = .ok (.iload 11, 2) := by decide +kernel
theorem dX3_measure_133 : decode cX3_measure 133 = .ok (.ifCond .le 11, 3) := by decide +kernel
theorem dX3_measure_136 : decode cX3_measure 136 = .ok (.iload 9, 2) := by decide +kernel
theorem dX3_measure_138 : decode cX3_measure 138 = .ok (.iload 11, 2) := by decide +kernel
theorem dX3_measure_140 : decode cX3_measure 140 = .ok (.idiv, 1) := by decide +kernel
theorem dX3_measure_141 : decode cX3_measure 141 = .ok (.goto 5, 3) := by decide +kernel
theorem dX3_measure_144 : decode cX3_measure 144 = .ok (.iload 9, 2) := by decide +kernel
theorem dX3_measure_146 : decode cX3_measure 146 = .ok (.putfield 78, 3) := by decide +kernel
theorem dX3_measure_149 : decode cX3_measure 149 = .ok (.aload_n 0, 1) := by decide +kernel
theorem dX3_measure_150 : decode cX3_measure 150 = .ok (.iload 11, 2) := by decide +kernel
theorem dX3_measure_152 : decode cX3_measure 152 = .ok (.ifCond .le 11, 3) := by decide +kernel
theorem dX3_measure_155 : decode cX3_measure 155 = .ok (.iload 10, 2) := by decide +kernel
theorem dX3_measure_157 : decode cX3_measure 157 = .ok (.iload 11, 2) := by decide +kernel
theorem dX3_measure_159 : decode cX3_measure 159 = .ok (.idiv, 1) := by decide +kernel
theorem dX3_measure_160 : decode cX3_measure 160 = .ok (.goto 5, 3) := by decide +kernel
theorem dX3_measure_163 : decode cX3_measure 163 = .ok (.iload 10, 2) := by decide +kernel
theorem dX3_measure_165 : decode cX3_measure 165 = .ok (.putfield 81, 3) := by decide +kernel
theorem dX3_measure_168 : decode cX3_measure 168 = .ok (.return_, 1) := by decide +kernel
theorem dX3_commonDivisor_0 : decode cX3_commonDivisor 0 = .ok (.iload_n 0, 1) := by decide +kernel
theorem dX3_commonDivisor_1 : decode cX3_commonDivisor 1 = .ok (.invokestatic 65, 3) := by decide +kernel
theorem dX3_commonDivisor_4 : decode cX3_commonDivisor 4 = .ok (.istore_n 2, 1) := by decide +kernel
theorem dX3_commonDivisor_5 : decode cX3_commonDivisor 5 = .ok (.iload_n 1, 1) := by decide +kernel
theorem dX3_commonDivisor_6 : decode cX3_commonDivisor 6 = .ok (.invokestatic 65, 3) := by decide +kernel
theorem dX3_commonDivisor_9 : decode cX3_commonDivisor 9 = .ok (.istore_n 3, 1) := by decide +kernel
theorem dX3_commonDivisor_10 : decode cX3_commonDivisor 10 = .ok (.iconst 0, 1) := by decide +kernel
theorem dX3_commonDivisor_11 : decode cX3_commonDivisor 11 = .ok (.istore 4, 2) := by decide +kernel
theorem dX3_commonDivisor_13 : decode cX3_commonDivisor 13 = .ok (.iload 4, 2) := by decide +kernel
theorem dX3_commonDivisor_15 : decode cX3_commonDivisor 15 = .ok (.bipush 50, 2) := by decide +kernel
theorem dX3_commonDivisor_17 : decode cX3_commonDivisor 17 = .ok (.if_icmp .ge 23, 3) := by decide +kernel
theorem dX3_commonDivisor_20 : decode cX3_commonDivisor 20 = .ok (.iload_n 3, 1) := by decide +kernel
theorem dX3_commonDivisor_21 : decode cX3_commonDivisor 21 = .ok (.ifCond .eq 19, 3) := by decide +kernel
theorem dX3_commonDivisor_24 : decode cX3_commonDivisor 24 = .ok (.iload_n 2, 1) := by decide +kernel
theorem dX3_commonDivisor_25 : decode cX3_commonDivisor 25 = .ok (.iload_n 3, 1) := by decide +kernel
theorem dX3_commonDivisor_26 : decode cX3_commonDivisor 26 = .ok (.irem, 1) := by decide +kernel
theorem dX3_commonDivisor_27 : decode cX3_commonDivisor 27 = .ok (.istore 5, 2) := by decide +kernel
theorem dX3_commonDivisor_29 : decode cX3_commonDivisor 29 = .ok (.iload_n 3, 1) := by decide +kernel
theorem dX3_commonDivisor_30 : decode cX3_commonDivisor 30 = .ok (.istore_n 2, 1) := by decide +kernel
theorem dX3_commonDivisor_31 : decode cX3_commonDivisor 31 = .ok (.iload 5, 2) := by decide +kernel
theorem dX3_commonDivisor_33 : decode cX3_commonDivisor 33 = .ok (.istore_n 3, 1) := by decide +kernel
theorem dX3_commonDivisor_34 : decode cX3_commonDivisor 34 = .ok (.iinc 4 1, 3) := by decide +kernel
theorem dX3_commonDivisor_37 : decode cX3_commonDivisor 37 = .ok (.goto (-24), 3) := by decide +kernel
theorem dX3_commonDivisor_40 : decode cX3_commonDivisor 40 = .ok (.iload_n 2, 1) := by decide +kernel
theorem dX3_commonDivisor_41 : decode cX3_commonDivisor 41 = .ok (.ireturn, 1) := by decide +kernel
theorem dX4_init_0 : decode cX4_init 0 = .ok (.aload_n 0, 1) := by decide +kernel
theorem dX4_init_1 : decode cX4_init 1 = .ok (.invokespecial 3, 3) := by decide +kernel
theorem dX4_init_4 : decode cX4_init 4 = .ok (.aload_n 0, 1) := by decide +kernel
theorem dX4_init_5 : decode cX4_init 5 = .ok (.bipush 120, 2) := by decide +kernel
theorem dX4_init_7 : decode cX4_init 7 = .ok (.newarray .char, 2) := by decide +kernel
theorem dX4_init_9 : decode cX4_init 9 = .ok (.putfield 9, 3) := by decide +kernel
theorem dX4_init_12 : decode cX4_init 12 = .ok (.return_, 1) := by decide +kernel
theorem dX4_add_0 : decode cX4_add 0 = .ok (.aload_n 0, 1) := by decide +kernel
theorem dX4_add_1 : decode cX4_add 1 = .ok (.getfield 15, 3) := by decide +kernel
theorem dX4_add_4 : decode cX4_add 4 = .ok (.bipush 120, 2) := by decide +kernel
theorem dX4_add_6 : decode cX4_add 6 = .ok (.if_icmp .ge 23, 3) := by decide +kernel
theorem dX4_add_9 : decode cX4_add 9 = .ok (.aload_n 0, 1) := by decide +kernel
theorem dX4_add_10 : decode cX4_add 10 = .ok (.getfield 9, 3) := by decide +kernel
theorem dX4_add_13 : decode cX4_add 13 = .ok (.aload_n 0, 1) := by decide +kernel
theorem dX4_add_14 : decode cX4_add 14 = .ok (.getfield 15, 3) := by decide +kernel
theorem dX4_add_17 : decode cX4_add 17 = .ok (.iload_n 1, 1) := by decide +kernel
theorem dX4_add_18 : decode cX4_add 18 = .ok (.castore, 1) := by decide +kernel
theorem dX4_add_19 : decode cX4_add 19 = .ok (.aload_n 0, 1) := by decide +kernel
theorem dX4_add_20 : decode cX4_add 20 = .ok (.dup, 1) := by decide +kernel
theorem dX4_add_21 : decode cX4_add 21 = .ok (.getfield 15, 3) := by decide +kernel
theorem dX4_add_24 : decode cX4_add 24 = .ok (.iconst 1, 1) := by decide +kernel
theorem dX4_add_25 : decode cX4_add 25 = .ok (.iadd, 1) := by decide +kernel
theorem dX4_add_26 : decode cX4_add 26 = .ok (.putfield 15, 3) := by decide +kernel
theorem dX4_add_29 : decode cX4_add 29 = .ok (.return_, 1) := by decide +kernel
theorem dX4_tell_0 : decode cX4_tell 0 = .ok (.aload_n 1, 1) := by decide +kernel
theorem dX4_tell_1 : decode cX4_tell 1 = .ok (.bipush 6, 2) := by decide +kernel
theorem dX4_tell_3 : decode cX4_tell 3 = .ok (.bipush 6, 2) := by decide +kernel
theorem dX4_tell_5 : decode cX4_tell 5 = .ok (.invokevirtual 19, 3) := by decide +kernel
theorem dX4_tell_8 : decode cX4_tell 8 = .ok (.aload_n 0, 1) := by decide +kernel
theorem dX4_tell_9 : decode cX4_tell 9 = .ok (.iconst 0, 1) := by decide +kernel
theorem dX4_tell_10 : decode cX4_tell 10 = .ok (.putfield 25, 3) := by decide +kernel
theorem dX4_tell_13 : decode cX4_tell 13 = .ok (.iconst 0, 1) := by decide +kernel
theorem dX4_tell_14 : decode cX4_tell 14 = .ok (.istore_n 2, 1) := by decide +kernel
theorem dX4_tell_15 : decode cX4_tell 15 = .ok (.iload_n 2, 1) := by decide +kernel
theorem dX4_tell_16 : decode cX4_tell 16 = .ok (.bipush 120, 2) := by decide +kernel
theorem dX4_tell_18 : decode cX4_tell 18 = .ok (.if_icmp .gt 40, 3) := by decide +kernel
theorem dX4_tell_21 : decode cX4_tell 21 = .ok (.aload_n 0, 1) := by decide +kernel
theorem dX4_tell_22 : decode cX4_tell 22 = .ok (.invokevirtual 28, 3) := by decide +kernel
theorem dX4_tell_25 : decode cX4_tell 25 = .ok (.aload_n 0, 1) := by decide +kernel
theorem dX4_tell_26 : decode cX4_tell 26 = .ok (.getfield 31, 3) := by decide +kernel
theorem dX4_tell_29 : decode cX4_tell 29 = .ok (.iconst (-1), 1) := by decide +kernel
theorem dX4_tell_30 : decode cX4_tell 30 = .ok (.if_icmp .ne 5, 3) := by decide +kernel
theorem dX4_tell_33 : decode cX4_tell 33 = .ok (.iload_n 2, 1) := by decide +kernel
theorem dX4_tell_34 : decode cX4_tell 34 = .ok (.ireturn, 1) := by decide +kernel
theorem dX4_tell_35 : decode cX4_tell 35 = .ok (.aload_n 0, 1) := by decide +kernel
theorem dX4_tell_36 : decode cX4_tell 36 = .ok (.aload_n 1, 1) := by decide +kernel
theorem dX4_tell_37 : decode cX4_tell 37 = .ok (.iload_n 2, 1) := by decide +kernel
theorem dX4_tell_38 : decode cX4_tell 38 = .ok (.invokevirtual 34, 3) := by decide +kernel
theorem dX4_tell_41 : decode cX4_tell 41 = .ok (.ifCond .ne 11, 3) := by decide +kernel
theorem dX4_tell_44 : decode cX4_tell 44 = .ok (.bipush (-10), 2) := by decide +kernel
theorem dX4_tell_46 : decode cX4_tell 46 = .ok (.aload_n 0, 1) := by decide +kernel
theorem dX4_tell_47 : decode cX4_tell 47 = .ok (.getfield 38, 3) := by decide +kernel
theorem dX4_tell_50 : decode cX4_tell 50 = .ok (.isub, 1) := by decide +kernel
theorem dX4_tell_51 : decode cX4_tell 51 = .ok (.ireturn, 1) := by decide +kernel
theorem dX4_tell_52 : decode cX4_tell 52 = .ok (.iinc 2 1, 3) := by decide +kernel
theorem dX4_tell_55 : decode cX4_tell 55 = .ok (.goto (-40), 3) := by decide +kernel
theorem dX4_tell_58 : decode cX4_tell 58 = .ok (.bipush (-10), 2) := by decide +kernel
theorem dX4_tell_60 : decode cX4_tell 60 = .ok (.aload_n 0, 1) := by decide +kernel
theorem dX4_tell_61 : decode cX4_tell 61 = .ok (.getfield 38, 3) := by decide +kernel
theorem dX4_tell_64 : decode cX4_tell 64 = .ok (.isub, 1) := by decide +kernel
theorem dX4_tell_65 : decode cX4_tell 65 = .ok (.ireturn, 1) := by decide +kernel
theorem dX4_readItem_0 : decode cX4_readItem 0 = .ok (.aload_n 0, 1) := by decide +kernel
theorem dX4_readItem_1 : decode cX4_readItem 1 = .ok (.getfield 31, 3) := by decide +kernel
theorem dX4_readItem_4 : decode cX4_readItem 4 = .ok (.lookupswitch 133 #[(98, 44), (108, 110), (114, 62), (117, 86)], 44) := by decide +kernel
theorem dX4_readItem_48 : decode cX4_readItem 48 = .ok (.iload_n 2, 1) := by decide +kernel
theorem dX4_readItem_49 : decode cX4_readItem 49 = .ok (.ifCond .ne 15, 3) := by decide +kernel
theorem dX4_readItem_52 : decode cX4_readItem 52 = .ok (.aload_n 0, 1) := by decide +kernel
theorem dX4_readItem_53 : decode cX4_readItem 53 = .ok (.aload_n 1, 1) := by decide +kernel
theorem dX4_readItem_54 : decode cX4_readItem 54 = .ok (.invokevirtual 41, 3) := by decide +kernel
theorem dX4_readItem_57 : decode cX4_readItem 57 = .ok (.ifCond .eq 7, 3) := by decide +kernel
theorem dX4_readItem_60 : decode cX4_readItem 60 = .ok (.iconst 1, 1) := by decide +kernel
theorem dX4_readItem_61 : decode cX4_readItem 61 = .ok (.goto 4, 3) := by decide +kernel
theorem dX4_readItem_64 : decode cX4_readItem 64 = .ok (.iconst 0, 1) := by decide +kernel
theorem dX4_readItem_65 : decode cX4_readItem 65 = .ok (.ireturn, 1) := by decide +kernel
theorem dX4_readItem_66 : decode cX4_readItem 66 = .ok (.aload_n 1, 1) := by decide +kernel
theorem dX4_readItem_67 : decode cX4_readItem 67 = .ok (.getfield 45, 3) := by decide +kernel
theorem dX4_readItem_70 : decode cX4_readItem 70 = .ok (.bipush 14, 2) := by decide +kernel
theorem dX4_readItem_72 : decode cX4_readItem 72 = .ok (.if_icmp .ge 16, 3) := by decide +kernel
theorem dX4_readItem_75 : decode cX4_readItem 75 = .ok (.aload_n 0, 1) := by decide +kernel
theorem dX4_readItem_76 : decode cX4_readItem 76 = .ok (.aload_n 1, 1) := by decide +kernel
theorem dX4_readItem_77 : decode cX4_readItem 77 = .ok (.iconst 0, 1) := by decide +kernel
theorem dX4_readItem_78 : decode cX4_readItem 78 = .ok (.invokevirtual 48, 3) := by decide +kernel
theorem dX4_readItem_81 : decode cX4_readItem 81 = .ok (.ifCond .eq 7, 3) := by decide +kernel
theorem dX4_readItem_84 : decode cX4_readItem 84 = .ok (.iconst 1, 1) := by decide +kernel
theorem dX4_readItem_85 : decode cX4_readItem 85 = .ok (.goto 4, 3) := by decide +kernel
theorem dX4_readItem_88 : decode cX4_readItem 88 = .ok (.iconst 0, 1) := by decide +kernel
theorem dX4_readItem_89 : decode cX4_readItem 89 = .ok (.ireturn, 1) := by decide +kernel
theorem dX4_readItem_90 : decode cX4_readItem 90 = .ok (.aload_n 1, 1) := by decide +kernel
theorem dX4_readItem_91 : decode cX4_readItem 91 = .ok (.getfield 45, 3) := by decide +kernel
theorem dX4_readItem_94 : decode cX4_readItem 94 = .ok (.bipush 14, 2) := by decide +kernel
theorem dX4_readItem_96 : decode cX4_readItem 96 = .ok (.if_icmp .ge 16, 3) := by decide +kernel
theorem dX4_readItem_99 : decode cX4_readItem 99 = .ok (.aload_n 0, 1) := by decide +kernel
theorem dX4_readItem_100 : decode cX4_readItem 100 = .ok (.aload_n 1, 1) := by decide +kernel
theorem dX4_readItem_101 : decode cX4_readItem 101 = .ok (.iconst 1, 1) := by decide +kernel
theorem dX4_readItem_102 : decode cX4_readItem 102 = .ok (.invokevirtual 48, 3) := by decide +kernel
theorem dX4_readItem_105 : decode cX4_readItem 105 = .ok (.ifCond .eq 7, 3) := by decide +kernel
theorem dX4_readItem_108 : decode cX4_readItem 108 = .ok (.iconst 1, 1) := by decide +kernel
theorem dX4_readItem_109 : decode cX4_readItem 109 = .ok (.goto 4, 3) := by decide +kernel
theorem dX4_readItem_112 : decode cX4_readItem 112 = .ok (.iconst 0, 1) := by decide +kernel
theorem dX4_readItem_113 : decode cX4_readItem 113 = .ok (.ireturn, 1) := by decide +kernel
theorem dX4_readItem_114 : decode cX4_readItem 114 = .ok (.aload_n 1, 1) := by decide +kernel
theorem dX4_readItem_115 : decode cX4_readItem 115 = .ok (.getfield 51, 3) := by decide +kernel
theorem dX4_readItem_118 : decode cX4_readItem 118 = .ok (.bipush 8, 2) := by decide +kernel
theorem dX4_readItem_120 : decode cX4_readItem 120 = .ok (.if_icmp .ge 15, 3) := by decide +kernel
theorem dX4_readItem_123 : decode cX4_readItem 123 = .ok (.aload_n 0, 1) := by decide +kernel
theorem dX4_readItem_124 : decode cX4_readItem 124 = .ok (.aload_n 1, 1) := by decide +kernel
theorem dX4_readItem_125 : decode cX4_readItem 125 = .ok (.invokevirtual 54, 3) := by decide +kernel
theorem dX4_readItem_128 : decode cX4_readItem 128 = .ok (.ifCond .eq 7, 3) := by decide +kernel
theorem dX4_readItem_131 : decode cX4_readItem 131 = .ok (.iconst 1, 1) := by decide +kernel
theorem dX4_readItem_132 : decode cX4_readItem 132 = .ok (.goto 4, 3) := by decide +kernel
theorem dX4_readItem_135 : decode cX4_readItem 135 = .ok (.iconst 0, 1) := by decide +kernel
theorem dX4_readItem_136 : decode cX4_readItem 136 = .ok (.ireturn, 1) := by decide +kernel
theorem dX4_readItem_137 : decode cX4_readItem 137 = .ok (.iconst 0, 1) := by decide +kernel
theorem dX4_readItem_138 : decode cX4_readItem 138 = .ok (.ireturn, 1) := by decide +kernel
theorem dX4_readSize_0 : decode cX4_readSize 0 = .ok (.aload_n 0, 1) := by decide +kernel
theorem dX4_readSize_1 : decode cX4_readSize 1 = .ok (.iconst 2, 1) := by decide +kernel
theorem dX4_readSize_2 : decode cX4_readSize 2 = .ok (.bipush 9, 2) := by decide +kernel
theorem dX4_readSize_4 : decode cX4_readSize 4 = .ok (.invokevirtual 57, 3) := by decide +kernel
theorem dX4_readSize_7 : decode cX4_readSize 7 = .ok (.ifCond .ne 5, 3) := by decide +kernel
theorem dX4_readSize_10 : decode cX4_readSize 10 = .ok (.iconst 0, 1) := by decide +kernel
theorem dX4_readSize_11 : decode cX4_readSize 11 = .ok (.ireturn, 1) := by decide +kernel
theorem dX4_readSize_12 : decode cX4_readSize 12 = .ok (.aload_n 0, 1) := by decide +kernel
theorem dX4_readSize_13 : decode cX4_readSize 13 = .ok (.getfield 61, 3) := by decide +kernel
theorem dX4_readSize_16 : decode cX4_readSize 16 = .ok (.istore_n 2, 1) := by decide +kernel
theorem dX4_readSize_17 : decode cX4_readSize 17 = .ok (.aload_n 0, 1) := by decide +kernel
theorem dX4_readSize_18 : decode cX4_readSize 18 = .ok (.iconst 2, 1) := by decide +kernel
theorem dX4_readSize_19 : decode cX4_readSize 19 = .ok (.bipush 9, 2) := by decide +kernel
theorem dX4_readSize_21 : decode cX4_readSize 21 = .ok (.invokevirtual 57, 3) := by decide +kernel
theorem dX4_readSize_24 : decode cX4_readSize 24 = .ok (.ifCond .ne 5, 3) := by decide +kernel
theorem dX4_readSize_27 : decode cX4_readSize 27 = .ok (.iconst 0, 1) := by decide +kernel
theorem dX4_readSize_28 : decode cX4_readSize 28 = .ok (.ireturn, 1) := by decide +kernel
theorem dX4_readSize_29 : decode cX4_readSize 29 = .ok (.aload_n 1, 1) := by decide +kernel
theorem dX4_readSize_30 : decode cX4_readSize 30 = .ok (.iload_n 2, 1) := by decide +kernel
theorem dX4_readSize_31 : decode cX4_readSize 31 = .ok (.aload_n 0, 1) := by decide +kernel
theorem dX4_readSize_32 : decode cX4_readSize 32 = .ok (.getfield 61, 3) := by decide +kernel
theorem dX4_readSize_35 : decode cX4_readSize 35 = .ok (.invokevirtual 19, 3) := by decide +kernel
theorem dX4_readSize_38 : decode cX4_readSize 38 = .ok (.aload_n 0, 1) := by decide +kernel
theorem dX4_readSize_39 : decode cX4_readSize 39 = .ok (.invokevirtual 64, 3) := by decide +kernel
theorem dX4_readSize_42 : decode cX4_readSize 42 = .ok (.ireturn, 1) := by decide +kernel
theorem dX4_readWall_0 : decode cX4_readWall 0 = .ok (.aload_n 0, 1) := by decide +kernel
theorem dX4_readWall_1 : decode cX4_readWall 1 = .ok (.iconst 0, 1) := by decide +kernel
theorem dX4_readWall_2 : decode cX4_readWall 2 = .ok (.iload_n 2, 1) := by decide +kernel
theorem dX4_readWall_3 : decode cX4_readWall 3 = .ok (.iconst 1, 1) := by decide +kernel
theorem dX4_readWall_4 : decode cX4_readWall 4 = .ok (.if_icmp .ne 10, 3) := by decide +kernel
theorem dX4_readWall_7 : decode cX4_readWall 7 = .ok (.aload_n 1, 1) := by decide +kernel
theorem dX4_readWall_8 : decode cX4_readWall 8 = .ok (.getfield 68, 3) := by decide +kernel
theorem dX4_readWall_11 : decode cX4_readWall 11 = .ok (.goto 9, 3) := by decide +kernel
theorem dX4_readWall_14 : decode cX4_readWall 14 = .ok (.aload_n 1, 1) := by decide +kernel
theorem dX4_readWall_15 : decode cX4_readWall 15 = .ok (.getfield 68, 3) := by decide +kernel
theorem dX4_readWall_18 : decode cX4_readWall 18 = .ok (.iconst 1, 1) := by decide +kernel
theorem dX4_readWall_19 : decode cX4_readWall 19 = .ok (.isub, 1) := by decide +kernel
theorem dX4_readWall_20 : decode cX4_readWall 20 = .ok (.invokevirtual 57, 3) := by decide +kernel
theorem dX4_readWall_23 : decode cX4_readWall 23 = .ok (.ifCond .ne 5, 3) := by decide +kernel
theorem dX4_readWall_26 : decode cX4_readWall 26 = .ok (.iconst 0, 1) := by decide +kernel
theorem dX4_readWall_27 : decode cX4_readWall 27 = .ok (.ireturn, 1) := by decide +kernel
theorem dX4_readWall_28 : decode cX4_readWall 28 = .ok (.aload_n 0, 1) := by decide +kernel
theorem dX4_readWall_29 : decode cX4_readWall 29 = .ok (.getfield 61, 3) := by decide +kernel
theorem dX4_readWall_32 : decode cX4_readWall 32 = .ok (.istore_n 3, 1) := by decide +kernel
theorem dX4_readWall_33 : decode cX4_readWall 33 = .ok (.aload_n 0, 1) := by decide +kernel
theorem dX4_readWall_34 : decode cX4_readWall 34 = .ok (.iconst 0, 1) := by decide +kernel
theorem dX4_readWall_35 : decode cX4_readWall 35 = .ok (.iload_n 2, 1) := by decide +kernel
theorem dX4_readWall_36 : decode cX4_readWall 36 = .ok (.iconst 1, 1) := by decide +kernel
theorem dX4_readWall_37 : decode cX4_readWall 37 = .ok (.if_icmp .ne 12, 3) := by decide +kernel
theorem dX4_readWall_40 : decode cX4_readWall 40 = .ok (.aload_n 1, 1) := by decide +kernel
theorem dX4_readWall_41 : decode cX4_readWall 41 = .ok (.getfield 71, 3) := by decide +kernel
theorem dX4_readWall_44 : decode cX4_readWall 44 = .ok (.iconst 1, 1) := by decide +kernel
theorem dX4_readWall_45 : decode cX4_readWall 45 = .ok (.isub, 1) := by decide +kernel
theorem dX4_readWall_46 : decode cX4_readWall 46 = .ok (.goto 7, 3) := by decide +kernel
theorem dX4_readWall_49 : decode cX4_readWall 49 = .ok (.aload_n 1, 1) := by decide +kernel
theorem dX4_readWall_50 : decode cX4_readWall 50 = .ok (.getfield 71, 3) := by decide +kernel
theorem dX4_readWall_53 : decode cX4_readWall 53 = .ok (.invokevirtual 57, 3) := by decide +kernel
theorem dX4_readWall_56 : decode cX4_readWall 56 = .ok (.ifCond .ne 5, 3) := by decide +kernel
theorem dX4_readWall_59 : decode cX4_readWall 59 = .ok (.iconst 0, 1) := by decide +kernel
theorem dX4_readWall_60 : decode cX4_readWall 60 = .ok (.ireturn, 1) := by decide +kernel
theorem dX4_readWall_61 : decode cX4_readWall 61 = .ok (.aload_n 0, 1) := by decide +kernel
theorem dX4_readWall_62 : decode cX4_readWall 62 = .ok (.getfield 61, 3) := by decide +kernel
