theorem dX0_init_0 : decode cX0_init 0 = .ok (.aload_n 0, 1) := by decide +kernel
theorem dX0_init_1 : decode cX0_init 1 = .ok (.invokespecial 1, 3) := by decide +kernel
theorem dX0_init_4 : decode cX0_init 4 = .ok (.aload_n 0, 1) := by decide +kernel
theorem dX0_init_5 : decode cX0_init 5 = .ok (.sipush 864, 3) := by decide +kernel
theorem dX0_init_8 : decode cX0_init 8 = .ok (.newarray .int, 2) := by decide +kernel
theorem dX0_init_10 : decode cX0_init 10 = .ok (.putfield 11, 3) := by decide +kernel
theorem dX0_init_13 : decode cX0_init 13 = .ok (.aload_n 0, 1) := by decide +kernel
theorem dX0_init_14 : decode cX0_init 14 = .ok (.iconst 0, 1) := by decide +kernel
theorem dX0_init_15 : decode cX0_init 15 = .ok (.putfield 15, 3) := by decide +kernel
theorem dX0_init_18 : decode cX0_init 18 = .ok (.aload_n 0, 1) := by decide +kernel
theorem dX0_init_19 : decode cX0_init 19 = .ok (.iconst 0, 1) := by decide +kernel
theorem dX0_init_20 : decode cX0_init 20 = .ok (.putfield 19, 3) := by decide +kernel
theorem dX0_init_23 : decode cX0_init 23 = .ok (.return_, 1) := by decide +kernel
theorem dX0_forgetAll_0 : decode cX0_forgetAll 0 = .ok (.aload_n 0, 1) := by decide +kernel
theorem dX0_forgetAll_1 : decode cX0_forgetAll 1 = .ok (.iconst 0, 1) := by decide +kernel
theorem dX0_forgetAll_2 : decode cX0_forgetAll 2 = .ok (.putfield 19, 3) := by decide +kernel
theorem dX0_forgetAll_5 : decode cX0_forgetAll 5 = .ok (.return_, 1) := by decide +kernel
theorem dX0_keep_0 : decode cX0_keep 0 = .ok (.aload_n 1, 1) := by decide +kernel
theorem dX0_keep_1 : decode cX0_keep 1 = .ok (.getfield 22, 3) := by decide +kernel
theorem dX0_keep_4 : decode cX0_keep 4 = .ok (.iconst 0, 1) := by decide +kernel
theorem dX0_keep_5 : decode cX0_keep 5 = .ok (.aload_n 0, 1) := by decide +kernel
theorem dX0_keep_6 : decode cX0_keep 6 = .ok (.getfield 11, 3) := by decide +kernel
theorem dX0_keep_9 : decode cX0_keep 9 = .ok (.aload_n 0, 1) := by decide +kernel
theorem dX0_keep_10 : decode cX0_keep 10 = .ok (.getfield 15, 3) := by decide +kernel
theorem dX0_keep_13 : decode cX0_keep 13 = .ok (.bipush 36, 2) := by decide +kernel
theorem dX0_keep_15 : decode cX0_keep 15 = .ok (.imul, 1) := by decide +kernel
theorem dX0_keep_16 : decode cX0_keep 16 = .ok (.bipush 36, 2) := by decide +kernel
theorem dX0_keep_18 : decode cX0_keep 18 = .ok (.invokestatic 25, 3) := by decide +kernel
theorem dX0_keep_21 : decode cX0_keep 21 = .ok (.aload_n 0, 1) := by decide +kernel
theorem dX0_keep_22 : decode cX0_keep 22 = .ok (.aload_n 0, 1) := by decide +kernel
theorem dX0_keep_23 : decode cX0_keep 23 = .ok (.getfield 15, 3) := by decide +kernel
theorem dX0_keep_26 : decode cX0_keep 26 = .ok (.bipush 23, 2) := by decide +kernel
theorem dX0_keep_28 : decode cX0_keep 28 = .ok (.if_icmp .ne 7, 3) := by decide +kernel
theorem dX0_keep_31 : decode cX0_keep 31 = .ok (.iconst 0, 1) := by decide +kernel
theorem dX0_keep_32 : decode cX0_keep 32 = .ok (.goto 9, 3) := by decide +kernel
theorem dX0_keep_35 : decode cX0_keep 35 = .ok (.aload_n 0, 1) := by decide +kernel
theorem dX0_keep_36 : decode cX0_keep 36 = .ok (.getfield 15, 3) := by decide +kernel
theorem dX0_keep_39 : decode cX0_keep 39 = .ok (.iconst 1, 1) := by decide +kernel
theorem dX0_keep_40 : decode cX0_keep 40 = .ok (.iadd, 1) := by decide +kernel
theorem dX0_keep_41 : decode cX0_keep 41 = .ok (.putfield 15, 3) := by decide +kernel
theorem dX0_keep_44 : decode cX0_keep 44 = .ok (.aload_n 0, 1) := by decide +kernel
theorem dX0_keep_45 : decode cX0_keep 45 = .ok (.aload_n 0, 1) := by decide +kernel
theorem dX0_keep_46 : decode cX0_keep 46 = .ok (.getfield 19, 3) := by decide +kernel
theorem dX0_keep_49 : decode cX0_keep 49 = .ok (.iconst 1, 1) := by decide +kernel
theorem dX0_keep_50 : decode cX0_keep 50 = .ok (.iadd, 1) := by decide +kernel
theorem dX0_keep_51 : decode cX0_keep 51 = .ok (.bipush 24, 2) := by decide +kernel
theorem dX0_keep_53 : decode cX0_keep 53 = .ok (.invokestatic 31, 3) := by decide +kernel
theorem dX0_keep_56 : decode cX0_keep 56 = .ok (.putfield 19, 3) := by decide +kernel
theorem dX0_keep_59 : decode cX0_keep 59 = .ok (.return_, 1) := by decide +kernel
theorem dX0_takeBack_0 : decode cX0_takeBack 0 = .ok (.aload_n 0, 1) := by decide +kernel
theorem dX0_takeBack_1 : decode cX0_takeBack 1 = .ok (.aload_n 0, 1) := by decide +kernel
theorem dX0_takeBack_2 : decode cX0_takeBack 2 = .ok (.getfield 15, 3) := by decide +kernel
theorem dX0_takeBack_5 : decode cX0_takeBack 5 = .ok (.ifCond .ne 8, 3) := by decide +kernel
theorem dX0_takeBack_8 : decode cX0_takeBack 8 = .ok (.bipush 23, 2) := by decide +kernel
theorem dX0_takeBack_10 : decode cX0_takeBack 10 = .ok (.goto 9, 3) := by decide +kernel
theorem dX0_takeBack_13 : decode cX0_takeBack 13 = .ok (.aload_n 0, 1) := by decide +kernel
theorem dX0_takeBack_14 : decode cX0_takeBack 14 = .ok (.getfield 15, 3) := by decide +kernel
theorem dX0_takeBack_17 : decode cX0_takeBack 17 = .ok (.iconst 1, 1) := by decide +kernel
theorem dX0_takeBack_18 : decode cX0_takeBack 18 = .ok (.isub, 1) := by decide +kernel
theorem dX0_takeBack_19 : decode cX0_takeBack 19 = .ok (.putfield 15, 3) := by decide +kernel
theorem dX0_takeBack_22 : decode cX0_takeBack 22 = .ok (.aload_n 0, 1) := by decide +kernel
theorem dX0_takeBack_23 : decode cX0_takeBack 23 = .ok (.dup, 1) := by decide +kernel
theorem dX0_takeBack_24 : decode cX0_takeBack 24 = .ok (.getfield 19, 3) := by decide +kernel
theorem dX0_takeBack_27 : decode cX0_takeBack 27 = .ok (.iconst 1, 1) := by decide +kernel
theorem dX0_takeBack_28 : decode cX0_takeBack 28 = .ok (.isub, 1) := by decide +kernel
theorem dX0_takeBack_29 : decode cX0_takeBack 29 = .ok (.putfield 19, 3) := by decide +kernel
theorem dX0_takeBack_32 : decode cX0_takeBack 32 = .ok (.aload_n 0, 1) := by decide +kernel
theorem dX0_takeBack_33 : decode cX0_takeBack 33 = .ok (.getfield 11, 3) := by decide +kernel
theorem dX0_takeBack_36 : decode cX0_takeBack 36 = .ok (.aload_n 0, 1) := by decide +kernel
theorem dX0_takeBack_37 : decode cX0_takeBack 37 = .ok (.getfield 15, 3) := by decide +kernel
theorem dX0_takeBack_40 : decode cX0_takeBack 40 = .ok (.bipush 36, 2) := by decide +kernel
theorem dX0_takeBack_42 : decode cX0_takeBack 42 = .ok (.imul, 1) := by decide +kernel
theorem dX0_takeBack_43 : decode cX0_takeBack 43 = .ok (.aload_n 1, 1) := by decide +kernel
theorem dX0_takeBack_44 : decode cX0_takeBack 44 = .ok (.getfield 22, 3) := by decide +kernel
theorem dX0_takeBack_47 : decode cX0_takeBack 47 = .ok (.iconst 0, 1) := by decide +kernel
theorem dX0_takeBack_48 : decode cX0_takeBack 48 = .ok (.bipush 36, 2) := by decide +kernel
theorem dX0_takeBack_50 : decode cX0_takeBack 50 = .ok (.invokestatic 25, 3) := by decide +kernel
theorem dX0_takeBack_53 : decode cX0_takeBack 53 = .ok (.return_, 1) := by decide +kernel
theorem dX1_init_0 : decode cX1_init 0 = .ok (.aload_n 0, 1) := by decide +kernel
theorem dX1_init_1 : decode cX1_init 1 = .ok (.invokespecial 1, 3) := by decide +kernel
theorem dX1_init_4 : decode cX1_init 4 = .ok (.aload_n 0, 1) := by decide +kernel
theorem dX1_init_5 : decode cX1_init 5 = .ok (.bipush 16, 2) := by decide +kernel
theorem dX1_init_7 : decode cX1_init 7 = .ok (.newarray .int, 2) := by decide +kernel
theorem dX1_init_9 : decode cX1_init 9 = .ok (.putfield 9, 3) := by decide +kernel
theorem dX1_init_12 : decode cX1_init 12 = .ok (.aload_n 0, 1) := by decide +kernel
theorem dX1_init_13 : decode cX1_init 13 = .ok (.iconst 0, 1) := by decide +kernel
theorem dX1_init_14 : decode cX1_init 14 = .ok (.putfield 13, 3) := by decide +kernel
theorem dX1_init_17 : decode cX1_init 17 = .ok (.return_, 1) := by decide +kernel
theorem dX1_answer_0 : decode cX1_answer 0 = .ok (.aload_n 0, 1) := by decide +kernel
theorem dX1_answer_1 : decode cX1_answer 1 = .ok (.iconst 0, 1) := by decide +kernel
theorem dX1_answer_2 : decode cX1_answer 2 = .ok (.putfield 13, 3) := by decide +kernel
theorem dX1_answer_5 : decode cX1_answer 5 = .ok (.aload_n 1, 1) := by decide +kernel
theorem dX1_answer_6 : decode cX1_answer 6 = .ok (.getfield 17, 3) := by decide +kernel
theorem dX1_answer_9 : decode cX1_answer 9 = .ok (.iload_n 2, 1) := by decide +kernel
theorem dX1_answer_10 : decode cX1_answer 10 = .ok (.iaload, 1) := by decide +kernel
theorem dX1_answer_11 : decode cX1_answer 11 = .ok (.istore 4, 2) := by decide +kernel
theorem dX1_answer_13 : decode cX1_answer 13 = .ok (.aload_n 0, 1) := by decide +kernel
theorem dX1_answer_14 : decode cX1_answer 14 = .ok (.aload_n 1, 1) := by decide +kernel
theorem dX1_answer_15 : decode cX1_answer 15 = .ok (.iload_n 2, 1) := by decide +kernel
theorem dX1_answer_16 : decode cX1_answer 16 = .ok (.iload_n 3, 1) := by decide +kernel
theorem dX1_answer_17 : decode cX1_answer 17 = .ok (.ifCond .ne 11, 3) := by decide +kernel
theorem dX1_answer_20 : decode cX1_answer 20 = .ok (.iload 4, 2) := by decide +kernel
theorem dX1_answer_22 : decode cX1_answer 22 = .ok (.invokestatic 22, 3) := by decide +kernel
theorem dX1_answer_25 : decode cX1_answer 25 = .ok (.goto 8, 3) := by decide +kernel
theorem dX1_answer_28 : decode cX1_answer 28 = .ok (.iload 4, 2) := by decide +kernel
theorem dX1_answer_30 : decode cX1_answer 30 = .ok (.invokestatic 28, 3) := by decide +kernel
theorem dX1_answer_33 : decode cX1_answer 33 = .ok (.iconst 0, 1) := by decide +kernel
theorem dX1_answer_34 : decode cX1_answer 34 = .ok (.invokevirtual 31, 3) := by decide +kernel
theorem dX1_answer_37 : decode cX1_answer 37 = .ok (.ireturn, 1) := by decide +kernel
theorem dX1_give_0 : decode cX1_give 0 = .ok (.iload 4, 2) := by decide +kernel
theorem dX1_give_2 : decode cX1_give 2 = .ok (.bipush 20, 2) := by decide +kernel
theorem dX1_give_4 : decode cX1_give 4 = .ok (.if_icmp .le 5, 3) := by decide +kernel
theorem dX1_give_7 : decode cX1_give 7 = .ok (.iconst 0, 1) := by decide +kernel
theorem dX1_give_8 : decode cX1_give 8 = .ok (.ireturn, 1) := by decide +kernel
theorem dX1_give_9 : decode cX1_give 9 = .ok (.aload_n 0, 1) := by decide +kernel
theorem dX1_give_10 : decode cX1_give 10 = .ok (.iload_n 3, 1) := by decide +kernel
theorem dX1_give_11 : decode cX1_give 11 = .ok (.invokevirtual 35, 3) := by decide +kernel
theorem dX1_give_14 : decode cX1_give 14 = .ok (.aload_n 1, 1) := by decide +kernel
theorem dX1_give_15 : decode cX1_give 15 = .ok (.getfield 17, 3) := by decide +kernel
theorem dX1_give_18 : decode cX1_give 18 = .ok (.iload_n 2, 1) := by decide +kernel
theorem dX1_give_19 : decode cX1_give 19 = .ok (.iaload, 1) := by decide +kernel
theorem dX1_give_20 : decode cX1_give 20 = .ok (.istore 5, 2) := by decide +kernel
theorem dX1_give_22 : decode cX1_give 22 = .ok (.iload 4, 2) := by decide +kernel
theorem dX1_give_24 : decode cX1_give 24 = .ok (.iconst 1, 1) := by decide +kernel
theorem dX1_give_25 : decode cX1_give 25 = .ok (.iadd, 1) := by decide +kernel
theorem dX1_give_26 : decode cX1_give 26 = .ok (.istore 6, 2) := by decide +kernel
theorem dX1_give_28 : decode cX1_give 28 = .ok (.iload_n 3, 1) := by decide +kernel
theorem dX1_give_29 : decode cX1_give 29 = .ok (.tableswitch 219 10 24 #[75, 82, 107, 119, 133, 219, 219, 219, 219, 219, 146, 148, 166, 181, 206], 75) := by decide +kernel
theorem dX1_give_104 : decode cX1_give 104 = .ok (.aload_n 1, 1) := by decide +kernel
theorem dX1_give_105 : decode cX1_give 105 = .ok (.getfield 39, 3) := by decide +kernel
theorem dX1_give_108 : decode cX1_give 108 = .ok (.iload_n 2, 1) := by decide +kernel
theorem dX1_give_109 : decode cX1_give 109 = .ok (.iaload, 1) := by decide +kernel
theorem dX1_give_110 : decode cX1_give 110 = .ok (.ireturn, 1) := by decide +kernel
theorem dX1_give_111 : decode cX1_give 111 = .ok (.aload_n 0, 1) := by decide +kernel
theorem dX1_give_112 : decode cX1_give 112 = .ok (.aload_n 1, 1) := by decide +kernel
theorem dX1_give_113 : decode cX1_give 113 = .ok (.iload_n 2, 1) := by decide +kernel
theorem dX1_give_114 : decode cX1_give 114 = .ok (.bipush 10, 2) := by decide +kernel
theorem dX1_give_116 : decode cX1_give 116 = .ok (.iload 6, 2) := by decide +kernel
theorem dX1_give_118 : decode cX1_give 118 = .ok (.invokevirtual 31, 3) := by decide +kernel
theorem dX1_give_121 : decode cX1_give 121 = .ok (.aload_n 0, 1) := by decide +kernel
theorem dX1_give_122 : decode cX1_give 122 = .ok (.aload_n 1, 1) := by decide +kernel
theorem dX1_give_123 : decode cX1_give 123 = .ok (.iload_n 2, 1) := by decide +kernel
theorem dX1_give_124 : decode cX1_give 124 = .ok (.iload 5, 2) := by decide +kernel
theorem dX1_give_126 : decode cX1_give 126 = .ok (.invokestatic 28, 3) := by decide +kernel
theorem dX1_give_129 : decode cX1_give 129 = .ok (.iload 6, 2) := by decide +kernel
theorem dX1_give_131 : decode cX1_give 131 = .ok (.invokevirtual 31, 3) := by decide +kernel
theorem dX1_give_134 : decode cX1_give 134 = .ok (.iadd, 1) := by decide +kernel
theorem dX1_give_135 : decode cX1_give 135 = .ok (.ireturn, 1) := by decide +kernel
theorem dX1_give_136 : decode cX1_give 136 = .ok (.aload_n 0, 1) := by decide +kernel
theorem dX1_give_137 : decode cX1_give 137 = .ok (.aload_n 1, 1) := by decide +kernel
theorem dX1_give_138 : decode cX1_give 138 = .ok (.iload_n 2, 1) := by decide +kernel
theorem dX1_give_139 : decode cX1_give 139 = .ok (.bipush 11, 2) := by decide +kernel
theorem dX1_give_141 : decode cX1_give 141 = .ok (.iload 6, 2) := by decide +kernel
theorem dX1_give_143 : decode cX1_give 143 = .ok (.invokevirtual 31, 3) := by decide +kernel
theorem dX1_give_146 : decode cX1_give 146 = .ok (.ineg, 1) := by decide +kernel
theorem dX1_give_147 : decode cX1_give 147 = .ok (.ireturn, 1) := by decide +kernel
theorem dX1_give_148 : decode cX1_give 148 = .ok (.aload_n 0, 1) := by decide +kernel
theorem dX1_give_149 : decode cX1_give 149 = .ok (.aload_n 1, 1) := by decide +kernel
theorem dX1_give_150 : decode cX1_give 150 = .ok (.iload_n 2, 1) := by decide +kernel
theorem dX1_give_151 : decode cX1_give 151 = .ok (.bipush 10, 2) := by decide +kernel
theorem dX1_give_153 : decode cX1_give 153 = .ok (.iload 6, 2) := by decide +kernel
theorem dX1_give_155 : decode cX1_give 155 = .ok (.invokevirtual 31, 3) := by decide +kernel
theorem dX1_give_158 : decode cX1_give 158 = .ok (.bipush 100, 2) := by decide +kernel
theorem dX1_give_160 : decode cX1_give 160 = .ok (.isub, 1) := by decide +kernel
theorem dX1_give_161 : decode cX1_give 161 = .ok (.ireturn, 1) := by decide +kernel
theorem dX1_give_162 : decode cX1_give 162 = .ok (.aload_n 0, 1) := by decide +kernel
theorem dX1_give_163 : decode cX1_give 163 = .ok (.aload_n 1, 1) := by decide +kernel
theorem dX1_give_164 : decode cX1_give 164 = .ok (.iload_n 2, 1) := by decide +kernel
theorem dX1_give_165 : decode cX1_give 165 = .ok (.bipush 13, 2) := by decide +kernel
theorem dX1_give_167 : decode cX1_give 167 = .ok (.iload 6, 2) := by decide +kernel
theorem dX1_give_169 : decode cX1_give 169 = .ok (.invokevirtual 31, 3) := by decide +kernel
theorem dX1_give_172 : decode cX1_give 172 = .ok (.iconst 2, 1) := by decide +kernel
theorem dX1_give_173 : decode cX1_give 173 = .ok (.imul, 1) := by decide +kernel
theorem dX1_give_174 : decode cX1_give 174 = .ok (.ireturn, 1) := by decide +kernel
theorem dX1_give_175 : decode cX1_give 175 = .ok (.iload_n 2, 1) := by decide +kernel
theorem dX1_give_176 : decode cX1_give 176 = .ok (.ireturn, 1) := by decide +kernel
theorem dX1_give_177 : decode cX1_give 177 = .ok (.aload_n 0, 1) := by decide +kernel
theorem dX1_give_178 : decode cX1_give 178 = .ok (.aload_n 1, 1) := by decide +kernel
theorem dX1_give_179 : decode cX1_give 179 = .ok (.iload_n 2, 1) := by decide +kernel
theorem dX1_give_180 : decode cX1_give 180 = .ok (.bipush 20, 2) := by decide +kernel
theorem dX1_give_182 : decode cX1_give 182 = .ok (.iload 6, 2) := by decide +kernel
theorem dX1_give_184 : decode cX1_give 184 = .ok (.invokevirtual 31, 3) := by decide +kernel
theorem dX1_give_187 : decode cX1_give 187 = .ok (.aload_n 1, 1) := by decide +kernel
theorem dX1_give_188 : decode cX1_give 188 = .ok (.getfield 42, 3) := by decide +kernel
theorem dX1_give_191 : decode cX1_give 191 = .ok (.iload_n 2, 1) := by decide +kernel
theorem dX1_give_192 : decode cX1_give 192 = .ok (.iaload, 1) := by decide +kernel
theorem dX1_give_193 : decode cX1_give 193 = .ok (.iadd, 1) := by decide +kernel
theorem dX1_give_194 : decode cX1_give 194 = .ok (.ireturn, 1) := by decide +kernel
theorem dX1_give_195 : decode cX1_give 195 = .ok (.aload_n 0, 1) := by decide +kernel
theorem dX1_give_196 : decode cX1_give 196 = .ok (.aload_n 1, 1) := by decide +kernel
theorem dX1_give_197 : decode cX1_give 197 = .ok (.iload_n 2, 1) := by decide +kernel
theorem dX1_give_198 : decode cX1_give 198 = .ok (.bipush 21, 2) := by decide +kernel
theorem dX1_give_200 : decode cX1_give 200 = .ok (.iload 6, 2) := by decide +kernel
theorem dX1_give_202 : decode cX1_give 202 = .ok (.invokevirtual 31, 3) := by decide +kernel
theorem dX1_give_205 : decode cX1_give 205 = .ok (.sipush 1000, 3) := by decide +kernel
theorem dX1_give_208 : decode cX1_give 208 = .ok (.isub, 1) := by decide +kernel
theorem dX1_give_209 : decode cX1_give 209 = .ok (.ireturn, 1) := by decide +kernel
theorem dX1_give_210 : decode cX1_give 210 = .ok (.aload_n 0, 1) := by decide +kernel
theorem dX1_give_211 : decode cX1_give 211 = .ok (.aload_n 1, 1) := by decide +kernel
theorem dX1_give_212 : decode cX1_give 212 = .ok (.iload_n 2, 1) := by decide +kernel
theorem dX1_give_213 : decode cX1_give 213 = .ok (.bipush 20, 2) := by decide +kernel
theorem dX1_give_215 : decode cX1_give 215 = .ok (.iload 6, 2) := by decide +kernel
theorem dX1_give_217 : decode cX1_give 217 = .ok (.invokevirtual 31, 3) := by decide +kernel
theorem dX1_give_220 : decode cX1_give 220 = .ok (.aload_n 0, 1) := by decide +kernel
theorem dX1_give_221 : decode cX1_give 221 = .ok (.aload_n 1, 1) := by decide +kernel
theorem dX1_give_222 : decode cX1_give 222 = .ok (.iload_n 2, 1) := by decide +kernel
theorem dX1_give_223 : decode cX1_give 223 = .ok (.iload 5, 2) := by decide +kernel
theorem dX1_give_225 : decode cX1_give 225 = .ok (.invokestatic 22, 3) := by decide +kernel
theorem dX1_give_228 : decode cX1_give 228 = .ok (.iload 6, 2) := by decide +kernel
theorem dX1_give_230 : decode cX1_give 230 = .ok (.invokevirtual 31, 3) := by decide +kernel
theorem dX1_give_233 : decode cX1_give 233 = .ok (.isub, 1) := by decide +kernel
theorem dX1_give_234 : decode cX1_give 234 = .ok (.ireturn, 1) := by decide +kernel
theorem dX1_give_235 : decode cX1_give 235 = .ok (.aload_n 0, 1) := by decide +kernel
theorem dX1_give_236 : decode cX1_give 236 = .ok (.aload_n 1, 1) := by decide +kernel
theorem dX1_give_237 : decode cX1_give 237 = .ok (.iload_n 2, 1) := by decide +kernel
theorem dX1_give_238 : decode cX1_give 238 = .ok (.bipush 22, 2) := by decide +kernel
theorem dX1_give_240 : decode cX1_give 240 = .ok (.iload 6, 2) := by decide +kernel
theorem dX1_give_242 : decode cX1_give 242 = .ok (.invokevirtual 31, 3) := by decide +kernel
theorem dX1_give_245 : decode cX1_give 245 = .ok (.iconst 2, 1) := by decide +kernel
theorem dX1_give_246 : decode cX1_give 246 = .ok (.imul, 1) := by decide +kernel
theorem dX1_give_247 : decode cX1_give 247 = .ok (.ireturn, 1) := by decide +kernel
theorem dX1_give_248 : decode cX1_give 248 = .ok (.iconst 0, 1) := by decide +kernel
theorem dX1_give_249 : decode cX1_give 249 = .ok (.ireturn, 1) := by decide +kernel
theorem dX1_leave_0 : decode cX1_leave 0 = .ok (.aload_n 0, 1) := by decide +kernel
theorem dX1_leave_1 : decode cX1_leave 1 = .ok (.getfield 13, 3) := by decide +kernel
theorem dX1_leave_4 : decode cX1_leave 4 = .ok (.bipush 16, 2) := by decide +kernel
theorem dX1_leave_6 : decode cX1_leave 6 = .ok (.if_icmp .ge 23, 3) := by decide +kernel
theorem dX1_leave_9 : decode cX1_leave 9 = .ok (.aload_n 0, 1) := by decide +kernel
theorem dX1_leave_10 : decode cX1_leave 10 = .ok (.getfield 9, 3) := by decide +kernel
theorem dX1_leave_13 : decode cX1_leave 13 = .ok (.aload_n 0, 1) := by decide +kernel
theorem dX1_leave_14 : decode cX1_leave 14 = .ok (.getfield 13, 3) := by decide +kernel
theorem dX1_leave_17 : decode cX1_leave 17 = .ok (.iload_n 1, 1) := by decide +kernel
theorem dX1_leave_18 : decode cX1_leave 18 = .ok (.iastore, 1) := by decide +kernel
theorem dX1_leave_19 : decode cX1_leave 19 = .ok (.aload_n 0, 1) := by decide +kernel
theorem dX1_leave_20 : decode cX1_leave 20 = .ok (.dup, 1) := by decide +kernel
theorem dX1_leave_21 : decode cX1_leave 21 = .ok (.getfield 13, 3) := by decide +kernel
theorem dX1_leave_24 : decode cX1_leave 24 = .ok (.iconst 1, 1) := by decide +kernel
theorem dX1_leave_25 : decode cX1_leave 25 = .ok (.iadd, 1) := by decide +kernel
theorem dX1_leave_26 : decode cX1_leave 26 = .ok (.putfield 13, 3) := by decide +kernel
theorem dX1_leave_29 : decode cX1_leave 29 = .ok (.return_, 1) := by decide +kernel
theorem dX2_init_0 : decode cX2_init 0 = .ok (.aload_n 0, 1) := by decide +kernel
theorem dX2_init_1 : decode cX2_init 1 = .ok (.invokespecial 3, 3) := by decide +kernel
theorem dX2_init_4 : decode cX2_init 4 = .ok (.aload_n 0, 1) := by decide +kernel
theorem dX2_init_5 : decode cX2_init 5 = .ok (.bipush 9, 2) := by decide +kernel
theorem dX2_init_7 : decode cX2_init 7 = .ok (.newarray .int, 2) := by decide +kernel
theorem dX2_init_9 : decode cX2_init 9 = .ok (.putfield 9, 3) := by decide +kernel
theorem dX2_init_12 : decode cX2_init 12 = .ok (.aload_n 0, 1) := by decide +kernel
theorem dX2_init_13 : decode cX2_init 13 = .ok (.bipush 10, 2) := by decide +kernel
theorem dX2_init_15 : decode cX2_init 15 = .ok (.newarray .int, 2) := by decide +kernel
theorem dX2_init_17 : decode cX2_init 17 = .ok (.putfield 15, 3) := by decide +kernel
theorem dX2_init_20 : decode cX2_init 20 = .ok (.aload_n 0, 1) := by decide +kernel
theorem dX2_init_21 : decode cX2_init 21 = .ok (.iconst 3, 1) := by decide +kernel
theorem dX2_init_22 : decode cX2_init 22 = .ok (.newarray .int, 2) := by decide +kernel
theorem dX2_init_24 : decode cX2_init 24 = .ok (.putfield 18, 3) := by decide +kernel
theorem dX2_init_27 : decode cX2_init 27 = .ok (.aload_n 0, 1) := by decide +kernel
theorem dX2_init_28 : decode cX2_init 28 = .ok (.bipush 9, 2) := by decide +kernel
theorem dX2_init_30 : decode cX2_init 30 = .ok (.newarray .int, 2) := by decide +kernel
theorem dX2_init_32 : decode cX2_init 32 = .ok (.putfield 21, 3) := by decide +kernel
theorem dX2_init_35 : decode cX2_init 35 = .ok (.aload_n 0, 1) := by decide +kernel
theorem dX2_init_36 : decode cX2_init 36 = .ok (.iconst 0, 1) := by decide +kernel
theorem dX2_init_37 : decode cX2_init 37 = .ok (.putfield 24, 3) := by decide +kernel
theorem dX2_init_40 : decode cX2_init 40 = .ok (.aload_n 0, 1) := by decide +kernel
theorem dX2_init_41 : decode cX2_init 41 = .ok (.bipush 9, 2) := by decide +kernel
theorem dX2_init_43 : decode cX2_init 43 = .ok (.newarray .int, 2) := by decide +kernel
theorem dX2_init_45 : decode cX2_init 45 = .ok (.putfield 28, 3) := by decide +kernel
theorem dX2_init_48 : decode cX2_init 48 = .ok (.aload_n 0, 1) := by decide +kernel
theorem dX2_init_49 : decode cX2_init 49 = .ok (.iconst 0, 1) := by decide +kernel
theorem dX2_init_50 : decode cX2_init 50 = .ok (.putfield 31, 3) := by decide +kernel
theorem dX2_init_53 : decode cX2_init 53 = .ok (.return_, 1) := by decide +kernel
theorem dX2_search_0 : decode cX2_search 0 = .ok (.aload_n 0, 1) := by decide +kernel
theorem dX2_search_1 : decode cX2_search 1 = .ok (.aload_n 1, 1) := by decide +kernel
theorem dX2_search_2 : decode cX2_search 2 = .ok (.getfield 34, 3) := by decide +kernel
theorem dX2_search_5 : decode cX2_search 5 = .ok (.putfield 24, 3) := by decide +kernel
theorem dX2_search_8 : decode cX2_search 8 = .ok (.aload_n 0, 1) := by decide +kernel
theorem dX2_search_9 : decode cX2_search 9 = .ok (.iconst (-1), 1) := by decide +kernel
theorem dX2_search_10 : decode cX2_search 10 = .ok (.putfield 31, 3) := by decide +kernel
theorem dX2_search_13 : decode cX2_search 13 = .ok (.aload_n 0, 1) := by decide +kernel
theorem dX2_search_14 : decode cX2_search 14 = .ok (.getfield 15, 3) := by decide +kernel
theorem dX2_search_17 : decode cX2_search 17 = .ok (.aload_n 0, 1) := by decide +kernel
theorem dX2_search_18 : decode cX2_search 18 = .ok (.getfield 24, 3) := by decide +kernel
theorem dX2_search_21 : decode cX2_search 21 = .ok (.iconst 0, 1) := by decide +kernel
theorem dX2_search_22 : decode cX2_search 22 = .ok (.iastore, 1) := by decide +kernel
theorem dX2_search_23 : decode cX2_search 23 = .ok (.aload_n 0, 1) := by decide +kernel
theorem dX2_search_24 : decode cX2_search 24 = .ok (.getfield 24, 3) := by decide +kernel
theorem dX2_search_27 : decode cX2_search 27 = .ok (.iconst 1, 1) := by decide +kernel
theorem dX2_search_28 : decode cX2_search 28 = .ok (.isub, 1) := by decide +kernel
theorem dX2_search_29 : decode cX2_search 29 = .ok (.istore_n 2, 1) := by decide +kernel
theorem dX2_search_30 : decode cX2_search 30 = .ok (.iload_n 2, 1) := by decide +kernel
theorem dX2_search_31 : decode cX2_search 31 = .ok (.ifCond .lt 41, 3) := by decide +kernel
theorem dX2_search_34 : decode cX2_search 34 = .ok (.aload_n 0, 1) := by decide +kernel
theorem dX2_search_35 : decode cX2_search 35 = .ok (.getfield 9, 3) := by decide +kernel
theorem dX2_search_38 : decode cX2_search 38 = .ok (.iload_n 2, 1) := by decide +kernel
theorem dX2_search_39 : decode cX2_search 39 = .ok (.aload_n 1, 1) := by decide +kernel
theorem dX2_search_40 : decode cX2_search 40 = .ok (.iload_n 2, 1) := by decide +kernel
theorem dX2_search_41 : decode cX2_search 41 = .ok (.invokevirtual 37, 3) := by decide +kernel
theorem dX2_search_44 : decode cX2_search 44 = .ok (.iastore, 1) := by decide +kernel
theorem dX2_search_45 : decode cX2_search 45 = .ok (.aload_n 0, 1) := by decide +kernel
theorem dX2_search_46 : decode cX2_search 46 = .ok (.getfield 15, 3) := by decide +kernel
theorem dX2_search_49 : decode cX2_search 49 = .ok (.iload_n 2, 1) := by decide +kernel
theorem dX2_search_50 : decode cX2_search 50 = .ok (.aload_n 0, 1) := by decide +kernel
theorem dX2_search_51 : decode cX2_search 51 = .ok (.getfield 15, 3) := by decide +kernel
theorem dX2_search_54 : decode cX2_search 54 = .ok (.iload_n 2, 1) := by decide +kernel
theorem dX2_search_55 : decode cX2_search 55 = .ok (.iconst 1, 1) := by decide +kernel
theorem dX2_search_56 : decode cX2_search 56 = .ok (.iadd, 1) := by decide +kernel
theorem dX2_search_57 : decode cX2_search 57 = .ok (.iaload, 1) := by decide +kernel
theorem dX2_search_58 : decode cX2_search 58 = .ok (.aload_n 0, 1) := by decide +kernel
theorem dX2_search_59 : decode cX2_search 59 = .ok (.getfield 9, 3) := by decide +kernel
theorem dX2_search_62 : decode cX2_search 62 = .ok (.iload_n 2, 1) := by decide +kernel
theorem dX2_search_63 : decode cX2_search 63 = .ok (.iaload, 1) := by decide +kernel
theorem dX2_search_64 : decode cX2_search 64 = .ok (.iadd, 1) := by decide +kernel
theorem dX2_search_65 : decode cX2_search 65 = .ok (.iastore, 1) := by decide +kernel
theorem dX2_search_66 : decode cX2_search 66 = .ok (.iinc 2 (-1), 3) := by decide +kernel
theorem dX2_search_69 : decode cX2_search 69 = .ok (.goto (-39), 3) := by decide +kernel
theorem dX2_search_72 : decode cX2_search 72 = .ok (.iconst 0, 1) := by decide +kernel
theorem dX2_search_73 : decode cX2_search 73 = .ok (.istore_n 2, 1) := by decide +kernel
theorem dX2_search_74 : decode cX2_search 74 = .ok (.iload_n 2, 1) := by decide +kernel
theorem dX2_search_75 : decode cX2_search 75 = .ok (.iconst 3, 1) := by decide +kernel
theorem dX2_search_76 : decode cX2_search 76 = .ok (.if_icmp .ge 16, 3) := by decide +kernel
theorem dX2_search_79 : decode cX2_search 79 = .ok (.aload_n 0, 1) := by decide +kernel
theorem dX2_search_80 : decode cX2_search 80 = .ok (.getfield 18, 3) := by decide +kernel
theorem dX2_search_83 : decode cX2_search 83 = .ok (.iload_n 2, 1) := by decide +kernel
theorem dX2_search_84 : decode cX2_search 84 = .ok (.iconst 0, 1) := by decide +kernel
theorem dX2_search_85 : decode cX2_search 85 = .ok (.iastore, 1) := by decide +kernel
theorem dX2_search_86 : decode cX2_search 86 = .ok (.iinc 2 1, 3) := by decide +kernel
theorem dX2_search_89 : decode cX2_search 89 = .ok (.goto (-15), 3) := by decide +kernel
theorem dX2_search_92 : decode cX2_search 92 = .ok (.aload_n 0, 1) := by decide +kernel
theorem dX2_search_93 : decode cX2_search 93 = .ok (.iconst 0, 1) := by decide +kernel
theorem dX2_search_94 : decode cX2_search 94 = .ok (.iconst 0, 1) := by decide +kernel
theorem dX2_search_95 : decode cX2_search 95 = .ok (.invokevirtual 41, 3) := by decide +kernel
theorem dX2_search_98 : decode cX2_search 98 = .ok (.return_, 1) := by decide +kernel
theorem dX2_layFrom_0 : decode cX2_layFrom 0 = .ok (.aload_n 0, 1) := by decide +kernel
theorem dX2_layFrom_1 : decode cX2_layFrom 1 = .ok (.invokevirtual 45, 3) := by decide +kernel
theorem dX2_layFrom_4 : decode cX2_layFrom 4 = .ok (.aload_n 0, 1) := by decide +kernel
theorem dX2_layFrom_5 : decode cX2_layFrom 5 = .ok (.getfield 15, 3) := by decide +kernel
theorem dX2_layFrom_8 : decode cX2_layFrom 8 = .ok (.iload_n 1, 1) := by decide +kernel
theorem dX2_layFrom_9 : decode cX2_layFrom 9 = .ok (.iaload, 1) := by decide +kernel
theorem dX2_layFrom_10 : decode cX2_layFrom 10 = .ok (.if_icmp .le 4, 3) := by decide +kernel
theorem dX2_layFrom_13 : decode cX2_layFrom 13 = .ok (.return_, 1) := by decide +kernel
theorem dX2_layFrom_14 : decode cX2_layFrom 14 = .ok (.iload_n 1, 1) := by decide +kernel
theorem dX2_layFrom_15 : decode cX2_layFrom 15 = .ok (.aload_n 0, 1) := by decide +kernel
theorem dX2_layFrom_16 : decode cX2_layFrom 16 = .ok (.getfield 24, 3) := by decide +kernel
theorem dX2_layFrom_19 : decode cX2_layFrom 19 = .ok (.if_icmp .lt 49, 3) := by decide +kernel
theorem dX2_layFrom_22 : decode cX2_layFrom 22 = .ok (.aload_n 0, 1) := by decide +kernel
theorem dX2_layFrom_23 : decode cX2_layFrom 23 = .ok (.aload_n 0, 1) := by decide +kernel
theorem dX2_layFrom_24 : decode cX2_layFrom 24 = .ok (.getfield 18, 3) := by decide +kernel
theorem dX2_layFrom_27 : decode cX2_layFrom 27 = .ok (.iconst 0, 1) := by decide +kernel
theorem dX2_layFrom_28 : decode cX2_layFrom 28 = .ok (.iaload, 1) := by decide +kernel
theorem dX2_layFrom_29 : decode cX2_layFrom 29 = .ok (.aload_n 0, 1) := by decide +kernel
theorem dX2_layFrom_30 : decode cX2_layFrom 30 = .ok (.getfield 18, 3) := by decide +kernel
theorem dX2_layFrom_33 : decode cX2_layFrom 33 = .ok (.iconst 1, 1) := by decide +kernel
theorem dX2_layFrom_34 : decode cX2_layFrom 34 = .ok (.iaload, 1) := by decide +kernel
theorem dX2_layFrom_35 : decode cX2_layFrom 35 = .ok (.aload_n 0, 1) := by decide +kernel
theorem dX2_layFrom_36 : decode cX2_layFrom 36 = .ok (.getfield 18, 3) := by decide +kernel
theorem dX2_layFrom_39 : decode cX2_layFrom 39 = .ok (.iconst 2, 1) := by decide +kernel
theorem dX2_layFrom_40 : decode cX2_layFrom 40 = .ok (.iaload, 1) := by decide +kernel
theorem dX2_layFrom_41 : decode cX2_layFrom 41 = .ok (.invokestatic 49, 3) := by decide +kernel
theorem dX2_layFrom_44 : decode cX2_layFrom 44 = .ok (.invokestatic 49, 3) := by decide +kernel
theorem dX2_layFrom_47 : decode cX2_layFrom 47 = .ok (.putfield 31, 3) := by decide +kernel
theorem dX2_layFrom_50 : decode cX2_layFrom 50 = .ok (.aload_n 0, 1) := by decide +kernel
theorem dX2_layFrom_51 : decode cX2_layFrom 51 = .ok (.getfield 21, 3) := by decide +kernel
theorem dX2_layFrom_54 : decode cX2_layFrom 54 = .ok (.iconst 0, 1) := by decide +kernel
theorem dX2_layFrom_55 : decode cX2_layFrom 55 = .ok (.aload_n 0, 1) := by decide +kernel
theorem dX2_layFrom_56 : decode cX2_layFrom 56 = .ok (.getfield 28, 3) := by decide +kernel
theorem dX2_layFrom_59 : decode cX2_layFrom 59 = .ok (.iconst 0, 1) := by decide +kernel
theorem dX2_layFrom_60 : decode cX2_layFrom 60 = .ok (.aload_n 0, 1) := by decide +kernel
theorem dX2_layFrom_61 : decode cX2_layFrom 61 = .ok (.getfield 24, 3) := by decide +kernel
theorem dX2_layFrom_64 : decode cX2_layFrom 64 = .ok (.invokestatic 55, 3) := by decide +kernel
theorem dX2_layFrom_67 : decode cX2_layFrom 67 = .ok (.return_, 1) := by decide +kernel
theorem dX2_layFrom_68 : decode cX2_layFrom 68 = .ok (.iconst 0, 1) := by decide +kernel
theorem dX2_layFrom_69 : decode cX2_layFrom 69 = .ok (.istore_n 3, 1) := by decide +kernel
theorem dX2_layFrom_70 : decode cX2_layFrom 70 = .ok (.iload_n 3, 1) := by decide +kernel
theorem dX2_layFrom_71 : decode cX2_layFrom 71 = .ok (.iload_n 2, 1) := by decide +kernel
theorem dX2_layFrom_72 : decode cX2_layFrom 72 = .ok (.if_icmp .gt 70, 3) := by decide +kernel
theorem dX2_layFrom_75 : decode cX2_layFrom 75 = .ok (.iload_n 3, 1) := by decide +kernel
theorem dX2_layFrom_76 : decode cX2_layFrom 76 = .ok (.iconst 3, 1) := by decide +kernel
theorem dX2_layFrom_77 : decode cX2_layFrom 77 = .ok (.if_icmp .ge 65, 3) := by decide +kernel
theorem dX2_layFrom_80 : decode cX2_layFrom 80 = .ok (.aload_n 0, 1) := by decide +kernel
theorem dX2_layFrom_81 : decode cX2_layFrom 81 = .ok (.getfield 21, 3) := by decide +kernel
theorem dX2_layFrom_84 : decode cX2_layFrom 84 = .ok (.iload_n 1, 1) := by decide +kernel
theorem dX2_layFrom_85 : decode cX2_layFrom 85 = .ok (.iload_n 3, 1) := by decide +kernel
theorem dX2_layFrom_86 : decode cX2_layFrom 86 = .ok (.iastore, 1) := by decide +kernel
theorem dX2_layFrom_87 : decode cX2_layFrom 87 = .ok (.aload_n 0, 1) := by decide +kernel
theorem dX2_layFrom_88 : decode cX2_layFrom 88 = .ok (.getfield 18, 3) := by decide +kernel
theorem dX2_layFrom_91 : decode cX2_layFrom 91 = .ok (.iload_n 3, 1) := by decide +kernel
theorem dX2_layFrom_92 : decode cX2_layFrom 92 = .ok (.dup2, 1) := by decide +kernel
theorem dX2_layFrom_93 : decode cX2_layFrom 93 = .ok (.iaload, 1) := by decide +kernel
theorem dX2_layFrom_94 : decode cX2_layFrom 94 = .ok (.aload_n 0, 1) := by decide +kernel
theorem dX2_layFrom_95 : decode cX2_layFrom 95 = .ok (.getfield 9, 3) := by decide +kernel
theorem dX2_layFrom_98 : decode cX2_layFrom 98 = .ok (.iload_n 1, 1) := by decide +kernel
theorem dX2_layFrom_99 : decode cX2_layFrom 99 = .ok (.iaload, 1) := by decide +kernel
theorem dX2_layFrom_100 : decode cX2_layFrom 100 = .ok (.iadd, 1) := by decide +kernel
theorem dX2_layFrom_101 : decode cX2_layFrom 101 = .ok (.iastore, 1) := by decide +kernel
theorem dX2_layFrom_102 : decode cX2_layFrom 102 = .ok (.aload_n 0, 1) := by decide +kernel
theorem dX2_layFrom_103 : decode cX2_layFrom 103 = .ok (.iload_n 1, 1) := by decide +kernel
theorem dX2_layFrom_104 : decode cX2_layFrom 104 = .ok (.iconst 1, 1) := by decide +kernel
theorem dX2_layFrom_105 : decode cX2_layFrom 105 = .ok (.iadd, 1) := by decide +kernel
theorem dX2_layFrom_106 : decode cX2_layFrom 106 = .ok (.iload_n 3, 1) := by decide +kernel
theorem dX2_layFrom_107 : decode cX2_layFrom 107 = .ok (.iload_n 2, 1) := by decide +kernel
theorem dX2_layFrom_108 : decode cX2_layFrom 108 = .ok (.if_icmp .ne 9, 3) := by decide +kernel
theorem dX2_layFrom_111 : decode cX2_layFrom 111 = .ok (.iload_n 2, 1) := by decide +kernel
theorem dX2_layFrom_112 : decode cX2_layFrom 112 = .ok (.iconst 1, 1) := by decide +kernel
theorem dX2_layFrom_113 : decode cX2_layFrom 113 = .ok (.iadd, 1) := by decide +kernel
theorem dX2_layFrom_114 : decode cX2_layFrom 114 = .ok (.goto 4, 3) := by decide +kernel
theorem dX2_layFrom_117 : decode cX2_layFrom 117 = .ok (.iload_n 2, 1) := by decide +kernel
theorem dX2_layFrom_118 : decode cX2_layFrom 118 = .ok (.invokevirtual 41, 3) := by decide +kernel
theorem dX2_layFrom_121 : decode cX2_layFrom 121 = .ok (.aload_n 0, 1) := by decide +kernel
theorem dX2_layFrom_122 : decode cX2_layFrom 122 = .ok (.getfield 18, 3) := by decide +kernel
theorem dX2_layFrom_125 : decode cX2_layFrom 125 = .ok (.iload_n 3, 1) := by decide +kernel
theorem dX2_layFrom_126 : decode cX2_layFrom 126 = .ok (.dup2, 1) := by decide +kernel
theorem dX2_layFrom_127 : decode cX2_layFrom 127 = .ok (.iaload, 1) := by decide +kernel
theorem dX2_layFrom_128 : decode cX2_layFrom 128 = .ok (.aload_n 0, 1) := by decide +kernel
theorem dX2_layFrom_129 : decode cX2_layFrom 129 = .ok (.getfield 9, 3) := by decide +kernel
theorem dX2_layFrom_132 : decode cX2_layFrom 132 = .ok (.iload_n 1, 1) := by decide +kernel
theorem dX2_layFrom_133 : decode cX2_layFrom 133 = .ok (.iaload, 1) := by decide +kernel
theorem dX2_layFrom_134 : decode cX2_layFrom 134 = .ok (.isub, 1) := by decide +kernel
theorem dX2_layFrom_135 : decode cX2_layFrom 135 = .ok (.iastore, 1) := by decide +kernel
theorem dX2_layFrom_136 : decode cX2_layFrom 136 = .ok (.iinc 3 1, 3) := by decide +kernel
theorem dX2_layFrom_139 : decode cX2_layFrom 139 = .ok (.goto (-69), 3) := by decide +kernel
theorem dX2_layFrom_142 : decode cX2_layFrom 142 = .ok (.return_, 1) := by decide +kernel
theorem dX2_missing_0 : decode cX2_missing 0 = .ok (.iconst 0, 1) := by decide +kernel
theorem dX2_missing_1 : decode cX2_missing 1 = .ok (.istore_n 1, 1) := by decide +kernel
theorem dX2_missing_2 : decode cX2_missing 2 = .ok (.iconst 0, 1) := by decide +kernel
theorem dX2_missing_3 : decode cX2_missing 3 = .ok (.istore_n 2, 1) := by decide +kernel
theorem dX2_missing_4 : decode cX2_missing 4 = .ok (.iload_n 2, 1) := by decide +kernel
theorem dX2_missing_5 : decode cX2_missing 5 = .ok (.iconst 3, 1) := by decide +kernel
theorem dX2_missing_6 : decode cX2_missing 6 = .ok (.if_icmp .ge 29, 3) := by decide +kernel
theorem dX2_missing_9 : decode cX2_missing 9 = .ok (.iload_n 1, 1) := by decide +kernel
theorem dX2_missing_10 : decode cX2_missing 10 = .ok (.iconst 0, 1) := by decide +kernel
theorem dX2_missing_11 : decode cX2_missing 11 = .ok (.aload_n 0, 1) := by decide +kernel
theorem dX2_missing_12 : decode cX2_missing 12 = .ok (.getfield 31, 3) := by decide +kernel
theorem dX2_missing_15 : decode cX2_missing 15 = .ok (.iconst 1, 1) := by decide +kernel
theorem dX2_missing_16 : decode cX2_missing 16 = .ok (.iadd, 1) := by decide +kernel
theorem dX2_missing_17 : decode cX2_missing 17 = .ok (.aload_n 0, 1) := by decide +kernel
theorem dX2_missing_18 : decode cX2_missing 18 = .ok (.getfield 18, 3) := by decide +kernel
theorem dX2_missing_21 : decode cX2_missing 21 = .ok (.iload_n 2, 1) := by decide +kernel
theorem dX2_missing_22 : decode cX2_missing 22 = .ok (.iaload, 1) := by decide +kernel
theorem dX2_missing_23 : decode cX2_missing 23 = .ok (.isub, 1) := by decide +kernel
theorem dX2_missing_24 : decode cX2_missing 24 = .ok (.invokestatic 61, 3) := by decide +kernel
theorem dX2_missing_27 : decode cX2_missing 27 = .ok (.iadd, 1) := by decide +kernel
theorem dX2_missing_28 : decode cX2_missing 28 = .ok (.istore_n 1, 1) := by decide +kernel
theorem dX2_missing_29 : decode cX2_missing 29 = .ok (.iinc 2 1, 3) := by decide +kernel
theorem dX2_missing_32 : decode cX2_missing 32 = .ok (.goto (-28), 3) := by decide +kernel
theorem dX2_missing_35 : decode cX2_missing 35 = .ok (.iload_n 1, 1) := by decide +kernel
theorem dX2_missing_36 : decode cX2_missing 36 = .ok (.ireturn, 1) := by decide +kernel
theorem dX3_init_0 : decode cX3_init 0 = .ok (.aload_n 0, 1) := by decide +kernel
theorem dX3_init_1 : decode cX3_init 1 = .ok (.invokespecial 3, 3) := by decide +kernel
theorem dX3_init_4 : decode cX3_init 4 = .ok (.aload_n 0, 1) := by decide +kernel
theorem dX3_init_5 : decode cX3_init 5 = .ok (.bipush 9, 2) := by decide +kernel
theorem dX3_init_7 : decode cX3_init 7 = .ok (.newarray .int, 2) := by decide +kernel
theorem dX3_init_9 : decode cX3_init 9 = .ok (.putfield 9, 3) := by decide +kernel
theorem dX3_init_12 : decode cX3_init 12 = .ok (.aload_n 0, 1) := by decide +kernel
theorem dX3_init_13 : decode cX3_init 13 = .ok (.sipush 512, 3) := by decide +kernel
theorem dX3_init_16 : decode cX3_init 16 = .ok (.newarray .int, 2) := by decide +kernel
theorem dX3_init_18 : decode cX3_init 18 = .ok (.putfield 15, 3) := by decide +kernel
theorem dX3_init_21 : decode cX3_init 21 = .ok (.return_, 1) := by decide +kernel
theorem dX3_search_0 : decode cX3_search 0 = .ok (.iload_n 2, 1) := by decide +kernel
theorem dX3_search_1 : decode cX3_search 1 = .ok (.iconst 3, 1) := by decide +kernel
theorem dX3_search_2 : decode cX3_search 2 = .ok (.iadd, 1) := by decide +kernel
theorem dX3_search_3 : decode cX3_search 3 = .ok (.iconst 1, 1) := by decide +kernel
theorem dX3_search_4 : decode cX3_search 4 = .ok (.isub, 1) := by decide +kernel
theorem dX3_search_5 : decode cX3_search 5 = .ok (.iconst 3, 1) := by decide +kernel
theorem dX3_search_6 : decode cX3_search 6 = .ok (.idiv, 1) := by decide +kernel
theorem dX3_search_7 : decode cX3_search 7 = .ok (.istore_n 3, 1) := by decide +kernel
theorem dX3_search_8 : decode cX3_search 8 = .ok (.iload_n 3, 1) := by decide +kernel
theorem dX3_search_9 : decode cX3_search 9 = .ok (.ifCond .ne 5, 3) := by decide +kernel
theorem dX3_search_12 : decode cX3_search 12 = .ok (.iconst 0, 1) := by decide +kernel
theorem dX3_search_13 : decode cX3_search 13 = .ok (.ireturn, 1) := by decide +kernel
theorem dX3_search_14 : decode cX3_search 14 = .ok (.iconst 0, 1) := by decide +kernel
theorem dX3_search_15 : decode cX3_search 15 = .ok (.istore 4, 2) := by decide +kernel
theorem dX3_search_17 : decode cX3_search 17 = .ok (.iload 4, 2) := by decide +kernel
theorem dX3_search_19 : decode cX3_search 19 = .ok (.aload_n 1, 1) := by decide +kernel
theorem dX3_search_20 : decode cX3_search 20 = .ok (.getfield 18, 3) := by decide +kernel
theorem dX3_search_23 : decode cX3_search 23 = .ok (.if_icmp .ge 22, 3) := by decide +kernel
theorem dX3_search_26 : decode cX3_search 26 = .ok (.aload_n 0, 1) := by decide +kernel
theorem dX3_search_27 : decode cX3_search 27 = .ok (.getfield 9, 3) := by decide +kernel
theorem dX3_search_30 : decode cX3_search 30 = .ok (.iload 4, 2) := by decide +kernel
theorem dX3_search_32 : decode cX3_search 32 = .ok (.aload_n 1, 1) := by decide +kernel
theorem dX3_search_33 : decode cX3_search 33 = .ok (.iload 4, 2) := by decide +kernel
theorem dX3_search_35 : decode cX3_search 35 = .ok (.invokevirtual 24, 3) := by decide +kernel
theorem dX3_search_38 : decode cX3_search 38 = .ok (.iastore, 1) := by decide +kernel
theorem dX3_search_39 : decode cX3_search 39 = .ok (.iinc 4 1, 3) := by decide +kernel
theorem dX3_search_42 : decode cX3_search 42 = .ok (.goto (-25), 3) := by decide +kernel
theorem dX3_search_45 : decode cX3_search 45 = .ok (.iconst (-1), 1) := by decide +kernel
theorem dX3_search_46 : decode cX3_search 46 = .ok (.istore 4, 2) := by decide +kernel
theorem dX3_search_48 : decode cX3_search 48 = .ok (.iconst 0, 1) := by decide +kernel
theorem dX3_search_49 : decode cX3_search 49 = .ok (.istore 5, 2) := by decide +kernel
theorem dX3_search_51 : decode cX3_search 51 = .ok (.aload_n 0, 1) := by decide +kernel
theorem dX3_search_52 : decode cX3_search 52 = .ok (.getfield 15, 3) := by decide +kernel
theorem dX3_search_55 : decode cX3_search 55 = .ok (.iconst 0, 1) := by decide +kernel
theorem dX3_search_56 : decode cX3_search 56 = .ok (.iconst 0, 1) := by decide +kernel
theorem dX3_search_57 : decode cX3_search 57 = .ok (.iastore, 1) := by decide +kernel
theorem dX3_search_58 : decode cX3_search 58 = .ok (.iconst 1, 1) := by decide +kernel
theorem dX3_search_59 : decode cX3_search 59 = .ok (.istore 6, 2) := by decide +kernel
theorem dX3_search_61 : decode cX3_search 61 = .ok (.iload 6, 2) := by decide +kernel
theorem dX3_search_63 : decode cX3_search 63 = .ok (.iconst 1, 1) := by decide +kernel
theorem dX3_search_64 : decode cX3_search 64 = .ok (.aload_n 1, 1) := by decide +kernel
theorem dX3_search_65 : decode cX3_search 65 = .ok (.getfield 18, 3) := by decide +kernel
theorem dX3_search_68 : decode cX3_search 68 = .ok (.ishl, 1) := by decide +kernel
theorem dX3_search_69 : decode cX3_search 69 = .ok (.if_icmp .ge 67, 3) := by decide +kernel
theorem dX3_search_72 : decode cX3_search 72 = .ok (.aload_n 0, 1) := by decide +kernel
theorem dX3_search_73 : decode cX3_search 73 = .ok (.getfield 15, 3) := by decide +kernel
theorem dX3_search_76 : decode cX3_search 76 = .ok (.iload 6, 2) := by decide +kernel
theorem dX3_search_78 : decode cX3_search 78 = .ok (.aload_n 0, 1) := by decide +kernel
theorem dX3_search_79 : decode cX3_search 79 = .ok (.iload 6, 2) := by decide +kernel
theorem dX3_search_81 : decode cX3_search 81 = .ok (.aload_n 1, 1) := by decide +kernel
theorem dX3_search_82 : decode cX3_search 82 = .ok (.getfield 18, 3) := by decide +kernel
theorem dX3_search_85 : decode cX3_search 85 = .ok (.iload_n 3, 1) := by decide +kernel
theorem dX3_search_86 : decode cX3_search 86 = .ok (.invokevirtual 28, 3) := by decide +kernel
theorem dX3_search_89 : decode cX3_search 89 = .ok (.iastore, 1) := by decide +kernel
theorem dX3_search_90 : decode cX3_search 90 = .ok (.aload_n 0, 1) := by decide +kernel
theorem dX3_search_91 : decode cX3_search 91 = .ok (.getfield 15, 3) := by decide +kernel
theorem dX3_search_94 : decode cX3_search 94 = .ok (.iload 6, 2) := by decide +kernel
theorem dX3_search_96 : decode cX3_search 96 = .ok (.iaload, 1) := by decide +kernel
theorem dX3_search_97 : decode cX3_search 97 = .ok (.ldc 32, 2) := by decide +kernel
theorem dX3_search_99 : decode cX3_search 99 = .ok (.if_icmp .lt 31, 3) := by decide +kernel
theorem dX3_search_102 : decode cX3_search 102 = .ok (.aload_n 1, 1) := by decide +kernel
theorem dX3_search_103 : decode cX3_search 103 = .ok (.iload 6, 2) := by decide +kernel
theorem dX3_search_105 : decode cX3_search 105 = .ok (.invokevirtual 33, 3) := by decide +kernel
theorem dX3_search_108 : decode cX3_search 108 = .ok (.istore 7, 2) := by decide +kernel
theorem dX3_search_110 : decode cX3_search 110 = .ok (.iload 4, 2) := by decide +kernel
theorem dX3_search_112 : decode cX3_search 112 = .ok (.ifCond .lt 10, 3) := by decide +kernel
theorem dX3_search_115 : decode cX3_search 115 = .ok (.iload 7, 2) := by decide +kernel
theorem dX3_search_117 : decode cX3_search 117 = .ok (.iload 5, 2) := by decide +kernel
theorem dX3_search_119 : decode cX3_search 119 = .ok (.if_icmp .ge 11, 3) := by decide +kernel
theorem dX3_search_122 : decode cX3_search 122 = .ok (.iload 6, 2) := by decide +kernel
theorem dX3_search_124 : decode cX3_search 124 = .ok (.istore 4, 2) := by decide +kernel
theorem dX3_search_126 : decode cX3_search 126 = .ok (.iload 7, 2) := by decide +kernel
theorem dX3_search_128 : decode cX3_search 128 = .ok (.istore 5, 2) := by decide +kernel
theorem dX3_search_130 : decode cX3_search 130 = .ok (.iinc 6 1, 3) := by decide +kernel
theorem dX3_search_133 : decode cX3_search 133 = .ok (.goto (-72), 3) := by decide +kernel
theorem dX3_search_136 : decode cX3_search 136 = .ok (.iload 4, 2) := by decide +kernel
theorem dX3_search_138 : decode cX3_search 138 = .ok (.ireturn, 1) := by decide +kernel
theorem dX3_fillBest_0 : decode cX3_fillBest 0 = .ok (.iconst 0, 1) := by decide +kernel
theorem dX3_fillBest_1 : decode cX3_fillBest 1 = .ok (.istore 4, 2) := by decide +kernel
theorem dX3_fillBest_3 : decode cX3_fillBest 3 = .ok (.iconst 0, 1) := by decide +kernel
theorem dX3_fillBest_4 : decode cX3_fillBest 4 = .ok (.istore 5, 2) := by decide +kernel
theorem dX3_fillBest_6 : decode cX3_fillBest 6 = .ok (.iload 5, 2) := by decide +kernel
theorem dX3_fillBest_8 : decode cX3_fillBest 8 = .ok (.iload_n 2, 1) := by decide +kernel
theorem dX3_fillBest_9 : decode cX3_fillBest 9 = .ok (.if_icmp .ge 70, 3) := by decide +kernel
theorem dX3_fillBest_12 : decode cX3_fillBest 12 = .ok (.iload_n 1, 1) := by decide +kernel
theorem dX3_fillBest_13 : decode cX3_fillBest 13 = .ok (.iload 5, 2) := by decide +kernel
theorem dX3_fillBest_15 : decode cX3_fillBest 15 = .ok (.ishr, 1) := by decide +kernel
theorem dX3_fillBest_16 : decode cX3_fillBest 16 = .ok (.iconst 1, 1) := by decide +kernel
theorem dX3_fillBest_17 : decode cX3_fillBest 17 = .ok (.iand, 1) := by decide +kernel
theorem dX3_fillBest_18 : decode cX3_fillBest 18 = .ok (.ifCond .eq 55, 3) := by decide +kernel
theorem dX3_fillBest_21 : decode cX3_fillBest 21 = .ok (.aload_n 0, 1) := by decide +kernel
theorem dX3_fillBest_22 : decode cX3_fillBest 22 = .ok (.getfield 15, 3) := by decide +kernel
theorem dX3_fillBest_25 : decode cX3_fillBest 25 = .ok (.iload_n 1, 1) := by decide +kernel
theorem dX3_fillBest_26 : decode cX3_fillBest 26 = .ok (.iconst 1, 1) := by decide +kernel
theorem dX3_fillBest_27 : decode cX3_fillBest 27 = .ok (.iload 5, 2) := by decide +kernel
theorem dX3_fillBest_29 : decode cX3_fillBest 29 = .ok (.ishl, 1) := by decide +kernel
theorem dX3_fillBest_30 : decode cX3_fillBest 30 = .ok (.ixor, 1) := by decide +kernel
theorem dX3_fillBest_31 : decode cX3_fillBest 31 = .ok (.iaload, 1) := by decide +kernel
theorem dX3_fillBest_32 : decode cX3_fillBest 32 = .ok (.aload_n 0, 1) := by decide +kernel
theorem dX3_fillBest_33 : decode cX3_fillBest 33 = .ok (.getfield 9, 3) := by decide +kernel
theorem dX3_fillBest_36 : decode cX3_fillBest 36 = .ok (.iload 5, 2) := by decide +kernel
theorem dX3_fillBest_38 : decode cX3_fillBest 38 = .ok (.iaload, 1) := by decide +kernel
theorem dX3_fillBest_39 : decode cX3_fillBest 39 = .ok (.iadd, 1) := by decide +kernel
theorem dX3_fillBest_40 : decode cX3_fillBest 40 = .ok (.istore 6, 2) := by decide +kernel
theorem dX3_fillBest_42 : decode cX3_fillBest 42 = .ok (.iload 6, 2) := by decide +kernel
theorem dX3_fillBest_44 : decode cX3_fillBest 44 = .ok (.ldc 36, 2) := by decide +kernel
theorem dX3_fillBest_46 : decode cX3_fillBest 46 = .ok (.irem, 1) := by decide +kernel
theorem dX3_fillBest_47 : decode cX3_fillBest 47 = .ok (.iload_n 3, 1) := by decide +kernel
theorem dX3_fillBest_48 : decode cX3_fillBest 48 = .ok (.if_icmp .lt 16, 3) := by decide +kernel
theorem dX3_fillBest_51 : decode cX3_fillBest 51 = .ok (.iload 6, 2) := by decide +kernel
theorem dX3_fillBest_53 : decode cX3_fillBest 53 = .ok (.iload 6, 2) := by decide +kernel
theorem dX3_fillBest_55 : decode cX3_fillBest 55 = .ok (.ldc 36, 2) := by decide +kernel
theorem dX3_fillBest_57 : decode cX3_fillBest 57 = .ok (.irem, 1) := by decide +kernel
theorem dX3_fillBest_58 : decode cX3_fillBest 58 = .ok (.isub, 1) := by decide +kernel
theorem dX3_fillBest_59 : decode cX3_fillBest 59 = .ok (.ldc 36, 2) := by decide +kernel
theorem dX3_fillBest_61 : decode cX3_fillBest 61 = .ok (.iadd, 1) := by decide +kernel
theorem dX3_fillBest_62 : decode cX3_fillBest 62 = .ok (.istore 6, 2) := by decide +kernel
theorem dX3_fillBest_64 : decode cX3_fillBest 64 = .ok (.iload 4, 2) := by decide +kernel
theorem dX3_fillBest_66 : decode cX3_fillBest 66 = .ok (.iload 6, 2) := by decide +kernel
theorem dX3_fillBest_68 : decode cX3_fillBest 68 = .ok (.invokestatic 37, 3) := by decide +kernel
theorem dX3_fillBest_71 : decode cX3_fillBest 71 = .ok (.istore 4, 2) := by decide +kernel
theorem dX3_fillBest_73 : decode cX3_fillBest 73 = .ok (.iinc 5 1, 3) := by decide +kernel
theorem dX3_fillBest_76 : decode cX3_fillBest 76 = .ok (.goto (-70), 3) := by decide +kernel
theorem dX3_fillBest_79 : decode cX3_fillBest 79 = .ok (.iload 4, 2) := by decide +kernel
theorem dX3_fillBest_81 : decode cX3_fillBest 81 = .ok (.ireturn, 1) := by decide +kernel
theorem dX4_isOne_0 : decode cX4_isOne 0 = .ok (.iload_n 0, 1) := by decide +kernel
theorem dX4_isOne_1 : decode cX4_isOne 1 = .ok (.istore_n 2, 1) := by decide +kernel
theorem dX4_isOne_2 : decode cX4_isOne 2 = .ok (.iconst 0, 1) := by decide +kernel
theorem dX4_isOne_3 : decode cX4_isOne 3 = .ok (.istore_n 3, 1) := by decide +kernel
theorem dX4_isOne_4 : decode cX4_isOne 4 = .ok (.iload_n 3, 1) := by decide +kernel
theorem dX4_isOne_5 : decode cX4_isOne 5 = .ok (.iconst 5, 1) := by decide +kernel
theorem dX4_isOne_6 : decode cX4_isOne 6 = .ok (.if_icmp .ge 20, 3) := by decide +kernel
theorem dX4_isOne_9 : decode cX4_isOne 9 = .ok (.iload_n 2, 1) := by decide +kernel
theorem dX4_isOne_10 : decode cX4_isOne 10 = .ok (.iload_n 1, 1) := by decide +kernel
theorem dX4_isOne_11 : decode cX4_isOne 11 = .ok (.if_icmp .eq 15, 3) := by decide +kernel
theorem dX4_isOne_14 : decode cX4_isOne 14 = .ok (.getstatic 9, 3) := by decide +kernel
theorem dX4_isOne_17 : decode cX4_isOne 17 = .ok (.iload_n 2, 1) := by decide +kernel
theorem dX4_isOne_18 : decode cX4_isOne 18 = .ok (.iaload, 1) := by decide +kernel
theorem dX4_isOne_19 : decode cX4_isOne 19 = .ok (.istore_n 2, 1) := by decide +kernel
theorem dX4_isOne_20 : decode cX4_isOne 20 = .ok (.iinc 3 1, 3) := by decide +kernel
theorem dX4_isOne_23 : decode cX4_isOne 23 = .ok (.goto (-19), 3) := by decide +kernel
theorem dX4_isOne_26 : decode cX4_isOne 26 = .ok (.iload_n 2, 1) := by decide +kernel
theorem dX4_isOne_27 : decode cX4_isOne 27 = .ok (.iload_n 1, 1) := by decide +kernel
theorem dX4_isOne_28 : decode cX4_isOne 28 = .ok (.if_icmp .ne 7, 3) := by decide +kernel
theorem dX4_isOne_31 : decode cX4_isOne 31 = .ok (.iconst 1, 1) := by decide +kernel
theorem dX4_isOne_32 : decode cX4_isOne 32 = .ok (.goto 4, 3) := by decide +kernel
theorem dX4_isOne_35 : decode cX4_isOne 35 = .ok (.iconst 0, 1) := by decide +kernel
theorem dX4_isOne_36 : decode cX4_isOne 36 = .ok (.ireturn, 1) := by decide +kernel
theorem dX4_sizeBody_0 : decode cX4_sizeBody 0 = .ok (.getstatic 13, 3) := by decide +kernel
theorem dX4_sizeBody_3 : decode cX4_sizeBody 3 = .ok (.iload_n 0, 1) := by decide +kernel
theorem dX4_sizeBody_4 : decode cX4_sizeBody 4 = .ok (.invokestatic 16, 3) := by decide +kernel
theorem dX4_sizeBody_7 : decode cX4_sizeBody 7 = .ok (.ireturn, 1) := by decide +kernel
theorem dX4_markBody_0 : decode cX4_markBody 0 = .ok (.getstatic 20, 3) := by decide +kernel
theorem dX4_markBody_3 : decode cX4_markBody 3 = .ok (.iload_n 0, 1) := by decide +kernel
theorem dX4_markBody_4 : decode cX4_markBody 4 = .ok (.invokestatic 16, 3) := by decide +kernel
theorem dX4_markBody_7 : decode cX4_markBody 7 = .ok (.ireturn, 1) := by decide +kernel
theorem dX4_nearest_0 : decode cX4_nearest 0 = .ok (.iload_n 1, 1) := by decide +kernel
theorem dX4_nearest_1 : decode cX4_nearest 1 = .ok (.istore_n 2, 1) := by decide +kernel
theorem dX4_nearest_2 : decode cX4_nearest 2 = .ok (.iconst 0, 1) := by decide +kernel
theorem dX4_nearest_3 : decode cX4_nearest 3 = .ok (.istore_n 3, 1) := by decide +kernel
theorem dX4_nearest_4 : decode cX4_nearest 4 = .ok (.iload_n 3, 1) := by decide +kernel
theorem dX4_nearest_5 : decode cX4_nearest 5 = .ok (.iconst 5, 1) := by decide +kernel
theorem dX4_nearest_6 : decode cX4_nearest 6 = .ok (.if_icmp .ge 21, 3) := by decide +kernel
theorem dX4_nearest_9 : decode cX4_nearest 9 = .ok (.aload_n 0, 1) := by decide +kernel
theorem dX4_nearest_10 : decode cX4_nearest 10 = .ok (.iload_n 2, 1) := by decide +kernel
theorem dX4_nearest_11 : decode cX4_nearest 11 = .ok (.iaload, 1) := by decide +kernel
theorem dX4_nearest_12 : decode cX4_nearest 12 = .ok (.ifCond .ne 15, 3) := by decide +kernel
theorem dX4_nearest_15 : decode cX4_nearest 15 = .ok (.getstatic 9, 3) := by decide +kernel
theorem dX4_nearest_18 : decode cX4_nearest 18 = .ok (.iload_n 2, 1) := by decide +kernel
theorem dX4_nearest_19 : decode cX4_nearest 19 = .ok (.iaload, 1) := by decide +kernel
theorem dX4_nearest_20 : decode cX4_nearest 20 = .ok (.istore_n 2, 1) := by decide +kernel
theorem dX4_nearest_21 : decode cX4_nearest 21 = .ok (.iinc 3 1, 3) := by decide +kernel
theorem dX4_nearest_24 : decode cX4_nearest 24 = .ok (.goto (-20), 3) := by decide +kernel
theorem dX4_nearest_27 : decode cX4_nearest 27 = .ok (.aload_n 0, 1) := by decide +kernel
theorem dX4_nearest_28 : decode cX4_nearest 28 = .ok (.iload_n 2, 1) := by decide +kernel
theorem dX4_nearest_29 : decode cX4_nearest 29 = .ok (.iaload, 1) := by decide +kernel
theorem dX4_nearest_30 : decode cX4_nearest 30 = .ok (.ireturn, 1) := by decide +kernel
theorem dX5_init_0 : decode cX5_init 0 = .ok (.aload_n 0, 1) := by decide +kernel
theorem dX5_init_1 : decode cX5_init 1 = .ok (.invokespecial 3, 3) := by decide +kernel
theorem dX5_init_4 : decode cX5_init 4 = .ok (.aload_n 0, 1) := by decide +kernel
theorem dX5_init_5 : decode cX5_init 5 = .ok (.iconst 3, 1) := by decide +kernel
theorem dX5_init_6 : decode cX5_init 6 = .ok (.newarray .int, 2) := by decide +kernel
theorem dX5_init_8 : decode cX5_init 8 = .ok (.putfield 9, 3) := by decide +kernel
theorem dX5_init_11 : decode cX5_init 11 = .ok (.aload_n 0, 1) := by decide +kernel
theorem dX5_init_12 : decode cX5_init 12 = .ok (.iconst 0, 1) := by decide +kernel
theorem dX5_init_13 : decode cX5_init 13 = .ok (.putfield 15, 3) := by decide +kernel
theorem dX5_init_16 : decode cX5_init 16 = .ok (.aload_n 0, 1) := by decide +kernel
theorem dX5_init_17 : decode cX5_init 17 = .ok (.iconst 0, 1) := by decide +kernel
theorem dX5_init_18 : decode cX5_init 18 = .ok (.putfield 19, 3) := by decide +kernel
theorem dX5_init_21 : decode cX5_init 21 = .ok (.aload_n 0, 1) := by decide +kernel
theorem dX5_init_22 : decode cX5_init 22 = .ok (.iconst 1, 1) := by decide +kernel
theorem dX5_init_23 : decode cX5_init 23 = .ok (.putfield 22, 3) := by decide +kernel
theorem dX5_init_26 : decode cX5_init 26 = .ok (.return_, 1) := by decide +kernel
theorem dX5_reckon_0 : decode cX5_reckon 0 = .ok (.aload_n 0, 1) := by decide +kernel
theorem dX5_reckon_1 : decode cX5_reckon 1 = .ok (.iload_n 2, 1) := by decide +kernel
theorem dX5_reckon_2 : decode cX5_reckon 2 = .ok (.iconst 3, 1) := by decide +kernel
theorem dX5_reckon_3 : decode cX5_reckon 3 = .ok (.iadd, 1) := by decide +kernel
theorem dX5_reckon_4 : decode cX5_reckon 4 = .ok (.iconst 1, 1) := by decide +kernel
theorem dX5_reckon_5 : decode cX5_reckon 5 = .ok (.isub, 1) := by decide +kernel
theorem dX5_reckon_6 : decode cX5_reckon 6 = .ok (.iconst 3, 1) := by decide +kernel
theorem dX5_reckon_7 : decode cX5_reckon 7 = .ok (.idiv, 1) := by decide +kernel
theorem dX5_reckon_8 : decode cX5_reckon 8 = .ok (.putfield 15, 3) := by decide +kernel
theorem dX5_reckon_11 : decode cX5_reckon 11 = .ok (.iconst 0, 1) := by decide +kernel
theorem dX5_reckon_12 : decode cX5_reckon 12 = .ok (.istore_n 3, 1) := by decide +kernel
theorem dX5_reckon_13 : decode cX5_reckon 13 = .ok (.iload_n 3, 1) := by decide +kernel
theorem dX5_reckon_14 : decode cX5_reckon 14 = .ok (.iconst 3, 1) := by decide +kernel
theorem dX5_reckon_15 : decode cX5_reckon 15 = .ok (.if_icmp .ge 16, 3) := by decide +kernel
theorem dX5_reckon_18 : decode cX5_reckon 18 = .ok (.aload_n 0, 1) := by decide +kernel
theorem dX5_reckon_19 : decode cX5_reckon 19 = .ok (.getfield 9, 3) := by decide +kernel
theorem dX5_reckon_22 : decode cX5_reckon 22 = .ok (.iload_n 3, 1) := by decide +kernel
theorem dX5_reckon_23 : decode cX5_reckon 23 = .ok (.iconst 0, 1) := by decide +kernel
theorem dX5_reckon_24 : decode cX5_reckon 24 = .ok (.iastore, 1) := by decide +kernel
theorem dX5_reckon_25 : decode cX5_reckon 25 = .ok (.iinc 3 1, 3) := by decide +kernel
theorem dX5_reckon_28 : decode cX5_reckon 28 = .ok (.goto (-15), 3) := by decide +kernel
theorem dX5_reckon_31 : decode cX5_reckon 31 = .ok (.aload_n 0, 1) := by decide +kernel
theorem dX5_reckon_32 : decode cX5_reckon 32 = .ok (.aload_n 0, 1) := by decide +kernel
theorem dX5_reckon_33 : decode cX5_reckon 33 = .ok (.aload_n 1, 1) := by decide +kernel
theorem dX5_reckon_34 : decode cX5_reckon 34 = .ok (.iconst 0, 1) := by decide +kernel
theorem dX5_reckon_35 : decode cX5_reckon 35 = .ok (.invokevirtual 25, 3) := by decide +kernel
theorem dX5_reckon_38 : decode cX5_reckon 38 = .ok (.putfield 19, 3) := by decide +kernel
theorem dX5_reckon_41 : decode cX5_reckon 41 = .ok (.aload_n 0, 1) := by decide +kernel
theorem dX5_reckon_42 : decode cX5_reckon 42 = .ok (.iconst 1, 1) := by decide +kernel
theorem dX5_reckon_43 : decode cX5_reckon 43 = .ok (.putfield 22, 3) := by decide +kernel
theorem dX5_reckon_46 : decode cX5_reckon 46 = .ok (.iconst 0, 1) := by decide +kernel
theorem dX5_reckon_47 : decode cX5_reckon 47 = .ok (.istore_n 3, 1) := by decide +kernel
theorem dX5_reckon_48 : decode cX5_reckon 48 = .ok (.iload_n 3, 1) := by decide +kernel
theorem dX5_reckon_49 : decode cX5_reckon 49 = .ok (.aload_n 1, 1) := by decide +kernel
theorem dX5_reckon_50 : decode cX5_reckon 50 = .ok (.getfield 29, 3) := by decide +kernel
theorem dX5_reckon_53 : decode cX5_reckon 53 = .ok (.if_icmp .ge 20, 3) := by decide +kernel
theorem dX5_reckon_56 : decode cX5_reckon 56 = .ok (.aload_n 0, 1) := by decide +kernel
theorem dX5_reckon_57 : decode cX5_reckon 57 = .ok (.dup, 1) := by decide +kernel
theorem dX5_reckon_58 : decode cX5_reckon 58 = .ok (.getfield 22, 3) := by decide +kernel
theorem dX5_reckon_61 : decode cX5_reckon 61 = .ok (.bipush 10, 2) := by decide +kernel
theorem dX5_reckon_63 : decode cX5_reckon 63 = .ok (.imul, 1) := by decide +kernel
theorem dX5_reckon_64 : decode cX5_reckon 64 = .ok (.putfield 22, 3) := by decide +kernel
theorem dX5_reckon_67 : decode cX5_reckon 67 = .ok (.iinc 3 1, 3) := by decide +kernel
theorem dX5_reckon_70 : decode cX5_reckon 70 = .ok (.goto (-22), 3) := by decide +kernel
theorem dX5_reckon_73 : decode cX5_reckon 73 = .ok (.iconst 0, 1) := by decide +kernel
theorem dX5_reckon_74 : decode cX5_reckon 74 = .ok (.istore_n 3, 1) := by decide +kernel
theorem dX5_reckon_75 : decode cX5_reckon 75 = .ok (.iload_n 3, 1) := by decide +kernel
theorem dX5_reckon_76 : decode cX5_reckon 76 = .ok (.aload_n 1, 1) := by decide +kernel
theorem dX5_reckon_77 : decode cX5_reckon 77 = .ok (.getfield 29, 3) := by decide +kernel
theorem dX5_reckon_80 : decode cX5_reckon 80 = .ok (.if_icmp .ge 17, 3) := by decide +kernel
theorem dX5_reckon_83 : decode cX5_reckon 83 = .ok (.aload_n 0, 1) := by decide +kernel
theorem dX5_reckon_84 : decode cX5_reckon 84 = .ok (.invokevirtual 34, 3) := by decide +kernel
theorem dX5_reckon_87 : decode cX5_reckon 87 = .ok (.aload_n 0, 1) := by decide +kernel
theorem dX5_reckon_88 : decode cX5_reckon 88 = .ok (.invokevirtual 37, 3) := by decide +kernel
theorem dX5_reckon_91 : decode cX5_reckon 91 = .ok (.iinc 3 1, 3) := by decide +kernel
theorem dX5_reckon_94 : decode cX5_reckon 94 = .ok (.goto (-19), 3) := by decide +kernel
theorem dX5_reckon_97 : decode cX5_reckon 97 = .ok (.return_, 1) := by decide +kernel
theorem dX5_yearsFrom_0 : decode cX5_yearsFrom 0 = .ok (.iload_n 2, 1) := by decide +kernel
theorem dX5_yearsFrom_1 : decode cX5_yearsFrom 1 = .ok (.aload_n 1, 1) := by decide +kernel
theorem dX5_yearsFrom_2 : decode cX5_yearsFrom 2 = .ok (.getfield 29, 3) := by decide +kernel
theorem dX5_yearsFrom_5 : decode cX5_yearsFrom 5 = .ok (.if_icmp .lt 48, 3) := by decide +kernel
theorem dX5_yearsFrom_8 : decode cX5_yearsFrom 8 = .ok (.aload_n 0, 1) := by decide +kernel
theorem dX5_yearsFrom_9 : decode cX5_yearsFrom 9 = .ok (.getfield 9, 3) := by decide +kernel
theorem dX5_yearsFrom_12 : decode cX5_yearsFrom 12 = .ok (.iconst 0, 1) := by decide +kernel
theorem dX5_yearsFrom_13 : decode cX5_yearsFrom 13 = .ok (.iaload, 1) := by decide +kernel
theorem dX5_yearsFrom_14 : decode cX5_yearsFrom 14 = .ok (.aload_n 0, 1) := by decide +kernel
theorem dX5_yearsFrom_15 : decode cX5_yearsFrom 15 = .ok (.getfield 15, 3) := by decide +kernel
theorem dX5_yearsFrom_18 : decode cX5_yearsFrom 18 = .ok (.if_icmp .lt 33, 3) := by decide +kernel
theorem dX5_yearsFrom_21 : decode cX5_yearsFrom 21 = .ok (.aload_n 0, 1) := by decide +kernel
theorem dX5_yearsFrom_22 : decode cX5_yearsFrom 22 = .ok (.getfield 9, 3) := by decide +kernel
theorem dX5_yearsFrom_25 : decode cX5_yearsFrom 25 = .ok (.iconst 1, 1) := by decide +kernel
theorem dX5_yearsFrom_26 : decode cX5_yearsFrom 26 = .ok (.iaload, 1) := by decide +kernel
theorem dX5_yearsFrom_27 : decode cX5_yearsFrom 27 = .ok (.aload_n 0, 1) := by decide +kernel
theorem dX5_yearsFrom_28 : decode cX5_yearsFrom 28 = .ok (.getfield 15, 3) := by decide +kernel
theorem dX5_yearsFrom_31 : decode cX5_yearsFrom 31 = .ok (.if_icmp .lt 20, 3) := by decide +kernel
theorem dX5_yearsFrom_34 : decode cX5_yearsFrom 34 = .ok (.aload_n 0, 1) := by decide +kernel
theorem dX5_yearsFrom_35 : decode cX5_yearsFrom 35 = .ok (.getfield 9, 3) := by decide +kernel
theorem dX5_yearsFrom_38 : decode cX5_yearsFrom 38 = .ok (.iconst 2, 1) := by decide +kernel
theorem dX5_yearsFrom_39 : decode cX5_yearsFrom 39 = .ok (.iaload, 1) := by decide +kernel
theorem dX5_yearsFrom_40 : decode cX5_yearsFrom 40 = .ok (.aload_n 0, 1) := by decide +kernel
theorem dX5_yearsFrom_41 : decode cX5_yearsFrom 41 = .ok (.getfield 15, 3) := by decide +kernel
theorem dX5_yearsFrom_44 : decode cX5_yearsFrom 44 = .ok (.if_icmp .lt 7, 3) := by decide +kernel
theorem dX5_yearsFrom_47 : decode cX5_yearsFrom 47 = .ok (.iconst 1, 1) := by decide +kernel
theorem dX5_yearsFrom_48 : decode cX5_yearsFrom 48 = .ok (.goto 4, 3) := by decide +kernel
theorem dX5_yearsFrom_51 : decode cX5_yearsFrom 51 = .ok (.iconst 0, 1) := by decide +kernel
theorem dX5_yearsFrom_52 : decode cX5_yearsFrom 52 = .ok (.ireturn, 1) := by decide +kernel
theorem dX5_yearsFrom_53 : decode cX5_yearsFrom 53 = .ok (.aload_n 1, 1) := by decide +kernel
theorem dX5_yearsFrom_54 : decode cX5_yearsFrom 54 = .ok (.getfield 40, 3) := by decide +kernel
theorem dX5_yearsFrom_57 : decode cX5_yearsFrom 57 = .ok (.iconst 0, 1) := by decide +kernel
theorem dX5_yearsFrom_58 : decode cX5_yearsFrom 58 = .ok (.iload_n 2, 1) := by decide +kernel
theorem dX5_yearsFrom_59 : decode cX5_yearsFrom 59 = .ok (.iadd, 1) := by decide +kernel
theorem dX5_yearsFrom_60 : decode cX5_yearsFrom 60 = .ok (.iaload, 1) := by decide +kernel
theorem dX5_yearsFrom_61 : decode cX5_yearsFrom 61 = .ok (.istore_n 3, 1) := by decide +kernel
theorem dX5_yearsFrom_62 : decode cX5_yearsFrom 62 = .ok (.iload_n 3, 1) := by decide +kernel
theorem dX5_yearsFrom_63 : decode cX5_yearsFrom 63 = .ok (.iconst (-1), 1) := by decide +kernel
theorem dX5_yearsFrom_64 : decode cX5_yearsFrom 64 = .ok (.if_icmp .ne 15, 3) := by decide +kernel
theorem dX5_yearsFrom_67 : decode cX5_yearsFrom 67 = .ok (.bipush 10, 2) := by decide +kernel
theorem dX5_yearsFrom_69 : decode cX5_yearsFrom 69 = .ok (.aload_n 0, 1) := by decide +kernel
theorem dX5_yearsFrom_70 : decode cX5_yearsFrom 70 = .ok (.aload_n 1, 1) := by decide +kernel
theorem dX5_yearsFrom_71 : decode cX5_yearsFrom 71 = .ok (.iload_n 2, 1) := by decide +kernel
theorem dX5_yearsFrom_72 : decode cX5_yearsFrom 72 = .ok (.iconst 1, 1) := by decide +kernel
theorem dX5_yearsFrom_73 : decode cX5_yearsFrom 73 = .ok (.iadd, 1) := by decide +kernel
theorem dX5_yearsFrom_74 : decode cX5_yearsFrom 74 = .ok (.invokevirtual 25, 3) := by decide +kernel
theorem dX5_yearsFrom_77 : decode cX5_yearsFrom 77 = .ok (.imul, 1) := by decide +kernel
theorem dX5_yearsFrom_78 : decode cX5_yearsFrom 78 = .ok (.ireturn, 1) := by decide +kernel
theorem dX5_yearsFrom_79 : decode cX5_yearsFrom 79 = .ok (.aload_n 1, 1) := by decide +kernel
theorem dX5_yearsFrom_80 : decode cX5_yearsFrom 80 = .ok (.iload_n 2, 1) := by decide +kernel
theorem dX5_yearsFrom_81 : decode cX5_yearsFrom 81 = .ok (.invokevirtual 43, 3) := by decide +kernel
theorem dX5_yearsFrom_84 : decode cX5_yearsFrom 84 = .ok (.istore 4, 2) := by decide +kernel
theorem dX5_yearsFrom_86 : decode cX5_yearsFrom 86 = .ok (.iconst 0, 1) := by decide +kernel
theorem dX5_yearsFrom_87 : decode cX5_yearsFrom 87 = .ok (.istore 5, 2) := by decide +kernel
theorem dX5_yearsFrom_89 : decode cX5_yearsFrom 89 = .ok (.iload 4, 2) := by decide +kernel
theorem dX5_yearsFrom_91 : decode cX5_yearsFrom 91 = .ok (.bipush 10, 2) := by decide +kernel
theorem dX5_yearsFrom_93 : decode cX5_yearsFrom 93 = .ok (.if_icmp .ge 22, 3) := by decide +kernel
theorem dX5_yearsFrom_96 : decode cX5_yearsFrom 96 = .ok (.iload 5, 2) := by decide +kernel
theorem dX5_yearsFrom_98 : decode cX5_yearsFrom 98 = .ok (.bipush 10, 2) := by decide +kernel
theorem dX5_yearsFrom_100 : decode cX5_yearsFrom 100 = .ok (.iload 4, 2) := by decide +kernel
theorem dX5_yearsFrom_102 : decode cX5_yearsFrom 102 = .ok (.isub, 1) := by decide +kernel
theorem dX5_yearsFrom_103 : decode cX5_yearsFrom 103 = .ok (.aload_n 0, 1) := by decide +kernel
theorem dX5_yearsFrom_104 : decode cX5_yearsFrom 104 = .ok (.aload_n 1, 1) := by decide +kernel
theorem dX5_yearsFrom_105 : decode cX5_yearsFrom 105 = .ok (.iload_n 2, 1) := by decide +kernel
theorem dX5_yearsFrom_106 : decode cX5_yearsFrom 106 = .ok (.iconst 1, 1) := by decide +kernel
theorem dX5_yearsFrom_107 : decode cX5_yearsFrom 107 = .ok (.iadd, 1) := by decide +kernel
theorem dX5_yearsFrom_108 : decode cX5_yearsFrom 108 = .ok (.invokevirtual 25, 3) := by decide +kernel
theorem dX5_yearsFrom_111 : decode cX5_yearsFrom 111 = .ok (.imul, 1) := by decide +kernel
theorem dX5_yearsFrom_112 : decode cX5_yearsFrom 112 = .ok (.iadd, 1) := by decide +kernel
theorem dX5_yearsFrom_113 : decode cX5_yearsFrom 113 = .ok (.istore 5, 2) := by decide +kernel
theorem dX5_yearsFrom_115 : decode cX5_yearsFrom 115 = .ok (.iload 4, 2) := by decide +kernel
theorem dX5_yearsFrom_117 : decode cX5_yearsFrom 117 = .ok (.ifCond .le 49, 3) := by decide +kernel
theorem dX5_yearsFrom_120 : decode cX5_yearsFrom 120 = .ok (.aload_n 1, 1) := by decide +kernel
theorem dX5_yearsFrom_121 : decode cX5_yearsFrom 121 = .ok (.iload_n 2, 1) := by decide +kernel
theorem dX5_yearsFrom_122 : decode cX5_yearsFrom 122 = .ok (.iconst 1, 1) := by decide +kernel
theorem dX5_yearsFrom_123 : decode cX5_yearsFrom 123 = .ok (.invokevirtual 47, 3) := by decide +kernel
theorem dX5_yearsFrom_126 : decode cX5_yearsFrom 126 = .ok (.istore 6, 2) := by decide +kernel
theorem dX5_yearsFrom_128 : decode cX5_yearsFrom 128 = .ok (.aload_n 0, 1) := by decide +kernel
theorem dX5_yearsFrom_129 : decode cX5_yearsFrom 129 = .ok (.getfield 9, 3) := by decide +kernel
theorem dX5_yearsFrom_132 : decode cX5_yearsFrom 132 = .ok (.iload_n 3, 1) := by decide +kernel
theorem dX5_yearsFrom_133 : decode cX5_yearsFrom 133 = .ok (.dup2, 1) := by decide +kernel
theorem dX5_yearsFrom_134 : decode cX5_yearsFrom 134 = .ok (.iaload, 1) := by decide +kernel
theorem dX5_yearsFrom_135 : decode cX5_yearsFrom 135 = .ok (.iload 6, 2) := by decide +kernel
theorem dX5_yearsFrom_137 : decode cX5_yearsFrom 137 = .ok (.iadd, 1) := by decide +kernel
theorem dX5_yearsFrom_138 : decode cX5_yearsFrom 138 = .ok (.iastore, 1) := by decide +kernel
theorem dX5_yearsFrom_139 : decode cX5_yearsFrom 139 = .ok (.iload 5, 2) := by decide +kernel
theorem dX5_yearsFrom_141 : decode cX5_yearsFrom 141 = .ok (.iload 4, 2) := by decide +kernel
theorem dX5_yearsFrom_143 : decode cX5_yearsFrom 143 = .ok (.aload_n 0, 1) := by decide +kernel
theorem dX5_yearsFrom_144 : decode cX5_yearsFrom 144 = .ok (.aload_n 1, 1) := by decide +kernel
theorem dX5_yearsFrom_145 : decode cX5_yearsFrom 145 = .ok (.iload_n 2, 1) := by decide +kernel
theorem dX5_yearsFrom_146 : decode cX5_yearsFrom 146 = .ok (.iconst 1, 1) := by decide +kernel
theorem dX5_yearsFrom_147 : decode cX5_yearsFrom 147 = .ok (.iadd, 1) := by decide +kernel
theorem dX5_yearsFrom_148 : decode cX5_yearsFrom 148 = .ok (.invokevirtual 25, 3) := by decide +kernel
theorem dX5_yearsFrom_151 : decode cX5_yearsFrom 151 = .ok (.imul, 1) := by decide +kernel
theorem dX5_yearsFrom_152 : decode cX5_yearsFrom 152 = .ok (.iadd, 1) := by decide +kernel
theorem dX5_yearsFrom_153 : decode cX5_yearsFrom 153 = .ok (.istore 5, 2) := by decide +kernel
theorem dX5_yearsFrom_155 : decode cX5_yearsFrom 155 = .ok (.aload_n 0, 1) := by decide +kernel
theorem dX5_yearsFrom_156 : decode cX5_yearsFrom 156 = .ok (.getfield 9, 3) := by decide +kernel
theorem dX5_yearsFrom_159 : decode cX5_yearsFrom 159 = .ok (.iload_n 3, 1) := by decide +kernel
theorem dX5_yearsFrom_160 : decode cX5_yearsFrom 160 = .ok (.dup2, 1) := by decide +kernel
theorem dX5_yearsFrom_161 : decode cX5_yearsFrom 161 = .ok (.iaload, 1) := by decide +kernel
theorem dX5_yearsFrom_162 : decode cX5_yearsFrom 162 = .ok (.iload 6, 2) := by decide +kernel
theorem dX5_yearsFrom_164 : decode cX5_yearsFrom 164 = .ok (.isub, 1) := by decide +kernel
theorem dX5_yearsFrom_165 : decode cX5_yearsFrom 165 = .ok (.iastore, 1) := by decide +kernel
theorem dX5_yearsFrom_166 : decode cX5_yearsFrom 166 = .ok (.iload 5, 2) := by decide +kernel
theorem dX5_yearsFrom_168 : decode cX5_yearsFrom 168 = .ok (.ireturn, 1) := by decide +kernel
theorem dX5_divideByTwo_0 : decode cX5_divideByTwo 0 = .ok (.aload_n 0, 1) := by decide +kernel
theorem dX5_divideByTwo_1 : decode cX5_divideByTwo 1 = .ok (.getfield 19, 3) := by decide +kernel
theorem dX5_divideByTwo_4 : decode cX5_divideByTwo 4 = .ok (.iconst 2, 1) := by decide +kernel
theorem dX5_divideByTwo_5 : decode cX5_divideByTwo 5 = .ok (.irem, 1) := by decide +kernel
theorem dX5_divideByTwo_6 : decode cX5_divideByTwo 6 = .ok (.ifCond .ne 32, 3) := by decide +kernel
theorem dX5_divideByTwo_9 : decode cX5_divideByTwo 9 = .ok (.aload_n 0, 1) := by decide +kernel
theorem dX5_divideByTwo_10 : decode cX5_divideByTwo 10 = .ok (.getfield 22, 3) := by decide +kernel
theorem dX5_divideByTwo_13 : decode cX5_divideByTwo 13 = .ok (.iconst 2, 1) := by decide +kernel
theorem dX5_divideByTwo_14 : decode cX5_divideByTwo 14 = .ok (.irem, 1) := by decide +kernel
theorem dX5_divideByTwo_15 : decode cX5_divideByTwo 15 = .ok (.ifCond .ne 23, 3) := by decide +kernel
theorem dX5_divideByTwo_18 : decode cX5_divideByTwo 18 = .ok (.aload_n 0, 1) := by decide +kernel
theorem dX5_divideByTwo_19 : decode cX5_divideByTwo 19 = .ok (.dup, 1) := by decide +kernel
theorem dX5_divideByTwo_20 : decode cX5_divideByTwo 20 = .ok (.getfield 19, 3) := by decide +kernel
theorem dX5_divideByTwo_23 : decode cX5_divideByTwo 23 = .ok (.iconst 2, 1) := by decide +kernel
theorem dX5_divideByTwo_24 : decode cX5_divideByTwo 24 = .ok (.idiv, 1) := by decide +kernel
theorem dX5_divideByTwo_25 : decode cX5_divideByTwo 25 = .ok (.putfield 19, 3) := by decide +kernel
theorem dX5_divideByTwo_28 : decode cX5_divideByTwo 28 = .ok (.aload_n 0, 1) := by decide +kernel
theorem dX5_divideByTwo_29 : decode cX5_divideByTwo 29 = .ok (.dup, 1) := by decide +kernel
theorem dX5_divideByTwo_30 : decode cX5_divideByTwo 30 = .ok (.getfield 22, 3) := by decide +kernel
theorem dX5_divideByTwo_33 : decode cX5_divideByTwo 33 = .ok (.iconst 2, 1) := by decide +kernel
theorem dX5_divideByTwo_34 : decode cX5_divideByTwo 34 = .ok (.idiv, 1) := by decide +kernel
theorem dX5_divideByTwo_35 : decode cX5_divideByTwo 35 = .ok (.putfield 22, 3) := by decide +kernel
theorem dX5_divideByTwo_38 : decode cX5_divideByTwo 38 = .ok (.return_, 1) := by decide +kernel
theorem dX5_divideByFive_0 : decode cX5_divideByFive 0 = .ok (.aload_n 0, 1) := by decide +kernel
theorem dX5_divideByFive_1 : decode cX5_divideByFive 1 = .ok (.getfield 19, 3) := by decide +kernel
theorem dX5_divideByFive_4 : decode cX5_divideByFive 4 = .ok (.iconst 5, 1) := by decide +kernel
theorem dX5_divideByFive_5 : decode cX5_divideByFive 5 = .ok (.irem, 1) := by decide +kernel
theorem dX5_divideByFive_6 : decode cX5_divideByFive 6 = .ok (.ifCond .ne 32, 3) := by decide +kernel
theorem dX5_divideByFive_9 : decode cX5_divideByFive 9 = .ok (.aload_n 0, 1) := by decide +kernel
theorem dX5_divideByFive_10 : decode cX5_divideByFive 10 = .ok (.getfield 22, 3) := by decide +kernel
theorem dX5_divideByFive_13 : decode cX5_divideByFive 13 = .ok (.iconst 5, 1) := by decide +kernel
theorem dX5_divideByFive_14 : decode cX5_divideByFive 14 = .ok (.irem, 1) := by decide +kernel
theorem dX5_divideByFive_15 : decode cX5_divideByFive 15 = .ok (.ifCond .ne 23, 3) := by decide +kernel
theorem dX5_divideByFive_18 : decode cX5_divideByFive 18 = .ok (.aload_n 0, 1) := by decide +kernel
theorem dX5_divideByFive_19 : decode cX5_divideByFive 19 = .ok (.dup, 1) := by decide +kernel
theorem dX5_divideByFive_20 : decode cX5_divideByFive 20 = .ok (.getfield 19, 3) := by decide +kernel
theorem dX5_divideByFive_23 : decode cX5_divideByFive 23 = .ok (.iconst 5, 1) := by decide +kernel
theorem dX5_divideByFive_24 : decode cX5_divideByFive 24 = .ok (.idiv, 1) := by decide +kernel
theorem dX5_divideByFive_25 : decode cX5_divideByFive 25 = .ok (.putfield 19, 3) := by decide +kernel
theorem dX5_divideByFive_28 : decode cX5_divideByFive 28 = .ok (.aload_n 0, 1) := by decide +kernel
theorem dX5_divideByFive_29 : decode cX5_divideByFive 29 = .ok (.dup, 1) := by decide +kernel
theorem dX5_divideByFive_30 : decode cX5_divideByFive 30 = .ok (.getfield 22, 3) := by decide +kernel
theorem dX5_divideByFive_33 : decode cX5_divideByFive 33 = .ok (.iconst 5, 1) := by decide +kernel
theorem dX5_divideByFive_34 : decode cX5_divideByFive 34 = .ok (.idiv, 1) := by decide +kernel
theorem dX5_divideByFive_35 : decode cX5_divideByFive 35 = .ok (.putfield 22, 3) := by decide +kernel
theorem dX5_divideByFive_38 : decode cX5_divideByFive 38 = .ok (.return_, 1) := by decide +kernel
theorem dX6_init_0 : decode cX6_init 0 = .ok (.aload_n 0, 1) := by decide +kernel
theorem dX6_init_1 : decode cX6_init 1 = .ok (.invokespecial 3, 3) := by decide +kernel
theorem dX6_init_4 : decode cX6_init 4 = .ok (.aload_n 0, 1) := by decide +kernel
theorem dX6_init_5 : decode cX6_init 5 = .ok (.new 9, 3) := by decide +kernel
theorem dX6_init_8 : decode cX6_init 8 = .ok (.dup, 1) := by decide +kernel
theorem dX6_init_9 : decode cX6_init 9 = .ok (.invokespecial 11, 3) := by decide +kernel
theorem dX6_init_12 : decode cX6_init 12 = .ok (.putfield 12, 3) := by decide +kernel
theorem dX6_init_15 : decode cX6_init 15 = .ok (.aload_n 0, 1) := by decide +kernel
theorem dX6_init_16 : decode cX6_init 16 = .ok (.iconst 0, 1) := by decide +kernel
theorem dX6_init_17 : decode cX6_init 17 = .ok (.putfield 18, 3) := by decide +kernel
theorem dX6_init_20 : decode cX6_init 20 = .ok (.return_, 1) := by decide +kernel
theorem dX6_readInto_0 : decode cX6_readInto 0 = .ok (.aload_n 0, 1) := by decide +kernel
theorem dX6_readInto_1 : decode cX6_readInto 1 = .ok (.iconst 0, 1) := by decide +kernel
theorem dX6_readInto_2 : decode cX6_readInto 2 = .ok (.putfield 18, 3) := by decide +kernel
theorem dX6_readInto_5 : decode cX6_readInto 5 = .ok (.aload_n 1, 1) := by decide +kernel
theorem dX6_readInto_6 : decode cX6_readInto 6 = .ok (.invokevirtual 22, 3) := by decide +kernel
theorem dX6_readInto_9 : decode cX6_readInto 9 = .ok (.aload_n 0, 1) := by decide +kernel
theorem dX6_readInto_10 : decode cX6_readInto 10 = .ok (.getfield 12, 3) := by decide +kernel
theorem dX6_readInto_13 : decode cX6_readInto 13 = .ok (.invokevirtual 27, 3) := by decide +kernel
theorem dX6_readInto_16 : decode cX6_readInto 16 = .ok (.aload_n 0, 1) := by decide +kernel
theorem dX6_readInto_17 : decode cX6_readInto 17 = .ok (.aload_n 1, 1) := by decide +kernel
theorem dX6_readInto_18 : decode cX6_readInto 18 = .ok (.invokevirtual 30, 3) := by decide +kernel
theorem dX6_readInto_21 : decode cX6_readInto 21 = .ok (.iconst 0, 1) := by decide +kernel
theorem dX6_readInto_22 : decode cX6_readInto 22 = .ok (.istore_n 2, 1) := by decide +kernel
theorem dX6_readInto_23 : decode cX6_readInto 23 = .ok (.iload_n 2, 1) := by decide +kernel
theorem dX6_readInto_24 : decode cX6_readInto 24 = .ok (.iconst 5, 1) := by decide +kernel
theorem dX6_readInto_25 : decode cX6_readInto 25 = .ok (.if_icmp .gt 33, 3) := by decide +kernel
theorem dX6_readInto_28 : decode cX6_readInto 28 = .ok (.aload_n 0, 1) := by decide +kernel
theorem dX6_readInto_29 : decode cX6_readInto 29 = .ok (.getfield 18, 3) := by decide +kernel
theorem dX6_readInto_32 : decode cX6_readInto 32 = .ok (.ifCond .ne 26, 3) := by decide +kernel
theorem dX6_readInto_35 : decode cX6_readInto 35 = .ok (.aload_n 0, 1) := by decide +kernel
theorem dX6_readInto_36 : decode cX6_readInto 36 = .ok (.getfield 12, 3) := by decide +kernel
theorem dX6_readInto_39 : decode cX6_readInto 39 = .ok (.ldc 34, 2) := by decide +kernel
theorem dX6_readInto_41 : decode cX6_readInto 41 = .ok (.invokevirtual 36, 3) := by decide +kernel
theorem dX6_readInto_44 : decode cX6_readInto 44 = .ok (.ifCond .eq 14, 3) := by decide +kernel
theorem dX6_readInto_47 : decode cX6_readInto 47 = .ok (.aload_n 0, 1) := by decide +kernel
theorem dX6_readInto_48 : decode cX6_readInto 48 = .ok (.aload_n 1, 1) := by decide +kernel
theorem dX6_readInto_49 : decode cX6_readInto 49 = .ok (.invokevirtual 40, 3) := by decide +kernel
theorem dX6_readInto_52 : decode cX6_readInto 52 = .ok (.iinc 2 1, 3) := by decide +kernel
theorem dX6_readInto_55 : decode cX6_readInto 55 = .ok (.goto (-32), 3) := by decide +kernel
theorem dX6_readInto_58 : decode cX6_readInto 58 = .ok (.iconst 0, 1) := by decide +kernel
theorem dX6_readInto_59 : decode cX6_readInto 59 = .ok (.istore_n 2, 1) := by decide +kernel
theorem dX6_readInto_60 : decode cX6_readInto 60 = .ok (.iload_n 2, 1) := by decide +kernel
theorem dX6_readInto_61 : decode cX6_readInto 61 = .ok (.bipush 9, 2) := by decide +kernel
theorem dX6_readInto_63 : decode cX6_readInto 63 = .ok (.if_icmp .gt 33, 3) := by decide +kernel
theorem dX6_readInto_66 : decode cX6_readInto 66 = .ok (.aload_n 0, 1) := by decide +kernel
theorem dX6_readInto_67 : decode cX6_readInto 67 = .ok (.getfield 18, 3) := by decide +kernel
theorem dX6_readInto_70 : decode cX6_readInto 70 = .ok (.ifCond .ne 26, 3) := by decide +kernel
theorem dX6_readInto_73 : decode cX6_readInto 73 = .ok (.aload_n 0, 1) := by decide +kernel
theorem dX6_readInto_74 : decode cX6_readInto 74 = .ok (.getfield 12, 3) := by decide +kernel
theorem dX6_readInto_77 : decode cX6_readInto 77 = .ok (.ldc 43, 2) := by decide +kernel
theorem dX6_readInto_79 : decode cX6_readInto 79 = .ok (.invokevirtual 36, 3) := by decide +kernel
theorem dX6_readInto_82 : decode cX6_readInto 82 = .ok (.ifCond .eq 14, 3) := by decide +kernel
theorem dX6_readInto_85 : decode cX6_readInto 85 = .ok (.aload_n 0, 1) := by decide +kernel
theorem dX6_readInto_86 : decode cX6_readInto 86 = .ok (.aload_n 1, 1) := by decide +kernel
theorem dX6_readInto_87 : decode cX6_readInto 87 = .ok (.invokevirtual 45, 3) := by decide +kernel
theorem dX6_readInto_90 : decode cX6_readInto 90 = .ok (.iinc 2 1, 3) := by decide +kernel
theorem dX6_readInto_93 : decode cX6_readInto 93 = .ok (.goto (-33), 3) := by decide +kernel
theorem dX6_readInto_96 : decode cX6_readInto 96 = .ok (.aload_n 0, 1) := by decide +kernel
theorem dX6_readInto_97 : decode cX6_readInto 97 = .ok (.getfield 18, 3) := by decide +kernel
theorem dX6_readInto_100 : decode cX6_readInto 100 = .ok (.ifCond .ne 18, 3) := by decide +kernel
theorem dX6_readInto_103 : decode cX6_readInto 103 = .ok (.aload_n 0, 1) := by decide +kernel
theorem dX6_readInto_104 : decode cX6_readInto 104 = .ok (.getfield 12, 3) := by decide +kernel
theorem dX6_readInto_107 : decode cX6_readInto 107 = .ok (.getfield 48, 3) := by decide +kernel
theorem dX6_readInto_110 : decode cX6_readInto 110 = .ok (.ifCond .eq 8, 3) := by decide +kernel
theorem dX6_readInto_113 : decode cX6_readInto 113 = .ok (.aload_n 0, 1) := by decide +kernel
theorem dX6_readInto_114 : decode cX6_readInto 114 = .ok (.iconst 1, 1) := by decide +kernel
theorem dX6_readInto_115 : decode cX6_readInto 115 = .ok (.putfield 18, 3) := by decide +kernel
theorem dX6_readInto_118 : decode cX6_readInto 118 = .ok (.return_, 1) := by decide +kernel
theorem dX6_readLaw_0 : decode cX6_readLaw 0 = .ok (.aload_n 0, 1) := by decide +kernel
theorem dX6_readLaw_1 : decode cX6_readLaw 1 = .ok (.getfield 12, 3) := by decide +kernel
theorem dX6_readLaw_4 : decode cX6_readLaw 4 = .ok (.ldc 51, 2) := by decide +kernel
theorem dX6_readLaw_6 : decode cX6_readLaw 6 = .ok (.invokevirtual 36, 3) := by decide +kernel
theorem dX6_readLaw_9 : decode cX6_readLaw 9 = .ok (.ifCond .ne 9, 3) := by decide +kernel
theorem dX6_readLaw_12 : decode cX6_readLaw 12 = .ok (.aload_n 0, 1) := by decide +kernel
theorem dX6_readLaw_13 : decode cX6_readLaw 13 = .ok (.iconst 1, 1) := by decide +kernel
theorem dX6_readLaw_14 : decode cX6_readLaw 14 = .ok (.putfield 18, 3) := by decide +kernel
theorem dX6_readLaw_17 : decode cX6_readLaw 17 = .ok (.return_, 1) := by decide +kernel
theorem dX6_readLaw_18 : decode cX6_readLaw 18 = .ok (.aload_n 0, 1) := by decide +kernel
theorem dX6_readLaw_19 : decode cX6_readLaw 19 = .ok (.getfield 12, 3) := by decide +kernel
theorem dX6_readLaw_22 : decode cX6_readLaw 22 = .ok (.invokevirtual 53, 3) := by decide +kernel
theorem dX6_readLaw_25 : decode cX6_readLaw 25 = .ok (.aload_n 1, 1) := by decide +kernel
theorem dX6_readLaw_26 : decode cX6_readLaw 26 = .ok (.aload_n 0, 1) := by decide +kernel
theorem dX6_readLaw_27 : decode cX6_readLaw 27 = .ok (.iconst 1, 1) := by decide +kernel
theorem dX6_readLaw_28 : decode cX6_readLaw 28 = .ok (.bipush 50, 2) := by decide +kernel
theorem dX6_readLaw_30 : decode cX6_readLaw 30 = .ok (.invokevirtual 56, 3) := by decide +kernel
theorem dX6_readLaw_33 : decode cX6_readLaw 33 = .ok (.putfield 60, 3) := by decide +kernel
theorem dX6_readLaw_36 : decode cX6_readLaw 36 = .ok (.aload_n 1, 1) := by decide +kernel
theorem dX6_readLaw_37 : decode cX6_readLaw 37 = .ok (.aload_n 0, 1) := by decide +kernel
theorem dX6_readLaw_38 : decode cX6_readLaw 38 = .ok (.iconst 0, 1) := by decide +kernel
theorem dX6_readLaw_39 : decode cX6_readLaw 39 = .ok (.bipush 20, 2) := by decide +kernel
theorem dX6_readLaw_41 : decode cX6_readLaw 41 = .ok (.invokevirtual 56, 3) := by decide +kernel
theorem dX6_readLaw_44 : decode cX6_readLaw 44 = .ok (.putfield 63, 3) := by decide +kernel
theorem dX6_readLaw_47 : decode cX6_readLaw 47 = .ok (.aload_n 0, 1) := by decide +kernel
theorem dX6_readLaw_48 : decode cX6_readLaw 48 = .ok (.invokevirtual 66, 3) := by decide +kernel
theorem dX6_readLaw_51 : decode cX6_readLaw 51 = .ok (.return_, 1) := by decide +kernel
theorem dX6_readSpeaker_0 : decode cX6_readSpeaker 0 = .ok (.aload_n 1, 1) := by decide +kernel
theorem dX6_readSpeaker_1 : decode cX6_readSpeaker 1 = .ok (.getfield 69, 3) := by decide +kernel
theorem dX6_readSpeaker_4 : decode cX6_readSpeaker 4 = .ok (.iconst 5, 1) := by decide +kernel
theorem dX6_readSpeaker_5 : decode cX6_readSpeaker 5 = .ok (.if_icmp .lt 9, 3) := by decide +kernel
theorem dX6_readSpeaker_8 : decode cX6_readSpeaker 8 = .ok (.aload_n 0, 1) := by decide +kernel
theorem dX6_readSpeaker_9 : decode cX6_readSpeaker 9 = .ok (.iconst 3, 1) := by decide +kernel
theorem dX6_readSpeaker_10 : decode cX6_readSpeaker 10 = .ok (.putfield 18, 3) := by decide +kernel
theorem dX6_readSpeaker_13 : decode cX6_readSpeaker 13 = .ok (.return_, 1) := by decide +kernel
theorem dX6_readSpeaker_14 : decode cX6_readSpeaker 14 = .ok (.aload_n 0, 1) := by decide +kernel
theorem dX6_readSpeaker_15 : decode cX6_readSpeaker 15 = .ok (.getfield 12, 3) := by decide +kernel
theorem dX6_readSpeaker_18 : decode cX6_readSpeaker 18 = .ok (.invokevirtual 53, 3) := by decide +kernel
theorem dX6_readSpeaker_21 : decode cX6_readSpeaker 21 = .ok (.aload_n 1, 1) := by decide +kernel
theorem dX6_readSpeaker_22 : decode cX6_readSpeaker 22 = .ok (.getfield 72, 3) := by decide +kernel
theorem dX6_readSpeaker_25 : decode cX6_readSpeaker 25 = .ok (.aload_n 1, 1) := by decide +kernel
theorem dX6_readSpeaker_26 : decode cX6_readSpeaker 26 = .ok (.getfield 69, 3) := by decide +kernel
theorem dX6_readSpeaker_29 : decode cX6_readSpeaker 29 = .ok (.aload_n 0, 1) := by decide +kernel
theorem dX6_readSpeaker_30 : decode cX6_readSpeaker 30 = .ok (.iconst 0, 1) := by decide +kernel
theorem dX6_readSpeaker_31 : decode cX6_readSpeaker 31 = .ok (.bipush 10, 2) := by decide +kernel
theorem dX6_readSpeaker_33 : decode cX6_readSpeaker 33 = .ok (.invokevirtual 56, 3) := by decide +kernel
theorem dX6_readSpeaker_36 : decode cX6_readSpeaker 36 = .ok (.iastore, 1) := by decide +kernel
theorem dX6_readSpeaker_37 : decode cX6_readSpeaker 37 = .ok (.aload_n 1, 1) := by decide +kernel
theorem dX6_readSpeaker_38 : decode cX6_readSpeaker 38 = .ok (.getfield 76, 3) := by decide +kernel
theorem dX6_readSpeaker_41 : decode cX6_readSpeaker 41 = .ok (.aload_n 1, 1) := by decide +kernel
theorem dX6_readSpeaker_42 : decode cX6_readSpeaker 42 = .ok (.getfield 69, 3) := by decide +kernel
theorem dX6_readSpeaker_45 : decode cX6_readSpeaker 45 = .ok (.aload_n 0, 1) := by decide +kernel
theorem dX6_readSpeaker_46 : decode cX6_readSpeaker 46 = .ok (.iconst 0, 1) := by decide +kernel
theorem dX6_readSpeaker_47 : decode cX6_readSpeaker 47 = .ok (.bipush 99, 2) := by decide +kernel
theorem dX6_readSpeaker_49 : decode cX6_readSpeaker 49 = .ok (.invokevirtual 56, 3) := by decide +kernel
theorem dX6_readSpeaker_52 : decode cX6_readSpeaker 52 = .ok (.iastore, 1) := by decide +kernel
theorem dX6_readSpeaker_53 : decode cX6_readSpeaker 53 = .ok (.aload_n 0, 1) := by decide +kernel
theorem dX6_readSpeaker_54 : decode cX6_readSpeaker 54 = .ok (.invokevirtual 66, 3) := by decide +kernel
theorem dX6_readSpeaker_57 : decode cX6_readSpeaker 57 = .ok (.aload_n 1, 1) := by decide +kernel
theorem dX6_readSpeaker_58 : decode cX6_readSpeaker 58 = .ok (.dup, 1) := by decide +kernel
theorem dX6_readSpeaker_59 : decode cX6_readSpeaker 59 = .ok (.getfield 69, 3) := by decide +kernel
theorem dX6_readSpeaker_62 : decode cX6_readSpeaker 62 = .ok (.iconst 1, 1) := by decide +kernel
theorem dX6_readSpeaker_63 : decode cX6_readSpeaker 63 = .ok (.iadd, 1) := by decide +kernel
theorem dX6_readSpeaker_64 : decode cX6_readSpeaker 64 = .ok (.putfield 69, 3) := by decide +kernel
theorem dX6_readSpeaker_67 : decode cX6_readSpeaker 67 = .ok (.return_, 1) := by decide +kernel
theorem dX6_readYarn_0 : decode cX6_readYarn 0 = .ok (.aload_n 1, 1) := by decide +kernel
theorem dX6_readYarn_1 : decode cX6_readYarn 1 = .ok (.getfield 79, 3) := by decide +kernel
theorem dX6_readYarn_4 : decode cX6_readYarn 4 = .ok (.bipush 9, 2) := by decide +kernel
theorem dX6_readYarn_6 : decode cX6_readYarn 6 = .ok (.if_icmp .lt 9, 3) := by decide +kernel
theorem dX6_readYarn_9 : decode cX6_readYarn 9 = .ok (.aload_n 0, 1) := by decide +kernel
theorem dX6_readYarn_10 : decode cX6_readYarn 10 = .ok (.iconst 3, 1) := by decide +kernel
theorem dX6_readYarn_11 : decode cX6_readYarn 11 = .ok (.putfield 18, 3) := by decide +kernel
theorem dX6_readYarn_14 : decode cX6_readYarn 14 = .ok (.return_, 1) := by decide +kernel
theorem dX6_readYarn_15 : decode cX6_readYarn 15 = .ok (.aload_n 0, 1) := by decide +kernel
theorem dX6_readYarn_16 : decode cX6_readYarn 16 = .ok (.getfield 12, 3) := by decide +kernel
theorem dX6_readYarn_19 : decode cX6_readYarn 19 = .ok (.invokevirtual 53, 3) := by decide +kernel
theorem dX6_readYarn_22 : decode cX6_readYarn 22 = .ok (.aload_n 1, 1) := by decide +kernel
theorem dX6_readYarn_23 : decode cX6_readYarn 23 = .ok (.getfield 82, 3) := by decide +kernel
theorem dX6_readYarn_26 : decode cX6_readYarn 26 = .ok (.aload_n 1, 1) := by decide +kernel
theorem dX6_readYarn_27 : decode cX6_readYarn 27 = .ok (.getfield 79, 3) := by decide +kernel
theorem dX6_readYarn_30 : decode cX6_readYarn 30 = .ok (.aload_n 0, 1) := by decide +kernel
theorem dX6_readYarn_31 : decode cX6_readYarn 31 = .ok (.invokevirtual 85, 3) := by decide +kernel
theorem dX6_readYarn_34 : decode cX6_readYarn 34 = .ok (.iastore, 1) := by decide +kernel
theorem dX6_readYarn_35 : decode cX6_readYarn 35 = .ok (.aload_n 1, 1) := by decide +kernel
theorem dX6_readYarn_36 : decode cX6_readYarn 36 = .ok (.getfield 89, 3) := by decide +kernel
theorem dX6_readYarn_39 : decode cX6_readYarn 39 = .ok (.aload_n 1, 1) := by decide +kernel
theorem dX6_readYarn_40 : decode cX6_readYarn 40 = .ok (.getfield 79, 3) := by decide +kernel
theorem dX6_readYarn_43 : decode cX6_readYarn 43 = .ok (.aload_n 0, 1) := by decide +kernel
theorem dX6_readYarn_44 : decode cX6_readYarn 44 = .ok (.iconst 0, 1) := by decide +kernel
theorem dX6_readYarn_45 : decode cX6_readYarn 45 = .ok (.aload_n 1, 1) := by decide +kernel
theorem dX6_readYarn_46 : decode cX6_readYarn 46 = .ok (.getfield 69, 3) := by decide +kernel
theorem dX6_readYarn_49 : decode cX6_readYarn 49 = .ok (.iconst 1, 1) := by decide +kernel
theorem dX6_readYarn_50 : decode cX6_readYarn 50 = .ok (.isub, 1) := by decide +kernel
theorem dX6_readYarn_51 : decode cX6_readYarn 51 = .ok (.invokevirtual 56, 3) := by decide +kernel
theorem dX6_readYarn_54 : decode cX6_readYarn 54 = .ok (.iastore, 1) := by decide +kernel
theorem dX6_readYarn_55 : decode cX6_readYarn 55 = .ok (.aload_n 1, 1) := by decide +kernel
theorem dX6_readYarn_56 : decode cX6_readYarn 56 = .ok (.getfield 91, 3) := by decide +kernel
theorem dX6_readYarn_59 : decode cX6_readYarn 59 = .ok (.aload_n 1, 1) := by decide +kernel
theorem dX6_readYarn_60 : decode cX6_readYarn 60 = .ok (.getfield 79, 3) := by decide +kernel
theorem dX6_readYarn_63 : decode cX6_readYarn 63 = .ok (.aload_n 0, 1) := by decide +kernel
theorem dX6_readYarn_64 : decode cX6_readYarn 64 = .ok (.iconst 1, 1) := by decide +kernel
theorem dX6_readYarn_65 : decode cX6_readYarn 65 = .ok (.bipush 9, 2) := by decide +kernel
theorem dX6_readYarn_67 : decode cX6_readYarn 67 = .ok (.invokevirtual 56, 3) := by decide +kernel
theorem dX6_readYarn_70 : decode cX6_readYarn 70 = .ok (.iastore, 1) := by decide +kernel
theorem dX6_readYarn_71 : decode cX6_readYarn 71 = .ok (.aload_n 0, 1) := by decide +kernel
theorem dX6_readYarn_72 : decode cX6_readYarn 72 = .ok (.invokevirtual 66, 3) := by decide +kernel
theorem dX6_readYarn_75 : decode cX6_readYarn 75 = .ok (.aload_n 1, 1) := by decide +kernel
theorem dX6_readYarn_76 : decode cX6_readYarn 76 = .ok (.dup, 1) := by decide +kernel
theorem dX6_readYarn_77 : decode cX6_readYarn 77 = .ok (.getfield 79, 3) := by decide +kernel
theorem dX6_readYarn_80 : decode cX6_readYarn 80 = .ok (.iconst 1, 1) := by decide +kernel
theorem dX6_readYarn_81 : decode cX6_readYarn 81 = .ok (.iadd, 1) := by decide +kernel
theorem dX6_readYarn_82 : decode cX6_readYarn 82 = .ok (.putfield 79, 3) := by decide +kernel
theorem dX6_readYarn_85 : decode cX6_readYarn 85 = .ok (.return_, 1) := by decide +kernel
theorem dX6_takeSort_0 : decode cX6_takeSort 0 = .ok (.aload_n 0, 1) := by decide +kernel
theorem dX6_takeSort_1 : decode cX6_takeSort 1 = .ok (.getfield 12, 3) := by decide +kernel
theorem dX6_takeSort_4 : decode cX6_takeSort 4 = .ok (.ldc 94, 2) := by decide +kernel
theorem dX6_takeSort_6 : decode cX6_takeSort 6 = .ok (.invokevirtual 36, 3) := by decide +kernel
theorem dX6_takeSort_9 : decode cX6_takeSort 9 = .ok (.ifCond .eq 7, 3) := by decide +kernel
theorem dX6_takeSort_12 : decode cX6_takeSort 12 = .ok (.iconst 1, 1) := by decide +kernel
theorem dX6_takeSort_13 : decode cX6_takeSort 13 = .ok (.goto 68, 3) := by decide +kernel
theorem dX6_takeSort_16 : decode cX6_takeSort 16 = .ok (.aload_n 0, 1) := by decide +kernel
theorem dX6_takeSort_17 : decode cX6_takeSort 17 = .ok (.getfield 12, 3) := by decide +kernel
theorem dX6_takeSort_20 : decode cX6_takeSort 20 = .ok (.ldc 98, 2) := by decide +kernel
theorem dX6_takeSort_22 : decode cX6_takeSort 22 = .ok (.invokevirtual 36, 3) := by decide +kernel
theorem dX6_takeSort_25 : decode cX6_takeSort 25 = .ok (.ifCond .eq 7, 3) := by decide +kernel
theorem dX6_takeSort_28 : decode cX6_takeSort 28 = .ok (.iconst 2, 1) := by decide +kernel
theorem dX6_takeSort_29 : decode cX6_takeSort 29 = .ok (.goto 52, 3) := by decide +kernel
theorem dX6_takeSort_32 : decode cX6_takeSort 32 = .ok (.aload_n 0, 1) := by decide +kernel
theorem dX6_takeSort_33 : decode cX6_takeSort 33 = .ok (.getfield 12, 3) := by decide +kernel
theorem dX6_takeSort_36 : decode cX6_takeSort 36 = .ok (.ldc 100, 2) := by decide +kernel
theorem dX6_takeSort_38 : decode cX6_takeSort 38 = .ok (.invokevirtual 36, 3) := by decide +kernel
theorem dX6_takeSort_41 : decode cX6_takeSort 41 = .ok (.ifCond .eq 7, 3) := by decide +kernel
theorem dX6_takeSort_44 : decode cX6_takeSort 44 = .ok (.iconst 3, 1) := by decide +kernel
theorem dX6_takeSort_45 : decode cX6_takeSort 45 = .ok (.goto 36, 3) := by decide +kernel
theorem dX6_takeSort_48 : decode cX6_takeSort 48 = .ok (.aload_n 0, 1) := by decide +kernel
theorem dX6_takeSort_49 : decode cX6_takeSort 49 = .ok (.getfield 12, 3) := by decide +kernel
theorem dX6_takeSort_52 : decode cX6_takeSort 52 = .ok (.ldc 102, 2) := by decide +kernel
theorem dX6_takeSort_54 : decode cX6_takeSort 54 = .ok (.invokevirtual 36, 3) := by decide +kernel
theorem dX6_takeSort_57 : decode cX6_takeSort 57 = .ok (.ifCond .eq 7, 3) := by decide +kernel
theorem dX6_takeSort_60 : decode cX6_takeSort 60 = .ok (.iconst 4, 1) := by decide +kernel
theorem dX6_takeSort_61 : decode cX6_takeSort 61 = .ok (.goto 20, 3) := by decide +kernel
theorem dX6_takeSort_64 : decode cX6_takeSort 64 = .ok (.aload_n 0, 1) := by decide +kernel
theorem dX6_takeSort_65 : decode cX6_takeSort 65 = .ok (.getfield 12, 3) := by decide +kernel
theorem dX6_takeSort_68 : decode cX6_takeSort 68 = .ok (.ldc 104, 2) := by decide +kernel
theorem dX6_takeSort_70 : decode cX6_takeSort 70 = .ok (.invokevirtual 36, 3) := by decide +kernel
theorem dX6_takeSort_73 : decode cX6_takeSort 73 = .ok (.ifCond .eq 7, 3) := by decide +kernel
theorem dX6_takeSort_76 : decode cX6_takeSort 76 = .ok (.iconst 5, 1) := by decide +kernel
theorem dX6_takeSort_77 : decode cX6_takeSort 77 = .ok (.goto 4, 3) := by decide +kernel
theorem dX6_takeSort_80 : decode cX6_takeSort 80 = .ok (.iconst 0, 1) := by decide +kernel
theorem dX6_takeSort_81 : decode cX6_takeSort 81 = .ok (.istore_n 1, 1) := by decide +kernel
theorem dX6_takeSort_82 : decode cX6_takeSort 82 = .ok (.iload_n 1, 1) := by decide +kernel
theorem dX6_takeSort_83 : decode cX6_takeSort 83 = .ok (.ifCond .ne 11, 3) := by decide +kernel
theorem dX6_takeSort_86 : decode cX6_takeSort 86 = .ok (.aload_n 0, 1) := by decide +kernel
theorem dX6_takeSort_87 : decode cX6_takeSort 87 = .ok (.iconst 1, 1) := by decide +kernel
theorem dX6_takeSort_88 : decode cX6_takeSort 88 = .ok (.putfield 18, 3) := by decide +kernel
theorem dX6_takeSort_91 : decode cX6_takeSort 91 = .ok (.goto 10, 3) := by decide +kernel
theorem dX6_takeSort_94 : decode cX6_takeSort 94 = .ok (.aload_n 0, 1) := by decide +kernel
theorem dX6_takeSort_95 : decode cX6_takeSort 95 = .ok (.getfield 12, 3) := by decide +kernel
theorem dX6_takeSort_98 : decode cX6_takeSort 98 = .ok (.invokevirtual 53, 3) := by decide +kernel
theorem dX6_takeSort_101 : decode cX6_takeSort 101 = .ok (.iload_n 1, 1) := by decide +kernel
theorem dX6_takeSort_102 : decode cX6_takeSort 102 = .ok (.ireturn, 1) := by decide +kernel
theorem dX6_takeNumber_0 : decode cX6_takeNumber 0 = .ok (.aload_n 0, 1) := by decide +kernel
theorem dX6_takeNumber_1 : decode cX6_takeNumber 1 = .ok (.getfield 18, 3) := by decide +kernel
theorem dX6_takeNumber_4 : decode cX6_takeNumber 4 = .ok (.ifCond .eq 5, 3) := by decide +kernel
theorem dX6_takeNumber_7 : decode cX6_takeNumber 7 = .ok (.iconst 0, 1) := by decide +kernel
theorem dX6_takeNumber_8 : decode cX6_takeNumber 8 = .ok (.ireturn, 1) := by decide +kernel
theorem dX6_takeNumber_9 : decode cX6_takeNumber 9 = .ok (.aload_n 0, 1) := by decide +kernel
theorem dX6_takeNumber_10 : decode cX6_takeNumber 10 = .ok (.getfield 12, 3) := by decide +kernel
theorem dX6_takeNumber_13 : decode cX6_takeNumber 13 = .ok (.getfield 48, 3) := by decide +kernel
theorem dX6_takeNumber_16 : decode cX6_takeNumber 16 = .ok (.iconst 2, 1) := by decide +kernel
theorem dX6_takeNumber_17 : decode cX6_takeNumber 17 = .ok (.if_icmp .eq 10, 3) := by decide +kernel
theorem dX6_takeNumber_20 : decode cX6_takeNumber 20 = .ok (.aload_n 0, 1) := by decide +kernel
theorem dX6_takeNumber_21 : decode cX6_takeNumber 21 = .ok (.iconst 1, 1) := by decide +kernel
theorem dX6_takeNumber_22 : decode cX6_takeNumber 22 = .ok (.putfield 18, 3) := by decide +kernel
theorem dX6_takeNumber_25 : decode cX6_takeNumber 25 = .ok (.iconst 0, 1) := by decide +kernel
theorem dX6_takeNumber_26 : decode cX6_takeNumber 26 = .ok (.ireturn, 1) := by decide +kernel
theorem dX6_takeNumber_27 : decode cX6_takeNumber 27 = .ok (.aload_n 0, 1) := by decide +kernel
theorem dX6_takeNumber_28 : decode cX6_takeNumber 28 = .ok (.getfield 12, 3) := by decide +kernel
theorem dX6_takeNumber_31 : decode cX6_takeNumber 31 = .ok (.getfield 106, 3) := by decide +kernel
theorem dX6_takeNumber_34 : decode cX6_takeNumber 34 = .ok (.istore_n 3, 1) := by decide +kernel
theorem dX6_takeNumber_35 : decode cX6_takeNumber 35 = .ok (.iload_n 3, 1) := by decide +kernel
theorem dX6_takeNumber_36 : decode cX6_takeNumber 36 = .ok (.iload_n 1, 1) := by decide +kernel
theorem dX6_takeNumber_37 : decode cX6_takeNumber 37 = .ok (.if_icmp .lt 8, 3) := by decide +kernel
theorem dX6_takeNumber_40 : decode cX6_takeNumber 40 = .ok (.iload_n 3, 1) := by decide +kernel
theorem dX6_takeNumber_41 : decode cX6_takeNumber 41 = .ok (.iload_n 2, 1) := by decide +kernel
theorem dX6_takeNumber_42 : decode cX6_takeNumber 42 = .ok (.if_icmp .le 10, 3) := by decide +kernel
theorem dX6_takeNumber_45 : decode cX6_takeNumber 45 = .ok (.aload_n 0, 1) := by decide +kernel
theorem dX6_takeNumber_46 : decode cX6_takeNumber 46 = .ok (.iconst 2, 1) := by decide +kernel
theorem dX6_takeNumber_47 : decode cX6_takeNumber 47 = .ok (.putfield 18, 3) := by decide +kernel
theorem dX6_takeNumber_50 : decode cX6_takeNumber 50 = .ok (.iconst 0, 1) := by decide +kernel
theorem dX6_takeNumber_51 : decode cX6_takeNumber 51 = .ok (.ireturn, 1) := by decide +kernel
theorem dX6_takeNumber_52 : decode cX6_takeNumber 52 = .ok (.aload_n 0, 1) := by decide +kernel
theorem dX6_takeNumber_53 : decode cX6_takeNumber 53 = .ok (.getfield 12, 3) := by decide +kernel
theorem dX6_takeNumber_56 : decode cX6_takeNumber 56 = .ok (.invokevirtual 53, 3) := by decide +kernel
theorem dX6_takeNumber_59 : decode cX6_takeNumber 59 = .ok (.iload_n 3, 1) := by decide +kernel
theorem dX6_takeNumber_60 : decode cX6_takeNumber 60 = .ok (.ireturn, 1) := by decide +kernel
theorem dX6_takeSign_0 : decode cX6_takeSign 0 = .ok (.aload_n 0, 1) := by decide +kernel
theorem dX6_takeSign_1 : decode cX6_takeSign 1 = .ok (.getfield 18, 3) := by decide +kernel
theorem dX6_takeSign_4 : decode cX6_takeSign 4 = .ok (.ifCond .eq 4, 3) := by decide +kernel
theorem dX6_takeSign_7 : decode cX6_takeSign 7 = .ok (.return_, 1) := by decide +kernel
theorem dX6_takeSign_8 : decode cX6_takeSign 8 = .ok (.aload_n 0, 1) := by decide +kernel
theorem dX6_takeSign_9 : decode cX6_takeSign 9 = .ok (.getfield 12, 3) := by decide +kernel
theorem dX6_takeSign_12 : decode cX6_takeSign 12 = .ok (.getfield 48, 3) := by decide +kernel
theorem dX6_takeSign_15 : decode cX6_takeSign 15 = .ok (.iconst 3, 1) := by decide +kernel
theorem dX6_takeSign_16 : decode cX6_takeSign 16 = .ok (.if_icmp .eq 9, 3) := by decide +kernel
theorem dX6_takeSign_19 : decode cX6_takeSign 19 = .ok (.aload_n 0, 1) := by decide +kernel
theorem dX6_takeSign_20 : decode cX6_takeSign 20 = .ok (.iconst 1, 1) := by decide +kernel
theorem dX6_takeSign_21 : decode cX6_takeSign 21 = .ok (.putfield 18, 3) := by decide +kernel
theorem dX6_takeSign_24 : decode cX6_takeSign 24 = .ok (.return_, 1) := by decide +kernel
theorem dX6_takeSign_25 : decode cX6_takeSign 25 = .ok (.aload_n 0, 1) := by decide +kernel
theorem dX6_takeSign_26 : decode cX6_takeSign 26 = .ok (.getfield 12, 3) := by decide +kernel
theorem dX6_takeSign_29 : decode cX6_takeSign 29 = .ok (.invokevirtual 53, 3) := by decide +kernel
theorem dX6_takeSign_32 : decode cX6_takeSign 32 = .ok (.return_, 1) := by decide +kernel
theorem dX7_init_0 : decode cX7_init 0 = .ok (.aload_n 0, 1) := by decide +kernel
theorem dX7_init_1 : decode cX7_init 1 = .ok (.invokespecial 1, 3) := by decide +kernel
theorem dX7_init_4 : decode cX7_init 4 = .ok (.aload_n 0, 1) := by decide +kernel
theorem dX7_init_5 : decode cX7_init 5 = .ok (.bipush 8, 2) := by decide +kernel
theorem dX7_init_7 : decode cX7_init 7 = .ok (.newarray .int, 2) := by decide +kernel
theorem dX7_init_9 : decode cX7_init 9 = .ok (.putfield 9, 3) := by decide +kernel
theorem dX7_init_12 : decode cX7_init 12 = .ok (.aload_n 0, 1) := by decide +kernel
theorem dX7_init_13 : decode cX7_init 13 = .ok (.bipush 8, 2) := by decide +kernel
theorem dX7_init_15 : decode cX7_init 15 = .ok (.newarray .int, 2) := by decide +kernel
theorem dX7_init_17 : decode cX7_init 17 = .ok (.putfield 13, 3) := by decide +kernel
theorem dX7_init_20 : decode cX7_init 20 = .ok (.aload_n 0, 1) := by decide +kernel
theorem dX7_init_21 : decode cX7_init 21 = .ok (.sipush 320, 3) := by decide +kernel
theorem dX7_init_24 : decode cX7_init 24 = .ok (.newarray .int, 2) := by decide +kernel
theorem dX7_init_26 : decode cX7_init 26 = .ok (.putfield 16, 3) := by decide +kernel
theorem dX7_init_29 : decode cX7_init 29 = .ok (.iconst 0, 1) := by decide +kernel
theorem dX7_init_30 : decode cX7_init 30 = .ok (.istore_n 1, 1) := by decide +kernel
theorem dX7_init_31 : decode cX7_init 31 = .ok (.iload_n 1, 1) := by decide +kernel
theorem dX7_init_32 : decode cX7_init 32 = .ok (.bipush 8, 2) := by decide +kernel
theorem dX7_init_34 : decode cX7_init 34 = .ok (.if_icmp .ge 16, 3) := by decide +kernel
theorem dX7_init_37 : decode cX7_init 37 = .ok (.aload_n 0, 1) := by decide +kernel
theorem dX7_init_38 : decode cX7_init 38 = .ok (.getfield 13, 3) := by decide +kernel
theorem dX7_init_41 : decode cX7_init 41 = .ok (.iload_n 1, 1) := by decide +kernel
theorem dX7_init_42 : decode cX7_init 42 = .ok (.iconst (-1), 1) := by decide +kernel
theorem dX7_init_43 : decode cX7_init 43 = .ok (.iastore, 1) := by decide +kernel
theorem dX7_init_44 : decode cX7_init 44 = .ok (.iinc 1 1, 3) := by decide +kernel
theorem dX7_init_47 : decode cX7_init 47 = .ok (.goto (-16), 3) := by decide +kernel
theorem dX7_init_50 : decode cX7_init 50 = .ok (.return_, 1) := by decide +kernel
theorem dX7_isNumber_0 : decode cX7_isNumber 0 = .ok (.iload_n 1, 1) := by decide +kernel
theorem dX7_isNumber_1 : decode cX7_isNumber 1 = .ok (.ifCond .lt 13, 3) := by decide +kernel
theorem dX7_isNumber_4 : decode cX7_isNumber 4 = .ok (.iload_n 1, 1) := by decide +kernel
theorem dX7_isNumber_5 : decode cX7_isNumber 5 = .ok (.bipush 8, 2) := by decide +kernel
theorem dX7_isNumber_7 : decode cX7_isNumber 7 = .ok (.if_icmp .ge 7, 3) := by decide +kernel
theorem dX7_isNumber_10 : decode cX7_isNumber 10 = .ok (.iconst 1, 1) := by decide +kernel
theorem dX7_isNumber_11 : decode cX7_isNumber 11 = .ok (.goto 4, 3) := by decide +kernel
theorem dX7_isNumber_14 : decode cX7_isNumber 14 = .ok (.iconst 0, 1) := by decide +kernel
theorem dX7_isNumber_15 : decode cX7_isNumber 15 = .ok (.ireturn, 1) := by decide +kernel
theorem dX7_isMissing_0 : decode cX7_isMissing 0 = .ok (.aload_n 0, 1) := by decide +kernel
theorem dX7_isMissing_1 : decode cX7_isMissing 1 = .ok (.getfield 13, 3) := by decide +kernel
theorem dX7_isMissing_4 : decode cX7_isMissing 4 = .ok (.iload_n 1, 1) := by decide +kernel
theorem dX7_isMissing_5 : decode cX7_isMissing 5 = .ok (.iaload, 1) := by decide +kernel
theorem dX7_isMissing_6 : decode cX7_isMissing 6 = .ok (.iconst (-1), 1) := by decide +kernel
theorem dX7_isMissing_7 : decode cX7_isMissing 7 = .ok (.if_icmp .ne 7, 3) := by decide +kernel
theorem dX7_isMissing_10 : decode cX7_isMissing 10 = .ok (.iconst 1, 1) := by decide +kernel
theorem dX7_isMissing_11 : decode cX7_isMissing 11 = .ok (.goto 4, 3) := by decide +kernel
theorem dX7_isMissing_14 : decode cX7_isMissing 14 = .ok (.iconst 0, 1) := by decide +kernel
theorem dX7_isMissing_15 : decode cX7_isMissing 15 = .ok (.ireturn, 1) := by decide +kernel
theorem dX7_laneOf_0 : decode cX7_laneOf 0 = .ok (.aload_n 0, 1) := by decide +kernel
theorem dX7_laneOf_1 : decode cX7_laneOf 1 = .ok (.getfield 9, 3) := by decide +kernel
theorem dX7_laneOf_4 : decode cX7_laneOf 4 = .ok (.iload_n 1, 1) := by decide +kernel
theorem dX7_laneOf_5 : decode cX7_laneOf 5 = .ok (.iaload, 1) := by decide +kernel
theorem dX7_laneOf_6 : decode cX7_laneOf 6 = .ok (.ireturn, 1) := by decide +kernel
theorem dX7_sizeOf_0 : decode cX7_sizeOf 0 = .ok (.aload_n 0, 1) := by decide +kernel
theorem dX7_sizeOf_1 : decode cX7_sizeOf 1 = .ok (.getfield 13, 3) := by decide +kernel
theorem dX7_sizeOf_4 : decode cX7_sizeOf 4 = .ok (.iload_n 1, 1) := by decide +kernel
theorem dX7_sizeOf_5 : decode cX7_sizeOf 5 = .ok (.iaload, 1) := by decide +kernel
theorem dX7_sizeOf_6 : decode cX7_sizeOf 6 = .ok (.ireturn, 1) := by decide +kernel
theorem dX7_hasPlaces_0 : decode cX7_hasPlaces 0 = .ok (.iload_n 2, 1) := by decide +kernel
theorem dX7_hasPlaces_1 : decode cX7_hasPlaces 1 = .ok (.ifCond .lt 23, 3) := by decide +kernel
theorem dX7_hasPlaces_4 : decode cX7_hasPlaces 4 = .ok (.iload_n 3, 1) := by decide +kernel
theorem dX7_hasPlaces_5 : decode cX7_hasPlaces 5 = .ok (.ifCond .lt 19, 3) := by decide +kernel
theorem dX7_hasPlaces_8 : decode cX7_hasPlaces 8 = .ok (.iload_n 2, 1) := by decide +kernel
theorem dX7_hasPlaces_9 : decode cX7_hasPlaces 9 = .ok (.aload_n 0, 1) := by decide +kernel
theorem dX7_hasPlaces_10 : decode cX7_hasPlaces 10 = .ok (.getfield 13, 3) := by decide +kernel
theorem dX7_hasPlaces_13 : decode cX7_hasPlaces 13 = .ok (.iload_n 1, 1) := by decide +kernel
theorem dX7_hasPlaces_14 : decode cX7_hasPlaces 14 = .ok (.iaload, 1) := by decide +kernel
theorem dX7_hasPlaces_15 : decode cX7_hasPlaces 15 = .ok (.iload_n 3, 1) := by decide +kernel
theorem dX7_hasPlaces_16 : decode cX7_hasPlaces 16 = .ok (.isub, 1) := by decide +kernel
theorem dX7_hasPlaces_17 : decode cX7_hasPlaces 17 = .ok (.if_icmp .gt 7, 3) := by decide +kernel
theorem dX7_hasPlaces_20 : decode cX7_hasPlaces 20 = .ok (.iconst 1, 1) := by decide +kernel
theorem dX7_hasPlaces_21 : decode cX7_hasPlaces 21 = .ok (.goto 4, 3) := by decide +kernel
theorem dX7_hasPlaces_24 : decode cX7_hasPlaces 24 = .ok (.iconst 0, 1) := by decide +kernel
theorem dX7_hasPlaces_25 : decode cX7_hasPlaces 25 = .ok (.ireturn, 1) := by decide +kernel
theorem dX7_make_0 : decode cX7_make 0 = .ok (.aload_n 0, 1) := by decide +kernel
theorem dX7_make_1 : decode cX7_make 1 = .ok (.getfield 9, 3) := by decide +kernel
theorem dX7_make_4 : decode cX7_make 4 = .ok (.iload_n 1, 1) := by decide +kernel
theorem dX7_make_5 : decode cX7_make 5 = .ok (.iload_n 2, 1) := by decide +kernel
theorem dX7_make_6 : decode cX7_make 6 = .ok (.iastore, 1) := by decide +kernel
theorem dX7_make_7 : decode cX7_make 7 = .ok (.aload_n 0, 1) := by decide +kernel
theorem dX7_make_8 : decode cX7_make 8 = .ok (.getfield 13, 3) := by decide +kernel
theorem dX7_make_11 : decode cX7_make 11 = .ok (.iload_n 1, 1) := by decide +kernel
theorem dX7_make_12 : decode cX7_make 12 = .ok (.iload_n 3, 1) := by decide +kernel
theorem dX7_make_13 : decode cX7_make 13 = .ok (.iastore, 1) := by decide +kernel
theorem dX7_make_14 : decode cX7_make 14 = .ok (.iconst 0, 1) := by decide +kernel
theorem dX7_make_15 : decode cX7_make 15 = .ok (.istore 4, 2) := by decide +kernel
theorem dX7_make_17 : decode cX7_make 17 = .ok (.iload 4, 2) := by decide +kernel
theorem dX7_make_19 : decode cX7_make 19 = .ok (.iload_n 3, 1) := by decide +kernel
theorem dX7_make_20 : decode cX7_make 20 = .ok (.if_icmp .ge 22, 3) := by decide +kernel
theorem dX7_make_23 : decode cX7_make 23 = .ok (.aload_n 0, 1) := by decide +kernel
theorem dX7_make_24 : decode cX7_make 24 = .ok (.getfield 16, 3) := by decide +kernel
theorem dX7_make_27 : decode cX7_make 27 = .ok (.iload_n 1, 1) := by decide +kernel
theorem dX7_make_28 : decode cX7_make 28 = .ok (.bipush 40, 2) := by decide +kernel
theorem dX7_make_30 : decode cX7_make 30 = .ok (.imul, 1) := by decide +kernel
theorem dX7_make_31 : decode cX7_make 31 = .ok (.iload 4, 2) := by decide +kernel
theorem dX7_make_33 : decode cX7_make 33 = .ok (.iadd, 1) := by decide +kernel
theorem dX7_make_34 : decode cX7_make 34 = .ok (.iconst 0, 1) := by decide +kernel
theorem dX7_make_35 : decode cX7_make 35 = .ok (.iastore, 1) := by decide +kernel
theorem dX7_make_36 : decode cX7_make 36 = .ok (.iinc 4 1, 3) := by decide +kernel
theorem dX7_make_39 : decode cX7_make 39 = .ok (.goto (-22), 3) := by decide +kernel
theorem dX7_make_42 : decode cX7_make 42 = .ok (.return_, 1) := by decide +kernel
theorem dX7_remove_0 : decode cX7_remove 0 = .ok (.aload_n 0, 1) := by decide +kernel
theorem dX7_remove_1 : decode cX7_remove 1 = .ok (.getfield 13, 3) := by decide +kernel
theorem dX7_remove_4 : decode cX7_remove 4 = .ok (.iload_n 1, 1) := by decide +kernel
theorem dX7_remove_5 : decode cX7_remove 5 = .ok (.iconst (-1), 1) := by decide +kernel
theorem dX7_remove_6 : decode cX7_remove 6 = .ok (.iastore, 1) := by decide +kernel
theorem dX7_remove_7 : decode cX7_remove 7 = .ok (.return_, 1) := by decide +kernel
theorem dX7_put_0 : decode cX7_put 0 = .ok (.aload_n 0, 1) := by decide +kernel
theorem dX7_put_1 : decode cX7_put 1 = .ok (.getfield 9, 3) := by decide +kernel
theorem dX7_put_4 : decode cX7_put 4 = .ok (.iload_n 1, 1) := by decide +kernel
theorem dX7_put_5 : decode cX7_put 5 = .ok (.iaload, 1) := by decide +kernel
theorem dX7_put_6 : decode cX7_put 6 = .ok (.ifCond .ne 8, 3) := by decide +kernel
theorem dX7_put_9 : decode cX7_put 9 = .ok (.iload_n 3, 1) := by decide +kernel
theorem dX7_put_10 : decode cX7_put 10 = .ok (.i2b, 1) := by decide +kernel
theorem dX7_put_11 : decode cX7_put 11 = .ok (.goto 19, 3) := by decide +kernel
theorem dX7_put_14 : decode cX7_put 14 = .ok (.aload_n 0, 1) := by decide +kernel
theorem dX7_put_15 : decode cX7_put 15 = .ok (.getfield 9, 3) := by decide +kernel
theorem dX7_put_18 : decode cX7_put 18 = .ok (.iload_n 1, 1) := by decide +kernel
theorem dX7_put_19 : decode cX7_put 19 = .ok (.iaload, 1) := by decide +kernel
theorem dX7_put_20 : decode cX7_put 20 = .ok (.iconst 1, 1) := by decide +kernel
theorem dX7_put_21 : decode cX7_put 21 = .ok (.if_icmp .ne 8, 3) := by decide +kernel
theorem dX7_put_24 : decode cX7_put 24 = .ok (.iload_n 3, 1) := by decide +kernel
theorem dX7_put_25 : decode cX7_put 25 = .ok (.i2s, 1) := by decide +kernel
theorem dX7_put_26 : decode cX7_put 26 = .ok (.goto 4, 3) := by decide +kernel
theorem dX7_put_29 : decode cX7_put 29 = .ok (.iload_n 3, 1) := by decide +kernel
theorem dX7_put_30 : decode cX7_put 30 = .ok (.istore 4, 2) := by decide +kernel
theorem dX7_put_32 : decode cX7_put 32 = .ok (.aload_n 0, 1) := by decide +kernel
theorem dX7_put_33 : decode cX7_put 33 = .ok (.getfield 16, 3) := by decide +kernel
theorem dX7_put_36 : decode cX7_put 36 = .ok (.iload_n 1, 1) := by decide +kernel
theorem dX7_put_37 : decode cX7_put 37 = .ok (.bipush 40, 2) := by decide +kernel
theorem dX7_put_39 : decode cX7_put 39 = .ok (.imul, 1) := by decide +kernel
theorem dX7_put_40 : decode cX7_put 40 = .ok (.iload_n 2, 1) := by decide +kernel
theorem dX7_put_41 : decode cX7_put 41 = .ok (.iadd, 1) := by decide +kernel
theorem dX7_put_42 : decode cX7_put 42 = .ok (.iload 4, 2) := by decide +kernel
theorem dX7_put_44 : decode cX7_put 44 = .ok (.iastore, 1) := by decide +kernel
theorem dX7_put_45 : decode cX7_put 45 = .ok (.iload 4, 2) := by decide +kernel
theorem dX7_put_47 : decode cX7_put 47 = .ok (.ireturn, 1) := by decide +kernel
theorem dX7_move_0 : decode cX7_move 0 = .ok (.aload_n 0, 1) := by decide +kernel
theorem dX7_move_1 : decode cX7_move 1 = .ok (.getfield 16, 3) := by decide +kernel
theorem dX7_move_4 : decode cX7_move 4 = .ok (.iload_n 1, 1) := by decide +kernel
theorem dX7_move_5 : decode cX7_move 5 = .ok (.bipush 40, 2) := by decide +kernel
theorem dX7_move_7 : decode cX7_move 7 = .ok (.imul, 1) := by decide +kernel
theorem dX7_move_8 : decode cX7_move 8 = .ok (.iload_n 2, 1) := by decide +kernel
theorem dX7_move_9 : decode cX7_move 9 = .ok (.iadd, 1) := by decide +kernel
theorem dX7_move_10 : decode cX7_move 10 = .ok (.aload_n 0, 1) := by decide +kernel
theorem dX7_move_11 : decode cX7_move 11 = .ok (.getfield 16, 3) := by decide +kernel
theorem dX7_move_14 : decode cX7_move 14 = .ok (.iload_n 3, 1) := by decide +kernel
theorem dX7_move_15 : decode cX7_move 15 = .ok (.bipush 40, 2) := by decide +kernel
theorem dX7_move_17 : decode cX7_move 17 = .ok (.imul, 1) := by decide +kernel
theorem dX7_move_18 : decode cX7_move 18 = .ok (.iload 4, 2) := by decide +kernel
theorem dX7_move_20 : decode cX7_move 20 = .ok (.iadd, 1) := by decide +kernel
theorem dX7_move_21 : decode cX7_move 21 = .ok (.iload 5, 2) := by decide +kernel
theorem dX7_move_23 : decode cX7_move 23 = .ok (.invokestatic 19, 3) := by decide +kernel
theorem dX7_move_26 : decode cX7_move 26 = .ok (.return_, 1) := by decide +kernel
theorem dX7_hasBelowZero_0 : decode cX7_hasBelowZero 0 = .ok (.iconst 0, 1) := by decide +kernel
theorem dX7_hasBelowZero_1 : decode cX7_hasBelowZero 1 = .ok (.istore 4, 2) := by decide +kernel
theorem dX7_hasBelowZero_3 : decode cX7_hasBelowZero 3 = .ok (.iload 4, 2) := by decide +kernel
theorem dX7_hasBelowZero_5 : decode cX7_hasBelowZero 5 = .ok (.iload_n 3, 1) := by decide +kernel
theorem dX7_hasBelowZero_6 : decode cX7_hasBelowZero 6 = .ok (.if_icmp .ge 28, 3) := by decide +kernel
theorem dX7_hasBelowZero_9 : decode cX7_hasBelowZero 9 = .ok (.aload_n 0, 1) := by decide +kernel
theorem dX7_hasBelowZero_10 : decode cX7_hasBelowZero 10 = .ok (.getfield 16, 3) := by decide +kernel
theorem dX7_hasBelowZero_13 : decode cX7_hasBelowZero 13 = .ok (.iload_n 1, 1) := by decide +kernel
theorem dX7_hasBelowZero_14 : decode cX7_hasBelowZero 14 = .ok (.bipush 40, 2) := by decide +kernel
