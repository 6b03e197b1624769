theorem dX11_next_120 : decode cX11_next 120 = .ok (.aload_n 0, 1) := by decide +kernel
theorem dX11_next_121 : decode cX11_next 121 = .ok (.getfield 87, 3) := by decide +kernel
theorem dX11_next_124 : decode cX11_next 124 = .ok (.invokevirtual 90, 3) := by decide +kernel
theorem dX11_next_127 : decode cX11_next 127 = .ok (.invokestatic 102, 3) := by decide +kernel
theorem dX11_next_130 : decode cX11_next 130 = .ok (.ifCond .eq 16, 3) := by decide +kernel
theorem dX11_next_133 : decode cX11_next 133 = .ok (.aload_n 0, 1) := by decide +kernel
theorem dX11_next_134 : decode cX11_next 134 = .ok (.dup, 1) := by decide +kernel
theorem dX11_next_135 : decode cX11_next 135 = .ok (.getfield 87, 3) := by decide +kernel
theorem dX11_next_138 : decode cX11_next 138 = .ok (.iconst 1, 1) := by decide +kernel
theorem dX11_next_139 : decode cX11_next 139 = .ok (.iadd, 1) := by decide +kernel
theorem dX11_next_140 : decode cX11_next 140 = .ok (.putfield 87, 3) := by decide +kernel
theorem dX11_next_143 : decode cX11_next 143 = .ok (.goto (-24), 3) := by decide +kernel
theorem dX11_next_146 : decode cX11_next 146 = .ok (.aload_n 0, 1) := by decide +kernel
theorem dX11_next_147 : decode cX11_next 147 = .ok (.aload_n 0, 1) := by decide +kernel
theorem dX11_next_148 : decode cX11_next 148 = .ok (.getfield 87, 3) := by decide +kernel
theorem dX11_next_151 : decode cX11_next 151 = .ok (.aload_n 0, 1) := by decide +kernel
theorem dX11_next_152 : decode cX11_next 152 = .ok (.getfield 93, 3) := by decide +kernel
theorem dX11_next_155 : decode cX11_next 155 = .ok (.isub, 1) := by decide +kernel
theorem dX11_next_156 : decode cX11_next 156 = .ok (.iconst 3, 1) := by decide +kernel
theorem dX11_next_157 : decode cX11_next 157 = .ok (.if_icmp .le 7, 3) := by decide +kernel
theorem dX11_next_160 : decode cX11_next 160 = .ok (.iconst 0, 1) := by decide +kernel
theorem dX11_next_161 : decode cX11_next 161 = .ok (.goto 4, 3) := by decide +kernel
theorem dX11_next_164 : decode cX11_next 164 = .ok (.iconst 3, 1) := by decide +kernel
theorem dX11_next_165 : decode cX11_next 165 = .ok (.putfield 96, 3) := by decide +kernel
theorem dX11_next_168 : decode cX11_next 168 = .ok (.goto 28, 3) := by decide +kernel
theorem dX11_next_171 : decode cX11_next 171 = .ok (.aload_n 0, 1) := by decide +kernel
theorem dX11_next_172 : decode cX11_next 172 = .ok (.dup, 1) := by decide +kernel
theorem dX11_next_173 : decode cX11_next 173 = .ok (.getfield 87, 3) := by decide +kernel
theorem dX11_next_176 : decode cX11_next 176 = .ok (.iconst 1, 1) := by decide +kernel
theorem dX11_next_177 : decode cX11_next 177 = .ok (.iadd, 1) := by decide +kernel
theorem dX11_next_178 : decode cX11_next 178 = .ok (.putfield 87, 3) := by decide +kernel
theorem dX11_next_181 : decode cX11_next 181 = .ok (.aload_n 0, 1) := by decide +kernel
theorem dX11_next_182 : decode cX11_next 182 = .ok (.iload_n 1, 1) := by decide +kernel
theorem dX11_next_183 : decode cX11_next 183 = .ok (.bipush 59, 2) := by decide +kernel
theorem dX11_next_185 : decode cX11_next 185 = .ok (.if_icmp .ne 7, 3) := by decide +kernel
theorem dX11_next_188 : decode cX11_next 188 = .ok (.iconst 4, 1) := by decide +kernel
theorem dX11_next_189 : decode cX11_next 189 = .ok (.goto 4, 3) := by decide +kernel
theorem dX11_next_192 : decode cX11_next 192 = .ok (.iconst 0, 1) := by decide +kernel
theorem dX11_next_193 : decode cX11_next 193 = .ok (.putfield 96, 3) := by decide +kernel
theorem dX11_next_196 : decode cX11_next 196 = .ok (.aload_n 0, 1) := by decide +kernel
theorem dX11_next_197 : decode cX11_next 197 = .ok (.aload_n 0, 1) := by decide +kernel
theorem dX11_next_198 : decode cX11_next 198 = .ok (.getfield 87, 3) := by decide +kernel
theorem dX11_next_201 : decode cX11_next 201 = .ok (.putfield 105, 3) := by decide +kernel
theorem dX11_next_204 : decode cX11_next 204 = .ok (.return_, 1) := by decide +kernel
theorem dX11_begin_0 : decode cX11_begin 0 = .ok (.aload_n 0, 1) := by decide +kernel
theorem dX11_begin_1 : decode cX11_begin 1 = .ok (.aload_n 0, 1) := by decide +kernel
theorem dX11_begin_2 : decode cX11_begin 2 = .ok (.getfield 77, 3) := by decide +kernel
theorem dX11_begin_5 : decode cX11_begin 5 = .ok (.putfield 83, 3) := by decide +kernel
theorem dX11_begin_8 : decode cX11_begin 8 = .ok (.aload_n 0, 1) := by decide +kernel
theorem dX11_begin_9 : decode cX11_begin 9 = .ok (.iconst 0, 1) := by decide +kernel
theorem dX11_begin_10 : decode cX11_begin 10 = .ok (.putfield 77, 3) := by decide +kernel
theorem dX11_begin_13 : decode cX11_begin 13 = .ok (.aload_n 0, 1) := by decide +kernel
theorem dX11_begin_14 : decode cX11_begin 14 = .ok (.iconst 0, 1) := by decide +kernel
theorem dX11_begin_15 : decode cX11_begin 15 = .ok (.putfield 87, 3) := by decide +kernel
theorem dX11_begin_18 : decode cX11_begin 18 = .ok (.aload_n 0, 1) := by decide +kernel
theorem dX11_begin_19 : decode cX11_begin 19 = .ok (.iconst 0, 1) := by decide +kernel
theorem dX11_begin_20 : decode cX11_begin 20 = .ok (.putfield 108, 3) := by decide +kernel
theorem dX11_begin_23 : decode cX11_begin 23 = .ok (.aload_n 0, 1) := by decide +kernel
theorem dX11_begin_24 : decode cX11_begin 24 = .ok (.invokevirtual 111, 3) := by decide +kernel
theorem dX11_begin_27 : decode cX11_begin 27 = .ok (.return_, 1) := by decide +kernel
theorem dX11_bad_0 : decode cX11_bad 0 = .ok (.aload_n 0, 1) := by decide +kernel
theorem dX11_bad_1 : decode cX11_bad 1 = .ok (.getfield 108, 3) := by decide +kernel
theorem dX11_bad_4 : decode cX11_bad 4 = .ok (.ifCond .ne 16, 3) := by decide +kernel
theorem dX11_bad_7 : decode cX11_bad 7 = .ok (.aload_n 0, 1) := by decide +kernel
theorem dX11_bad_8 : decode cX11_bad 8 = .ok (.iload_n 1, 1) := by decide +kernel
theorem dX11_bad_9 : decode cX11_bad 9 = .ok (.putfield 108, 3) := by decide +kernel
theorem dX11_bad_12 : decode cX11_bad 12 = .ok (.aload_n 0, 1) := by decide +kernel
theorem dX11_bad_13 : decode cX11_bad 13 = .ok (.aload_n 0, 1) := by decide +kernel
theorem dX11_bad_14 : decode cX11_bad 14 = .ok (.getfield 93, 3) := by decide +kernel
theorem dX11_bad_17 : decode cX11_bad 17 = .ok (.putfield 114, 3) := by decide +kernel
theorem dX11_bad_20 : decode cX11_bad 20 = .ok (.return_, 1) := by decide +kernel
theorem dX11_must_0 : decode cX11_must 0 = .ok (.iload_n 1, 1) := by decide +kernel
theorem dX11_must_1 : decode cX11_must 1 = .ok (.ifCond .ne 8, 3) := by decide +kernel
theorem dX11_must_4 : decode cX11_must 4 = .ok (.aload_n 0, 1) := by decide +kernel
theorem dX11_must_5 : decode cX11_must 5 = .ok (.iconst 1, 1) := by decide +kernel
theorem dX11_must_6 : decode cX11_must 6 = .ok (.invokevirtual 117, 3) := by decide +kernel
theorem dX11_must_9 : decode cX11_must 9 = .ok (.aload_n 0, 1) := by decide +kernel
theorem dX11_must_10 : decode cX11_must 10 = .ok (.getfield 108, 3) := by decide +kernel
theorem dX11_must_13 : decode cX11_must 13 = .ok (.ifCond .ne 7, 3) := by decide +kernel
theorem dX11_must_16 : decode cX11_must 16 = .ok (.aload_n 0, 1) := by decide +kernel
theorem dX11_must_17 : decode cX11_must 17 = .ok (.invokevirtual 111, 3) := by decide +kernel
theorem dX11_must_20 : decode cX11_must 20 = .ok (.return_, 1) := by decide +kernel
theorem dX11_name_0 : decode cX11_name 0 = .ok (.lconst 0, 1) := by decide +kernel
theorem dX11_name_1 : decode cX11_name 1 = .ok (.lstore_n 1, 1) := by decide +kernel
theorem dX11_name_2 : decode cX11_name 2 = .ok (.aload_n 0, 1) := by decide +kernel
theorem dX11_name_3 : decode cX11_name 3 = .ok (.getfield 93, 3) := by decide +kernel
theorem dX11_name_6 : decode cX11_name 6 = .ok (.istore_n 3, 1) := by decide +kernel
theorem dX11_name_7 : decode cX11_name 7 = .ok (.iload_n 3, 1) := by decide +kernel
theorem dX11_name_8 : decode cX11_name 8 = .ok (.aload_n 0, 1) := by decide +kernel
theorem dX11_name_9 : decode cX11_name 9 = .ok (.getfield 105, 3) := by decide +kernel
theorem dX11_name_12 : decode cX11_name 12 = .ok (.if_icmp .ge 44, 3) := by decide +kernel
theorem dX11_name_15 : decode cX11_name 15 = .ok (.aload_n 0, 1) := by decide +kernel
theorem dX11_name_16 : decode cX11_name 16 = .ok (.getfield 96, 3) := by decide +kernel
theorem dX11_name_19 : decode cX11_name 19 = .ok (.iconst 2, 1) := by decide +kernel
theorem dX11_name_20 : decode cX11_name 20 = .ok (.if_icmp .ne 36, 3) := by decide +kernel
theorem dX11_name_23 : decode cX11_name 23 = .ok (.aload_n 0, 1) := by decide +kernel
theorem dX11_name_24 : decode cX11_name 24 = .ok (.getfield 105, 3) := by decide +kernel
theorem dX11_name_27 : decode cX11_name 27 = .ok (.aload_n 0, 1) := by decide +kernel
theorem dX11_name_28 : decode cX11_name 28 = .ok (.getfield 93, 3) := by decide +kernel
theorem dX11_name_31 : decode cX11_name 31 = .ok (.isub, 1) := by decide +kernel
theorem dX11_name_32 : decode cX11_name 32 = .ok (.bipush 8, 2) := by decide +kernel
theorem dX11_name_34 : decode cX11_name 34 = .ok (.if_icmp .ge 22, 3) := by decide +kernel
theorem dX11_name_37 : decode cX11_name 37 = .ok (.lload_n 1, 1) := by decide +kernel
theorem dX11_name_38 : decode cX11_name 38 = .ok (.bipush 8, 2) := by decide +kernel
theorem dX11_name_40 : decode cX11_name 40 = .ok (.lshl, 1) := by decide +kernel
theorem dX11_name_41 : decode cX11_name 41 = .ok (.aload_n 0, 1) := by decide +kernel
theorem dX11_name_42 : decode cX11_name 42 = .ok (.getfield 28, 3) := by decide +kernel
theorem dX11_name_45 : decode cX11_name 45 = .ok (.iload_n 3, 1) := by decide +kernel
theorem dX11_name_46 : decode cX11_name 46 = .ok (.iaload, 1) := by decide +kernel
theorem dX11_name_47 : decode cX11_name 47 = .ok (.i2l, 1) := by decide +kernel
theorem dX11_name_48 : decode cX11_name 48 = .ok (.lor, 1) := by decide +kernel
theorem dX11_name_49 : decode cX11_name 49 = .ok (.lstore_n 1, 1) := by decide +kernel
theorem dX11_name_50 : decode cX11_name 50 = .ok (.iinc 3 1, 3) := by decide +kernel
theorem dX11_name_53 : decode cX11_name 53 = .ok (.goto (-46), 3) := by decide +kernel
theorem dX11_name_56 : decode cX11_name 56 = .ok (.aload_n 0, 1) := by decide +kernel
theorem dX11_name_57 : decode cX11_name 57 = .ok (.getfield 108, 3) := by decide +kernel
theorem dX11_name_60 : decode cX11_name 60 = .ok (.ifCond .ne 7, 3) := by decide +kernel
theorem dX11_name_63 : decode cX11_name 63 = .ok (.lload_n 1, 1) := by decide +kernel
theorem dX11_name_64 : decode cX11_name 64 = .ok (.goto 4, 3) := by decide +kernel
theorem dX11_name_67 : decode cX11_name 67 = .ok (.lconst 0, 1) := by decide +kernel
theorem dX11_name_68 : decode cX11_name 68 = .ok (.lreturn, 1) := by decide +kernel
theorem dX11_figures_0 : decode cX11_figures 0 = .ok (.iconst 0, 1) := by decide +kernel
theorem dX11_figures_1 : decode cX11_figures 1 = .ok (.istore_n 1, 1) := by decide +kernel
theorem dX11_figures_2 : decode cX11_figures 2 = .ok (.aload_n 0, 1) := by decide +kernel
theorem dX11_figures_3 : decode cX11_figures 3 = .ok (.getfield 93, 3) := by decide +kernel
theorem dX11_figures_6 : decode cX11_figures 6 = .ok (.istore_n 2, 1) := by decide +kernel
theorem dX11_figures_7 : decode cX11_figures 7 = .ok (.iload_n 2, 1) := by decide +kernel
theorem dX11_figures_8 : decode cX11_figures 8 = .ok (.aload_n 0, 1) := by decide +kernel
theorem dX11_figures_9 : decode cX11_figures 9 = .ok (.getfield 105, 3) := by decide +kernel
theorem dX11_figures_12 : decode cX11_figures 12 = .ok (.if_icmp .ge 32, 3) := by decide +kernel
theorem dX11_figures_15 : decode cX11_figures 15 = .ok (.aload_n 0, 1) := by decide +kernel
theorem dX11_figures_16 : decode cX11_figures 16 = .ok (.getfield 96, 3) := by decide +kernel
theorem dX11_figures_19 : decode cX11_figures 19 = .ok (.iconst 3, 1) := by decide +kernel
theorem dX11_figures_20 : decode cX11_figures 20 = .ok (.if_icmp .ne 24, 3) := by decide +kernel
theorem dX11_figures_23 : decode cX11_figures 23 = .ok (.bipush 10, 2) := by decide +kernel
theorem dX11_figures_25 : decode cX11_figures 25 = .ok (.iload_n 1, 1) := by decide +kernel
theorem dX11_figures_26 : decode cX11_figures 26 = .ok (.imul, 1) := by decide +kernel
theorem dX11_figures_27 : decode cX11_figures 27 = .ok (.aload_n 0, 1) := by decide +kernel
theorem dX11_figures_28 : decode cX11_figures 28 = .ok (.getfield 28, 3) := by decide +kernel
theorem dX11_figures_31 : decode cX11_figures 31 = .ok (.iload_n 2, 1) := by decide +kernel
theorem dX11_figures_32 : decode cX11_figures 32 = .ok (.iaload, 1) := by decide +kernel
theorem dX11_figures_33 : decode cX11_figures 33 = .ok (.iadd, 1) := by decide +kernel
theorem dX11_figures_34 : decode cX11_figures 34 = .ok (.bipush 48, 2) := by decide +kernel
theorem dX11_figures_36 : decode cX11_figures 36 = .ok (.isub, 1) := by decide +kernel
theorem dX11_figures_37 : decode cX11_figures 37 = .ok (.istore_n 1, 1) := by decide +kernel
theorem dX11_figures_38 : decode cX11_figures 38 = .ok (.iinc 2 1, 3) := by decide +kernel
theorem dX11_figures_41 : decode cX11_figures 41 = .ok (.goto (-34), 3) := by decide +kernel
theorem dX11_figures_44 : decode cX11_figures 44 = .ok (.iload_n 1, 1) := by decide +kernel
theorem dX11_figures_45 : decode cX11_figures 45 = .ok (.ireturn, 1) := by decide +kernel
theorem dX11_number_0 : decode cX11_number 0 = .ok (.aload_n 0, 1) := by decide +kernel
theorem dX11_number_1 : decode cX11_number 1 = .ok (.getfield 108, 3) := by decide +kernel
theorem dX11_number_4 : decode cX11_number 4 = .ok (.ifCond .le 5, 3) := by decide +kernel
theorem dX11_number_7 : decode cX11_number 7 = .ok (.iconst 0, 1) := by decide +kernel
theorem dX11_number_8 : decode cX11_number 8 = .ok (.ireturn, 1) := by decide +kernel
theorem dX11_number_9 : decode cX11_number 9 = .ok (.aload_n 0, 1) := by decide +kernel
theorem dX11_number_10 : decode cX11_number 10 = .ok (.invokevirtual 121, 3) := by decide +kernel
theorem dX11_number_13 : decode cX11_number 13 = .ok (.istore_n 3, 1) := by decide +kernel
theorem dX11_number_14 : decode cX11_number 14 = .ok (.aload_n 0, 1) := by decide +kernel
theorem dX11_number_15 : decode cX11_number 15 = .ok (.getfield 96, 3) := by decide +kernel
theorem dX11_number_18 : decode cX11_number 18 = .ok (.iconst 3, 1) := by decide +kernel
theorem dX11_number_19 : decode cX11_number 19 = .ok (.if_icmp .ne 20, 3) := by decide +kernel
theorem dX11_number_22 : decode cX11_number 22 = .ok (.iload_n 3, 1) := by decide +kernel
theorem dX11_number_23 : decode cX11_number 23 = .ok (.i2l, 1) := by decide +kernel
theorem dX11_number_24 : decode cX11_number 24 = .ok (.iload_n 1, 1) := by decide +kernel
theorem dX11_number_25 : decode cX11_number 25 = .ok (.i2l, 1) := by decide +kernel
theorem dX11_number_26 : decode cX11_number 26 = .ok (.iload_n 2, 1) := by decide +kernel
theorem dX11_number_27 : decode cX11_number 27 = .ok (.i2l, 1) := by decide +kernel
theorem dX11_number_28 : decode cX11_number 28 = .ok (.invokestatic 60, 3) := by decide +kernel
theorem dX11_number_31 : decode cX11_number 31 = .ok (.ifCond .ne 8, 3) := by decide +kernel
theorem dX11_number_34 : decode cX11_number 34 = .ok (.aload_n 0, 1) := by decide +kernel
theorem dX11_number_35 : decode cX11_number 35 = .ok (.iconst 2, 1) := by decide +kernel
theorem dX11_number_36 : decode cX11_number 36 = .ok (.invokevirtual 117, 3) := by decide +kernel
theorem dX11_number_39 : decode cX11_number 39 = .ok (.aload_n 0, 1) := by decide +kernel
theorem dX11_number_40 : decode cX11_number 40 = .ok (.aload_n 0, 1) := by decide +kernel
theorem dX11_number_41 : decode cX11_number 41 = .ok (.getfield 96, 3) := by decide +kernel
theorem dX11_number_44 : decode cX11_number 44 = .ok (.iconst 3, 1) := by decide +kernel
theorem dX11_number_45 : decode cX11_number 45 = .ok (.if_icmp .ne 7, 3) := by decide +kernel
theorem dX11_number_48 : decode cX11_number 48 = .ok (.iconst 1, 1) := by decide +kernel
theorem dX11_number_49 : decode cX11_number 49 = .ok (.goto 4, 3) := by decide +kernel
theorem dX11_number_52 : decode cX11_number 52 = .ok (.iconst 0, 1) := by decide +kernel
theorem dX11_number_53 : decode cX11_number 53 = .ok (.invokevirtual 125, 3) := by decide +kernel
theorem dX11_number_56 : decode cX11_number 56 = .ok (.iload_n 3, 1) := by decide +kernel
theorem dX11_number_57 : decode cX11_number 57 = .ok (.ireturn, 1) := by decide +kernel
theorem dX11_kindBy_0 : decode cX11_kindBy 0 = .ok (.lload_n 0, 1) := by decide +kernel
theorem dX11_kindBy_1 : decode cX11_kindBy 1 = .ok (.ldc2_w 129, 3) := by decide +kernel
theorem dX11_kindBy_4 : decode cX11_kindBy 4 = .ok (.lcmp, 1) := by decide +kernel
theorem dX11_kindBy_5 : decode cX11_kindBy 5 = .ok (.ifCond .ne 7, 3) := by decide +kernel
theorem dX11_kindBy_8 : decode cX11_kindBy 8 = .ok (.iconst 1, 1) := by decide +kernel
theorem dX11_kindBy_9 : decode cX11_kindBy 9 = .ok (.goto 53, 3) := by decide +kernel
theorem dX11_kindBy_12 : decode cX11_kindBy 12 = .ok (.lload_n 0, 1) := by decide +kernel
theorem dX11_kindBy_13 : decode cX11_kindBy 13 = .ok (.ldc2_w 131, 3) := by decide +kernel
theorem dX11_kindBy_16 : decode cX11_kindBy 16 = .ok (.lcmp, 1) := by decide +kernel
theorem dX11_kindBy_17 : decode cX11_kindBy 17 = .ok (.ifCond .ne 7, 3) := by decide +kernel
theorem dX11_kindBy_20 : decode cX11_kindBy 20 = .ok (.iconst 2, 1) := by decide +kernel
theorem dX11_kindBy_21 : decode cX11_kindBy 21 = .ok (.goto 41, 3) := by decide +kernel
theorem dX11_kindBy_24 : decode cX11_kindBy 24 = .ok (.lload_n 0, 1) := by decide +kernel
theorem dX11_kindBy_25 : decode cX11_kindBy 25 = .ok (.ldc2_w 133, 3) := by decide +kernel
theorem dX11_kindBy_28 : decode cX11_kindBy 28 = .ok (.lcmp, 1) := by decide +kernel
theorem dX11_kindBy_29 : decode cX11_kindBy 29 = .ok (.ifCond .ne 7, 3) := by decide +kernel
theorem dX11_kindBy_32 : decode cX11_kindBy 32 = .ok (.iconst 4, 1) := by decide +kernel
theorem dX11_kindBy_33 : decode cX11_kindBy 33 = .ok (.goto 29, 3) := by decide +kernel
theorem dX11_kindBy_36 : decode cX11_kindBy 36 = .ok (.lload_n 0, 1) := by decide +kernel
theorem dX11_kindBy_37 : decode cX11_kindBy 37 = .ok (.ldc2_w 135, 3) := by decide +kernel
theorem dX11_kindBy_40 : decode cX11_kindBy 40 = .ok (.lcmp, 1) := by decide +kernel
theorem dX11_kindBy_41 : decode cX11_kindBy 41 = .ok (.ifCond .ne 7, 3) := by decide +kernel
theorem dX11_kindBy_44 : decode cX11_kindBy 44 = .ok (.iconst 5, 1) := by decide +kernel
theorem dX11_kindBy_45 : decode cX11_kindBy 45 = .ok (.goto 17, 3) := by decide +kernel
theorem dX11_kindBy_48 : decode cX11_kindBy 48 = .ok (.lload_n 0, 1) := by decide +kernel
theorem dX11_kindBy_49 : decode cX11_kindBy 49 = .ok (.ldc2_w 137, 3) := by decide +kernel
theorem dX11_kindBy_52 : decode cX11_kindBy 52 = .ok (.lcmp, 1) := by decide +kernel
theorem dX11_kindBy_53 : decode cX11_kindBy 53 = .ok (.ifCond .ne 7, 3) := by decide +kernel
theorem dX11_kindBy_56 : decode cX11_kindBy 56 = .ok (.iconst 3, 1) := by decide +kernel
theorem dX11_kindBy_57 : decode cX11_kindBy 57 = .ok (.goto 5, 3) := by decide +kernel
theorem dX11_kindBy_60 : decode cX11_kindBy 60 = .ok (.ldc 86, 2) := by decide +kernel
theorem dX11_kindBy_62 : decode cX11_kindBy 62 = .ok (.ireturn, 1) := by decide +kernel
theorem dX11_mustEnd_0 : decode cX11_mustEnd 0 = .ok (.aload_n 0, 1) := by decide +kernel
theorem dX11_mustEnd_1 : decode cX11_mustEnd 1 = .ok (.getfield 108, 3) := by decide +kernel
theorem dX11_mustEnd_4 : decode cX11_mustEnd 4 = .ok (.ifCond .ne 20, 3) := by decide +kernel
theorem dX11_mustEnd_7 : decode cX11_mustEnd 7 = .ok (.aload_n 0, 1) := by decide +kernel
theorem dX11_mustEnd_8 : decode cX11_mustEnd 8 = .ok (.aload_n 0, 1) := by decide +kernel
theorem dX11_mustEnd_9 : decode cX11_mustEnd 9 = .ok (.getfield 96, 3) := by decide +kernel
theorem dX11_mustEnd_12 : decode cX11_mustEnd 12 = .ok (.iconst 4, 1) := by decide +kernel
theorem dX11_mustEnd_13 : decode cX11_mustEnd 13 = .ok (.if_icmp .ne 7, 3) := by decide +kernel
theorem dX11_mustEnd_16 : decode cX11_mustEnd 16 = .ok (.iconst 1, 1) := by decide +kernel
theorem dX11_mustEnd_17 : decode cX11_mustEnd 17 = .ok (.goto 4, 3) := by decide +kernel
theorem dX11_mustEnd_20 : decode cX11_mustEnd 20 = .ok (.iconst 0, 1) := by decide +kernel
theorem dX11_mustEnd_21 : decode cX11_mustEnd 21 = .ok (.invokevirtual 125, 3) := by decide +kernel
theorem dX11_mustEnd_24 : decode cX11_mustEnd 24 = .ok (.return_, 1) := by decide +kernel
theorem dX11_begins_0 : decode cX11_begins 0 = .ok (.aload_n 0, 1) := by decide +kernel
theorem dX11_begins_1 : decode cX11_begins 1 = .ok (.getfield 22, 3) := by decide +kernel
theorem dX11_begins_4 : decode cX11_begins 4 = .ok (.iload_n 1, 1) := by decide +kernel
theorem dX11_begins_5 : decode cX11_begins 5 = .ok (.iaload, 1) := by decide +kernel
theorem dX11_begins_6 : decode cX11_begins 6 = .ok (.iload_n 2, 1) := by decide +kernel
theorem dX11_begins_7 : decode cX11_begins 7 = .ok (.if_icmp .ne 8, 3) := by decide +kernel
theorem dX11_begins_10 : decode cX11_begins 10 = .ok (.aload_n 0, 1) := by decide +kernel
theorem dX11_begins_11 : decode cX11_begins 11 = .ok (.iconst 3, 1) := by decide +kernel
theorem dX11_begins_12 : decode cX11_begins 12 = .ok (.invokevirtual 117, 3) := by decide +kernel
theorem dX11_begins_15 : decode cX11_begins 15 = .ok (.aload_n 0, 1) := by decide +kernel
theorem dX11_begins_16 : decode cX11_begins 16 = .ok (.iconst 1, 1) := by decide +kernel
theorem dX11_begins_17 : decode cX11_begins 17 = .ok (.invokevirtual 125, 3) := by decide +kernel
theorem dX11_begins_20 : decode cX11_begins 20 = .ok (.return_, 1) := by decide +kernel
theorem dX11_readSpeaker_0 : decode cX11_readSpeaker 0 = .ok (.aload_n 0, 1) := by decide +kernel
theorem dX11_readSpeaker_1 : decode cX11_readSpeaker 1 = .ok (.iconst 2, 1) := by decide +kernel
theorem dX11_readSpeaker_2 : decode cX11_readSpeaker 2 = .ok (.iconst 5, 1) := by decide +kernel
theorem dX11_readSpeaker_3 : decode cX11_readSpeaker 3 = .ok (.invokevirtual 139, 3) := by decide +kernel
theorem dX11_readSpeaker_6 : decode cX11_readSpeaker 6 = .ok (.aload_n 0, 1) := by decide +kernel
theorem dX11_readSpeaker_7 : decode cX11_readSpeaker 7 = .ok (.iconst 0, 1) := by decide +kernel
theorem dX11_readSpeaker_8 : decode cX11_readSpeaker 8 = .ok (.bipush 10, 2) := by decide +kernel
theorem dX11_readSpeaker_10 : decode cX11_readSpeaker 10 = .ok (.invokevirtual 143, 3) := by decide +kernel
theorem dX11_readSpeaker_13 : decode cX11_readSpeaker 13 = .ok (.istore_n 1, 1) := by decide +kernel
theorem dX11_readSpeaker_14 : decode cX11_readSpeaker 14 = .ok (.aload_n 0, 1) := by decide +kernel
theorem dX11_readSpeaker_15 : decode cX11_readSpeaker 15 = .ok (.iconst 0, 1) := by decide +kernel
theorem dX11_readSpeaker_16 : decode cX11_readSpeaker 16 = .ok (.bipush 99, 2) := by decide +kernel
theorem dX11_readSpeaker_18 : decode cX11_readSpeaker 18 = .ok (.invokevirtual 143, 3) := by decide +kernel
theorem dX11_readSpeaker_21 : decode cX11_readSpeaker 21 = .ok (.istore_n 2, 1) := by decide +kernel
theorem dX11_readSpeaker_22 : decode cX11_readSpeaker 22 = .ok (.aload_n 0, 1) := by decide +kernel
theorem dX11_readSpeaker_23 : decode cX11_readSpeaker 23 = .ok (.invokevirtual 147, 3) := by decide +kernel
theorem dX11_readSpeaker_26 : decode cX11_readSpeaker 26 = .ok (.aload_n 0, 1) := by decide +kernel
theorem dX11_readSpeaker_27 : decode cX11_readSpeaker 27 = .ok (.getfield 108, 3) := by decide +kernel
theorem dX11_readSpeaker_30 : decode cX11_readSpeaker 30 = .ok (.ifCond .ne 47, 3) := by decide +kernel
theorem dX11_readSpeaker_33 : decode cX11_readSpeaker 33 = .ok (.aload_n 0, 1) := by decide +kernel
theorem dX11_readSpeaker_34 : decode cX11_readSpeaker 34 = .ok (.getfield 22, 3) := by decide +kernel
theorem dX11_readSpeaker_37 : decode cX11_readSpeaker 37 = .ok (.iconst 4, 1) := by decide +kernel
theorem dX11_readSpeaker_38 : decode cX11_readSpeaker 38 = .ok (.iconst 2, 1) := by decide +kernel
theorem dX11_readSpeaker_39 : decode cX11_readSpeaker 39 = .ok (.aload_n 0, 1) := by decide +kernel
theorem dX11_readSpeaker_40 : decode cX11_readSpeaker 40 = .ok (.getfield 22, 3) := by decide +kernel
theorem dX11_readSpeaker_43 : decode cX11_readSpeaker 43 = .ok (.iconst 2, 1) := by decide +kernel
theorem dX11_readSpeaker_44 : decode cX11_readSpeaker 44 = .ok (.iaload, 1) := by decide +kernel
theorem dX11_readSpeaker_45 : decode cX11_readSpeaker 45 = .ok (.imul, 1) := by decide +kernel
theorem dX11_readSpeaker_46 : decode cX11_readSpeaker 46 = .ok (.iadd, 1) := by decide +kernel
theorem dX11_readSpeaker_47 : decode cX11_readSpeaker 47 = .ok (.iload_n 1, 1) := by decide +kernel
theorem dX11_readSpeaker_48 : decode cX11_readSpeaker 48 = .ok (.iastore, 1) := by decide +kernel
theorem dX11_readSpeaker_49 : decode cX11_readSpeaker 49 = .ok (.aload_n 0, 1) := by decide +kernel
theorem dX11_readSpeaker_50 : decode cX11_readSpeaker 50 = .ok (.getfield 22, 3) := by decide +kernel
theorem dX11_readSpeaker_53 : decode cX11_readSpeaker 53 = .ok (.iconst 4, 1) := by decide +kernel
theorem dX11_readSpeaker_54 : decode cX11_readSpeaker 54 = .ok (.iconst 2, 1) := by decide +kernel
theorem dX11_readSpeaker_55 : decode cX11_readSpeaker 55 = .ok (.aload_n 0, 1) := by decide +kernel
theorem dX11_readSpeaker_56 : decode cX11_readSpeaker 56 = .ok (.getfield 22, 3) := by decide +kernel
theorem dX11_readSpeaker_59 : decode cX11_readSpeaker 59 = .ok (.iconst 2, 1) := by decide +kernel
theorem dX11_readSpeaker_60 : decode cX11_readSpeaker 60 = .ok (.iaload, 1) := by decide +kernel
theorem dX11_readSpeaker_61 : decode cX11_readSpeaker 61 = .ok (.imul, 1) := by decide +kernel
theorem dX11_readSpeaker_62 : decode cX11_readSpeaker 62 = .ok (.iadd, 1) := by decide +kernel
theorem dX11_readSpeaker_63 : decode cX11_readSpeaker 63 = .ok (.iconst 1, 1) := by decide +kernel
theorem dX11_readSpeaker_64 : decode cX11_readSpeaker 64 = .ok (.iadd, 1) := by decide +kernel
theorem dX11_readSpeaker_65 : decode cX11_readSpeaker 65 = .ok (.iload_n 2, 1) := by decide +kernel
theorem dX11_readSpeaker_66 : decode cX11_readSpeaker 66 = .ok (.iastore, 1) := by decide +kernel
theorem dX11_readSpeaker_67 : decode cX11_readSpeaker 67 = .ok (.aload_n 0, 1) := by decide +kernel
theorem dX11_readSpeaker_68 : decode cX11_readSpeaker 68 = .ok (.getfield 22, 3) := by decide +kernel
theorem dX11_readSpeaker_71 : decode cX11_readSpeaker 71 = .ok (.iconst 2, 1) := by decide +kernel
theorem dX11_readSpeaker_72 : decode cX11_readSpeaker 72 = .ok (.dup2, 1) := by decide +kernel
theorem dX11_readSpeaker_73 : decode cX11_readSpeaker 73 = .ok (.iaload, 1) := by decide +kernel
theorem dX11_readSpeaker_74 : decode cX11_readSpeaker 74 = .ok (.iconst 1, 1) := by decide +kernel
theorem dX11_readSpeaker_75 : decode cX11_readSpeaker 75 = .ok (.iadd, 1) := by decide +kernel
theorem dX11_readSpeaker_76 : decode cX11_readSpeaker 76 = .ok (.iastore, 1) := by decide +kernel
theorem dX11_readSpeaker_77 : decode cX11_readSpeaker 77 = .ok (.return_, 1) := by decide +kernel
theorem dX11_readYarn_0 : decode cX11_readYarn 0 = .ok (.aload_n 0, 1) := by decide +kernel
theorem dX11_readYarn_1 : decode cX11_readYarn 1 = .ok (.iconst 3, 1) := by decide +kernel
theorem dX11_readYarn_2 : decode cX11_readYarn 2 = .ok (.bipush 9, 2) := by decide +kernel
theorem dX11_readYarn_4 : decode cX11_readYarn 4 = .ok (.invokevirtual 139, 3) := by decide +kernel
theorem dX11_readYarn_7 : decode cX11_readYarn 7 = .ok (.aload_n 0, 1) := by decide +kernel
theorem dX11_readYarn_8 : decode cX11_readYarn 8 = .ok (.invokevirtual 150, 3) := by decide +kernel
theorem dX11_readYarn_11 : decode cX11_readYarn 11 = .ok (.invokestatic 154, 3) := by decide +kernel
theorem dX11_readYarn_14 : decode cX11_readYarn 14 = .ok (.istore_n 1, 1) := by decide +kernel
theorem dX11_readYarn_15 : decode cX11_readYarn 15 = .ok (.aload_n 0, 1) := by decide +kernel
theorem dX11_readYarn_16 : decode cX11_readYarn 16 = .ok (.getfield 108, 3) := by decide +kernel
theorem dX11_readYarn_19 : decode cX11_readYarn 19 = .ok (.ifCond .ne 18, 3) := by decide +kernel
theorem dX11_readYarn_22 : decode cX11_readYarn 22 = .ok (.aload_n 0, 1) := by decide +kernel
theorem dX11_readYarn_23 : decode cX11_readYarn 23 = .ok (.iload_n 1, 1) := by decide +kernel
theorem dX11_readYarn_24 : decode cX11_readYarn 24 = .ok (.ldc 86, 2) := by decide +kernel
theorem dX11_readYarn_26 : decode cX11_readYarn 26 = .ok (.if_icmp .eq 7, 3) := by decide +kernel
theorem dX11_readYarn_29 : decode cX11_readYarn 29 = .ok (.iconst 1, 1) := by decide +kernel
theorem dX11_readYarn_30 : decode cX11_readYarn 30 = .ok (.goto 4, 3) := by decide +kernel
theorem dX11_readYarn_33 : decode cX11_readYarn 33 = .ok (.iconst 0, 1) := by decide +kernel
theorem dX11_readYarn_34 : decode cX11_readYarn 34 = .ok (.invokevirtual 125, 3) := by decide +kernel
theorem dX11_readYarn_37 : decode cX11_readYarn 37 = .ok (.aload_n 0, 1) := by decide +kernel
theorem dX11_readYarn_38 : decode cX11_readYarn 38 = .ok (.iconst 0, 1) := by decide +kernel
theorem dX11_readYarn_39 : decode cX11_readYarn 39 = .ok (.aload_n 0, 1) := by decide +kernel
theorem dX11_readYarn_40 : decode cX11_readYarn 40 = .ok (.getfield 22, 3) := by decide +kernel
theorem dX11_readYarn_43 : decode cX11_readYarn 43 = .ok (.iconst 2, 1) := by decide +kernel
theorem dX11_readYarn_44 : decode cX11_readYarn 44 = .ok (.iaload, 1) := by decide +kernel
theorem dX11_readYarn_45 : decode cX11_readYarn 45 = .ok (.iconst 1, 1) := by decide +kernel
theorem dX11_readYarn_46 : decode cX11_readYarn 46 = .ok (.isub, 1) := by decide +kernel
theorem dX11_readYarn_47 : decode cX11_readYarn 47 = .ok (.invokevirtual 143, 3) := by decide +kernel
theorem dX11_readYarn_50 : decode cX11_readYarn 50 = .ok (.istore_n 2, 1) := by decide +kernel
theorem dX11_readYarn_51 : decode cX11_readYarn 51 = .ok (.aload_n 0, 1) := by decide +kernel
theorem dX11_readYarn_52 : decode cX11_readYarn 52 = .ok (.iconst 1, 1) := by decide +kernel
theorem dX11_readYarn_53 : decode cX11_readYarn 53 = .ok (.bipush 9, 2) := by decide +kernel
theorem dX11_readYarn_55 : decode cX11_readYarn 55 = .ok (.invokevirtual 143, 3) := by decide +kernel
theorem dX11_readYarn_58 : decode cX11_readYarn 58 = .ok (.istore_n 3, 1) := by decide +kernel
theorem dX11_readYarn_59 : decode cX11_readYarn 59 = .ok (.aload_n 0, 1) := by decide +kernel
theorem dX11_readYarn_60 : decode cX11_readYarn 60 = .ok (.invokevirtual 147, 3) := by decide +kernel
theorem dX11_readYarn_63 : decode cX11_readYarn 63 = .ok (.aload_n 0, 1) := by decide +kernel
theorem dX11_readYarn_64 : decode cX11_readYarn 64 = .ok (.getfield 108, 3) := by decide +kernel
theorem dX11_readYarn_67 : decode cX11_readYarn 67 = .ok (.ifCond .ne 65, 3) := by decide +kernel
theorem dX11_readYarn_70 : decode cX11_readYarn 70 = .ok (.bipush 14, 2) := by decide +kernel
theorem dX11_readYarn_72 : decode cX11_readYarn 72 = .ok (.bipush 7, 2) := by decide +kernel
theorem dX11_readYarn_74 : decode cX11_readYarn 74 = .ok (.aload_n 0, 1) := by decide +kernel
theorem dX11_readYarn_75 : decode cX11_readYarn 75 = .ok (.getfield 22, 3) := by decide +kernel
theorem dX11_readYarn_78 : decode cX11_readYarn 78 = .ok (.iconst 3, 1) := by decide +kernel
theorem dX11_readYarn_79 : decode cX11_readYarn 79 = .ok (.iaload, 1) := by decide +kernel
theorem dX11_readYarn_80 : decode cX11_readYarn 80 = .ok (.imul, 1) := by decide +kernel
theorem dX11_readYarn_81 : decode cX11_readYarn 81 = .ok (.iadd, 1) := by decide +kernel
theorem dX11_readYarn_82 : decode cX11_readYarn 82 = .ok (.istore 4, 2) := by decide +kernel
theorem dX11_readYarn_84 : decode cX11_readYarn 84 = .ok (.aload_n 0, 1) := by decide +kernel
theorem dX11_readYarn_85 : decode cX11_readYarn 85 = .ok (.getfield 22, 3) := by decide +kernel
theorem dX11_readYarn_88 : decode cX11_readYarn 88 = .ok (.iload 4, 2) := by decide +kernel
theorem dX11_readYarn_90 : decode cX11_readYarn 90 = .ok (.iload_n 1, 1) := by decide +kernel
theorem dX11_readYarn_91 : decode cX11_readYarn 91 = .ok (.iastore, 1) := by decide +kernel
theorem dX11_readYarn_92 : decode cX11_readYarn 92 = .ok (.aload_n 0, 1) := by decide +kernel
theorem dX11_readYarn_93 : decode cX11_readYarn 93 = .ok (.getfield 22, 3) := by decide +kernel
theorem dX11_readYarn_96 : decode cX11_readYarn 96 = .ok (.iload 4, 2) := by decide +kernel
theorem dX11_readYarn_98 : decode cX11_readYarn 98 = .ok (.iconst 1, 1) := by decide +kernel
theorem dX11_readYarn_99 : decode cX11_readYarn 99 = .ok (.iadd, 1) := by decide +kernel
theorem dX11_readYarn_100 : decode cX11_readYarn 100 = .ok (.iload_n 2, 1) := by decide +kernel
theorem dX11_readYarn_101 : decode cX11_readYarn 101 = .ok (.iastore, 1) := by decide +kernel
theorem dX11_readYarn_102 : decode cX11_readYarn 102 = .ok (.aload_n 0, 1) := by decide +kernel
theorem dX11_readYarn_103 : decode cX11_readYarn 103 = .ok (.getfield 22, 3) := by decide +kernel
theorem dX11_readYarn_106 : decode cX11_readYarn 106 = .ok (.iload 4, 2) := by decide +kernel
theorem dX11_readYarn_108 : decode cX11_readYarn 108 = .ok (.iconst 2, 1) := by decide +kernel
theorem dX11_readYarn_109 : decode cX11_readYarn 109 = .ok (.iadd, 1) := by decide +kernel
theorem dX11_readYarn_110 : decode cX11_readYarn 110 = .ok (.iload_n 3, 1) := by decide +kernel
theorem dX11_readYarn_111 : decode cX11_readYarn 111 = .ok (.iastore, 1) := by decide +kernel
theorem dX11_readYarn_112 : decode cX11_readYarn 112 = .ok (.aload_n 0, 1) := by decide +kernel
theorem dX11_readYarn_113 : decode cX11_readYarn 113 = .ok (.getfield 22, 3) := by decide +kernel
theorem dX11_readYarn_116 : decode cX11_readYarn 116 = .ok (.iload 4, 2) := by decide +kernel
theorem dX11_readYarn_118 : decode cX11_readYarn 118 = .ok (.iconst 3, 1) := by decide +kernel
theorem dX11_readYarn_119 : decode cX11_readYarn 119 = .ok (.iadd, 1) := by decide +kernel
theorem dX11_readYarn_120 : decode cX11_readYarn 120 = .ok (.iconst (-1), 1) := by decide +kernel
theorem dX11_readYarn_121 : decode cX11_readYarn 121 = .ok (.iastore, 1) := by decide +kernel
theorem dX11_readYarn_122 : decode cX11_readYarn 122 = .ok (.aload_n 0, 1) := by decide +kernel
theorem dX11_readYarn_123 : decode cX11_readYarn 123 = .ok (.getfield 22, 3) := by decide +kernel
theorem dX11_readYarn_126 : decode cX11_readYarn 126 = .ok (.iconst 3, 1) := by decide +kernel
theorem dX11_readYarn_127 : decode cX11_readYarn 127 = .ok (.dup2, 1) := by decide +kernel
theorem dX11_readYarn_128 : decode cX11_readYarn 128 = .ok (.iaload, 1) := by decide +kernel
theorem dX11_readYarn_129 : decode cX11_readYarn 129 = .ok (.iconst 1, 1) := by decide +kernel
theorem dX11_readYarn_130 : decode cX11_readYarn 130 = .ok (.iadd, 1) := by decide +kernel
theorem dX11_readYarn_131 : decode cX11_readYarn 131 = .ok (.iastore, 1) := by decide +kernel
theorem dX11_readYarn_132 : decode cX11_readYarn 132 = .ok (.return_, 1) := by decide +kernel
theorem dX11_walk_0 : decode cX11_walk 0 = .ok (.aload_n 0, 1) := by decide +kernel
theorem dX11_walk_1 : decode cX11_walk 1 = .ok (.iconst 0, 1) := by decide +kernel
theorem dX11_walk_2 : decode cX11_walk 2 = .ok (.putfield 50, 3) := by decide +kernel
theorem dX11_walk_5 : decode cX11_walk 5 = .ok (.aload_n 0, 1) := by decide +kernel
theorem dX11_walk_6 : decode cX11_walk 6 = .ok (.invokevirtual 158, 3) := by decide +kernel
theorem dX11_walk_9 : decode cX11_walk 9 = .ok (.iconst 0, 1) := by decide +kernel
theorem dX11_walk_10 : decode cX11_walk 10 = .ok (.istore_n 1, 1) := by decide +kernel
theorem dX11_walk_11 : decode cX11_walk 11 = .ok (.iload_n 1, 1) := by decide +kernel
theorem dX11_walk_12 : decode cX11_walk 12 = .ok (.bipush 77, 2) := by decide +kernel
theorem dX11_walk_14 : decode cX11_walk 14 = .ok (.if_icmp .ge 16, 3) := by decide +kernel
theorem dX11_walk_17 : decode cX11_walk 17 = .ok (.aload_n 0, 1) := by decide +kernel
theorem dX11_walk_18 : decode cX11_walk 18 = .ok (.getfield 22, 3) := by decide +kernel
theorem dX11_walk_21 : decode cX11_walk 21 = .ok (.iload_n 1, 1) := by decide +kernel
theorem dX11_walk_22 : decode cX11_walk 22 = .ok (.iconst 0, 1) := by decide +kernel
theorem dX11_walk_23 : decode cX11_walk 23 = .ok (.iastore, 1) := by decide +kernel
theorem dX11_walk_24 : decode cX11_walk 24 = .ok (.iinc 1 1, 3) := by decide +kernel
theorem dX11_walk_27 : decode cX11_walk 27 = .ok (.goto (-16), 3) := by decide +kernel
theorem dX11_walk_30 : decode cX11_walk 30 = .ok (.aload_n 0, 1) := by decide +kernel
theorem dX11_walk_31 : decode cX11_walk 31 = .ok (.aload_n 0, 1) := by decide +kernel
theorem dX11_walk_32 : decode cX11_walk 32 = .ok (.invokevirtual 150, 3) := by decide +kernel
theorem dX11_walk_35 : decode cX11_walk 35 = .ok (.ldc2_w 161, 3) := by decide +kernel
theorem dX11_walk_38 : decode cX11_walk 38 = .ok (.lcmp, 1) := by decide +kernel
theorem dX11_walk_39 : decode cX11_walk 39 = .ok (.ifCond .ne 7, 3) := by decide +kernel
theorem dX11_walk_42 : decode cX11_walk 42 = .ok (.iconst 1, 1) := by decide +kernel
theorem dX11_walk_43 : decode cX11_walk 43 = .ok (.goto 4, 3) := by decide +kernel
theorem dX11_walk_46 : decode cX11_walk 46 = .ok (.iconst 0, 1) := by decide +kernel
theorem dX11_walk_47 : decode cX11_walk 47 = .ok (.invokevirtual 125, 3) := by decide +kernel
theorem dX11_walk_50 : decode cX11_walk 50 = .ok (.aload_n 0, 1) := by decide +kernel
theorem dX11_walk_51 : decode cX11_walk 51 = .ok (.getfield 22, 3) := by decide +kernel
theorem dX11_walk_54 : decode cX11_walk 54 = .ok (.iconst 0, 1) := by decide +kernel
theorem dX11_walk_55 : decode cX11_walk 55 = .ok (.aload_n 0, 1) := by decide +kernel
theorem dX11_walk_56 : decode cX11_walk 56 = .ok (.iconst 1, 1) := by decide +kernel
theorem dX11_walk_57 : decode cX11_walk 57 = .ok (.bipush 50, 2) := by decide +kernel
theorem dX11_walk_59 : decode cX11_walk 59 = .ok (.invokevirtual 143, 3) := by decide +kernel
theorem dX11_walk_62 : decode cX11_walk 62 = .ok (.iastore, 1) := by decide +kernel
theorem dX11_walk_63 : decode cX11_walk 63 = .ok (.aload_n 0, 1) := by decide +kernel
theorem dX11_walk_64 : decode cX11_walk 64 = .ok (.getfield 22, 3) := by decide +kernel
theorem dX11_walk_67 : decode cX11_walk 67 = .ok (.iconst 1, 1) := by decide +kernel
theorem dX11_walk_68 : decode cX11_walk 68 = .ok (.aload_n 0, 1) := by decide +kernel
theorem dX11_walk_69 : decode cX11_walk 69 = .ok (.iconst 0, 1) := by decide +kernel
theorem dX11_walk_70 : decode cX11_walk 70 = .ok (.bipush 20, 2) := by decide +kernel
theorem dX11_walk_72 : decode cX11_walk 72 = .ok (.invokevirtual 143, 3) := by decide +kernel
theorem dX11_walk_75 : decode cX11_walk 75 = .ok (.iastore, 1) := by decide +kernel
theorem dX11_walk_76 : decode cX11_walk 76 = .ok (.aload_n 0, 1) := by decide +kernel
theorem dX11_walk_77 : decode cX11_walk 77 = .ok (.invokevirtual 147, 3) := by decide +kernel
theorem dX11_walk_80 : decode cX11_walk 80 = .ok (.aload_n 0, 1) := by decide +kernel
theorem dX11_walk_81 : decode cX11_walk 81 = .ok (.invokevirtual 150, 3) := by decide +kernel
theorem dX11_walk_84 : decode cX11_walk 84 = .ok (.ldc2_w 163, 3) := by decide +kernel
theorem dX11_walk_87 : decode cX11_walk 87 = .ok (.lcmp, 1) := by decide +kernel
theorem dX11_walk_88 : decode cX11_walk 88 = .ok (.ifCond .ne 10, 3) := by decide +kernel
theorem dX11_walk_91 : decode cX11_walk 91 = .ok (.aload_n 0, 1) := by decide +kernel
theorem dX11_walk_92 : decode cX11_walk 92 = .ok (.invokevirtual 165, 3) := by decide +kernel
theorem dX11_walk_95 : decode cX11_walk 95 = .ok (.goto (-15), 3) := by decide +kernel
theorem dX11_walk_98 : decode cX11_walk 98 = .ok (.aload_n 0, 1) := by decide +kernel
theorem dX11_walk_99 : decode cX11_walk 99 = .ok (.invokevirtual 150, 3) := by decide +kernel
theorem dX11_walk_102 : decode cX11_walk 102 = .ok (.ldc2_w 168, 3) := by decide +kernel
theorem dX11_walk_105 : decode cX11_walk 105 = .ok (.lcmp, 1) := by decide +kernel
theorem dX11_walk_106 : decode cX11_walk 106 = .ok (.ifCond .ne 10, 3) := by decide +kernel
theorem dX11_walk_109 : decode cX11_walk 109 = .ok (.aload_n 0, 1) := by decide +kernel
theorem dX11_walk_110 : decode cX11_walk 110 = .ok (.invokevirtual 170, 3) := by decide +kernel
theorem dX11_walk_113 : decode cX11_walk 113 = .ok (.goto (-15), 3) := by decide +kernel
theorem dX11_walk_116 : decode cX11_walk 116 = .ok (.aload_n 0, 1) := by decide +kernel
theorem dX11_walk_117 : decode cX11_walk 117 = .ok (.getfield 108, 3) := by decide +kernel
theorem dX11_walk_120 : decode cX11_walk 120 = .ok (.ifCond .ne 16, 3) := by decide +kernel
theorem dX11_walk_123 : decode cX11_walk 123 = .ok (.aload_n 0, 1) := by decide +kernel
theorem dX11_walk_124 : decode cX11_walk 124 = .ok (.getfield 96, 3) := by decide +kernel
theorem dX11_walk_127 : decode cX11_walk 127 = .ok (.iconst 1, 1) := by decide +kernel
theorem dX11_walk_128 : decode cX11_walk 128 = .ok (.if_icmp .eq 8, 3) := by decide +kernel
theorem dX11_walk_131 : decode cX11_walk 131 = .ok (.aload_n 0, 1) := by decide +kernel
theorem dX11_walk_132 : decode cX11_walk 132 = .ok (.iconst 1, 1) := by decide +kernel
theorem dX11_walk_133 : decode cX11_walk 133 = .ok (.invokevirtual 117, 3) := by decide +kernel
theorem dX11_walk_136 : decode cX11_walk 136 = .ok (.aload_n 0, 1) := by decide +kernel
theorem dX11_walk_137 : decode cX11_walk 137 = .ok (.getfield 108, 3) := by decide +kernel
theorem dX11_walk_140 : decode cX11_walk 140 = .ok (.ifCond .le 19, 3) := by decide +kernel
theorem dX11_walk_143 : decode cX11_walk 143 = .ok (.aload_n 0, 1) := by decide +kernel
theorem dX11_walk_144 : decode cX11_walk 144 = .ok (.aload_n 0, 1) := by decide +kernel
theorem dX11_walk_145 : decode cX11_walk 145 = .ok (.getfield 108, 3) := by decide +kernel
theorem dX11_walk_148 : decode cX11_walk 148 = .ok (.putfield 173, 3) := by decide +kernel
theorem dX11_walk_151 : decode cX11_walk 151 = .ok (.ldc 176, 2) := by decide +kernel
theorem dX11_walk_153 : decode cX11_walk 153 = .ok (.aload_n 0, 1) := by decide +kernel
theorem dX11_walk_154 : decode cX11_walk 154 = .ok (.getfield 114, 3) := by decide +kernel
theorem dX11_walk_157 : decode cX11_walk 157 = .ok (.isub, 1) := by decide +kernel
theorem dX11_walk_158 : decode cX11_walk 158 = .ok (.ireturn, 1) := by decide +kernel
theorem dX11_walk_159 : decode cX11_walk 159 = .ok (.aload_n 0, 1) := by decide +kernel
theorem dX11_walk_160 : decode cX11_walk 160 = .ok (.iconst 1, 1) := by decide +kernel
theorem dX11_walk_161 : decode cX11_walk 161 = .ok (.putfield 177, 3) := by decide +kernel
theorem dX11_walk_164 : decode cX11_walk 164 = .ok (.aload_n 0, 1) := by decide +kernel
theorem dX11_walk_165 : decode cX11_walk 165 = .ok (.iconst 0, 1) := by decide +kernel
theorem dX11_walk_166 : decode cX11_walk 166 = .ok (.putfield 181, 3) := by decide +kernel
theorem dX11_walk_169 : decode cX11_walk 169 = .ok (.iconst 0, 1) := by decide +kernel
theorem dX11_walk_170 : decode cX11_walk 170 = .ok (.istore_n 1, 1) := by decide +kernel
theorem dX11_walk_171 : decode cX11_walk 171 = .ok (.iload_n 1, 1) := by decide +kernel
theorem dX11_walk_172 : decode cX11_walk 172 = .ok (.bipush 77, 2) := by decide +kernel
theorem dX11_walk_174 : decode cX11_walk 174 = .ok (.if_icmp .ge 21, 3) := by decide +kernel
theorem dX11_walk_177 : decode cX11_walk 177 = .ok (.aload_n 0, 1) := by decide +kernel
theorem dX11_walk_178 : decode cX11_walk 178 = .ok (.getfield 19, 3) := by decide +kernel
theorem dX11_walk_181 : decode cX11_walk 181 = .ok (.iload_n 1, 1) := by decide +kernel
theorem dX11_walk_182 : decode cX11_walk 182 = .ok (.aload_n 0, 1) := by decide +kernel
theorem dX11_walk_183 : decode cX11_walk 183 = .ok (.getfield 22, 3) := by decide +kernel
theorem dX11_walk_186 : decode cX11_walk 186 = .ok (.iload_n 1, 1) := by decide +kernel
theorem dX11_walk_187 : decode cX11_walk 187 = .ok (.iaload, 1) := by decide +kernel
theorem dX11_walk_188 : decode cX11_walk 188 = .ok (.iastore, 1) := by decide +kernel
theorem dX11_walk_189 : decode cX11_walk 189 = .ok (.iinc 1 1, 3) := by decide +kernel
theorem dX11_walk_192 : decode cX11_walk 192 = .ok (.goto (-21), 3) := by decide +kernel
theorem dX11_walk_195 : decode cX11_walk 195 = .ok (.aload_n 0, 1) := by decide +kernel
theorem dX11_walk_196 : decode cX11_walk 196 = .ok (.getfield 19, 3) := by decide +kernel
theorem dX11_walk_199 : decode cX11_walk 199 = .ok (.iconst 3, 1) := by decide +kernel
theorem dX11_walk_200 : decode cX11_walk 200 = .ok (.iaload, 1) := by decide +kernel
theorem dX11_walk_201 : decode cX11_walk 201 = .ok (.ireturn, 1) := by decide +kernel
theorem dX11_fault_0 : decode cX11_fault 0 = .ok (.aload_n 0, 1) := by decide +kernel
theorem dX11_fault_1 : decode cX11_fault 1 = .ok (.iconst 0, 1) := by decide +kernel
theorem dX11_fault_2 : decode cX11_fault 2 = .ok (.putfield 50, 3) := by decide +kernel
theorem dX11_fault_5 : decode cX11_fault 5 = .ok (.aload_n 0, 1) := by decide +kernel
theorem dX11_fault_6 : decode cX11_fault 6 = .ok (.getfield 173, 3) := by decide +kernel
theorem dX11_fault_9 : decode cX11_fault 9 = .ok (.ireturn, 1) := by decide +kernel
theorem dX11_isYarn_0 : decode cX11_isYarn 0 = .ok (.iload_n 1, 1) := by decide +kernel
theorem dX11_isYarn_1 : decode cX11_isYarn 1 = .ok (.i2l, 1) := by decide +kernel
theorem dX11_isYarn_2 : decode cX11_isYarn 2 = .ok (.lconst 0, 1) := by decide +kernel
theorem dX11_isYarn_3 : decode cX11_isYarn 3 = .ok (.aload_n 0, 1) := by decide +kernel
theorem dX11_isYarn_4 : decode cX11_isYarn 4 = .ok (.getfield 19, 3) := by decide +kernel
theorem dX11_isYarn_7 : decode cX11_isYarn 7 = .ok (.iconst 3, 1) := by decide +kernel
theorem dX11_isYarn_8 : decode cX11_isYarn 8 = .ok (.iaload, 1) := by decide +kernel
theorem dX11_isYarn_9 : decode cX11_isYarn 9 = .ok (.iconst 1, 1) := by decide +kernel
theorem dX11_isYarn_10 : decode cX11_isYarn 10 = .ok (.isub, 1) := by decide +kernel
theorem dX11_isYarn_11 : decode cX11_isYarn 11 = .ok (.i2l, 1) := by decide +kernel
theorem dX11_isYarn_12 : decode cX11_isYarn 12 = .ok (.invokestatic 60, 3) := by decide +kernel
theorem dX11_isYarn_15 : decode cX11_isYarn 15 = .ok (.ireturn, 1) := by decide +kernel
theorem dX11_isSpeaker_0 : decode cX11_isSpeaker 0 = .ok (.iload_n 1, 1) := by decide +kernel
theorem dX11_isSpeaker_1 : decode cX11_isSpeaker 1 = .ok (.i2l, 1) := by decide +kernel
theorem dX11_isSpeaker_2 : decode cX11_isSpeaker 2 = .ok (.lconst 0, 1) := by decide +kernel
theorem dX11_isSpeaker_3 : decode cX11_isSpeaker 3 = .ok (.aload_n 0, 1) := by decide +kernel
theorem dX11_isSpeaker_4 : decode cX11_isSpeaker 4 = .ok (.getfield 19, 3) := by decide +kernel
theorem dX11_isSpeaker_7 : decode cX11_isSpeaker 7 = .ok (.iconst 2, 1) := by decide +kernel
theorem dX11_isSpeaker_8 : decode cX11_isSpeaker 8 = .ok (.iaload, 1) := by decide +kernel
theorem dX11_isSpeaker_9 : decode cX11_isSpeaker 9 = .ok (.iconst 1, 1) := by decide +kernel
theorem dX11_isSpeaker_10 : decode cX11_isSpeaker 10 = .ok (.isub, 1) := by decide +kernel
theorem dX11_isSpeaker_11 : decode cX11_isSpeaker 11 = .ok (.i2l, 1) := by decide +kernel
theorem dX11_isSpeaker_12 : decode cX11_isSpeaker 12 = .ok (.invokestatic 60, 3) := by decide +kernel
theorem dX11_isSpeaker_15 : decode cX11_isSpeaker 15 = .ok (.ireturn, 1) := by decide +kernel
theorem dX11_isSeed_0 : decode cX11_isSeed 0 = .ok (.iload_n 0, 1) := by decide +kernel
theorem dX11_isSeed_1 : decode cX11_isSeed 1 = .ok (.i2l, 1) := by decide +kernel
theorem dX11_isSeed_2 : decode cX11_isSeed 2 = .ok (.lconst 1, 1) := by decide +kernel
theorem dX11_isSeed_3 : decode cX11_isSeed 3 = .ok (.ldc2_w 184, 3) := by decide +kernel
theorem dX11_isSeed_6 : decode cX11_isSeed 6 = .ok (.invokestatic 60, 3) := by decide +kernel
theorem dX11_isSeed_9 : decode cX11_isSeed 9 = .ok (.ireturn, 1) := by decide +kernel
theorem dX11_isLoad_0 : decode cX11_isLoad 0 = .ok (.iload_n 0, 1) := by decide +kernel
theorem dX11_isLoad_1 : decode cX11_isLoad 1 = .ok (.i2l, 1) := by decide +kernel
theorem dX11_isLoad_2 : decode cX11_isLoad 2 = .ok (.lconst 0, 1) := by decide +kernel
theorem dX11_isLoad_3 : decode cX11_isLoad 3 = .ok (.ldc2_w 186, 3) := by decide +kernel
theorem dX11_isLoad_6 : decode cX11_isLoad 6 = .ok (.invokestatic 60, 3) := by decide +kernel
theorem dX11_isLoad_9 : decode cX11_isLoad 9 = .ok (.ireturn, 1) := by decide +kernel
theorem dX11_of_0 : decode cX11_of 0 = .ok (.aload_n 0, 1) := by decide +kernel
theorem dX11_of_1 : decode cX11_of 1 = .ok (.getfield 19, 3) := by decide +kernel
theorem dX11_of_4 : decode cX11_of 4 = .ok (.bipush 14, 2) := by decide +kernel
theorem dX11_of_6 : decode cX11_of 6 = .ok (.bipush 7, 2) := by decide +kernel
theorem dX11_of_8 : decode cX11_of 8 = .ok (.iload_n 1, 1) := by decide +kernel
theorem dX11_of_9 : decode cX11_of 9 = .ok (.imul, 1) := by decide +kernel
theorem dX11_of_10 : decode cX11_of 10 = .ok (.iadd, 1) := by decide +kernel
theorem dX11_of_11 : decode cX11_of 11 = .ok (.iload_n 2, 1) := by decide +kernel
theorem dX11_of_12 : decode cX11_of 12 = .ok (.iadd, 1) := by decide +kernel
theorem dX11_of_13 : decode cX11_of 13 = .ok (.iaload, 1) := by decide +kernel
theorem dX11_of_14 : decode cX11_of 14 = .ok (.ireturn, 1) := by decide +kernel
theorem dX11_becomes_0 : decode cX11_becomes 0 = .ok (.aload_n 0, 1) := by decide +kernel
theorem dX11_becomes_1 : decode cX11_becomes 1 = .ok (.getfield 19, 3) := by decide +kernel
theorem dX11_becomes_4 : decode cX11_becomes 4 = .ok (.bipush 14, 2) := by decide +kernel
theorem dX11_becomes_6 : decode cX11_becomes 6 = .ok (.bipush 7, 2) := by decide +kernel
theorem dX11_becomes_8 : decode cX11_becomes 8 = .ok (.iload_n 1, 1) := by decide +kernel
theorem dX11_becomes_9 : decode cX11_becomes 9 = .ok (.imul, 1) := by decide +kernel
theorem dX11_becomes_10 : decode cX11_becomes 10 = .ok (.iadd, 1) := by decide +kernel
theorem dX11_becomes_11 : decode cX11_becomes 11 = .ok (.iload_n 2, 1) := by decide +kernel
theorem dX11_becomes_12 : decode cX11_becomes 12 = .ok (.iadd, 1) := by decide +kernel
theorem dX11_becomes_13 : decode cX11_becomes 13 = .ok (.iload_n 3, 1) := by decide +kernel
theorem dX11_becomes_14 : decode cX11_becomes 14 = .ok (.iastore, 1) := by decide +kernel
theorem dX11_becomes_15 : decode cX11_becomes 15 = .ok (.return_, 1) := by decide +kernel
theorem dX11_truthOf_0 : decode cX11_truthOf 0 = .ok (.aload_n 0, 1) := by decide +kernel
theorem dX11_truthOf_1 : decode cX11_truthOf 1 = .ok (.getfield 19, 3) := by decide +kernel
theorem dX11_truthOf_4 : decode cX11_truthOf 4 = .ok (.iconst 4, 1) := by decide +kernel
theorem dX11_truthOf_5 : decode cX11_truthOf 5 = .ok (.iconst 2, 1) := by decide +kernel
theorem dX11_truthOf_6 : decode cX11_truthOf 6 = .ok (.aload_n 0, 1) := by decide +kernel
theorem dX11_truthOf_7 : decode cX11_truthOf 7 = .ok (.iload_n 1, 1) := by decide +kernel
theorem dX11_truthOf_8 : decode cX11_truthOf 8 = .ok (.iconst 1, 1) := by decide +kernel
theorem dX11_truthOf_9 : decode cX11_truthOf 9 = .ok (.invokevirtual 188, 3) := by decide +kernel
theorem dX11_truthOf_12 : decode cX11_truthOf 12 = .ok (.imul, 1) := by decide +kernel
theorem dX11_truthOf_13 : decode cX11_truthOf 13 = .ok (.iadd, 1) := by decide +kernel
theorem dX11_truthOf_14 : decode cX11_truthOf 14 = .ok (.iaload, 1) := by decide +kernel
theorem dX11_truthOf_15 : decode cX11_truthOf 15 = .ok (.ireturn, 1) := by decide +kernel
theorem dX11_priceOf_0 : decode cX11_priceOf 0 = .ok (.aload_n 0, 1) := by decide +kernel
theorem dX11_priceOf_1 : decode cX11_priceOf 1 = .ok (.getfield 19, 3) := by decide +kernel
theorem dX11_priceOf_4 : decode cX11_priceOf 4 = .ok (.iconst 4, 1) := by decide +kernel
theorem dX11_priceOf_5 : decode cX11_priceOf 5 = .ok (.iconst 2, 1) := by decide +kernel
theorem dX11_priceOf_6 : decode cX11_priceOf 6 = .ok (.aload_n 0, 1) := by decide +kernel
theorem dX11_priceOf_7 : decode cX11_priceOf 7 = .ok (.iload_n 1, 1) := by decide +kernel
theorem dX11_priceOf_8 : decode cX11_priceOf 8 = .ok (.iconst 1, 1) := by decide +kernel
theorem dX11_priceOf_9 : decode cX11_priceOf 9 = .ok (.invokevirtual 188, 3) := by decide +kernel
theorem dX11_priceOf_12 : decode cX11_priceOf 12 = .ok (.imul, 1) := by decide +kernel
theorem dX11_priceOf_13 : decode cX11_priceOf 13 = .ok (.iadd, 1) := by decide +kernel
theorem dX11_priceOf_14 : decode cX11_priceOf 14 = .ok (.iconst 1, 1) := by decide +kernel
theorem dX11_priceOf_15 : decode cX11_priceOf 15 = .ok (.iadd, 1) := by decide +kernel
theorem dX11_priceOf_16 : decode cX11_priceOf 16 = .ok (.iaload, 1) := by decide +kernel
theorem dX11_priceOf_17 : decode cX11_priceOf 17 = .ok (.ireturn, 1) := by decide +kernel
theorem dX11_strengthBy_0 : decode cX11_strengthBy 0 = .ok (.aload_n 0, 1) := by decide +kernel
theorem dX11_strengthBy_1 : decode cX11_strengthBy 1 = .ok (.iload_n 1, 1) := by decide +kernel
theorem dX11_strengthBy_2 : decode cX11_strengthBy 2 = .ok (.iconst 0, 1) := by decide +kernel
theorem dX11_strengthBy_3 : decode cX11_strengthBy 3 = .ok (.invokevirtual 188, 3) := by decide +kernel
theorem dX11_strengthBy_6 : decode cX11_strengthBy 6 = .ok (.istore_n 3, 1) := by decide +kernel
theorem dX11_strengthBy_7 : decode cX11_strengthBy 7 = .ok (.aload_n 0, 1) := by decide +kernel
theorem dX11_strengthBy_8 : decode cX11_strengthBy 8 = .ok (.getfield 19, 3) := by decide +kernel
theorem dX11_strengthBy_11 : decode cX11_strengthBy 11 = .ok (.iconst 0, 1) := by decide +kernel
theorem dX11_strengthBy_12 : decode cX11_strengthBy 12 = .ok (.iaload, 1) := by decide +kernel
theorem dX11_strengthBy_13 : decode cX11_strengthBy 13 = .ok (.aload_n 0, 1) := by decide +kernel
theorem dX11_strengthBy_14 : decode cX11_strengthBy 14 = .ok (.iload_n 1, 1) := by decide +kernel
theorem dX11_strengthBy_15 : decode cX11_strengthBy 15 = .ok (.iconst 2, 1) := by decide +kernel
theorem dX11_strengthBy_16 : decode cX11_strengthBy 16 = .ok (.invokevirtual 188, 3) := by decide +kernel
theorem dX11_strengthBy_19 : decode cX11_strengthBy 19 = .ok (.imul, 1) := by decide +kernel
theorem dX11_strengthBy_20 : decode cX11_strengthBy 20 = .ok (.istore 4, 2) := by decide +kernel
theorem dX11_strengthBy_22 : decode cX11_strengthBy 22 = .ok (.iload_n 3, 1) := by decide +kernel
theorem dX11_strengthBy_23 : decode cX11_strengthBy 23 = .ok (.iconst 2, 1) := by decide +kernel
theorem dX11_strengthBy_24 : decode cX11_strengthBy 24 = .ok (.if_icmp .eq 8, 3) := by decide +kernel
theorem dX11_strengthBy_27 : decode cX11_strengthBy 27 = .ok (.iload_n 3, 1) := by decide +kernel
theorem dX11_strengthBy_28 : decode cX11_strengthBy 28 = .ok (.iconst 3, 1) := by decide +kernel
theorem dX11_strengthBy_29 : decode cX11_strengthBy 29 = .ok (.if_icmp .ne 13, 3) := by decide +kernel
theorem dX11_strengthBy_32 : decode cX11_strengthBy 32 = .ok (.iload 4, 2) := by decide +kernel
theorem dX11_strengthBy_34 : decode cX11_strengthBy 34 = .ok (.iload 4, 2) := by decide +kernel
theorem dX11_strengthBy_36 : decode cX11_strengthBy 36 = .ok (.iconst 2, 1) := by decide +kernel
theorem dX11_strengthBy_37 : decode cX11_strengthBy 37 = .ok (.idiv, 1) := by decide +kernel
theorem dX11_strengthBy_38 : decode cX11_strengthBy 38 = .ok (.iadd, 1) := by decide +kernel
theorem dX11_strengthBy_39 : decode cX11_strengthBy 39 = .ok (.goto 17, 3) := by decide +kernel
theorem dX11_strengthBy_42 : decode cX11_strengthBy 42 = .ok (.iload_n 3, 1) := by decide +kernel
theorem dX11_strengthBy_43 : decode cX11_strengthBy 43 = .ok (.iconst 1, 1) := by decide +kernel
theorem dX11_strengthBy_44 : decode cX11_strengthBy 44 = .ok (.if_icmp .ne 8, 3) := by decide +kernel
theorem dX11_strengthBy_47 : decode cX11_strengthBy 47 = .ok (.iload 4, 2) := by decide +kernel
theorem dX11_strengthBy_49 : decode cX11_strengthBy 49 = .ok (.goto 7, 3) := by decide +kernel
theorem dX11_strengthBy_52 : decode cX11_strengthBy 52 = .ok (.iload 4, 2) := by decide +kernel
theorem dX11_strengthBy_54 : decode cX11_strengthBy 54 = .ok (.iconst 2, 1) := by decide +kernel
theorem dX11_strengthBy_55 : decode cX11_strengthBy 55 = .ok (.idiv, 1) := by decide +kernel
theorem dX11_strengthBy_56 : decode cX11_strengthBy 56 = .ok (.istore 4, 2) := by decide +kernel
theorem dX11_strengthBy_58 : decode cX11_strengthBy 58 = .ok (.iload 4, 2) := by decide +kernel
theorem dX11_strengthBy_60 : decode cX11_strengthBy 60 = .ok (.iload_n 3, 1) := by decide +kernel
theorem dX11_strengthBy_61 : decode cX11_strengthBy 61 = .ok (.iconst 3, 1) := by decide +kernel
theorem dX11_strengthBy_62 : decode cX11_strengthBy 62 = .ok (.if_icmp .ne 11, 3) := by decide +kernel
theorem dX11_strengthBy_65 : decode cX11_strengthBy 65 = .ok (.aload_n 0, 1) := by decide +kernel
theorem dX11_strengthBy_66 : decode cX11_strengthBy 66 = .ok (.iload_n 1, 1) := by decide +kernel
theorem dX11_strengthBy_67 : decode cX11_strengthBy 67 = .ok (.invokevirtual 191, 3) := by decide +kernel
theorem dX11_strengthBy_70 : decode cX11_strengthBy 70 = .ok (.goto 4, 3) := by decide +kernel
theorem dX11_strengthBy_73 : decode cX11_strengthBy 73 = .ok (.iconst 0, 1) := by decide +kernel
theorem dX11_strengthBy_74 : decode cX11_strengthBy 74 = .ok (.iadd, 1) := by decide +kernel
theorem dX11_strengthBy_75 : decode cX11_strengthBy 75 = .ok (.istore 4, 2) := by decide +kernel
theorem dX11_strengthBy_77 : decode cX11_strengthBy 77 = .ok (.iload 4, 2) := by decide +kernel
theorem dX11_strengthBy_79 : decode cX11_strengthBy 79 = .ok (.aload_n 0, 1) := by decide +kernel
theorem dX11_strengthBy_80 : decode cX11_strengthBy 80 = .ok (.iload_n 1, 1) := by decide +kernel
theorem dX11_strengthBy_81 : decode cX11_strengthBy 81 = .ok (.bipush 6, 2) := by decide +kernel
theorem dX11_strengthBy_83 : decode cX11_strengthBy 83 = .ok (.invokevirtual 188, 3) := by decide +kernel
theorem dX11_strengthBy_86 : decode cX11_strengthBy 86 = .ok (.iconst 1, 1) := by decide +kernel
theorem dX11_strengthBy_87 : decode cX11_strengthBy 87 = .ok (.if_icmp .ne 12, 3) := by decide +kernel
theorem dX11_strengthBy_90 : decode cX11_strengthBy 90 = .ok (.aload_n 0, 1) := by decide +kernel
theorem dX11_strengthBy_91 : decode cX11_strengthBy 91 = .ok (.getfield 19, 3) := by decide +kernel
theorem dX11_strengthBy_94 : decode cX11_strengthBy 94 = .ok (.iconst 1, 1) := by decide +kernel
theorem dX11_strengthBy_95 : decode cX11_strengthBy 95 = .ok (.iaload, 1) := by decide +kernel
theorem dX11_strengthBy_96 : decode cX11_strengthBy 96 = .ok (.goto 4, 3) := by decide +kernel
theorem dX11_strengthBy_99 : decode cX11_strengthBy 99 = .ok (.iconst 0, 1) := by decide +kernel
theorem dX11_strengthBy_100 : decode cX11_strengthBy 100 = .ok (.iadd, 1) := by decide +kernel
theorem dX11_strengthBy_101 : decode cX11_strengthBy 101 = .ok (.istore 4, 2) := by decide +kernel
theorem dX11_strengthBy_103 : decode cX11_strengthBy 103 = .ok (.iload_n 2, 1) := by decide +kernel
theorem dX11_strengthBy_104 : decode cX11_strengthBy 104 = .ok (.iconst 1, 1) := by decide +kernel
theorem dX11_strengthBy_105 : decode cX11_strengthBy 105 = .ok (.if_icmp .ne 13, 3) := by decide +kernel
theorem dX11_strengthBy_108 : decode cX11_strengthBy 108 = .ok (.iload 4, 2) := by decide +kernel
theorem dX11_strengthBy_110 : decode cX11_strengthBy 110 = .ok (.iload 4, 2) := by decide +kernel
theorem dX11_strengthBy_112 : decode cX11_strengthBy 112 = .ok (.iconst 2, 1) := by decide +kernel
theorem dX11_strengthBy_113 : decode cX11_strengthBy 113 = .ok (.idiv, 1) := by decide +kernel
theorem dX11_strengthBy_114 : decode cX11_strengthBy 114 = .ok (.iadd, 1) := by decide +kernel
theorem dX11_strengthBy_115 : decode cX11_strengthBy 115 = .ok (.goto 5, 3) := by decide +kernel
theorem dX11_strengthBy_118 : decode cX11_strengthBy 118 = .ok (.iload 4, 2) := by decide +kernel
theorem dX11_strengthBy_120 : decode cX11_strengthBy 120 = .ok (.istore 4, 2) := by decide +kernel
theorem dX11_strengthBy_122 : decode cX11_strengthBy 122 = .ok (.iload 4, 2) := by decide +kernel
theorem dX11_strengthBy_124 : decode cX11_strengthBy 124 = .ok (.aload_n 0, 1) := by decide +kernel
theorem dX11_strengthBy_125 : decode cX11_strengthBy 125 = .ok (.iload_n 1, 1) := by decide +kernel
theorem dX11_strengthBy_126 : decode cX11_strengthBy 126 = .ok (.iconst 5, 1) := by decide +kernel
theorem dX11_strengthBy_127 : decode cX11_strengthBy 127 = .ok (.invokevirtual 188, 3) := by decide +kernel
theorem dX11_strengthBy_130 : decode cX11_strengthBy 130 = .ok (.if_icmp .ge 7, 3) := by decide +kernel
theorem dX11_strengthBy_133 : decode cX11_strengthBy 133 = .ok (.iconst 0, 1) := by decide +kernel
theorem dX11_strengthBy_134 : decode cX11_strengthBy 134 = .ok (.goto 12, 3) := by decide +kernel
theorem dX11_strengthBy_137 : decode cX11_strengthBy 137 = .ok (.iload 4, 2) := by decide +kernel
theorem dX11_strengthBy_139 : decode cX11_strengthBy 139 = .ok (.aload_n 0, 1) := by decide +kernel
theorem dX11_strengthBy_140 : decode cX11_strengthBy 140 = .ok (.iload_n 1, 1) := by decide +kernel
theorem dX11_strengthBy_141 : decode cX11_strengthBy 141 = .ok (.iconst 5, 1) := by decide +kernel
theorem dX11_strengthBy_142 : decode cX11_strengthBy 142 = .ok (.invokevirtual 188, 3) := by decide +kernel
theorem dX11_strengthBy_145 : decode cX11_strengthBy 145 = .ok (.isub, 1) := by decide +kernel
theorem dX11_strengthBy_146 : decode cX11_strengthBy 146 = .ok (.istore 4, 2) := by decide +kernel
theorem dX11_strengthBy_148 : decode cX11_strengthBy 148 = .ok (.iload_n 2, 1) := by decide +kernel
theorem dX11_strengthBy_149 : decode cX11_strengthBy 149 = .ok (.iconst 2, 1) := by decide +kernel
theorem dX11_strengthBy_150 : decode cX11_strengthBy 150 = .ok (.if_icmp .ne 7, 3) := by decide +kernel
theorem dX11_strengthBy_153 : decode cX11_strengthBy 153 = .ok (.iconst 0, 1) := by decide +kernel
theorem dX11_strengthBy_154 : decode cX11_strengthBy 154 = .ok (.goto 5, 3) := by decide +kernel
theorem dX11_strengthBy_157 : decode cX11_strengthBy 157 = .ok (.iload 4, 2) := by decide +kernel
theorem dX11_strengthBy_159 : decode cX11_strengthBy 159 = .ok (.ireturn, 1) := by decide +kernel
theorem dX11_strength_0 : decode cX11_strength 0 = .ok (.aload_n 0, 1) := by decide +kernel
theorem dX11_strength_1 : decode cX11_strength 1 = .ok (.iload_n 1, 1) := by decide +kernel
theorem dX11_strength_2 : decode cX11_strength 2 = .ok (.aload_n 0, 1) := by decide +kernel
theorem dX11_strength_3 : decode cX11_strength 3 = .ok (.iload_n 1, 1) := by decide +kernel
theorem dX11_strength_4 : decode cX11_strength 4 = .ok (.iconst 4, 1) := by decide +kernel
theorem dX11_strength_5 : decode cX11_strength 5 = .ok (.invokevirtual 188, 3) := by decide +kernel
theorem dX11_strength_8 : decode cX11_strength 8 = .ok (.invokevirtual 194, 3) := by decide +kernel
theorem dX11_strength_11 : decode cX11_strength 11 = .ok (.ireturn, 1) := by decide +kernel
theorem dX11_noStrands_0 : decode cX11_noStrands 0 = .ok (.iconst 0, 1) := by decide +kernel
theorem dX11_noStrands_1 : decode cX11_noStrands 1 = .ok (.istore_n 1, 1) := by decide +kernel
theorem dX11_noStrands_2 : decode cX11_noStrands 2 = .ok (.iload_n 1, 1) := by decide +kernel
theorem dX11_noStrands_3 : decode cX11_noStrands 3 = .ok (.iconst 3, 1) := by decide +kernel
theorem dX11_noStrands_4 : decode cX11_noStrands 4 = .ok (.if_icmp .ge 16, 3) := by decide +kernel
theorem dX11_noStrands_7 : decode cX11_noStrands 7 = .ok (.aload_n 0, 1) := by decide +kernel
theorem dX11_noStrands_8 : decode cX11_noStrands 8 = .ok (.getfield 31, 3) := by decide +kernel
theorem dX11_noStrands_11 : decode cX11_noStrands 11 = .ok (.iload_n 1, 1) := by decide +kernel
theorem dX11_noStrands_12 : decode cX11_noStrands 12 = .ok (.iconst 0, 1) := by decide +kernel
theorem dX11_noStrands_13 : decode cX11_noStrands 13 = .ok (.iastore, 1) := by decide +kernel
theorem dX11_noStrands_14 : decode cX11_noStrands 14 = .ok (.iinc 1 1, 3) := by decide +kernel
theorem dX11_noStrands_17 : decode cX11_noStrands 17 = .ok (.goto (-15), 3) := by decide +kernel
theorem dX11_noStrands_20 : decode cX11_noStrands 20 = .ok (.return_, 1) := by decide +kernel
theorem dX11_layStrands_0 : decode cX11_layStrands 0 = .ok (.aload_n 0, 1) := by decide +kernel
theorem dX11_layStrands_1 : decode cX11_layStrands 1 = .ok (.invokevirtual 197, 3) := by decide +kernel
theorem dX11_layStrands_4 : decode cX11_layStrands 4 = .ok (.iconst 0, 1) := by decide +kernel
theorem dX11_layStrands_5 : decode cX11_layStrands 5 = .ok (.istore_n 1, 1) := by decide +kernel
theorem dX11_layStrands_6 : decode cX11_layStrands 6 = .ok (.iload_n 1, 1) := by decide +kernel
theorem dX11_layStrands_7 : decode cX11_layStrands 7 = .ok (.aload_n 0, 1) := by decide +kernel
theorem dX11_layStrands_8 : decode cX11_layStrands 8 = .ok (.getfield 19, 3) := by decide +kernel
theorem dX11_layStrands_11 : decode cX11_layStrands 11 = .ok (.iconst 3, 1) := by decide +kernel
theorem dX11_layStrands_12 : decode cX11_layStrands 12 = .ok (.iaload, 1) := by decide +kernel
theorem dX11_layStrands_13 : decode cX11_layStrands 13 = .ok (.if_icmp .ge 37, 3) := by decide +kernel
theorem dX11_layStrands_16 : decode cX11_layStrands 16 = .ok (.aload_n 0, 1) := by decide +kernel
theorem dX11_layStrands_17 : decode cX11_layStrands 17 = .ok (.iload_n 1, 1) := by decide +kernel
theorem dX11_layStrands_18 : decode cX11_layStrands 18 = .ok (.iconst 3, 1) := by decide +kernel
theorem dX11_layStrands_19 : decode cX11_layStrands 19 = .ok (.invokevirtual 188, 3) := by decide +kernel
theorem dX11_layStrands_22 : decode cX11_layStrands 22 = .ok (.ifCond .lt 22, 3) := by decide +kernel
theorem dX11_layStrands_25 : decode cX11_layStrands 25 = .ok (.aload_n 0, 1) := by decide +kernel
theorem dX11_layStrands_26 : decode cX11_layStrands 26 = .ok (.getfield 31, 3) := by decide +kernel
theorem dX11_layStrands_29 : decode cX11_layStrands 29 = .ok (.aload_n 0, 1) := by decide +kernel
theorem dX11_layStrands_30 : decode cX11_layStrands 30 = .ok (.iload_n 1, 1) := by decide +kernel
theorem dX11_layStrands_31 : decode cX11_layStrands 31 = .ok (.iconst 3, 1) := by decide +kernel
theorem dX11_layStrands_32 : decode cX11_layStrands 32 = .ok (.invokevirtual 188, 3) := by decide +kernel
theorem dX11_layStrands_35 : decode cX11_layStrands 35 = .ok (.dup2, 1) := by decide +kernel
theorem dX11_layStrands_36 : decode cX11_layStrands 36 = .ok (.iaload, 1) := by decide +kernel
theorem dX11_layStrands_37 : decode cX11_layStrands 37 = .ok (.aload_n 0, 1) := by decide +kernel
theorem dX11_layStrands_38 : decode cX11_layStrands 38 = .ok (.iload_n 1, 1) := by decide +kernel
theorem dX11_layStrands_39 : decode cX11_layStrands 39 = .ok (.invokevirtual 200, 3) := by decide +kernel
theorem dX11_layStrands_42 : decode cX11_layStrands 42 = .ok (.iadd, 1) := by decide +kernel
theorem dX11_layStrands_43 : decode cX11_layStrands 43 = .ok (.iastore, 1) := by decide +kernel
theorem dX11_layStrands_44 : decode cX11_layStrands 44 = .ok (.iinc 1 1, 3) := by decide +kernel
theorem dX11_layStrands_47 : decode cX11_layStrands 47 = .ok (.goto (-41), 3) := by decide +kernel
theorem dX11_layStrands_50 : decode cX11_layStrands 50 = .ok (.return_, 1) := by decide +kernel
theorem dX11_weakest_0 : decode cX11_weakest 0 = .ok (.iconst 0, 1) := by decide +kernel
theorem dX11_weakest_1 : decode cX11_weakest 1 = .ok (.istore_n 1, 1) := by decide +kernel
theorem dX11_weakest_2 : decode cX11_weakest 2 = .ok (.iconst 1, 1) := by decide +kernel
theorem dX11_weakest_3 : decode cX11_weakest 3 = .ok (.istore_n 2, 1) := by decide +kernel
theorem dX11_weakest_4 : decode cX11_weakest 4 = .ok (.iload_n 2, 1) := by decide +kernel
theorem dX11_weakest_5 : decode cX11_weakest 5 = .ok (.iconst 3, 1) := by decide +kernel
theorem dX11_weakest_6 : decode cX11_weakest 6 = .ok (.if_icmp .ge 30, 3) := by decide +kernel
theorem dX11_weakest_9 : decode cX11_weakest 9 = .ok (.aload_n 0, 1) := by decide +kernel
theorem dX11_weakest_10 : decode cX11_weakest 10 = .ok (.getfield 31, 3) := by decide +kernel
theorem dX11_weakest_13 : decode cX11_weakest 13 = .ok (.iload_n 2, 1) := by decide +kernel
theorem dX11_weakest_14 : decode cX11_weakest 14 = .ok (.iaload, 1) := by decide +kernel
theorem dX11_weakest_15 : decode cX11_weakest 15 = .ok (.aload_n 0, 1) := by decide +kernel
theorem dX11_weakest_16 : decode cX11_weakest 16 = .ok (.getfield 31, 3) := by decide +kernel
theorem dX11_weakest_19 : decode cX11_weakest 19 = .ok (.iload_n 1, 1) := by decide +kernel
theorem dX11_weakest_20 : decode cX11_weakest 20 = .ok (.iaload, 1) := by decide +kernel
theorem dX11_weakest_21 : decode cX11_weakest 21 = .ok (.if_icmp .ge 7, 3) := by decide +kernel
theorem dX11_weakest_24 : decode cX11_weakest 24 = .ok (.iload_n 2, 1) := by decide +kernel
theorem dX11_weakest_25 : decode cX11_weakest 25 = .ok (.goto 4, 3) := by decide +kernel
theorem dX11_weakest_28 : decode cX11_weakest 28 = .ok (.iload_n 1, 1) := by decide +kernel
theorem dX11_weakest_29 : decode cX11_weakest 29 = .ok (.istore_n 1, 1) := by decide +kernel
theorem dX11_weakest_30 : decode cX11_weakest 30 = .ok (.iinc 2 1, 3) := by decide +kernel
theorem dX11_weakest_33 : decode cX11_weakest 33 = .ok (.goto (-29), 3) := by decide +kernel
theorem dX11_weakest_36 : decode cX11_weakest 36 = .ok (.iload_n 1, 1) := by decide +kernel
theorem dX11_weakest_37 : decode cX11_weakest 37 = .ok (.ireturn, 1) := by decide +kernel
theorem dX11_ropeBears_0 : decode cX11_ropeBears 0 = .ok (.iconst 3, 1) := by decide +kernel
theorem dX11_ropeBears_1 : decode cX11_ropeBears 1 = .ok (.aload_n 0, 1) := by decide +kernel
theorem dX11_ropeBears_2 : decode cX11_ropeBears 2 = .ok (.getfield 31, 3) := by decide +kernel
theorem dX11_ropeBears_5 : decode cX11_ropeBears 5 = .ok (.aload_n 0, 1) := by decide +kernel
theorem dX11_ropeBears_6 : decode cX11_ropeBears 6 = .ok (.invokevirtual 203, 3) := by decide +kernel
theorem dX11_ropeBears_9 : decode cX11_ropeBears 9 = .ok (.iaload, 1) := by decide +kernel
theorem dX11_ropeBears_10 : decode cX11_ropeBears 10 = .ok (.imul, 1) := by decide +kernel
theorem dX11_ropeBears_11 : decode cX11_ropeBears 11 = .ok (.ireturn, 1) := by decide +kernel
theorem dX11_keep_0 : decode cX11_keep 0 = .ok (.aload_n 0, 1) := by decide +kernel
theorem dX11_keep_1 : decode cX11_keep 1 = .ok (.getfield 181, 3) := by decide +kernel
theorem dX11_keep_4 : decode cX11_keep 4 = .ok (.bipush 24, 2) := by decide +kernel
theorem dX11_keep_6 : decode cX11_keep 6 = .ok (.if_icmp .ne 43, 3) := by decide +kernel
theorem dX11_keep_9 : decode cX11_keep 9 = .ok (.iconst 0, 1) := by decide +kernel
theorem dX11_keep_10 : decode cX11_keep 10 = .ok (.istore_n 1, 1) := by decide +kernel
theorem dX11_keep_11 : decode cX11_keep 11 = .ok (.iload_n 1, 1) := by decide +kernel
theorem dX11_keep_12 : decode cX11_keep 12 = .ok (.sipush 1771, 3) := by decide +kernel
theorem dX11_keep_15 : decode cX11_keep 15 = .ok (.if_icmp .ge 24, 3) := by decide +kernel
theorem dX11_keep_18 : decode cX11_keep 18 = .ok (.aload_n 0, 1) := by decide +kernel
theorem dX11_keep_19 : decode cX11_keep 19 = .ok (.getfield 25, 3) := by decide +kernel
theorem dX11_keep_22 : decode cX11_keep 22 = .ok (.iload_n 1, 1) := by decide +kernel
theorem dX11_keep_23 : decode cX11_keep 23 = .ok (.aload_n 0, 1) := by decide +kernel
theorem dX11_keep_24 : decode cX11_keep 24 = .ok (.getfield 25, 3) := by decide +kernel
theorem dX11_keep_27 : decode cX11_keep 27 = .ok (.iload_n 1, 1) := by decide +kernel
theorem dX11_keep_28 : decode cX11_keep 28 = .ok (.bipush 77, 2) := by decide +kernel
theorem dX11_keep_30 : decode cX11_keep 30 = .ok (.iadd, 1) := by decide +kernel
theorem dX11_keep_31 : decode cX11_keep 31 = .ok (.iaload, 1) := by decide +kernel
theorem dX11_keep_32 : decode cX11_keep 32 = .ok (.iastore, 1) := by decide +kernel
theorem dX11_keep_33 : decode cX11_keep 33 = .ok (.iinc 1 1, 3) := by decide +kernel
theorem dX11_keep_36 : decode cX11_keep 36 = .ok (.goto (-25), 3) := by decide +kernel
theorem dX11_keep_39 : decode cX11_keep 39 = .ok (.aload_n 0, 1) := by decide +kernel
theorem dX11_keep_40 : decode cX11_keep 40 = .ok (.dup, 1) := by decide +kernel
theorem dX11_keep_41 : decode cX11_keep 41 = .ok (.getfield 181, 3) := by decide +kernel
theorem dX11_keep_44 : decode cX11_keep 44 = .ok (.iconst 1, 1) := by decide +kernel
theorem dX11_keep_45 : decode cX11_keep 45 = .ok (.isub, 1) := by decide +kernel
theorem dX11_keep_46 : decode cX11_keep 46 = .ok (.putfield 181, 3) := by decide +kernel
theorem dX11_keep_49 : decode cX11_keep 49 = .ok (.iconst 0, 1) := by decide +kernel
theorem dX11_keep_50 : decode cX11_keep 50 = .ok (.istore_n 1, 1) := by decide +kernel
theorem dX11_keep_51 : decode cX11_keep 51 = .ok (.iload_n 1, 1) := by decide +kernel
theorem dX11_keep_52 : decode cX11_keep 52 = .ok (.bipush 77, 2) := by decide +kernel
theorem dX11_keep_54 : decode cX11_keep 54 = .ok (.if_icmp .ge 29, 3) := by decide +kernel
theorem dX11_keep_57 : decode cX11_keep 57 = .ok (.aload_n 0, 1) := by decide +kernel
theorem dX11_keep_58 : decode cX11_keep 58 = .ok (.getfield 25, 3) := by decide +kernel
theorem dX11_keep_61 : decode cX11_keep 61 = .ok (.bipush 77, 2) := by decide +kernel
theorem dX11_keep_63 : decode cX11_keep 63 = .ok (.aload_n 0, 1) := by decide +kernel
theorem dX11_keep_64 : decode cX11_keep 64 = .ok (.getfield 181, 3) := by decide +kernel
theorem dX11_keep_67 : decode cX11_keep 67 = .ok (.imul, 1) := by decide +kernel
theorem dX11_keep_68 : decode cX11_keep 68 = .ok (.iload_n 1, 1) := by decide +kernel
theorem dX11_keep_69 : decode cX11_keep 69 = .ok (.iadd, 1) := by decide +kernel
theorem dX11_keep_70 : decode cX11_keep 70 = .ok (.aload_n 0, 1) := by decide +kernel
theorem dX11_keep_71 : decode cX11_keep 71 = .ok (.getfield 19, 3) := by decide +kernel
theorem dX11_keep_74 : decode cX11_keep 74 = .ok (.iload_n 1, 1) := by decide +kernel
theorem dX11_keep_75 : decode cX11_keep 75 = .ok (.iaload, 1) := by decide +kernel
theorem dX11_keep_76 : decode cX11_keep 76 = .ok (.iastore, 1) := by decide +kernel
theorem dX11_keep_77 : decode cX11_keep 77 = .ok (.iinc 1 1, 3) := by decide +kernel
theorem dX11_keep_80 : decode cX11_keep 80 = .ok (.goto (-29), 3) := by decide +kernel
theorem dX11_keep_83 : decode cX11_keep 83 = .ok (.aload_n 0, 1) := by decide +kernel
theorem dX11_keep_84 : decode cX11_keep 84 = .ok (.dup, 1) := by decide +kernel
theorem dX11_keep_85 : decode cX11_keep 85 = .ok (.getfield 181, 3) := by decide +kernel
theorem dX11_keep_88 : decode cX11_keep 88 = .ok (.iconst 1, 1) := by decide +kernel
theorem dX11_keep_89 : decode cX11_keep 89 = .ok (.iadd, 1) := by decide +kernel
theorem dX11_keep_90 : decode cX11_keep 90 = .ok (.putfield 181, 3) := by decide +kernel
theorem dX11_keep_93 : decode cX11_keep 93 = .ok (.return_, 1) := by decide +kernel
theorem dX11_lay_0 : decode cX11_lay 0 = .ok (.aload_n 0, 1) := by decide +kernel
theorem dX11_lay_1 : decode cX11_lay 1 = .ok (.iconst 0, 1) := by decide +kernel
theorem dX11_lay_2 : decode cX11_lay 2 = .ok (.putfield 50, 3) := by decide +kernel
theorem dX11_lay_5 : decode cX11_lay 5 = .ok (.aload_n 0, 1) := by decide +kernel
theorem dX11_lay_6 : decode cX11_lay 6 = .ok (.iload_n 1, 1) := by decide +kernel
theorem dX11_lay_7 : decode cX11_lay 7 = .ok (.invokevirtual 206, 3) := by decide +kernel
theorem dX11_lay_10 : decode cX11_lay 10 = .ok (.ifCond .eq 17, 3) := by decide +kernel
theorem dX11_lay_13 : decode cX11_lay 13 = .ok (.iload_n 2, 1) := by decide +kernel
theorem dX11_lay_14 : decode cX11_lay 14 = .ok (.i2l, 1) := by decide +kernel
theorem dX11_lay_15 : decode cX11_lay 15 = .ok (.ldc2_w 209, 3) := by decide +kernel
theorem dX11_lay_18 : decode cX11_lay 18 = .ok (.ldc2_w 68, 3) := by decide +kernel
theorem dX11_lay_21 : decode cX11_lay 21 = .ok (.invokestatic 60, 3) := by decide +kernel
theorem dX11_lay_24 : decode cX11_lay 24 = .ok (.ifCond .ne 6, 3) := by decide +kernel
theorem dX11_lay_27 : decode cX11_lay 27 = .ok (.ldc 70, 2) := by decide +kernel
theorem dX11_lay_29 : decode cX11_lay 29 = .ok (.ireturn, 1) := by decide +kernel
theorem dX11_lay_30 : decode cX11_lay 30 = .ok (.aload_n 0, 1) := by decide +kernel
theorem dX11_lay_31 : decode cX11_lay 31 = .ok (.invokevirtual 211, 3) := by decide +kernel
theorem dX11_lay_34 : decode cX11_lay 34 = .ok (.aload_n 0, 1) := by decide +kernel
theorem dX11_lay_35 : decode cX11_lay 35 = .ok (.iload_n 1, 1) := by decide +kernel
theorem dX11_lay_36 : decode cX11_lay 36 = .ok (.iconst 3, 1) := by decide +kernel
theorem dX11_lay_37 : decode cX11_lay 37 = .ok (.invokevirtual 188, 3) := by decide +kernel
theorem dX11_lay_40 : decode cX11_lay 40 = .ok (.istore_n 3, 1) := by decide +kernel
theorem dX11_lay_41 : decode cX11_lay 41 = .ok (.aload_n 0, 1) := by decide +kernel
theorem dX11_lay_42 : decode cX11_lay 42 = .ok (.iload_n 1, 1) := by decide +kernel
theorem dX11_lay_43 : decode cX11_lay 43 = .ok (.iconst 3, 1) := by decide +kernel
theorem dX11_lay_44 : decode cX11_lay 44 = .ok (.iload_n 2, 1) := by decide +kernel
theorem dX11_lay_45 : decode cX11_lay 45 = .ok (.invokevirtual 214, 3) := by decide +kernel
theorem dX11_lay_48 : decode cX11_lay 48 = .ok (.iload_n 3, 1) := by decide +kernel
theorem dX11_lay_49 : decode cX11_lay 49 = .ok (.ireturn, 1) := by decide +kernel
theorem dX11_pitch_0 : decode cX11_pitch 0 = .ok (.aload_n 0, 1) := by decide +kernel
theorem dX11_pitch_1 : decode cX11_pitch 1 = .ok (.iconst 0, 1) := by decide +kernel
theorem dX11_pitch_2 : decode cX11_pitch 2 = .ok (.putfield 50, 3) := by decide +kernel
theorem dX11_pitch_5 : decode cX11_pitch 5 = .ok (.aload_n 0, 1) := by decide +kernel
theorem dX11_pitch_6 : decode cX11_pitch 6 = .ok (.iload_n 1, 1) := by decide +kernel
theorem dX11_pitch_7 : decode cX11_pitch 7 = .ok (.invokevirtual 206, 3) := by decide +kernel
theorem dX11_pitch_10 : decode cX11_pitch 10 = .ok (.ifCond .ne 6, 3) := by decide +kernel
theorem dX11_pitch_13 : decode cX11_pitch 13 = .ok (.ldc 70, 2) := by decide +kernel
theorem dX11_pitch_15 : decode cX11_pitch 15 = .ok (.ireturn, 1) := by decide +kernel
theorem dX11_pitch_16 : decode cX11_pitch 16 = .ok (.aload_n 0, 1) := by decide +kernel
theorem dX11_pitch_17 : decode cX11_pitch 17 = .ok (.iload_n 1, 1) := by decide +kernel
theorem dX11_pitch_18 : decode cX11_pitch 18 = .ok (.bipush 6, 2) := by decide +kernel
theorem dX11_pitch_20 : decode cX11_pitch 20 = .ok (.invokevirtual 188, 3) := by decide +kernel
theorem dX11_pitch_23 : decode cX11_pitch 23 = .ok (.iconst 1, 1) := by decide +kernel
theorem dX11_pitch_24 : decode cX11_pitch 24 = .ok (.if_icmp .ne 6, 3) := by decide +kernel
theorem dX11_pitch_27 : decode cX11_pitch 27 = .ok (.ldc 218, 2) := by decide +kernel
theorem dX11_pitch_29 : decode cX11_pitch 29 = .ok (.ireturn, 1) := by decide +kernel
theorem dX11_pitch_30 : decode cX11_pitch 30 = .ok (.aload_n 0, 1) := by decide +kernel
theorem dX11_pitch_31 : decode cX11_pitch 31 = .ok (.invokevirtual 211, 3) := by decide +kernel
theorem dX11_pitch_34 : decode cX11_pitch 34 = .ok (.aload_n 0, 1) := by decide +kernel
theorem dX11_pitch_35 : decode cX11_pitch 35 = .ok (.iload_n 1, 1) := by decide +kernel
theorem dX11_pitch_36 : decode cX11_pitch 36 = .ok (.bipush 6, 2) := by decide +kernel
theorem dX11_pitch_38 : decode cX11_pitch 38 = .ok (.iconst 1, 1) := by decide +kernel
theorem dX11_pitch_39 : decode cX11_pitch 39 = .ok (.invokevirtual 214, 3) := by decide +kernel
theorem dX11_pitch_42 : decode cX11_pitch 42 = .ok (.aload_n 0, 1) := by decide +kernel
theorem dX11_pitch_43 : decode cX11_pitch 43 = .ok (.iload_n 1, 1) := by decide +kernel
theorem dX11_pitch_44 : decode cX11_pitch 44 = .ok (.invokevirtual 200, 3) := by decide +kernel
theorem dX11_pitch_47 : decode cX11_pitch 47 = .ok (.ireturn, 1) := by decide +kernel
theorem dX11_vow_0 : decode cX11_vow 0 = .ok (.aload_n 0, 1) := by decide +kernel
theorem dX11_vow_1 : decode cX11_vow 1 = .ok (.iconst 0, 1) := by decide +kernel
theorem dX11_vow_2 : decode cX11_vow 2 = .ok (.putfield 50, 3) := by decide +kernel
theorem dX11_vow_5 : decode cX11_vow 5 = .ok (.aload_n 0, 1) := by decide +kernel
theorem dX11_vow_6 : decode cX11_vow 6 = .ok (.iload_n 1, 1) := by decide +kernel
theorem dX11_vow_7 : decode cX11_vow 7 = .ok (.invokevirtual 206, 3) := by decide +kernel
theorem dX11_vow_10 : decode cX11_vow 10 = .ok (.ifCond .eq 15, 3) := by decide +kernel
theorem dX11_vow_13 : decode cX11_vow 13 = .ok (.iload_n 2, 1) := by decide +kernel
theorem dX11_vow_14 : decode cX11_vow 14 = .ok (.i2l, 1) := by decide +kernel
theorem dX11_vow_15 : decode cX11_vow 15 = .ok (.lconst 0, 1) := by decide +kernel
theorem dX11_vow_16 : decode cX11_vow 16 = .ok (.ldc2_w 68, 3) := by decide +kernel
theorem dX11_vow_19 : decode cX11_vow 19 = .ok (.invokestatic 60, 3) := by decide +kernel
theorem dX11_vow_22 : decode cX11_vow 22 = .ok (.ifCond .ne 6, 3) := by decide +kernel
theorem dX11_vow_25 : decode cX11_vow 25 = .ok (.ldc 70, 2) := by decide +kernel
theorem dX11_vow_27 : decode cX11_vow 27 = .ok (.ireturn, 1) := by decide +kernel
theorem dX11_vow_28 : decode cX11_vow 28 = .ok (.aload_n 0, 1) := by decide +kernel
theorem dX11_vow_29 : decode cX11_vow 29 = .ok (.invokevirtual 211, 3) := by decide +kernel
theorem dX11_vow_32 : decode cX11_vow 32 = .ok (.aload_n 0, 1) := by decide +kernel
theorem dX11_vow_33 : decode cX11_vow 33 = .ok (.iload_n 1, 1) := by decide +kernel
theorem dX11_vow_34 : decode cX11_vow 34 = .ok (.iconst 4, 1) := by decide +kernel
theorem dX11_vow_35 : decode cX11_vow 35 = .ok (.invokevirtual 188, 3) := by decide +kernel
theorem dX11_vow_38 : decode cX11_vow 38 = .ok (.istore_n 3, 1) := by decide +kernel
theorem dX11_vow_39 : decode cX11_vow 39 = .ok (.aload_n 0, 1) := by decide +kernel
theorem dX11_vow_40 : decode cX11_vow 40 = .ok (.iload_n 1, 1) := by decide +kernel
theorem dX11_vow_41 : decode cX11_vow 41 = .ok (.iconst 4, 1) := by decide +kernel
theorem dX11_vow_42 : decode cX11_vow 42 = .ok (.iload_n 2, 1) := by decide +kernel
theorem dX11_vow_43 : decode cX11_vow 43 = .ok (.invokevirtual 214, 3) := by decide +kernel
theorem dX11_vow_46 : decode cX11_vow 46 = .ok (.iload_n 3, 1) := by decide +kernel
theorem dX11_vow_47 : decode cX11_vow 47 = .ok (.ireturn, 1) := by decide +kernel
theorem dX11_splice_0 : decode cX11_splice 0 = .ok (.aload_n 0, 1) := by decide +kernel
theorem dX11_splice_1 : decode cX11_splice 1 = .ok (.iconst 0, 1) := by decide +kernel
theorem dX11_splice_2 : decode cX11_splice 2 = .ok (.putfield 50, 3) := by decide +kernel
theorem dX11_splice_5 : decode cX11_splice 5 = .ok (.aload_n 0, 1) := by decide +kernel
theorem dX11_splice_6 : decode cX11_splice 6 = .ok (.iload_n 1, 1) := by decide +kernel
theorem dX11_splice_7 : decode cX11_splice 7 = .ok (.invokevirtual 206, 3) := by decide +kernel
theorem dX11_splice_10 : decode cX11_splice 10 = .ok (.ifCond .ne 6, 3) := by decide +kernel
theorem dX11_splice_13 : decode cX11_splice 13 = .ok (.ldc 70, 2) := by decide +kernel
theorem dX11_splice_15 : decode cX11_splice 15 = .ok (.ireturn, 1) := by decide +kernel
theorem dX11_splice_16 : decode cX11_splice 16 = .ok (.aload_n 0, 1) := by decide +kernel
theorem dX11_splice_17 : decode cX11_splice 17 = .ok (.invokevirtual 211, 3) := by decide +kernel
theorem dX11_splice_20 : decode cX11_splice 20 = .ok (.aload_n 0, 1) := by decide +kernel
theorem dX11_splice_21 : decode cX11_splice 21 = .ok (.iload_n 1, 1) := by decide +kernel
theorem dX11_splice_22 : decode cX11_splice 22 = .ok (.iconst 5, 1) := by decide +kernel
theorem dX11_splice_23 : decode cX11_splice 23 = .ok (.invokevirtual 188, 3) := by decide +kernel
theorem dX11_splice_26 : decode cX11_splice 26 = .ok (.istore_n 2, 1) := by decide +kernel
theorem dX11_splice_27 : decode cX11_splice 27 = .ok (.aload_n 0, 1) := by decide +kernel
theorem dX11_splice_28 : decode cX11_splice 28 = .ok (.iload_n 1, 1) := by decide +kernel
theorem dX11_splice_29 : decode cX11_splice 29 = .ok (.iconst 5, 1) := by decide +kernel
theorem dX11_splice_30 : decode cX11_splice 30 = .ok (.iconst 0, 1) := by decide +kernel
theorem dX11_splice_31 : decode cX11_splice 31 = .ok (.invokevirtual 214, 3) := by decide +kernel
theorem dX11_splice_34 : decode cX11_splice 34 = .ok (.iload_n 2, 1) := by decide +kernel
theorem dX11_splice_35 : decode cX11_splice 35 = .ok (.ireturn, 1) := by decide +kernel
theorem dX11_draw_0 : decode cX11_draw 0 = .ok (.aload_n 0, 1) := by decide +kernel
theorem dX11_draw_1 : decode cX11_draw 1 = .ok (.aload_n 0, 1) := by decide +kernel
theorem dX11_draw_2 : decode cX11_draw 2 = .ok (.getfield 219, 3) := by decide +kernel
theorem dX11_draw_5 : decode cX11_draw 5 = .ok (.ldc2_w 223, 3) := by decide +kernel
theorem dX11_draw_8 : decode cX11_draw 8 = .ok (.lmul, 1) := by decide +kernel
theorem dX11_draw_9 : decode cX11_draw 9 = .ok (.ldc2_w 225, 3) := by decide +kernel
theorem dX11_draw_12 : decode cX11_draw 12 = .ok (.lrem, 1) := by decide +kernel
theorem dX11_draw_13 : decode cX11_draw 13 = .ok (.putfield 219, 3) := by decide +kernel
theorem dX11_draw_16 : decode cX11_draw 16 = .ok (.aload_n 0, 1) := by decide +kernel
theorem dX11_draw_17 : decode cX11_draw 17 = .ok (.getfield 219, 3) := by decide +kernel
theorem dX11_draw_20 : decode cX11_draw 20 = .ok (.iload_n 1, 1) := by decide +kernel
theorem dX11_draw_21 : decode cX11_draw 21 = .ok (.i2l, 1) := by decide +kernel
theorem dX11_draw_22 : decode cX11_draw 22 = .ok (.lrem, 1) := by decide +kernel
theorem dX11_draw_23 : decode cX11_draw 23 = .ok (.l2i, 1) := by decide +kernel
theorem dX11_draw_24 : decode cX11_draw 24 = .ok (.ireturn, 1) := by decide +kernel
theorem dX11_pull_0 : decode cX11_pull 0 = .ok (.aload_n 0, 1) := by decide +kernel
theorem dX11_pull_1 : decode cX11_pull 1 = .ok (.iconst 0, 1) := by decide +kernel
theorem dX11_pull_2 : decode cX11_pull 2 = .ok (.putfield 50, 3) := by decide +kernel
theorem dX11_pull_5 : decode cX11_pull 5 = .ok (.aload_n 0, 1) := by decide +kernel
theorem dX11_pull_6 : decode cX11_pull 6 = .ok (.getfield 177, 3) := by decide +kernel
theorem dX11_pull_9 : decode cX11_pull 9 = .ok (.ifCond .ne 6, 3) := by decide +kernel
theorem dX11_pull_12 : decode cX11_pull 12 = .ok (.ldc 218, 2) := by decide +kernel
theorem dX11_pull_14 : decode cX11_pull 14 = .ok (.ireturn, 1) := by decide +kernel
theorem dX11_pull_15 : decode cX11_pull 15 = .ok (.iload_n 1, 1) := by decide +kernel
theorem dX11_pull_16 : decode cX11_pull 16 = .ok (.invokestatic 227, 3) := by decide +kernel
theorem dX11_pull_19 : decode cX11_pull 19 = .ok (.ifCond .eq 10, 3) := by decide +kernel
theorem dX11_pull_22 : decode cX11_pull 22 = .ok (.iload_n 2, 1) := by decide +kernel
theorem dX11_pull_23 : decode cX11_pull 23 = .ok (.invokestatic 230, 3) := by decide +kernel
theorem dX11_pull_26 : decode cX11_pull 26 = .ok (.ifCond .ne 6, 3) := by decide +kernel
theorem dX11_pull_29 : decode cX11_pull 29 = .ok (.ldc 70, 2) := by decide +kernel
theorem dX11_pull_31 : decode cX11_pull 31 = .ok (.ireturn, 1) := by decide +kernel
theorem dX11_pull_32 : decode cX11_pull 32 = .ok (.aload_n 0, 1) := by decide +kernel
theorem dX11_pull_33 : decode cX11_pull 33 = .ok (.invokevirtual 211, 3) := by decide +kernel
theorem dX11_pull_36 : decode cX11_pull 36 = .ok (.aload_n 0, 1) := by decide +kernel
theorem dX11_pull_37 : decode cX11_pull 37 = .ok (.iload_n 2, 1) := by decide +kernel
theorem dX11_pull_38 : decode cX11_pull 38 = .ok (.i2l, 1) := by decide +kernel
theorem dX11_pull_39 : decode cX11_pull 39 = .ok (.putfield 219, 3) := by decide +kernel
theorem dX11_pull_42 : decode cX11_pull 42 = .ok (.iload_n 1, 1) := by decide +kernel
theorem dX11_pull_43 : decode cX11_pull 43 = .ok (.aload_n 0, 1) := by decide +kernel
theorem dX11_pull_44 : decode cX11_pull 44 = .ok (.bipush 10, 2) := by decide +kernel
theorem dX11_pull_46 : decode cX11_pull 46 = .ok (.invokevirtual 233, 3) := by decide +kernel
theorem dX11_pull_49 : decode cX11_pull 49 = .ok (.iadd, 1) := by decide +kernel
theorem dX11_pull_50 : decode cX11_pull 50 = .ok (.istore_n 3, 1) := by decide +kernel
theorem dX11_pull_51 : decode cX11_pull 51 = .ok (.aload_n 0, 1) := by decide +kernel
theorem dX11_pull_52 : decode cX11_pull 52 = .ok (.invokevirtual 236, 3) := by decide +kernel
theorem dX11_pull_55 : decode cX11_pull 55 = .ok (.aload_n 0, 1) := by decide +kernel
theorem dX11_pull_56 : decode cX11_pull 56 = .ok (.invokevirtual 203, 3) := by decide +kernel
theorem dX11_pull_59 : decode cX11_pull 59 = .ok (.istore 4, 2) := by decide +kernel
theorem dX11_pull_61 : decode cX11_pull 61 = .ok (.iload_n 3, 1) := by decide +kernel
theorem dX11_pull_62 : decode cX11_pull 62 = .ok (.aload_n 0, 1) := by decide +kernel
theorem dX11_pull_63 : decode cX11_pull 63 = .ok (.invokevirtual 239, 3) := by decide +kernel
theorem dX11_pull_66 : decode cX11_pull 66 = .ok (.if_icmp .le 7, 3) := by decide +kernel
theorem dX11_pull_69 : decode cX11_pull 69 = .ok (.iconst 1, 1) := by decide +kernel
theorem dX11_pull_70 : decode cX11_pull 70 = .ok (.goto 4, 3) := by decide +kernel
theorem dX11_pull_73 : decode cX11_pull 73 = .ok (.iconst 0, 1) := by decide +kernel
theorem dX11_pull_74 : decode cX11_pull 74 = .ok (.istore 5, 2) := by decide +kernel
theorem dX11_pull_76 : decode cX11_pull 76 = .ok (.iconst 0, 1) := by decide +kernel
theorem dX11_pull_77 : decode cX11_pull 77 = .ok (.istore 6, 2) := by decide +kernel
theorem dX11_pull_79 : decode cX11_pull 79 = .ok (.iload 6, 2) := by decide +kernel
theorem dX11_pull_81 : decode cX11_pull 81 = .ok (.aload_n 0, 1) := by decide +kernel
theorem dX11_pull_82 : decode cX11_pull 82 = .ok (.getfield 19, 3) := by decide +kernel
theorem dX11_pull_85 : decode cX11_pull 85 = .ok (.iconst 3, 1) := by decide +kernel
theorem dX11_pull_86 : decode cX11_pull 86 = .ok (.iaload, 1) := by decide +kernel
theorem dX11_pull_87 : decode cX11_pull 87 = .ok (.if_icmp .ge 80, 3) := by decide +kernel
theorem dX11_pull_90 : decode cX11_pull 90 = .ok (.aload_n 0, 1) := by decide +kernel
theorem dX11_pull_91 : decode cX11_pull 91 = .ok (.iload 6, 2) := by decide +kernel
theorem dX11_pull_93 : decode cX11_pull 93 = .ok (.iconst 3, 1) := by decide +kernel
theorem dX11_pull_94 : decode cX11_pull 94 = .ok (.invokevirtual 188, 3) := by decide +kernel
theorem dX11_pull_97 : decode cX11_pull 97 = .ok (.istore 7, 2) := by decide +kernel
theorem dX11_pull_99 : decode cX11_pull 99 = .ok (.iload 5, 2) := by decide +kernel
theorem dX11_pull_101 : decode cX11_pull 101 = .ok (.ifCond .eq 34, 3) := by decide +kernel
theorem dX11_pull_104 : decode cX11_pull 104 = .ok (.iload 7, 2) := by decide +kernel
theorem dX11_pull_106 : decode cX11_pull 106 = .ok (.iload 4, 2) := by decide +kernel
theorem dX11_pull_108 : decode cX11_pull 108 = .ok (.if_icmp .ne 27, 3) := by decide +kernel
theorem dX11_pull_111 : decode cX11_pull 111 = .ok (.aload_n 0, 1) := by decide +kernel
theorem dX11_pull_112 : decode cX11_pull 112 = .ok (.iload 6, 2) := by decide +kernel
theorem dX11_pull_114 : decode cX11_pull 114 = .ok (.iconst 3, 1) := by decide +kernel
theorem dX11_pull_115 : decode cX11_pull 115 = .ok (.iconst (-1), 1) := by decide +kernel
theorem dX11_pull_116 : decode cX11_pull 116 = .ok (.invokevirtual 214, 3) := by decide +kernel
theorem dX11_pull_119 : decode cX11_pull 119 = .ok (.aload_n 0, 1) := by decide +kernel
theorem dX11_pull_120 : decode cX11_pull 120 = .ok (.iload 6, 2) := by decide +kernel
theorem dX11_pull_122 : decode cX11_pull 122 = .ok (.iconst 5, 1) := by decide +kernel
theorem dX11_pull_123 : decode cX11_pull 123 = .ok (.aload_n 0, 1) := by decide +kernel
theorem dX11_pull_124 : decode cX11_pull 124 = .ok (.iload 6, 2) := by decide +kernel
theorem dX11_pull_126 : decode cX11_pull 126 = .ok (.iconst 5, 1) := by decide +kernel
theorem dX11_pull_127 : decode cX11_pull 127 = .ok (.invokevirtual 188, 3) := by decide +kernel
theorem dX11_pull_130 : decode cX11_pull 130 = .ok (.iconst 5, 1) := by decide +kernel
theorem dX11_pull_131 : decode cX11_pull 131 = .ok (.iadd, 1) := by decide +kernel
theorem dX11_pull_132 : decode cX11_pull 132 = .ok (.invokevirtual 214, 3) := by decide +kernel
theorem dX11_pull_135 : decode cX11_pull 135 = .ok (.iload 5, 2) := by decide +kernel
theorem dX11_pull_137 : decode cX11_pull 137 = .ok (.ifCond .ne 24, 3) := by decide +kernel
theorem dX11_pull_140 : decode cX11_pull 140 = .ok (.iload 7, 2) := by decide +kernel
theorem dX11_pull_142 : decode cX11_pull 142 = .ok (.ifCond .lt 19, 3) := by decide +kernel
theorem dX11_pull_145 : decode cX11_pull 145 = .ok (.aload_n 0, 1) := by decide +kernel
theorem dX11_pull_146 : decode cX11_pull 146 = .ok (.iload 6, 2) := by decide +kernel
theorem dX11_pull_148 : decode cX11_pull 148 = .ok (.iconst 5, 1) := by decide +kernel
theorem dX11_pull_149 : decode cX11_pull 149 = .ok (.aload_n 0, 1) := by decide +kernel
theorem dX11_pull_150 : decode cX11_pull 150 = .ok (.iload 6, 2) := by decide +kernel
theorem dX11_pull_152 : decode cX11_pull 152 = .ok (.iconst 5, 1) := by decide +kernel
theorem dX11_pull_153 : decode cX11_pull 153 = .ok (.invokevirtual 188, 3) := by decide +kernel
theorem dX11_pull_156 : decode cX11_pull 156 = .ok (.iconst 1, 1) := by decide +kernel
theorem dX11_pull_157 : decode cX11_pull 157 = .ok (.iadd, 1) := by decide +kernel
theorem dX11_pull_158 : decode cX11_pull 158 = .ok (.invokevirtual 214, 3) := by decide +kernel
theorem dX11_pull_161 : decode cX11_pull 161 = .ok (.iinc 6 1, 3) := by decide +kernel
theorem dX11_pull_164 : decode cX11_pull 164 = .ok (.goto (-85), 3) := by decide +kernel
theorem dX11_pull_167 : decode cX11_pull 167 = .ok (.iload 5, 2) := by decide +kernel
theorem dX11_pull_169 : decode cX11_pull 169 = .ok (.ifCond .eq 8, 3) := by decide +kernel
theorem dX11_pull_172 : decode cX11_pull 172 = .ok (.iload 4, 2) := by decide +kernel
theorem dX11_pull_174 : decode cX11_pull 174 = .ok (.goto 5, 3) := by decide +kernel
theorem dX11_pull_177 : decode cX11_pull 177 = .ok (.ldc 86, 2) := by decide +kernel
theorem dX11_pull_179 : decode cX11_pull 179 = .ok (.ireturn, 1) := by decide +kernel
theorem dX11_year_0 : decode cX11_year 0 = .ok (.aload_n 0, 1) := by decide +kernel
theorem dX11_year_1 : decode cX11_year 1 = .ok (.iconst 0, 1) := by decide +kernel
theorem dX11_year_2 : decode cX11_year 2 = .ok (.putfield 50, 3) := by decide +kernel
theorem dX11_year_5 : decode cX11_year 5 = .ok (.aload_n 0, 1) := by decide +kernel
theorem dX11_year_6 : decode cX11_year 6 = .ok (.getfield 177, 3) := by decide +kernel
theorem dX11_year_9 : decode cX11_year 9 = .ok (.ifCond .ne 6, 3) := by decide +kernel
theorem dX11_year_12 : decode cX11_year 12 = .ok (.ldc 218, 2) := by decide +kernel
theorem dX11_year_14 : decode cX11_year 14 = .ok (.ireturn, 1) := by decide +kernel
theorem dX11_year_15 : decode cX11_year 15 = .ok (.iload_n 1, 1) := by decide +kernel
theorem dX11_year_16 : decode cX11_year 16 = .ok (.invokestatic 230, 3) := by decide +kernel
theorem dX11_year_19 : decode cX11_year 19 = .ok (.ifCond .ne 6, 3) := by decide +kernel
theorem dX11_year_22 : decode cX11_year 22 = .ok (.ldc 70, 2) := by decide +kernel
theorem dX11_year_24 : decode cX11_year 24 = .ok (.ireturn, 1) := by decide +kernel
theorem dX11_year_25 : decode cX11_year 25 = .ok (.aload_n 0, 1) := by decide +kernel
theorem dX11_year_26 : decode cX11_year 26 = .ok (.invokevirtual 211, 3) := by decide +kernel
theorem dX11_year_29 : decode cX11_year 29 = .ok (.aload_n 0, 1) := by decide +kernel
theorem dX11_year_30 : decode cX11_year 30 = .ok (.iload_n 1, 1) := by decide +kernel
theorem dX11_year_31 : decode cX11_year 31 = .ok (.i2l, 1) := by decide +kernel
theorem dX11_year_32 : decode cX11_year 32 = .ok (.putfield 219, 3) := by decide +kernel
theorem dX11_year_35 : decode cX11_year 35 = .ok (.iconst 0, 1) := by decide +kernel
theorem dX11_year_36 : decode cX11_year 36 = .ok (.istore_n 2, 1) := by decide +kernel
theorem dX11_year_37 : decode cX11_year 37 = .ok (.iconst 0, 1) := by decide +kernel
theorem dX11_year_38 : decode cX11_year 38 = .ok (.istore_n 3, 1) := by decide +kernel
theorem dX11_year_39 : decode cX11_year 39 = .ok (.iload_n 3, 1) := by decide +kernel
theorem dX11_year_40 : decode cX11_year 40 = .ok (.aload_n 0, 1) := by decide +kernel
theorem dX11_year_41 : decode cX11_year 41 = .ok (.getfield 19, 3) := by decide +kernel
theorem dX11_year_44 : decode cX11_year 44 = .ok (.iconst 3, 1) := by decide +kernel
theorem dX11_year_45 : decode cX11_year 45 = .ok (.iaload, 1) := by decide +kernel
theorem dX11_year_46 : decode cX11_year 46 = .ok (.if_icmp .ge 90, 3) := by decide +kernel
theorem dX11_year_49 : decode cX11_year 49 = .ok (.aload_n 0, 1) := by decide +kernel
theorem dX11_year_50 : decode cX11_year 50 = .ok (.iload_n 3, 1) := by decide +kernel
theorem dX11_year_51 : decode cX11_year 51 = .ok (.iconst 4, 1) := by decide +kernel
theorem dX11_year_52 : decode cX11_year 52 = .ok (.invokevirtual 188, 3) := by decide +kernel
theorem dX11_year_55 : decode cX11_year 55 = .ok (.ifCond .ne 75, 3) := by decide +kernel
theorem dX11_year_58 : decode cX11_year 58 = .ok (.aload_n 0, 1) := by decide +kernel
theorem dX11_year_59 : decode cX11_year 59 = .ok (.iload_n 3, 1) := by decide +kernel
theorem dX11_year_60 : decode cX11_year 60 = .ok (.iconst 0, 1) := by decide +kernel
theorem dX11_year_61 : decode cX11_year 61 = .ok (.invokevirtual 188, 3) := by decide +kernel
theorem dX11_year_64 : decode cX11_year 64 = .ok (.istore 4, 2) := by decide +kernel
theorem dX11_year_66 : decode cX11_year 66 = .ok (.iload 4, 2) := by decide +kernel
theorem dX11_year_68 : decode cX11_year 68 = .ok (.iconst 2, 1) := by decide +kernel
theorem dX11_year_69 : decode cX11_year 69 = .ok (.if_icmp .eq 23, 3) := by decide +kernel
theorem dX11_year_72 : decode cX11_year 72 = .ok (.iload 4, 2) := by decide +kernel
theorem dX11_year_74 : decode cX11_year 74 = .ok (.iconst 4, 1) := by decide +kernel
theorem dX11_year_75 : decode cX11_year 75 = .ok (.if_icmp .eq 21, 3) := by decide +kernel
theorem dX11_year_78 : decode cX11_year 78 = .ok (.aload_n 0, 1) := by decide +kernel
theorem dX11_year_79 : decode cX11_year 79 = .ok (.bipush 10, 2) := by decide +kernel
theorem dX11_year_81 : decode cX11_year 81 = .ok (.invokevirtual 233, 3) := by decide +kernel
theorem dX11_year_84 : decode cX11_year 84 = .ok (.aload_n 0, 1) := by decide +kernel
theorem dX11_year_85 : decode cX11_year 85 = .ok (.iload_n 3, 1) := by decide +kernel
theorem dX11_year_86 : decode cX11_year 86 = .ok (.invokevirtual 242, 3) := by decide +kernel
theorem dX11_year_89 : decode cX11_year 89 = .ok (.if_icmp .ge 7, 3) := by decide +kernel
theorem dX11_year_92 : decode cX11_year 92 = .ok (.iconst 1, 1) := by decide +kernel
theorem dX11_year_93 : decode cX11_year 93 = .ok (.goto 4, 3) := by decide +kernel
theorem dX11_year_96 : decode cX11_year 96 = .ok (.iconst 0, 1) := by decide +kernel
theorem dX11_year_97 : decode cX11_year 97 = .ok (.istore 5, 2) := by decide +kernel
theorem dX11_year_99 : decode cX11_year 99 = .ok (.aload_n 0, 1) := by decide +kernel
theorem dX11_year_100 : decode cX11_year 100 = .ok (.iload_n 3, 1) := by decide +kernel
theorem dX11_year_101 : decode cX11_year 101 = .ok (.iconst 4, 1) := by decide +kernel
theorem dX11_year_102 : decode cX11_year 102 = .ok (.iload 5, 2) := by decide +kernel
theorem dX11_year_104 : decode cX11_year 104 = .ok (.ifCond .eq 7, 3) := by decide +kernel
theorem dX11_year_107 : decode cX11_year 107 = .ok (.iconst 1, 1) := by decide +kernel
theorem dX11_year_108 : decode cX11_year 108 = .ok (.goto 4, 3) := by decide +kernel
theorem dX11_year_111 : decode cX11_year 111 = .ok (.iconst 2, 1) := by decide +kernel
theorem dX11_year_112 : decode cX11_year 112 = .ok (.invokevirtual 214, 3) := by decide +kernel
theorem dX11_year_115 : decode cX11_year 115 = .ok (.iload_n 2, 1) := by decide +kernel
theorem dX11_year_116 : decode cX11_year 116 = .ok (.iload 5, 2) := by decide +kernel
theorem dX11_year_118 : decode cX11_year 118 = .ok (.ifCond .eq 7, 3) := by decide +kernel
theorem dX11_year_121 : decode cX11_year 121 = .ok (.iconst 0, 1) := by decide +kernel
theorem dX11_year_122 : decode cX11_year 122 = .ok (.goto 6, 3) := by decide +kernel
theorem dX11_year_125 : decode cX11_year 125 = .ok (.iconst 1, 1) := by decide +kernel
theorem dX11_year_126 : decode cX11_year 126 = .ok (.iload_n 3, 1) := by decide +kernel
theorem dX11_year_127 : decode cX11_year 127 = .ok (.ishl, 1) := by decide +kernel
theorem dX11_year_128 : decode cX11_year 128 = .ok (.ior, 1) := by decide +kernel
theorem dX11_year_129 : decode cX11_year 129 = .ok (.istore_n 2, 1) := by decide +kernel
theorem dX11_year_130 : decode cX11_year 130 = .ok (.iinc 3 1, 3) := by decide +kernel
theorem dX11_year_133 : decode cX11_year 133 = .ok (.goto (-94), 3) := by decide +kernel
theorem dX11_year_136 : decode cX11_year 136 = .ok (.iload_n 2, 1) := by decide +kernel
theorem dX11_year_137 : decode cX11_year 137 = .ok (.ireturn, 1) := by decide +kernel
theorem dX11_undo_0 : decode cX11_undo 0 = .ok (.aload_n 0, 1) := by decide +kernel
theorem dX11_undo_1 : decode cX11_undo 1 = .ok (.iconst 0, 1) := by decide +kernel
theorem dX11_undo_2 : decode cX11_undo 2 = .ok (.putfield 50, 3) := by decide +kernel
theorem dX11_undo_5 : decode cX11_undo 5 = .ok (.aload_n 0, 1) := by decide +kernel
theorem dX11_undo_6 : decode cX11_undo 6 = .ok (.getfield 181, 3) := by decide +kernel
theorem dX11_undo_9 : decode cX11_undo 9 = .ok (.ifCond .ne 6, 3) := by decide +kernel
theorem dX11_undo_12 : decode cX11_undo 12 = .ok (.ldc 218, 2) := by decide +kernel
theorem dX11_undo_14 : decode cX11_undo 14 = .ok (.ireturn, 1) := by decide +kernel
theorem dX11_undo_15 : decode cX11_undo 15 = .ok (.aload_n 0, 1) := by decide +kernel
theorem dX11_undo_16 : decode cX11_undo 16 = .ok (.dup, 1) := by decide +kernel
theorem dX11_undo_17 : decode cX11_undo 17 = .ok (.getfield 181, 3) := by decide +kernel
theorem dX11_undo_20 : decode cX11_undo 20 = .ok (.iconst 1, 1) := by decide +kernel
theorem dX11_undo_21 : decode cX11_undo 21 = .ok (.isub, 1) := by decide +kernel
theorem dX11_undo_22 : decode cX11_undo 22 = .ok (.putfield 181, 3) := by decide +kernel
theorem dX11_undo_25 : decode cX11_undo 25 = .ok (.iconst 0, 1) := by decide +kernel
theorem dX11_undo_26 : decode cX11_undo 26 = .ok (.istore_n 1, 1) := by decide +kernel
theorem dX11_undo_27 : decode cX11_undo 27 = .ok (.iload_n 1, 1) := by decide +kernel
theorem dX11_undo_28 : decode cX11_undo 28 = .ok (.bipush 77, 2) := by decide +kernel
theorem dX11_undo_30 : decode cX11_undo 30 = .ok (.if_icmp .ge 29, 3) := by decide +kernel
theorem dX11_undo_33 : decode cX11_undo 33 = .ok (.aload_n 0, 1) := by decide +kernel
theorem dX11_undo_34 : decode cX11_undo 34 = .ok (.getfield 19, 3) := by decide +kernel
theorem dX11_undo_37 : decode cX11_undo 37 = .ok (.iload_n 1, 1) := by decide +kernel
theorem dX11_undo_38 : decode cX11_undo 38 = .ok (.aload_n 0, 1) := by decide +kernel
theorem dX11_undo_39 : decode cX11_undo 39 = .ok (.getfield 25, 3) := by decide +kernel
theorem dX11_undo_42 : decode cX11_undo 42 = .ok (.bipush 77, 2) := by decide +kernel
theorem dX11_undo_44 : decode cX11_undo 44 = .ok (.aload_n 0, 1) := by decide +kernel
theorem dX11_undo_45 : decode cX11_undo 45 = .ok (.getfield 181, 3) := by decide +kernel
theorem dX11_undo_48 : decode cX11_undo 48 = .ok (.imul, 1) := by decide +kernel
theorem dX11_undo_49 : decode cX11_undo 49 = .ok (.iload_n 1, 1) := by decide +kernel
theorem dX11_undo_50 : decode cX11_undo 50 = .ok (.iadd, 1) := by decide +kernel
theorem dX11_undo_51 : decode cX11_undo 51 = .ok (.iaload, 1) := by decide +kernel
theorem dX11_undo_52 : decode cX11_undo 52 = .ok (.iastore, 1) := by decide +kernel
theorem dX11_undo_53 : decode cX11_undo 53 = .ok (.iinc 1 1, 3) := by decide +kernel
theorem dX11_undo_56 : decode cX11_undo 56 = .ok (.goto (-29), 3) := by decide +kernel
theorem dX11_undo_59 : decode cX11_undo 59 = .ok (.aload_n 0, 1) := by decide +kernel
theorem dX11_undo_60 : decode cX11_undo 60 = .ok (.getfield 181, 3) := by decide +kernel
theorem dX11_undo_63 : decode cX11_undo 63 = .ok (.ireturn, 1) := by decide +kernel
theorem dX11_yarn_0 : decode cX11_yarn 0 = .ok (.aload_n 0, 1) := by decide +kernel
theorem dX11_yarn_1 : decode cX11_yarn 1 = .ok (.iconst 0, 1) := by decide +kernel
theorem dX11_yarn_2 : decode cX11_yarn 2 = .ok (.putfield 50, 3) := by decide +kernel
theorem dX11_yarn_5 : decode cX11_yarn 5 = .ok (.aload_n 0, 1) := by decide +kernel
theorem dX11_yarn_6 : decode cX11_yarn 6 = .ok (.iload_n 1, 1) := by decide +kernel
theorem dX11_yarn_7 : decode cX11_yarn 7 = .ok (.invokevirtual 206, 3) := by decide +kernel
theorem dX11_yarn_10 : decode cX11_yarn 10 = .ok (.ifCond .eq 15, 3) := by decide +kernel
theorem dX11_yarn_13 : decode cX11_yarn 13 = .ok (.iload_n 2, 1) := by decide +kernel
theorem dX11_yarn_14 : decode cX11_yarn 14 = .ok (.i2l, 1) := by decide +kernel
theorem dX11_yarn_15 : decode cX11_yarn 15 = .ok (.lconst 0, 1) := by decide +kernel
theorem dX11_yarn_16 : decode cX11_yarn 16 = .ok (.ldc2_w 245, 3) := by decide +kernel
theorem dX11_yarn_19 : decode cX11_yarn 19 = .ok (.invokestatic 60, 3) := by decide +kernel
theorem dX11_yarn_22 : decode cX11_yarn 22 = .ok (.ifCond .ne 6, 3) := by decide +kernel
theorem dX11_yarn_25 : decode cX11_yarn 25 = .ok (.ldc 70, 2) := by decide +kernel
theorem dX11_yarn_27 : decode cX11_yarn 27 = .ok (.ireturn, 1) := by decide +kernel
theorem dX11_yarn_28 : decode cX11_yarn 28 = .ok (.iload_n 2, 1) := by decide +kernel
theorem dX11_yarn_29 : decode cX11_yarn 29 = .ok (.tableswitch 47 0 2 #[27, 34, 41], 27) := by decide +kernel
theorem dX11_yarn_56 : decode cX11_yarn 56 = .ok (.aload_n 0, 1) := by decide +kernel
theorem dX11_yarn_57 : decode cX11_yarn 57 = .ok (.iload_n 1, 1) := by decide +kernel
theorem dX11_yarn_58 : decode cX11_yarn 58 = .ok (.iconst 1, 1) := by decide +kernel
theorem dX11_yarn_59 : decode cX11_yarn 59 = .ok (.invokevirtual 188, 3) := by decide +kernel
theorem dX11_yarn_62 : decode cX11_yarn 62 = .ok (.ireturn, 1) := by decide +kernel
theorem dX11_yarn_63 : decode cX11_yarn 63 = .ok (.aload_n 0, 1) := by decide +kernel
theorem dX11_yarn_64 : decode cX11_yarn 64 = .ok (.iload_n 1, 1) := by decide +kernel
theorem dX11_yarn_65 : decode cX11_yarn 65 = .ok (.iconst 2, 1) := by decide +kernel
theorem dX11_yarn_66 : decode cX11_yarn 66 = .ok (.invokevirtual 188, 3) := by decide +kernel
theorem dX11_yarn_69 : decode cX11_yarn 69 = .ok (.ireturn, 1) := by decide +kernel
theorem dX11_yarn_70 : decode cX11_yarn 70 = .ok (.aload_n 0, 1) := by decide +kernel
theorem dX11_yarn_71 : decode cX11_yarn 71 = .ok (.iload_n 1, 1) := by decide +kernel
theorem dX11_yarn_72 : decode cX11_yarn 72 = .ok (.invokevirtual 200, 3) := by decide +kernel
theorem dX11_yarn_75 : decode cX11_yarn 75 = .ok (.ireturn, 1) := by decide +kernel
theorem dX11_yarn_76 : decode cX11_yarn 76 = .ok (.aload_n 0, 1) := by decide +kernel
theorem dX11_yarn_77 : decode cX11_yarn 77 = .ok (.iload_n 1, 1) := by decide +kernel
theorem dX11_yarn_78 : decode cX11_yarn 78 = .ok (.iload_n 2, 1) := by decide +kernel
theorem dX11_yarn_79 : decode cX11_yarn 79 = .ok (.invokevirtual 188, 3) := by decide +kernel
theorem dX11_yarn_82 : decode cX11_yarn 82 = .ok (.ireturn, 1) := by decide +kernel
theorem dX11_bears_0 : decode cX11_bears 0 = .ok (.aload_n 0, 1) := by decide +kernel
theorem dX11_bears_1 : decode cX11_bears 1 = .ok (.iconst 0, 1) := by decide +kernel
theorem dX11_bears_2 : decode cX11_bears 2 = .ok (.putfield 50, 3) := by decide +kernel
theorem dX11_bears_5 : decode cX11_bears 5 = .ok (.aload_n 0, 1) := by decide +kernel
theorem dX11_bears_6 : decode cX11_bears 6 = .ok (.getfield 177, 3) := by decide +kernel
theorem dX11_bears_9 : decode cX11_bears 9 = .ok (.ifCond .ne 6, 3) := by decide +kernel
theorem dX11_bears_12 : decode cX11_bears 12 = .ok (.ldc 218, 2) := by decide +kernel
theorem dX11_bears_14 : decode cX11_bears 14 = .ok (.ireturn, 1) := by decide +kernel
theorem dX11_bears_15 : decode cX11_bears 15 = .ok (.iload_n 1, 1) := by decide +kernel
theorem dX11_bears_16 : decode cX11_bears 16 = .ok (.i2l, 1) := by decide +kernel
theorem dX11_bears_17 : decode cX11_bears 17 = .ok (.lconst 0, 1) := by decide +kernel
theorem dX11_bears_18 : decode cX11_bears 18 = .ok (.ldc2_w 247, 3) := by decide +kernel
theorem dX11_bears_21 : decode cX11_bears 21 = .ok (.invokestatic 60, 3) := by decide +kernel
theorem dX11_bears_24 : decode cX11_bears 24 = .ok (.ifCond .ne 6, 3) := by decide +kernel
theorem dX11_bears_27 : decode cX11_bears 27 = .ok (.ldc 70, 2) := by decide +kernel
theorem dX11_bears_29 : decode cX11_bears 29 = .ok (.ireturn, 1) := by decide +kernel
theorem dX11_bears_30 : decode cX11_bears 30 = .ok (.aload_n 0, 1) := by decide +kernel
theorem dX11_bears_31 : decode cX11_bears 31 = .ok (.invokevirtual 236, 3) := by decide +kernel
theorem dX11_bears_34 : decode cX11_bears 34 = .ok (.iload_n 1, 1) := by decide +kernel
theorem dX11_bears_35 : decode cX11_bears 35 = .ok (.iconst 3, 1) := by decide +kernel
theorem dX11_bears_36 : decode cX11_bears 36 = .ok (.if_icmp .ne 10, 3) := by decide +kernel
theorem dX11_bears_39 : decode cX11_bears 39 = .ok (.aload_n 0, 1) := by decide +kernel
theorem dX11_bears_40 : decode cX11_bears 40 = .ok (.invokevirtual 239, 3) := by decide +kernel
theorem dX11_bears_43 : decode cX11_bears 43 = .ok (.goto 9, 3) := by decide +kernel
theorem dX11_bears_46 : decode cX11_bears 46 = .ok (.aload_n 0, 1) := by decide +kernel
theorem dX11_bears_47 : decode cX11_bears 47 = .ok (.getfield 31, 3) := by decide +kernel
theorem dX11_bears_50 : decode cX11_bears 50 = .ok (.iload_n 1, 1) := by decide +kernel
theorem dX11_bears_51 : decode cX11_bears 51 = .ok (.iaload, 1) := by decide +kernel
theorem dX11_bears_52 : decode cX11_bears 52 = .ok (.ireturn, 1) := by decide +kernel
theorem dX11_bearsBy_0 : decode cX11_bearsBy 0 = .ok (.iload_n 1, 1) := by decide +kernel
theorem dX11_bearsBy_1 : decode cX11_bearsBy 1 = .ok (.istore_n 2, 1) := by decide +kernel
theorem dX11_bearsBy_2 : decode cX11_bearsBy 2 = .ok (.aload_n 0, 1) := by decide +kernel
theorem dX11_bearsBy_3 : decode cX11_bearsBy 3 = .ok (.invokevirtual 197, 3) := by decide +kernel
theorem dX11_bearsBy_6 : decode cX11_bearsBy 6 = .ok (.aload_n 0, 1) := by decide +kernel
theorem dX11_bearsBy_7 : decode cX11_bearsBy 7 = .ok (.getfield 19, 3) := by decide +kernel
theorem dX11_bearsBy_10 : decode cX11_bearsBy 10 = .ok (.iconst 3, 1) := by decide +kernel
theorem dX11_bearsBy_11 : decode cX11_bearsBy 11 = .ok (.iaload, 1) := by decide +kernel
theorem dX11_bearsBy_12 : decode cX11_bearsBy 12 = .ok (.iconst 1, 1) := by decide +kernel
theorem dX11_bearsBy_13 : decode cX11_bearsBy 13 = .ok (.isub, 1) := by decide +kernel
theorem dX11_bearsBy_14 : decode cX11_bearsBy 14 = .ok (.istore_n 3, 1) := by decide +kernel
theorem dX11_bearsBy_15 : decode cX11_bearsBy 15 = .ok (.iload_n 3, 1) := by decide +kernel
theorem dX11_bearsBy_16 : decode cX11_bearsBy 16 = .ok (.ifCond .lt 29, 3) := by decide +kernel
theorem dX11_bearsBy_19 : decode cX11_bearsBy 19 = .ok (.aload_n 0, 1) := by decide +kernel
theorem dX11_bearsBy_20 : decode cX11_bearsBy 20 = .ok (.getfield 31, 3) := by decide +kernel
theorem dX11_bearsBy_23 : decode cX11_bearsBy 23 = .ok (.iload_n 2, 1) := by decide +kernel
theorem dX11_bearsBy_24 : decode cX11_bearsBy 24 = .ok (.iconst 3, 1) := by decide +kernel
theorem dX11_bearsBy_25 : decode cX11_bearsBy 25 = .ok (.irem, 1) := by decide +kernel
theorem dX11_bearsBy_26 : decode cX11_bearsBy 26 = .ok (.dup2, 1) := by decide +kernel
theorem dX11_bearsBy_27 : decode cX11_bearsBy 27 = .ok (.iaload, 1) := by decide +kernel
theorem dX11_bearsBy_28 : decode cX11_bearsBy 28 = .ok (.aload_n 0, 1) := by decide +kernel
theorem dX11_bearsBy_29 : decode cX11_bearsBy 29 = .ok (.iload_n 3, 1) := by decide +kernel
theorem dX11_bearsBy_30 : decode cX11_bearsBy 30 = .ok (.invokevirtual 200, 3) := by decide +kernel
theorem dX11_bearsBy_33 : decode cX11_bearsBy 33 = .ok (.iadd, 1) := by decide +kernel
theorem dX11_bearsBy_34 : decode cX11_bearsBy 34 = .ok (.iastore, 1) := by decide +kernel
theorem dX11_bearsBy_35 : decode cX11_bearsBy 35 = .ok (.iload_n 2, 1) := by decide +kernel
theorem dX11_bearsBy_36 : decode cX11_bearsBy 36 = .ok (.iconst 3, 1) := by decide +kernel
theorem dX11_bearsBy_37 : decode cX11_bearsBy 37 = .ok (.idiv, 1) := by decide +kernel
theorem dX11_bearsBy_38 : decode cX11_bearsBy 38 = .ok (.istore_n 2, 1) := by decide +kernel
theorem dX11_bearsBy_39 : decode cX11_bearsBy 39 = .ok (.iinc 3 (-1), 3) := by decide +kernel
theorem dX11_bearsBy_42 : decode cX11_bearsBy 42 = .ok (.goto (-27), 3) := by decide +kernel
theorem dX11_bearsBy_45 : decode cX11_bearsBy 45 = .ok (.aload_n 0, 1) := by decide +kernel
theorem dX11_bearsBy_46 : decode cX11_bearsBy 46 = .ok (.invokevirtual 239, 3) := by decide +kernel
theorem dX11_bearsBy_49 : decode cX11_bearsBy 49 = .ok (.ireturn, 1) := by decide +kernel
theorem dX11_layBest_0 : decode cX11_layBest 0 = .ok (.iconst 1, 1) := by decide +kernel
theorem dX11_layBest_1 : decode cX11_layBest 1 = .ok (.istore_n 1, 1) := by decide +kernel
theorem dX11_layBest_2 : decode cX11_layBest 2 = .ok (.iconst 0, 1) := by decide +kernel
theorem dX11_layBest_3 : decode cX11_layBest 3 = .ok (.istore_n 2, 1) := by decide +kernel
theorem dX11_layBest_4 : decode cX11_layBest 4 = .ok (.iload_n 2, 1) := by decide +kernel
theorem dX11_layBest_5 : decode cX11_layBest 5 = .ok (.aload_n 0, 1) := by decide +kernel
theorem dX11_layBest_6 : decode cX11_layBest 6 = .ok (.getfield 19, 3) := by decide +kernel
theorem dX11_layBest_9 : decode cX11_layBest 9 = .ok (.iconst 3, 1) := by decide +kernel
theorem dX11_layBest_10 : decode cX11_layBest 10 = .ok (.iaload, 1) := by decide +kernel
theorem dX11_layBest_11 : decode cX11_layBest 11 = .ok (.if_icmp .ge 13, 3) := by decide +kernel
theorem dX11_layBest_14 : decode cX11_layBest 14 = .ok (.iload_n 1, 1) := by decide +kernel
theorem dX11_layBest_15 : decode cX11_layBest 15 = .ok (.iconst 3, 1) := by decide +kernel
theorem dX11_layBest_16 : decode cX11_layBest 16 = .ok (.imul, 1) := by decide +kernel
theorem dX11_layBest_17 : decode cX11_layBest 17 = .ok (.istore_n 1, 1) := by decide +kernel
theorem dX11_layBest_18 : decode cX11_layBest 18 = .ok (.iinc 2 1, 3) := by decide +kernel
theorem dX11_layBest_21 : decode cX11_layBest 21 = .ok (.goto (-17), 3) := by decide +kernel
theorem dX11_layBest_24 : decode cX11_layBest 24 = .ok (.iconst (-1), 1) := by decide +kernel
theorem dX11_layBest_25 : decode cX11_layBest 25 = .ok (.istore_n 2, 1) := by decide +kernel
theorem dX11_layBest_26 : decode cX11_layBest 26 = .ok (.iconst 0, 1) := by decide +kernel
theorem dX11_layBest_27 : decode cX11_layBest 27 = .ok (.istore_n 3, 1) := by decide +kernel
theorem dX11_layBest_28 : decode cX11_layBest 28 = .ok (.iload_n 3, 1) := by decide +kernel
theorem dX11_layBest_29 : decode cX11_layBest 29 = .ok (.iload_n 1, 1) := by decide +kernel
theorem dX11_layBest_30 : decode cX11_layBest 30 = .ok (.if_icmp .ge 47, 3) := by decide +kernel
theorem dX11_layBest_33 : decode cX11_layBest 33 = .ok (.aload_n 0, 1) := by decide +kernel
theorem dX11_layBest_34 : decode cX11_layBest 34 = .ok (.iload_n 3, 1) := by decide +kernel
theorem dX11_layBest_35 : decode cX11_layBest 35 = .ok (.invokevirtual 249, 3) := by decide +kernel
theorem dX11_layBest_38 : decode cX11_layBest 38 = .ok (.istore 4, 2) := by decide +kernel
theorem dX11_layBest_40 : decode cX11_layBest 40 = .ok (.aload_n 0, 1) := by decide +kernel
theorem dX11_layBest_41 : decode cX11_layBest 41 = .ok (.iload 4, 2) := by decide +kernel
theorem dX11_layBest_43 : decode cX11_layBest 43 = .ok (.iload_n 2, 1) := by decide +kernel
theorem dX11_layBest_44 : decode cX11_layBest 44 = .ok (.if_icmp .le 7, 3) := by decide +kernel
theorem dX11_layBest_47 : decode cX11_layBest 47 = .ok (.iload_n 3, 1) := by decide +kernel
theorem dX11_layBest_48 : decode cX11_layBest 48 = .ok (.goto 7, 3) := by decide +kernel
theorem dX11_layBest_51 : decode cX11_layBest 51 = .ok (.aload_n 0, 1) := by decide +kernel
theorem dX11_layBest_52 : decode cX11_layBest 52 = .ok (.getfield 252, 3) := by decide +kernel
theorem dX11_layBest_55 : decode cX11_layBest 55 = .ok (.putfield 252, 3) := by decide +kernel
theorem dX11_layBest_58 : decode cX11_layBest 58 = .ok (.iload 4, 2) := by decide +kernel
theorem dX11_layBest_60 : decode cX11_layBest 60 = .ok (.iload_n 2, 1) := by decide +kernel
theorem dX11_layBest_61 : decode cX11_layBest 61 = .ok (.if_icmp .le 8, 3) := by decide +kernel
theorem dX11_layBest_64 : decode cX11_layBest 64 = .ok (.iload 4, 2) := by decide +kernel
theorem dX11_layBest_66 : decode cX11_layBest 66 = .ok (.goto 4, 3) := by decide +kernel
theorem dX11_layBest_69 : decode cX11_layBest 69 = .ok (.iload_n 2, 1) := by decide +kernel
theorem dX11_layBest_70 : decode cX11_layBest 70 = .ok (.istore_n 2, 1) := by decide +kernel
theorem dX11_layBest_71 : decode cX11_layBest 71 = .ok (.iinc 3 1, 3) := by decide +kernel
theorem dX11_layBest_74 : decode cX11_layBest 74 = .ok (.goto (-46), 3) := by decide +kernel
theorem dX11_layBest_77 : decode cX11_layBest 77 = .ok (.iload_n 2, 1) := by decide +kernel
theorem dX11_layBest_78 : decode cX11_layBest 78 = .ok (.ireturn, 1) := by decide +kernel
theorem dX11_best_0 : decode cX11_best 0 = .ok (.aload_n 0, 1) := by decide +kernel
theorem dX11_best_1 : decode cX11_best 1 = .ok (.iconst 0, 1) := by decide +kernel
theorem dX11_best_2 : decode cX11_best 2 = .ok (.putfield 50, 3) := by decide +kernel
theorem dX11_best_5 : decode cX11_best 5 = .ok (.aload_n 0, 1) := by decide +kernel
theorem dX11_best_6 : decode cX11_best 6 = .ok (.getfield 177, 3) := by decide +kernel
theorem dX11_best_9 : decode cX11_best 9 = .ok (.ifCond .ne 6, 3) := by decide +kernel
theorem dX11_best_12 : decode cX11_best 12 = .ok (.ldc 218, 2) := by decide +kernel
