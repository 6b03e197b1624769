theorem dX10_splice_18 : decode cX10_splice 18 = .ok (.aload_n 0, 1) := by decide +kernel
theorem dX10_splice_19 : decode cX10_splice 19 = .ok (.getfield 26, 3) := by decide +kernel
theorem dX10_splice_22 : decode cX10_splice 22 = .ok (.invokevirtual 159, 3) := by decide +kernel
theorem dX10_splice_25 : decode cX10_splice 25 = .ok (.aload_n 0, 1) := by decide +kernel
theorem dX10_splice_26 : decode cX10_splice 26 = .ok (.getfield 26, 3) := by decide +kernel
theorem dX10_splice_29 : decode cX10_splice 29 = .ok (.getfield 162, 3) := by decide +kernel
theorem dX10_splice_32 : decode cX10_splice 32 = .ok (.bipush 18, 2) := by decide +kernel
theorem dX10_splice_34 : decode cX10_splice 34 = .ok (.iload_n 1, 1) := by decide +kernel
theorem dX10_splice_35 : decode cX10_splice 35 = .ok (.iadd, 1) := by decide +kernel
theorem dX10_splice_36 : decode cX10_splice 36 = .ok (.iaload, 1) := by decide +kernel
theorem dX10_splice_37 : decode cX10_splice 37 = .ok (.istore_n 2, 1) := by decide +kernel
theorem dX10_splice_38 : decode cX10_splice 38 = .ok (.aload_n 0, 1) := by decide +kernel
theorem dX10_splice_39 : decode cX10_splice 39 = .ok (.getfield 26, 3) := by decide +kernel
theorem dX10_splice_42 : decode cX10_splice 42 = .ok (.getfield 162, 3) := by decide +kernel
theorem dX10_splice_45 : decode cX10_splice 45 = .ok (.bipush 18, 2) := by decide +kernel
theorem dX10_splice_47 : decode cX10_splice 47 = .ok (.iload_n 1, 1) := by decide +kernel
theorem dX10_splice_48 : decode cX10_splice 48 = .ok (.iadd, 1) := by decide +kernel
theorem dX10_splice_49 : decode cX10_splice 49 = .ok (.iconst 0, 1) := by decide +kernel
theorem dX10_splice_50 : decode cX10_splice 50 = .ok (.iastore, 1) := by decide +kernel
theorem dX10_splice_51 : decode cX10_splice 51 = .ok (.iload_n 2, 1) := by decide +kernel
theorem dX10_splice_52 : decode cX10_splice 52 = .ok (.ireturn, 1) := by decide +kernel
theorem dX10_pull_0 : decode cX10_pull 0 = .ok (.aload_n 0, 1) := by decide +kernel
theorem dX10_pull_1 : decode cX10_pull 1 = .ok (.getfield 26, 3) := by decide +kernel
theorem dX10_pull_4 : decode cX10_pull 4 = .ok (.getfield 170, 3) := by decide +kernel
theorem dX10_pull_7 : decode cX10_pull 7 = .ok (.ifCond .ne 6, 3) := by decide +kernel
theorem dX10_pull_10 : decode cX10_pull 10 = .ok (.ldc 166, 2) := by decide +kernel
theorem dX10_pull_12 : decode cX10_pull 12 = .ok (.ireturn, 1) := by decide +kernel
theorem dX10_pull_13 : decode cX10_pull 13 = .ok (.iload_n 1, 1) := by decide +kernel
theorem dX10_pull_14 : decode cX10_pull 14 = .ok (.invokestatic 174, 3) := by decide +kernel
theorem dX10_pull_17 : decode cX10_pull 17 = .ok (.ifCond .eq 10, 3) := by decide +kernel
theorem dX10_pull_20 : decode cX10_pull 20 = .ok (.iload_n 2, 1) := by decide +kernel
theorem dX10_pull_21 : decode cX10_pull 21 = .ok (.invokestatic 177, 3) := by decide +kernel
theorem dX10_pull_24 : decode cX10_pull 24 = .ok (.ifCond .ne 6, 3) := by decide +kernel
theorem dX10_pull_27 : decode cX10_pull 27 = .ok (.ldc 83, 2) := by decide +kernel
theorem dX10_pull_29 : decode cX10_pull 29 = .ok (.ireturn, 1) := by decide +kernel
theorem dX10_pull_30 : decode cX10_pull 30 = .ok (.aload_n 0, 1) := by decide +kernel
theorem dX10_pull_31 : decode cX10_pull 31 = .ok (.getfield 40, 3) := by decide +kernel
theorem dX10_pull_34 : decode cX10_pull 34 = .ok (.aload_n 0, 1) := by decide +kernel
theorem dX10_pull_35 : decode cX10_pull 35 = .ok (.getfield 26, 3) := by decide +kernel
theorem dX10_pull_38 : decode cX10_pull 38 = .ok (.invokevirtual 159, 3) := by decide +kernel
theorem dX10_pull_41 : decode cX10_pull 41 = .ok (.iload_n 1, 1) := by decide +kernel
theorem dX10_pull_42 : decode cX10_pull 42 = .ok (.iload_n 2, 1) := by decide +kernel
theorem dX10_pull_43 : decode cX10_pull 43 = .ok (.invokestatic 180, 3) := by decide +kernel
theorem dX10_pull_46 : decode cX10_pull 46 = .ok (.bipush 10, 2) := by decide +kernel
theorem dX10_pull_48 : decode cX10_pull 48 = .ok (.irem, 1) := by decide +kernel
theorem dX10_pull_49 : decode cX10_pull 49 = .ok (.iadd, 1) := by decide +kernel
theorem dX10_pull_50 : decode cX10_pull 50 = .ok (.aload_n 0, 1) := by decide +kernel
theorem dX10_pull_51 : decode cX10_pull 51 = .ok (.getfield 26, 3) := by decide +kernel
theorem dX10_pull_54 : decode cX10_pull 54 = .ok (.invokevirtual 183, 3) := by decide +kernel
theorem dX10_pull_57 : decode cX10_pull 57 = .ok (.if_icmp .le 21, 3) := by decide +kernel
theorem dX10_pull_60 : decode cX10_pull 60 = .ok (.aload_n 0, 1) := by decide +kernel
theorem dX10_pull_61 : decode cX10_pull 61 = .ok (.getfield 26, 3) := by decide +kernel
theorem dX10_pull_64 : decode cX10_pull 64 = .ok (.invokevirtual 187, 3) := by decide +kernel
theorem dX10_pull_67 : decode cX10_pull 67 = .ok (.istore_n 3, 1) := by decide +kernel
theorem dX10_pull_68 : decode cX10_pull 68 = .ok (.aload_n 0, 1) := by decide +kernel
theorem dX10_pull_69 : decode cX10_pull 69 = .ok (.getfield 26, 3) := by decide +kernel
theorem dX10_pull_72 : decode cX10_pull 72 = .ok (.iload_n 3, 1) := by decide +kernel
theorem dX10_pull_73 : decode cX10_pull 73 = .ok (.invokevirtual 190, 3) := by decide +kernel
theorem dX10_pull_76 : decode cX10_pull 76 = .ok (.iload_n 3, 1) := by decide +kernel
theorem dX10_pull_77 : decode cX10_pull 77 = .ok (.ireturn, 1) := by decide +kernel
theorem dX10_pull_78 : decode cX10_pull 78 = .ok (.aload_n 0, 1) := by decide +kernel
theorem dX10_pull_79 : decode cX10_pull 79 = .ok (.getfield 26, 3) := by decide +kernel
theorem dX10_pull_82 : decode cX10_pull 82 = .ok (.invokevirtual 193, 3) := by decide +kernel
theorem dX10_pull_85 : decode cX10_pull 85 = .ok (.ldc 196, 2) := by decide +kernel
theorem dX10_pull_87 : decode cX10_pull 87 = .ok (.ireturn, 1) := by decide +kernel
theorem dX10_year_0 : decode cX10_year 0 = .ok (.aload_n 0, 1) := by decide +kernel
theorem dX10_year_1 : decode cX10_year 1 = .ok (.getfield 26, 3) := by decide +kernel
theorem dX10_year_4 : decode cX10_year 4 = .ok (.getfield 170, 3) := by decide +kernel
theorem dX10_year_7 : decode cX10_year 7 = .ok (.ifCond .ne 6, 3) := by decide +kernel
theorem dX10_year_10 : decode cX10_year 10 = .ok (.ldc 166, 2) := by decide +kernel
theorem dX10_year_12 : decode cX10_year 12 = .ok (.ireturn, 1) := by decide +kernel
theorem dX10_year_13 : decode cX10_year 13 = .ok (.iload_n 1, 1) := by decide +kernel
theorem dX10_year_14 : decode cX10_year 14 = .ok (.invokestatic 177, 3) := by decide +kernel
theorem dX10_year_17 : decode cX10_year 17 = .ok (.ifCond .ne 6, 3) := by decide +kernel
theorem dX10_year_20 : decode cX10_year 20 = .ok (.ldc 83, 2) := by decide +kernel
theorem dX10_year_22 : decode cX10_year 22 = .ok (.ireturn, 1) := by decide +kernel
theorem dX10_year_23 : decode cX10_year 23 = .ok (.aload_n 0, 1) := by decide +kernel
theorem dX10_year_24 : decode cX10_year 24 = .ok (.getfield 40, 3) := by decide +kernel
theorem dX10_year_27 : decode cX10_year 27 = .ok (.aload_n 0, 1) := by decide +kernel
theorem dX10_year_28 : decode cX10_year 28 = .ok (.getfield 26, 3) := by decide +kernel
theorem dX10_year_31 : decode cX10_year 31 = .ok (.invokevirtual 159, 3) := by decide +kernel
theorem dX10_year_34 : decode cX10_year 34 = .ok (.iconst 0, 1) := by decide +kernel
theorem dX10_year_35 : decode cX10_year 35 = .ok (.istore_n 2, 1) := by decide +kernel
theorem dX10_year_36 : decode cX10_year 36 = .ok (.iload_n 1, 1) := by decide +kernel
theorem dX10_year_37 : decode cX10_year 37 = .ok (.istore_n 3, 1) := by decide +kernel
theorem dX10_year_38 : decode cX10_year 38 = .ok (.iconst 0, 1) := by decide +kernel
theorem dX10_year_39 : decode cX10_year 39 = .ok (.istore 4, 2) := by decide +kernel
theorem dX10_year_41 : decode cX10_year 41 = .ok (.iload 4, 2) := by decide +kernel
theorem dX10_year_43 : decode cX10_year 43 = .ok (.aload_n 0, 1) := by decide +kernel
theorem dX10_year_44 : decode cX10_year 44 = .ok (.getfield 26, 3) := by decide +kernel
theorem dX10_year_47 : decode cX10_year 47 = .ok (.getfield 153, 3) := by decide +kernel
theorem dX10_year_50 : decode cX10_year 50 = .ok (.if_icmp .ge 125, 3) := by decide +kernel
theorem dX10_year_53 : decode cX10_year 53 = .ok (.aload_n 0, 1) := by decide +kernel
theorem dX10_year_54 : decode cX10_year 54 = .ok (.getfield 26, 3) := by decide +kernel
theorem dX10_year_57 : decode cX10_year 57 = .ok (.getfield 162, 3) := by decide +kernel
theorem dX10_year_60 : decode cX10_year 60 = .ok (.bipush 9, 2) := by decide +kernel
theorem dX10_year_62 : decode cX10_year 62 = .ok (.iload 4, 2) := by decide +kernel
theorem dX10_year_64 : decode cX10_year 64 = .ok (.iadd, 1) := by decide +kernel
theorem dX10_year_65 : decode cX10_year 65 = .ok (.iaload, 1) := by decide +kernel
theorem dX10_year_66 : decode cX10_year 66 = .ok (.ifCond .ne 103, 3) := by decide +kernel
theorem dX10_year_69 : decode cX10_year 69 = .ok (.aload_n 0, 1) := by decide +kernel
theorem dX10_year_70 : decode cX10_year 70 = .ok (.getfield 26, 3) := by decide +kernel
theorem dX10_year_73 : decode cX10_year 73 = .ok (.getfield 197, 3) := by decide +kernel
theorem dX10_year_76 : decode cX10_year 76 = .ok (.iload 4, 2) := by decide +kernel
theorem dX10_year_78 : decode cX10_year 78 = .ok (.iaload, 1) := by decide +kernel
theorem dX10_year_79 : decode cX10_year 79 = .ok (.iconst 2, 1) := by decide +kernel
theorem dX10_year_80 : decode cX10_year 80 = .ok (.if_icmp .ne 7, 3) := by decide +kernel
theorem dX10_year_83 : decode cX10_year 83 = .ok (.iconst 1, 1) := by decide +kernel
theorem dX10_year_84 : decode cX10_year 84 = .ok (.goto 4, 3) := by decide +kernel
theorem dX10_year_87 : decode cX10_year 87 = .ok (.iconst 0, 1) := by decide +kernel
theorem dX10_year_88 : decode cX10_year 88 = .ok (.istore 5, 2) := by decide +kernel
theorem dX10_year_90 : decode cX10_year 90 = .ok (.aload_n 0, 1) := by decide +kernel
theorem dX10_year_91 : decode cX10_year 91 = .ok (.getfield 26, 3) := by decide +kernel
theorem dX10_year_94 : decode cX10_year 94 = .ok (.iload 4, 2) := by decide +kernel
theorem dX10_year_96 : decode cX10_year 96 = .ok (.invokevirtual 202, 3) := by decide +kernel
theorem dX10_year_99 : decode cX10_year 99 = .ok (.ifCond .eq 31, 3) := by decide +kernel
theorem dX10_year_102 : decode cX10_year 102 = .ok (.iload_n 3, 1) := by decide +kernel
theorem dX10_year_103 : decode cX10_year 103 = .ok (.invokestatic 180, 3) := by decide +kernel
theorem dX10_year_106 : decode cX10_year 106 = .ok (.istore_n 3, 1) := by decide +kernel
theorem dX10_year_107 : decode cX10_year 107 = .ok (.iload_n 3, 1) := by decide +kernel
theorem dX10_year_108 : decode cX10_year 108 = .ok (.bipush 10, 2) := by decide +kernel
theorem dX10_year_110 : decode cX10_year 110 = .ok (.irem, 1) := by decide +kernel
theorem dX10_year_111 : decode cX10_year 111 = .ok (.aload_n 0, 1) := by decide +kernel
theorem dX10_year_112 : decode cX10_year 112 = .ok (.getfield 26, 3) := by decide +kernel
theorem dX10_year_115 : decode cX10_year 115 = .ok (.iload 4, 2) := by decide +kernel
theorem dX10_year_117 : decode cX10_year 117 = .ok (.invokevirtual 205, 3) := by decide +kernel
theorem dX10_year_120 : decode cX10_year 120 = .ok (.if_icmp .ge 7, 3) := by decide +kernel
theorem dX10_year_123 : decode cX10_year 123 = .ok (.iconst 1, 1) := by decide +kernel
theorem dX10_year_124 : decode cX10_year 124 = .ok (.goto 4, 3) := by decide +kernel
theorem dX10_year_127 : decode cX10_year 127 = .ok (.iconst 0, 1) := by decide +kernel
theorem dX10_year_128 : decode cX10_year 128 = .ok (.istore 5, 2) := by decide +kernel
theorem dX10_year_130 : decode cX10_year 130 = .ok (.aload_n 0, 1) := by decide +kernel
theorem dX10_year_131 : decode cX10_year 131 = .ok (.getfield 26, 3) := by decide +kernel
theorem dX10_year_134 : decode cX10_year 134 = .ok (.getfield 162, 3) := by decide +kernel
theorem dX10_year_137 : decode cX10_year 137 = .ok (.bipush 9, 2) := by decide +kernel
theorem dX10_year_139 : decode cX10_year 139 = .ok (.iload 4, 2) := by decide +kernel
theorem dX10_year_141 : decode cX10_year 141 = .ok (.iadd, 1) := by decide +kernel
theorem dX10_year_142 : decode cX10_year 142 = .ok (.iload 5, 2) := by decide +kernel
theorem dX10_year_144 : decode cX10_year 144 = .ok (.ifCond .eq 7, 3) := by decide +kernel
theorem dX10_year_147 : decode cX10_year 147 = .ok (.iconst 1, 1) := by decide +kernel
theorem dX10_year_148 : decode cX10_year 148 = .ok (.goto 4, 3) := by decide +kernel
theorem dX10_year_151 : decode cX10_year 151 = .ok (.iconst 2, 1) := by decide +kernel
theorem dX10_year_152 : decode cX10_year 152 = .ok (.iastore, 1) := by decide +kernel
theorem dX10_year_153 : decode cX10_year 153 = .ok (.iload_n 2, 1) := by decide +kernel
theorem dX10_year_154 : decode cX10_year 154 = .ok (.iload 5, 2) := by decide +kernel
theorem dX10_year_156 : decode cX10_year 156 = .ok (.ifCond .eq 7, 3) := by decide +kernel
theorem dX10_year_159 : decode cX10_year 159 = .ok (.iconst 0, 1) := by decide +kernel
theorem dX10_year_160 : decode cX10_year 160 = .ok (.goto 7, 3) := by decide +kernel
theorem dX10_year_163 : decode cX10_year 163 = .ok (.iconst 1, 1) := by decide +kernel
theorem dX10_year_164 : decode cX10_year 164 = .ok (.iload 4, 2) := by decide +kernel
theorem dX10_year_166 : decode cX10_year 166 = .ok (.ishl, 1) := by decide +kernel
theorem dX10_year_167 : decode cX10_year 167 = .ok (.ior, 1) := by decide +kernel
theorem dX10_year_168 : decode cX10_year 168 = .ok (.istore_n 2, 1) := by decide +kernel
theorem dX10_year_169 : decode cX10_year 169 = .ok (.iinc 4 1, 3) := by decide +kernel
theorem dX10_year_172 : decode cX10_year 172 = .ok (.goto (-131), 3) := by decide +kernel
theorem dX10_year_175 : decode cX10_year 175 = .ok (.iload_n 2, 1) := by decide +kernel
theorem dX10_year_176 : decode cX10_year 176 = .ok (.ireturn, 1) := by decide +kernel
theorem dX10_undo_0 : decode cX10_undo 0 = .ok (.aload_n 0, 1) := by decide +kernel
theorem dX10_undo_1 : decode cX10_undo 1 = .ok (.getfield 40, 3) := by decide +kernel
theorem dX10_undo_4 : decode cX10_undo 4 = .ok (.getfield 208, 3) := by decide +kernel
theorem dX10_undo_7 : decode cX10_undo 7 = .ok (.ifCond .ne 6, 3) := by decide +kernel
theorem dX10_undo_10 : decode cX10_undo 10 = .ok (.ldc 166, 2) := by decide +kernel
theorem dX10_undo_12 : decode cX10_undo 12 = .ok (.ireturn, 1) := by decide +kernel
theorem dX10_undo_13 : decode cX10_undo 13 = .ok (.aload_n 0, 1) := by decide +kernel
theorem dX10_undo_14 : decode cX10_undo 14 = .ok (.getfield 40, 3) := by decide +kernel
theorem dX10_undo_17 : decode cX10_undo 17 = .ok (.aload_n 0, 1) := by decide +kernel
theorem dX10_undo_18 : decode cX10_undo 18 = .ok (.getfield 26, 3) := by decide +kernel
theorem dX10_undo_21 : decode cX10_undo 21 = .ok (.invokevirtual 211, 3) := by decide +kernel
theorem dX10_undo_24 : decode cX10_undo 24 = .ok (.aload_n 0, 1) := by decide +kernel
theorem dX10_undo_25 : decode cX10_undo 25 = .ok (.getfield 40, 3) := by decide +kernel
theorem dX10_undo_28 : decode cX10_undo 28 = .ok (.getfield 208, 3) := by decide +kernel
theorem dX10_undo_31 : decode cX10_undo 31 = .ok (.ireturn, 1) := by decide +kernel
theorem dX10_yarn_0 : decode cX10_yarn 0 = .ok (.aload_n 0, 1) := by decide +kernel
theorem dX10_yarn_1 : decode cX10_yarn 1 = .ok (.getfield 26, 3) := by decide +kernel
theorem dX10_yarn_4 : decode cX10_yarn 4 = .ok (.iload_n 1, 1) := by decide +kernel
theorem dX10_yarn_5 : decode cX10_yarn 5 = .ok (.invokevirtual 156, 3) := by decide +kernel
theorem dX10_yarn_8 : decode cX10_yarn 8 = .ok (.ifCond .ne 6, 3) := by decide +kernel
theorem dX10_yarn_11 : decode cX10_yarn 11 = .ok (.ldc 83, 2) := by decide +kernel
theorem dX10_yarn_13 : decode cX10_yarn 13 = .ok (.ireturn, 1) := by decide +kernel
theorem dX10_yarn_14 : decode cX10_yarn 14 = .ok (.iload_n 2, 1) := by decide +kernel
theorem dX10_yarn_15 : decode cX10_yarn 15 = .ok (.tableswitch 121 0 6 #[41, 51, 61, 70, 82, 95, 108], 41) := by decide +kernel
theorem dX10_yarn_56 : decode cX10_yarn 56 = .ok (.aload_n 0, 1) := by decide +kernel
theorem dX10_yarn_57 : decode cX10_yarn 57 = .ok (.getfield 26, 3) := by decide +kernel
theorem dX10_yarn_60 : decode cX10_yarn 60 = .ok (.getfield 214, 3) := by decide +kernel
theorem dX10_yarn_63 : decode cX10_yarn 63 = .ok (.iload_n 1, 1) := by decide +kernel
theorem dX10_yarn_64 : decode cX10_yarn 64 = .ok (.iaload, 1) := by decide +kernel
theorem dX10_yarn_65 : decode cX10_yarn 65 = .ok (.ireturn, 1) := by decide +kernel
theorem dX10_yarn_66 : decode cX10_yarn 66 = .ok (.aload_n 0, 1) := by decide +kernel
theorem dX10_yarn_67 : decode cX10_yarn 67 = .ok (.getfield 26, 3) := by decide +kernel
theorem dX10_yarn_70 : decode cX10_yarn 70 = .ok (.getfield 217, 3) := by decide +kernel
theorem dX10_yarn_73 : decode cX10_yarn 73 = .ok (.iload_n 1, 1) := by decide +kernel
theorem dX10_yarn_74 : decode cX10_yarn 74 = .ok (.iaload, 1) := by decide +kernel
theorem dX10_yarn_75 : decode cX10_yarn 75 = .ok (.ireturn, 1) := by decide +kernel
theorem dX10_yarn_76 : decode cX10_yarn 76 = .ok (.aload_n 0, 1) := by decide +kernel
theorem dX10_yarn_77 : decode cX10_yarn 77 = .ok (.getfield 26, 3) := by decide +kernel
theorem dX10_yarn_80 : decode cX10_yarn 80 = .ok (.iload_n 1, 1) := by decide +kernel
theorem dX10_yarn_81 : decode cX10_yarn 81 = .ok (.invokevirtual 167, 3) := by decide +kernel
theorem dX10_yarn_84 : decode cX10_yarn 84 = .ok (.ireturn, 1) := by decide +kernel
theorem dX10_yarn_85 : decode cX10_yarn 85 = .ok (.aload_n 0, 1) := by decide +kernel
theorem dX10_yarn_86 : decode cX10_yarn 86 = .ok (.getfield 26, 3) := by decide +kernel
theorem dX10_yarn_89 : decode cX10_yarn 89 = .ok (.getfield 162, 3) := by decide +kernel
theorem dX10_yarn_92 : decode cX10_yarn 92 = .ok (.iconst 0, 1) := by decide +kernel
theorem dX10_yarn_93 : decode cX10_yarn 93 = .ok (.iload_n 1, 1) := by decide +kernel
theorem dX10_yarn_94 : decode cX10_yarn 94 = .ok (.iadd, 1) := by decide +kernel
theorem dX10_yarn_95 : decode cX10_yarn 95 = .ok (.iaload, 1) := by decide +kernel
theorem dX10_yarn_96 : decode cX10_yarn 96 = .ok (.ireturn, 1) := by decide +kernel
theorem dX10_yarn_97 : decode cX10_yarn 97 = .ok (.aload_n 0, 1) := by decide +kernel
theorem dX10_yarn_98 : decode cX10_yarn 98 = .ok (.getfield 26, 3) := by decide +kernel
theorem dX10_yarn_101 : decode cX10_yarn 101 = .ok (.getfield 162, 3) := by decide +kernel
theorem dX10_yarn_104 : decode cX10_yarn 104 = .ok (.bipush 9, 2) := by decide +kernel
theorem dX10_yarn_106 : decode cX10_yarn 106 = .ok (.iload_n 1, 1) := by decide +kernel
theorem dX10_yarn_107 : decode cX10_yarn 107 = .ok (.iadd, 1) := by decide +kernel
theorem dX10_yarn_108 : decode cX10_yarn 108 = .ok (.iaload, 1) := by decide +kernel
theorem dX10_yarn_109 : decode cX10_yarn 109 = .ok (.ireturn, 1) := by decide +kernel
theorem dX10_yarn_110 : decode cX10_yarn 110 = .ok (.aload_n 0, 1) := by decide +kernel
theorem dX10_yarn_111 : decode cX10_yarn 111 = .ok (.getfield 26, 3) := by decide +kernel
theorem dX10_yarn_114 : decode cX10_yarn 114 = .ok (.getfield 162, 3) := by decide +kernel
theorem dX10_yarn_117 : decode cX10_yarn 117 = .ok (.bipush 18, 2) := by decide +kernel
theorem dX10_yarn_119 : decode cX10_yarn 119 = .ok (.iload_n 1, 1) := by decide +kernel
theorem dX10_yarn_120 : decode cX10_yarn 120 = .ok (.iadd, 1) := by decide +kernel
theorem dX10_yarn_121 : decode cX10_yarn 121 = .ok (.iaload, 1) := by decide +kernel
theorem dX10_yarn_122 : decode cX10_yarn 122 = .ok (.ireturn, 1) := by decide +kernel
theorem dX10_yarn_123 : decode cX10_yarn 123 = .ok (.aload_n 0, 1) := by decide +kernel
theorem dX10_yarn_124 : decode cX10_yarn 124 = .ok (.getfield 26, 3) := by decide +kernel
theorem dX10_yarn_127 : decode cX10_yarn 127 = .ok (.getfield 162, 3) := by decide +kernel
theorem dX10_yarn_130 : decode cX10_yarn 130 = .ok (.bipush 27, 2) := by decide +kernel
theorem dX10_yarn_132 : decode cX10_yarn 132 = .ok (.iload_n 1, 1) := by decide +kernel
theorem dX10_yarn_133 : decode cX10_yarn 133 = .ok (.iadd, 1) := by decide +kernel
theorem dX10_yarn_134 : decode cX10_yarn 134 = .ok (.iaload, 1) := by decide +kernel
theorem dX10_yarn_135 : decode cX10_yarn 135 = .ok (.ireturn, 1) := by decide +kernel
theorem dX10_yarn_136 : decode cX10_yarn 136 = .ok (.ldc 83, 2) := by decide +kernel
theorem dX10_yarn_138 : decode cX10_yarn 138 = .ok (.ireturn, 1) := by decide +kernel
theorem dX10_bears_0 : decode cX10_bears 0 = .ok (.aload_n 0, 1) := by decide +kernel
theorem dX10_bears_1 : decode cX10_bears 1 = .ok (.getfield 26, 3) := by decide +kernel
theorem dX10_bears_4 : decode cX10_bears 4 = .ok (.getfield 170, 3) := by decide +kernel
theorem dX10_bears_7 : decode cX10_bears 7 = .ok (.ifCond .ne 6, 3) := by decide +kernel
theorem dX10_bears_10 : decode cX10_bears 10 = .ok (.ldc 166, 2) := by decide +kernel
theorem dX10_bears_12 : decode cX10_bears 12 = .ok (.ireturn, 1) := by decide +kernel
theorem dX10_bears_13 : decode cX10_bears 13 = .ok (.iload_n 1, 1) := by decide +kernel
theorem dX10_bears_14 : decode cX10_bears 14 = .ok (.ifCond .lt 8, 3) := by decide +kernel
theorem dX10_bears_17 : decode cX10_bears 17 = .ok (.iload_n 1, 1) := by decide +kernel
theorem dX10_bears_18 : decode cX10_bears 18 = .ok (.iconst 3, 1) := by decide +kernel
theorem dX10_bears_19 : decode cX10_bears 19 = .ok (.if_icmp .le 6, 3) := by decide +kernel
theorem dX10_bears_22 : decode cX10_bears 22 = .ok (.ldc 83, 2) := by decide +kernel
theorem dX10_bears_24 : decode cX10_bears 24 = .ok (.ireturn, 1) := by decide +kernel
theorem dX10_bears_25 : decode cX10_bears 25 = .ok (.iload_n 1, 1) := by decide +kernel
theorem dX10_bears_26 : decode cX10_bears 26 = .ok (.iconst 3, 1) := by decide +kernel
theorem dX10_bears_27 : decode cX10_bears 27 = .ok (.if_icmp .ne 13, 3) := by decide +kernel
theorem dX10_bears_30 : decode cX10_bears 30 = .ok (.aload_n 0, 1) := by decide +kernel
theorem dX10_bears_31 : decode cX10_bears 31 = .ok (.getfield 26, 3) := by decide +kernel
theorem dX10_bears_34 : decode cX10_bears 34 = .ok (.invokevirtual 183, 3) := by decide +kernel
theorem dX10_bears_37 : decode cX10_bears 37 = .ok (.goto 11, 3) := by decide +kernel
theorem dX10_bears_40 : decode cX10_bears 40 = .ok (.aload_n 0, 1) := by decide +kernel
theorem dX10_bears_41 : decode cX10_bears 41 = .ok (.getfield 26, 3) := by decide +kernel
theorem dX10_bears_44 : decode cX10_bears 44 = .ok (.iload_n 1, 1) := by decide +kernel
theorem dX10_bears_45 : decode cX10_bears 45 = .ok (.invokevirtual 220, 3) := by decide +kernel
theorem dX10_bears_48 : decode cX10_bears 48 = .ok (.ireturn, 1) := by decide +kernel
theorem dX10_best_0 : decode cX10_best 0 = .ok (.aload_n 0, 1) := by decide +kernel
theorem dX10_best_1 : decode cX10_best 1 = .ok (.getfield 26, 3) := by decide +kernel
theorem dX10_best_4 : decode cX10_best 4 = .ok (.getfield 170, 3) := by decide +kernel
theorem dX10_best_7 : decode cX10_best 7 = .ok (.ifCond .ne 6, 3) := by decide +kernel
theorem dX10_best_10 : decode cX10_best 10 = .ok (.ldc 166, 2) := by decide +kernel
theorem dX10_best_12 : decode cX10_best 12 = .ok (.ireturn, 1) := by decide +kernel
theorem dX10_best_13 : decode cX10_best 13 = .ok (.iload_n 1, 1) := by decide +kernel
theorem dX10_best_14 : decode cX10_best 14 = .ok (.iconst (-1), 1) := by decide +kernel
theorem dX10_best_15 : decode cX10_best 15 = .ok (.if_icmp .eq 17, 3) := by decide +kernel
theorem dX10_best_18 : decode cX10_best 18 = .ok (.aload_n 0, 1) := by decide +kernel
theorem dX10_best_19 : decode cX10_best 19 = .ok (.getfield 26, 3) := by decide +kernel
theorem dX10_best_22 : decode cX10_best 22 = .ok (.iload_n 1, 1) := by decide +kernel
theorem dX10_best_23 : decode cX10_best 23 = .ok (.invokevirtual 156, 3) := by decide +kernel
theorem dX10_best_26 : decode cX10_best 26 = .ok (.ifCond .ne 6, 3) := by decide +kernel
theorem dX10_best_29 : decode cX10_best 29 = .ok (.ldc 83, 2) := by decide +kernel
theorem dX10_best_31 : decode cX10_best 31 = .ok (.ireturn, 1) := by decide +kernel
theorem dX10_best_32 : decode cX10_best 32 = .ok (.aload_n 0, 1) := by decide +kernel
theorem dX10_best_33 : decode cX10_best 33 = .ok (.getfield 47, 3) := by decide +kernel
theorem dX10_best_36 : decode cX10_best 36 = .ok (.aload_n 0, 1) := by decide +kernel
theorem dX10_best_37 : decode cX10_best 37 = .ok (.getfield 26, 3) := by decide +kernel
theorem dX10_best_40 : decode cX10_best 40 = .ok (.invokevirtual 223, 3) := by decide +kernel
theorem dX10_best_43 : decode cX10_best 43 = .ok (.iload_n 1, 1) := by decide +kernel
theorem dX10_best_44 : decode cX10_best 44 = .ok (.iconst (-1), 1) := by decide +kernel
theorem dX10_best_45 : decode cX10_best 45 = .ok (.if_icmp .ne 15, 3) := by decide +kernel
theorem dX10_best_48 : decode cX10_best 48 = .ok (.iconst 3, 1) := by decide +kernel
theorem dX10_best_49 : decode cX10_best 49 = .ok (.aload_n 0, 1) := by decide +kernel
theorem dX10_best_50 : decode cX10_best 50 = .ok (.getfield 47, 3) := by decide +kernel
theorem dX10_best_53 : decode cX10_best 53 = .ok (.getfield 226, 3) := by decide +kernel
theorem dX10_best_56 : decode cX10_best 56 = .ok (.imul, 1) := by decide +kernel
theorem dX10_best_57 : decode cX10_best 57 = .ok (.goto 12, 3) := by decide +kernel
theorem dX10_best_60 : decode cX10_best 60 = .ok (.aload_n 0, 1) := by decide +kernel
theorem dX10_best_61 : decode cX10_best 61 = .ok (.getfield 47, 3) := by decide +kernel
theorem dX10_best_64 : decode cX10_best 64 = .ok (.getfield 229, 3) := by decide +kernel
theorem dX10_best_67 : decode cX10_best 67 = .ok (.iload_n 1, 1) := by decide +kernel
theorem dX10_best_68 : decode cX10_best 68 = .ok (.iaload, 1) := by decide +kernel
theorem dX10_best_69 : decode cX10_best 69 = .ok (.ireturn, 1) := by decide +kernel
theorem dX10_cheapest_0 : decode cX10_cheapest 0 = .ok (.aload_n 0, 1) := by decide +kernel
theorem dX10_cheapest_1 : decode cX10_cheapest 1 = .ok (.getfield 26, 3) := by decide +kernel
theorem dX10_cheapest_4 : decode cX10_cheapest 4 = .ok (.getfield 170, 3) := by decide +kernel
theorem dX10_cheapest_7 : decode cX10_cheapest 7 = .ok (.ifCond .ne 6, 3) := by decide +kernel
theorem dX10_cheapest_10 : decode cX10_cheapest 10 = .ok (.ldc 166, 2) := by decide +kernel
theorem dX10_cheapest_12 : decode cX10_cheapest 12 = .ok (.ireturn, 1) := by decide +kernel
theorem dX10_cheapest_13 : decode cX10_cheapest 13 = .ok (.iload_n 1, 1) := by decide +kernel
theorem dX10_cheapest_14 : decode cX10_cheapest 14 = .ok (.invokestatic 174, 3) := by decide +kernel
theorem dX10_cheapest_17 : decode cX10_cheapest 17 = .ok (.ifCond .eq 12, 3) := by decide +kernel
theorem dX10_cheapest_20 : decode cX10_cheapest 20 = .ok (.iload_n 2, 1) := by decide +kernel
theorem dX10_cheapest_21 : decode cX10_cheapest 21 = .ok (.ifCond .lt 8, 3) := by decide +kernel
theorem dX10_cheapest_24 : decode cX10_cheapest 24 = .ok (.iload_n 2, 1) := by decide +kernel
theorem dX10_cheapest_25 : decode cX10_cheapest 25 = .ok (.iconst 1, 1) := by decide +kernel
theorem dX10_cheapest_26 : decode cX10_cheapest 26 = .ok (.if_icmp .le 6, 3) := by decide +kernel
theorem dX10_cheapest_29 : decode cX10_cheapest 29 = .ok (.ldc 83, 2) := by decide +kernel
theorem dX10_cheapest_31 : decode cX10_cheapest 31 = .ok (.ireturn, 1) := by decide +kernel
theorem dX10_cheapest_32 : decode cX10_cheapest 32 = .ok (.aload_n 0, 1) := by decide +kernel
theorem dX10_cheapest_33 : decode cX10_cheapest 33 = .ok (.getfield 54, 3) := by decide +kernel
theorem dX10_cheapest_36 : decode cX10_cheapest 36 = .ok (.aload_n 0, 1) := by decide +kernel
theorem dX10_cheapest_37 : decode cX10_cheapest 37 = .ok (.getfield 26, 3) := by decide +kernel
theorem dX10_cheapest_40 : decode cX10_cheapest 40 = .ok (.iload_n 1, 1) := by decide +kernel
theorem dX10_cheapest_41 : decode cX10_cheapest 41 = .ok (.invokevirtual 232, 3) := by decide +kernel
theorem dX10_cheapest_44 : decode cX10_cheapest 44 = .ok (.istore_n 3, 1) := by decide +kernel
theorem dX10_cheapest_45 : decode cX10_cheapest 45 = .ok (.iload_n 3, 1) := by decide +kernel
theorem dX10_cheapest_46 : decode cX10_cheapest 46 = .ok (.ifCond .ge 6, 3) := by decide +kernel
theorem dX10_cheapest_49 : decode cX10_cheapest 49 = .ok (.ldc 196, 2) := by decide +kernel
theorem dX10_cheapest_51 : decode cX10_cheapest 51 = .ok (.ireturn, 1) := by decide +kernel
theorem dX10_cheapest_52 : decode cX10_cheapest 52 = .ok (.iload_n 2, 1) := by decide +kernel
theorem dX10_cheapest_53 : decode cX10_cheapest 53 = .ok (.ifCond .ne 14, 3) := by decide +kernel
theorem dX10_cheapest_56 : decode cX10_cheapest 56 = .ok (.aload_n 0, 1) := by decide +kernel
theorem dX10_cheapest_57 : decode cX10_cheapest 57 = .ok (.getfield 26, 3) := by decide +kernel
theorem dX10_cheapest_60 : decode cX10_cheapest 60 = .ok (.iload_n 3, 1) := by decide +kernel
theorem dX10_cheapest_61 : decode cX10_cheapest 61 = .ok (.invokevirtual 235, 3) := by decide +kernel
theorem dX10_cheapest_64 : decode cX10_cheapest 64 = .ok (.goto 4, 3) := by decide +kernel
theorem dX10_cheapest_67 : decode cX10_cheapest 67 = .ok (.iload_n 3, 1) := by decide +kernel
theorem dX10_cheapest_68 : decode cX10_cheapest 68 = .ok (.ireturn, 1) := by decide +kernel
theorem dX10_odds_0 : decode cX10_odds 0 = .ok (.aload_n 0, 1) := by decide +kernel
theorem dX10_odds_1 : decode cX10_odds 1 = .ok (.getfield 26, 3) := by decide +kernel
theorem dX10_odds_4 : decode cX10_odds 4 = .ok (.getfield 170, 3) := by decide +kernel
theorem dX10_odds_7 : decode cX10_odds 7 = .ok (.ifCond .ne 6, 3) := by decide +kernel
theorem dX10_odds_10 : decode cX10_odds 10 = .ok (.ldc 166, 2) := by decide +kernel
theorem dX10_odds_12 : decode cX10_odds 12 = .ok (.ireturn, 1) := by decide +kernel
theorem dX10_odds_13 : decode cX10_odds 13 = .ok (.iload_n 1, 1) := by decide +kernel
theorem dX10_odds_14 : decode cX10_odds 14 = .ok (.invokestatic 174, 3) := by decide +kernel
theorem dX10_odds_17 : decode cX10_odds 17 = .ok (.ifCond .eq 12, 3) := by decide +kernel
theorem dX10_odds_20 : decode cX10_odds 20 = .ok (.iload_n 2, 1) := by decide +kernel
theorem dX10_odds_21 : decode cX10_odds 21 = .ok (.ifCond .lt 8, 3) := by decide +kernel
theorem dX10_odds_24 : decode cX10_odds 24 = .ok (.iload_n 2, 1) := by decide +kernel
theorem dX10_odds_25 : decode cX10_odds 25 = .ok (.iconst 1, 1) := by decide +kernel
theorem dX10_odds_26 : decode cX10_odds 26 = .ok (.if_icmp .le 6, 3) := by decide +kernel
theorem dX10_odds_29 : decode cX10_odds 29 = .ok (.ldc 83, 2) := by decide +kernel
theorem dX10_odds_31 : decode cX10_odds 31 = .ok (.ireturn, 1) := by decide +kernel
theorem dX10_odds_32 : decode cX10_odds 32 = .ok (.aload_n 0, 1) := by decide +kernel
theorem dX10_odds_33 : decode cX10_odds 33 = .ok (.getfield 61, 3) := by decide +kernel
theorem dX10_odds_36 : decode cX10_odds 36 = .ok (.aload_n 0, 1) := by decide +kernel
theorem dX10_odds_37 : decode cX10_odds 37 = .ok (.getfield 26, 3) := by decide +kernel
theorem dX10_odds_40 : decode cX10_odds 40 = .ok (.iload_n 1, 1) := by decide +kernel
theorem dX10_odds_41 : decode cX10_odds 41 = .ok (.invokevirtual 238, 3) := by decide +kernel
theorem dX10_odds_44 : decode cX10_odds 44 = .ok (.iload_n 2, 1) := by decide +kernel
theorem dX10_odds_45 : decode cX10_odds 45 = .ok (.ifCond .ne 13, 3) := by decide +kernel
theorem dX10_odds_48 : decode cX10_odds 48 = .ok (.aload_n 0, 1) := by decide +kernel
theorem dX10_odds_49 : decode cX10_odds 49 = .ok (.getfield 61, 3) := by decide +kernel
theorem dX10_odds_52 : decode cX10_odds 52 = .ok (.getfield 242, 3) := by decide +kernel
theorem dX10_odds_55 : decode cX10_odds 55 = .ok (.goto 10, 3) := by decide +kernel
theorem dX10_odds_58 : decode cX10_odds 58 = .ok (.aload_n 0, 1) := by decide +kernel
theorem dX10_odds_59 : decode cX10_odds 59 = .ok (.getfield 61, 3) := by decide +kernel
theorem dX10_odds_62 : decode cX10_odds 62 = .ok (.getfield 245, 3) := by decide +kernel
theorem dX10_odds_65 : decode cX10_odds 65 = .ok (.ireturn, 1) := by decide +kernel
theorem dX10_risk_0 : decode cX10_risk 0 = .ok (.aload_n 0, 1) := by decide +kernel
theorem dX10_risk_1 : decode cX10_risk 1 = .ok (.getfield 26, 3) := by decide +kernel
theorem dX10_risk_4 : decode cX10_risk 4 = .ok (.getfield 170, 3) := by decide +kernel
theorem dX10_risk_7 : decode cX10_risk 7 = .ok (.ifCond .ne 6, 3) := by decide +kernel
theorem dX10_risk_10 : decode cX10_risk 10 = .ok (.ldc 166, 2) := by decide +kernel
theorem dX10_risk_12 : decode cX10_risk 12 = .ok (.ireturn, 1) := by decide +kernel
theorem dX10_risk_13 : decode cX10_risk 13 = .ok (.aload_n 0, 1) := by decide +kernel
theorem dX10_risk_14 : decode cX10_risk 14 = .ok (.getfield 10, 3) := by decide +kernel
theorem dX10_risk_17 : decode cX10_risk 17 = .ok (.iload_n 1, 1) := by decide +kernel
theorem dX10_risk_18 : decode cX10_risk 18 = .ok (.invokevirtual 79, 3) := by decide +kernel
theorem dX10_risk_21 : decode cX10_risk 21 = .ok (.ifCond .eq 14, 3) := by decide +kernel
theorem dX10_risk_24 : decode cX10_risk 24 = .ok (.iload_n 3, 1) := by decide +kernel
theorem dX10_risk_25 : decode cX10_risk 25 = .ok (.iconst 1, 1) := by decide +kernel
theorem dX10_risk_26 : decode cX10_risk 26 = .ok (.if_icmp .lt 9, 3) := by decide +kernel
theorem dX10_risk_29 : decode cX10_risk 29 = .ok (.iload_n 3, 1) := by decide +kernel
theorem dX10_risk_30 : decode cX10_risk 30 = .ok (.bipush 40, 2) := by decide +kernel
theorem dX10_risk_32 : decode cX10_risk 32 = .ok (.if_icmp .le 6, 3) := by decide +kernel
theorem dX10_risk_35 : decode cX10_risk 35 = .ok (.ldc 83, 2) := by decide +kernel
theorem dX10_risk_37 : decode cX10_risk 37 = .ok (.ireturn, 1) := by decide +kernel
theorem dX10_risk_38 : decode cX10_risk 38 = .ok (.aload_n 0, 1) := by decide +kernel
theorem dX10_risk_39 : decode cX10_risk 39 = .ok (.getfield 10, 3) := by decide +kernel
theorem dX10_risk_42 : decode cX10_risk 42 = .ok (.iload_n 1, 1) := by decide +kernel
theorem dX10_risk_43 : decode cX10_risk 43 = .ok (.invokevirtual 95, 3) := by decide +kernel
theorem dX10_risk_46 : decode cX10_risk 46 = .ok (.ifCond .eq 9, 3) := by decide +kernel
theorem dX10_risk_49 : decode cX10_risk 49 = .ok (.aload_n 0, 1) := by decide +kernel
theorem dX10_risk_50 : decode cX10_risk 50 = .ok (.iconst 1, 1) := by decide +kernel
theorem dX10_risk_51 : decode cX10_risk 51 = .ok (.invokevirtual 84, 3) := by decide +kernel
theorem dX10_risk_54 : decode cX10_risk 54 = .ok (.ireturn, 1) := by decide +kernel
theorem dX10_risk_55 : decode cX10_risk 55 = .ok (.aload_n 0, 1) := by decide +kernel
theorem dX10_risk_56 : decode cX10_risk 56 = .ok (.getfield 10, 3) := by decide +kernel
theorem dX10_risk_59 : decode cX10_risk 59 = .ok (.iload_n 1, 1) := by decide +kernel
theorem dX10_risk_60 : decode cX10_risk 60 = .ok (.iload_n 2, 1) := by decide +kernel
theorem dX10_risk_61 : decode cX10_risk 61 = .ok (.iload_n 3, 1) := by decide +kernel
theorem dX10_risk_62 : decode cX10_risk 62 = .ok (.invokevirtual 98, 3) := by decide +kernel
theorem dX10_risk_65 : decode cX10_risk 65 = .ok (.ifCond .ne 9, 3) := by decide +kernel
theorem dX10_risk_68 : decode cX10_risk 68 = .ok (.aload_n 0, 1) := by decide +kernel
theorem dX10_risk_69 : decode cX10_risk 69 = .ok (.iconst 2, 1) := by decide +kernel
theorem dX10_risk_70 : decode cX10_risk 70 = .ok (.invokevirtual 84, 3) := by decide +kernel
theorem dX10_risk_73 : decode cX10_risk 73 = .ok (.ireturn, 1) := by decide +kernel
theorem dX10_risk_74 : decode cX10_risk 74 = .ok (.aload_n 0, 1) := by decide +kernel
theorem dX10_risk_75 : decode cX10_risk 75 = .ok (.getfield 10, 3) := by decide +kernel
theorem dX10_risk_78 : decode cX10_risk 78 = .ok (.iload_n 1, 1) := by decide +kernel
theorem dX10_risk_79 : decode cX10_risk 79 = .ok (.iload_n 2, 1) := by decide +kernel
theorem dX10_risk_80 : decode cX10_risk 80 = .ok (.iload_n 3, 1) := by decide +kernel
theorem dX10_risk_81 : decode cX10_risk 81 = .ok (.invokevirtual 248, 3) := by decide +kernel
theorem dX10_risk_84 : decode cX10_risk 84 = .ok (.ifCond .eq 6, 3) := by decide +kernel
theorem dX10_risk_87 : decode cX10_risk 87 = .ok (.ldc 83, 2) := by decide +kernel
theorem dX10_risk_89 : decode cX10_risk 89 = .ok (.ireturn, 1) := by decide +kernel
theorem dX10_risk_90 : decode cX10_risk 90 = .ok (.aload_n 0, 1) := by decide +kernel
theorem dX10_risk_91 : decode cX10_risk 91 = .ok (.aload_n 0, 1) := by decide +kernel
theorem dX10_risk_92 : decode cX10_risk 92 = .ok (.getfield 10, 3) := by decide +kernel
theorem dX10_risk_95 : decode cX10_risk 95 = .ok (.iload_n 1, 1) := by decide +kernel
theorem dX10_risk_96 : decode cX10_risk 96 = .ok (.iload_n 2, 1) := by decide +kernel
theorem dX10_risk_97 : decode cX10_risk 97 = .ok (.iload_n 3, 1) := by decide +kernel
theorem dX10_risk_98 : decode cX10_risk 98 = .ok (.aload_n 0, 1) := by decide +kernel
theorem dX10_risk_99 : decode cX10_risk 99 = .ok (.getfield 26, 3) := by decide +kernel
theorem dX10_risk_102 : decode cX10_risk 102 = .ok (.invokevirtual 183, 3) := by decide +kernel
theorem dX10_risk_105 : decode cX10_risk 105 = .ok (.invokevirtual 251, 3) := by decide +kernel
theorem dX10_risk_108 : decode cX10_risk 108 = .ok (.invokevirtual 92, 3) := by decide +kernel
theorem dX10_risk_111 : decode cX10_risk 111 = .ok (.ireturn, 1) := by decide +kernel
theorem dX10_whose_0 : decode cX10_whose 0 = .ok (.aload_n 0, 1) := by decide +kernel
theorem dX10_whose_1 : decode cX10_whose 1 = .ok (.getfield 26, 3) := by decide +kernel
theorem dX10_whose_4 : decode cX10_whose 4 = .ok (.getfield 170, 3) := by decide +kernel
theorem dX10_whose_7 : decode cX10_whose 7 = .ok (.ifCond .ne 6, 3) := by decide +kernel
theorem dX10_whose_10 : decode cX10_whose 10 = .ok (.ldc 166, 2) := by decide +kernel
theorem dX10_whose_12 : decode cX10_whose 12 = .ok (.ireturn, 1) := by decide +kernel
theorem dX10_whose_13 : decode cX10_whose 13 = .ok (.iload_n 1, 1) := by decide +kernel
theorem dX10_whose_14 : decode cX10_whose 14 = .ok (.invokestatic 174, 3) := by decide +kernel
theorem dX10_whose_17 : decode cX10_whose 17 = .ok (.ifCond .eq 15, 3) := by decide +kernel
theorem dX10_whose_20 : decode cX10_whose 20 = .ok (.iload_n 2, 1) := by decide +kernel
theorem dX10_whose_21 : decode cX10_whose 21 = .ok (.invokestatic 174, 3) := by decide +kernel
theorem dX10_whose_24 : decode cX10_whose 24 = .ok (.ifCond .eq 8, 3) := by decide +kernel
theorem dX10_whose_27 : decode cX10_whose 27 = .ok (.iload_n 2, 1) := by decide +kernel
theorem dX10_whose_28 : decode cX10_whose 28 = .ok (.iload_n 1, 1) := by decide +kernel
theorem dX10_whose_29 : decode cX10_whose 29 = .ok (.if_icmp .gt 6, 3) := by decide +kernel
theorem dX10_whose_32 : decode cX10_whose 32 = .ok (.ldc 83, 2) := by decide +kernel
theorem dX10_whose_34 : decode cX10_whose 34 = .ok (.ireturn, 1) := by decide +kernel
theorem dX10_whose_35 : decode cX10_whose 35 = .ok (.iconst 0, 1) := by decide +kernel
theorem dX10_whose_36 : decode cX10_whose 36 = .ok (.istore_n 3, 1) := by decide +kernel
theorem dX10_whose_37 : decode cX10_whose 37 = .ok (.iconst 0, 1) := by decide +kernel
theorem dX10_whose_38 : decode cX10_whose 38 = .ok (.istore 4, 2) := by decide +kernel
theorem dX10_whose_40 : decode cX10_whose 40 = .ok (.iload 4, 2) := by decide +kernel
theorem dX10_whose_42 : decode cX10_whose 42 = .ok (.aload_n 0, 1) := by decide +kernel
theorem dX10_whose_43 : decode cX10_whose 43 = .ok (.getfield 26, 3) := by decide +kernel
theorem dX10_whose_46 : decode cX10_whose 46 = .ok (.getfield 153, 3) := by decide +kernel
theorem dX10_whose_49 : decode cX10_whose 49 = .ok (.if_icmp .ge 72, 3) := by decide +kernel
theorem dX10_whose_52 : decode cX10_whose 52 = .ok (.aload_n 0, 1) := by decide +kernel
theorem dX10_whose_53 : decode cX10_whose 53 = .ok (.getfield 26, 3) := by decide +kernel
theorem dX10_whose_56 : decode cX10_whose 56 = .ok (.iload 4, 2) := by decide +kernel
theorem dX10_whose_58 : decode cX10_whose 58 = .ok (.invokevirtual 255, 3) := by decide +kernel
theorem dX10_whose_61 : decode cX10_whose 61 = .ok (.ifCond .eq 54, 3) := by decide +kernel
theorem dX10_whose_64 : decode cX10_whose 64 = .ok (.aload_n 0, 1) := by decide +kernel
theorem dX10_whose_65 : decode cX10_whose 65 = .ok (.getfield 26, 3) := by decide +kernel
theorem dX10_whose_68 : decode cX10_whose 68 = .ok (.getfield 162, 3) := by decide +kernel
theorem dX10_whose_71 : decode cX10_whose 71 = .ok (.bipush 9, 2) := by decide +kernel
theorem dX10_whose_73 : decode cX10_whose 73 = .ok (.iload 4, 2) := by decide +kernel
theorem dX10_whose_75 : decode cX10_whose 75 = .ok (.iadd, 1) := by decide +kernel
theorem dX10_whose_76 : decode cX10_whose 76 = .ok (.iaload, 1) := by decide +kernel
theorem dX10_whose_77 : decode cX10_whose 77 = .ok (.iconst 2, 1) := by decide +kernel
theorem dX10_whose_78 : decode cX10_whose 78 = .ok (.if_icmp .eq 37, 3) := by decide +kernel
theorem dX10_whose_81 : decode cX10_whose 81 = .ok (.aload_n 0, 1) := by decide +kernel
theorem dX10_whose_82 : decode cX10_whose 82 = .ok (.getfield 26, 3) := by decide +kernel
theorem dX10_whose_85 : decode cX10_whose 85 = .ok (.iload 4, 2) := by decide +kernel
theorem dX10_whose_87 : decode cX10_whose 87 = .ok (.invokevirtual 258, 3) := by decide +kernel
theorem dX10_whose_90 : decode cX10_whose 90 = .ok (.istore 5, 2) := by decide +kernel
theorem dX10_whose_92 : decode cX10_whose 92 = .ok (.iload_n 3, 1) := by decide +kernel
theorem dX10_whose_93 : decode cX10_whose 93 = .ok (.iload 5, 2) := by decide +kernel
theorem dX10_whose_95 : decode cX10_whose 95 = .ok (.iload_n 1, 1) := by decide +kernel
theorem dX10_whose_96 : decode cX10_whose 96 = .ok (.if_icmp .lt 16, 3) := by decide +kernel
theorem dX10_whose_99 : decode cX10_whose 99 = .ok (.iload 5, 2) := by decide +kernel
theorem dX10_whose_101 : decode cX10_whose 101 = .ok (.iload_n 2, 1) := by decide +kernel
theorem dX10_whose_102 : decode cX10_whose 102 = .ok (.if_icmp .ge 10, 3) := by decide +kernel
theorem dX10_whose_105 : decode cX10_whose 105 = .ok (.iconst 1, 1) := by decide +kernel
theorem dX10_whose_106 : decode cX10_whose 106 = .ok (.iload 4, 2) := by decide +kernel
theorem dX10_whose_108 : decode cX10_whose 108 = .ok (.ishl, 1) := by decide +kernel
theorem dX10_whose_109 : decode cX10_whose 109 = .ok (.goto 4, 3) := by decide +kernel
theorem dX10_whose_112 : decode cX10_whose 112 = .ok (.iconst 0, 1) := by decide +kernel
theorem dX10_whose_113 : decode cX10_whose 113 = .ok (.ior, 1) := by decide +kernel
theorem dX10_whose_114 : decode cX10_whose 114 = .ok (.istore_n 3, 1) := by decide +kernel
theorem dX10_whose_115 : decode cX10_whose 115 = .ok (.iinc 4 1, 3) := by decide +kernel
theorem dX10_whose_118 : decode cX10_whose 118 = .ok (.goto (-78), 3) := by decide +kernel
theorem dX10_whose_121 : decode cX10_whose 121 = .ok (.iload_n 3, 1) := by decide +kernel
theorem dX10_whose_122 : decode cX10_whose 122 = .ok (.ireturn, 1) := by decide +kernel
theorem dX10_geese_0 : decode cX10_geese 0 = .ok (.aload_n 0, 1) := by decide +kernel
theorem dX10_geese_1 : decode cX10_geese 1 = .ok (.getfield 26, 3) := by decide +kernel
theorem dX10_geese_4 : decode cX10_geese 4 = .ok (.getfield 170, 3) := by decide +kernel
theorem dX10_geese_7 : decode cX10_geese 7 = .ok (.ifCond .ne 6, 3) := by decide +kernel
theorem dX10_geese_10 : decode cX10_geese 10 = .ok (.ldc 166, 2) := by decide +kernel
theorem dX10_geese_12 : decode cX10_geese 12 = .ok (.ireturn, 1) := by decide +kernel
theorem dX10_geese_13 : decode cX10_geese 13 = .ok (.iload_n 1, 1) := by decide +kernel
theorem dX10_geese_14 : decode cX10_geese 14 = .ok (.ifCond .le 16, 3) := by decide +kernel
theorem dX10_geese_17 : decode cX10_geese 17 = .ok (.iload_n 1, 1) := by decide +kernel
theorem dX10_geese_18 : decode cX10_geese 18 = .ok (.iconst 1, 1) := by decide +kernel
theorem dX10_geese_19 : decode cX10_geese 19 = .ok (.aload_n 0, 1) := by decide +kernel
theorem dX10_geese_20 : decode cX10_geese 20 = .ok (.getfield 26, 3) := by decide +kernel
theorem dX10_geese_23 : decode cX10_geese 23 = .ok (.getfield 153, 3) := by decide +kernel
theorem dX10_geese_26 : decode cX10_geese 26 = .ok (.ishl, 1) := by decide +kernel
theorem dX10_geese_27 : decode cX10_geese 27 = .ok (.if_icmp .lt 6, 3) := by decide +kernel
theorem dX10_geese_30 : decode cX10_geese 30 = .ok (.ldc 83, 2) := by decide +kernel
theorem dX10_geese_32 : decode cX10_geese 32 = .ok (.ireturn, 1) := by decide +kernel
theorem dX10_geese_33 : decode cX10_geese 33 = .ok (.iconst 0, 1) := by decide +kernel
theorem dX10_geese_34 : decode cX10_geese 34 = .ok (.istore_n 2, 1) := by decide +kernel
theorem dX10_geese_35 : decode cX10_geese 35 = .ok (.iload_n 2, 1) := by decide +kernel
theorem dX10_geese_36 : decode cX10_geese 36 = .ok (.bipush 9, 2) := by decide +kernel
theorem dX10_geese_38 : decode cX10_geese 38 = .ok (.if_icmp .ge 19, 3) := by decide +kernel
theorem dX10_geese_41 : decode cX10_geese 41 = .ok (.iconst 1, 1) := by decide +kernel
theorem dX10_geese_42 : decode cX10_geese 42 = .ok (.iload_n 2, 1) := by decide +kernel
theorem dX10_geese_43 : decode cX10_geese 43 = .ok (.ishl, 1) := by decide +kernel
theorem dX10_geese_44 : decode cX10_geese 44 = .ok (.iload_n 1, 1) := by decide +kernel
theorem dX10_geese_45 : decode cX10_geese 45 = .ok (.invokestatic 261, 3) := by decide +kernel
theorem dX10_geese_48 : decode cX10_geese 48 = .ok (.if_icmp .ge 9, 3) := by decide +kernel
theorem dX10_geese_51 : decode cX10_geese 51 = .ok (.iinc 2 1, 3) := by decide +kernel
theorem dX10_geese_54 : decode cX10_geese 54 = .ok (.goto (-19), 3) := by decide +kernel
theorem dX10_geese_57 : decode cX10_geese 57 = .ok (.iload_n 2, 1) := by decide +kernel
theorem dX10_geese_58 : decode cX10_geese 58 = .ok (.ireturn, 1) := by decide +kernel
theorem dX10_fathoms_0 : decode cX10_fathoms 0 = .ok (.iload_n 1, 1) := by decide +kernel
theorem dX10_fathoms_1 : decode cX10_fathoms 1 = .ok (.ifCond .lt 14, 3) := by decide +kernel
theorem dX10_fathoms_4 : decode cX10_fathoms 4 = .ok (.iload_n 1, 1) := by decide +kernel
theorem dX10_fathoms_5 : decode cX10_fathoms 5 = .ok (.aload_n 0, 1) := by decide +kernel
theorem dX10_fathoms_6 : decode cX10_fathoms 6 = .ok (.getfield 26, 3) := by decide +kernel
theorem dX10_fathoms_9 : decode cX10_fathoms 9 = .ok (.getfield 266, 3) := by decide +kernel
theorem dX10_fathoms_12 : decode cX10_fathoms 12 = .ok (.if_icmp .lt 6, 3) := by decide +kernel
theorem dX10_fathoms_15 : decode cX10_fathoms 15 = .ok (.ldc 83, 2) := by decide +kernel
theorem dX10_fathoms_17 : decode cX10_fathoms 17 = .ok (.ireturn, 1) := by decide +kernel
theorem dX10_fathoms_18 : decode cX10_fathoms 18 = .ok (.iconst 0, 1) := by decide +kernel
theorem dX10_fathoms_19 : decode cX10_fathoms 19 = .ok (.istore_n 2, 1) := by decide +kernel
theorem dX10_fathoms_20 : decode cX10_fathoms 20 = .ok (.iconst 0, 1) := by decide +kernel
theorem dX10_fathoms_21 : decode cX10_fathoms 21 = .ok (.istore_n 3, 1) := by decide +kernel
theorem dX10_fathoms_22 : decode cX10_fathoms 22 = .ok (.iload_n 3, 1) := by decide +kernel
theorem dX10_fathoms_23 : decode cX10_fathoms 23 = .ok (.aload_n 0, 1) := by decide +kernel
theorem dX10_fathoms_24 : decode cX10_fathoms 24 = .ok (.getfield 26, 3) := by decide +kernel
theorem dX10_fathoms_27 : decode cX10_fathoms 27 = .ok (.getfield 153, 3) := by decide +kernel
theorem dX10_fathoms_30 : decode cX10_fathoms 30 = .ok (.if_icmp .ge 50, 3) := by decide +kernel
theorem dX10_fathoms_33 : decode cX10_fathoms 33 = .ok (.aload_n 0, 1) := by decide +kernel
theorem dX10_fathoms_34 : decode cX10_fathoms 34 = .ok (.getfield 26, 3) := by decide +kernel
theorem dX10_fathoms_37 : decode cX10_fathoms 37 = .ok (.getfield 214, 3) := by decide +kernel
theorem dX10_fathoms_40 : decode cX10_fathoms 40 = .ok (.iload_n 3, 1) := by decide +kernel
theorem dX10_fathoms_41 : decode cX10_fathoms 41 = .ok (.iaload, 1) := by decide +kernel
theorem dX10_fathoms_42 : decode cX10_fathoms 42 = .ok (.iload_n 1, 1) := by decide +kernel
theorem dX10_fathoms_43 : decode cX10_fathoms 43 = .ok (.if_icmp .ne 31, 3) := by decide +kernel
theorem dX10_fathoms_46 : decode cX10_fathoms 46 = .ok (.aload_n 0, 1) := by decide +kernel
theorem dX10_fathoms_47 : decode cX10_fathoms 47 = .ok (.getfield 26, 3) := by decide +kernel
theorem dX10_fathoms_50 : decode cX10_fathoms 50 = .ok (.getfield 162, 3) := by decide +kernel
theorem dX10_fathoms_53 : decode cX10_fathoms 53 = .ok (.bipush 9, 2) := by decide +kernel
theorem dX10_fathoms_55 : decode cX10_fathoms 55 = .ok (.iload_n 3, 1) := by decide +kernel
theorem dX10_fathoms_56 : decode cX10_fathoms 56 = .ok (.iadd, 1) := by decide +kernel
theorem dX10_fathoms_57 : decode cX10_fathoms 57 = .ok (.iaload, 1) := by decide +kernel
theorem dX10_fathoms_58 : decode cX10_fathoms 58 = .ok (.iconst 1, 1) := by decide +kernel
theorem dX10_fathoms_59 : decode cX10_fathoms 59 = .ok (.if_icmp .ne 15, 3) := by decide +kernel
theorem dX10_fathoms_62 : decode cX10_fathoms 62 = .ok (.iload_n 2, 1) := by decide +kernel
theorem dX10_fathoms_63 : decode cX10_fathoms 63 = .ok (.aload_n 0, 1) := by decide +kernel
theorem dX10_fathoms_64 : decode cX10_fathoms 64 = .ok (.getfield 26, 3) := by decide +kernel
theorem dX10_fathoms_67 : decode cX10_fathoms 67 = .ok (.getfield 217, 3) := by decide +kernel
theorem dX10_fathoms_70 : decode cX10_fathoms 70 = .ok (.iload_n 3, 1) := by decide +kernel
theorem dX10_fathoms_71 : decode cX10_fathoms 71 = .ok (.iaload, 1) := by decide +kernel
theorem dX10_fathoms_72 : decode cX10_fathoms 72 = .ok (.iadd, 1) := by decide +kernel
theorem dX10_fathoms_73 : decode cX10_fathoms 73 = .ok (.istore_n 2, 1) := by decide +kernel
theorem dX10_fathoms_74 : decode cX10_fathoms 74 = .ok (.iinc 3 1, 3) := by decide +kernel
theorem dX10_fathoms_77 : decode cX10_fathoms 77 = .ok (.goto (-55), 3) := by decide +kernel
theorem dX10_fathoms_80 : decode cX10_fathoms 80 = .ok (.iload_n 2, 1) := by decide +kernel
theorem dX10_fathoms_81 : decode cX10_fathoms 81 = .ok (.ireturn, 1) := by decide +kernel
theorem dX10_image_0 : decode cX10_image 0 = .ok (.iload_n 1, 1) := by decide +kernel
theorem dX10_image_1 : decode cX10_image 1 = .ok (.ifCond .lt 8, 3) := by decide +kernel
theorem dX10_image_4 : decode cX10_image 4 = .ok (.iload_n 1, 1) := by decide +kernel
theorem dX10_image_5 : decode cX10_image 5 = .ok (.iconst 2, 1) := by decide +kernel
theorem dX10_image_6 : decode cX10_image 6 = .ok (.if_icmp .lt 6, 3) := by decide +kernel
theorem dX10_image_9 : decode cX10_image 9 = .ok (.ldc 83, 2) := by decide +kernel
theorem dX10_image_11 : decode cX10_image 11 = .ok (.ireturn, 1) := by decide +kernel
theorem dX10_image_12 : decode cX10_image 12 = .ok (.aload_n 0, 1) := by decide +kernel
theorem dX10_image_13 : decode cX10_image 13 = .ok (.getfield 26, 3) := by decide +kernel
theorem dX10_image_16 : decode cX10_image 16 = .ok (.getfield 170, 3) := by decide +kernel
theorem dX10_image_19 : decode cX10_image 19 = .ok (.ifCond .ne 6, 3) := by decide +kernel
theorem dX10_image_22 : decode cX10_image 22 = .ok (.ldc 166, 2) := by decide +kernel
theorem dX10_image_24 : decode cX10_image 24 = .ok (.ireturn, 1) := by decide +kernel
theorem dX10_image_25 : decode cX10_image 25 = .ok (.aload_n 0, 1) := by decide +kernel
theorem dX10_image_26 : decode cX10_image 26 = .ok (.getfield 33, 3) := by decide +kernel
theorem dX10_image_29 : decode cX10_image 29 = .ok (.iload_n 1, 1) := by decide +kernel
theorem dX10_image_30 : decode cX10_image 30 = .ok (.aaload, 1) := by decide +kernel
theorem dX10_image_31 : decode cX10_image 31 = .ok (.astore_n 2, 1) := by decide +kernel
theorem dX10_image_32 : decode cX10_image 32 = .ok (.aload_n 2, 1) := by decide +kernel
theorem dX10_image_33 : decode cX10_image 33 = .ok (.ifnonnull 18, 3) := by decide +kernel
theorem dX10_image_36 : decode cX10_image 36 = .ok (.new 23, 3) := by decide +kernel
theorem dX10_image_39 : decode cX10_image 39 = .ok (.dup, 1) := by decide +kernel
theorem dX10_image_40 : decode cX10_image 40 = .ok (.invokespecial 25, 3) := by decide +kernel
theorem dX10_image_43 : decode cX10_image 43 = .ok (.astore_n 2, 1) := by decide +kernel
theorem dX10_image_44 : decode cX10_image 44 = .ok (.aload_n 0, 1) := by decide +kernel
theorem dX10_image_45 : decode cX10_image 45 = .ok (.getfield 33, 3) := by decide +kernel
theorem dX10_image_48 : decode cX10_image 48 = .ok (.iload_n 1, 1) := by decide +kernel
theorem dX10_image_49 : decode cX10_image 49 = .ok (.aload_n 2, 1) := by decide +kernel
theorem dX10_image_50 : decode cX10_image 50 = .ok (.aastore, 1) := by decide +kernel
theorem dX10_image_51 : decode cX10_image 51 = .ok (.aload_n 2, 1) := by decide +kernel
theorem dX10_image_52 : decode cX10_image 52 = .ok (.aload_n 0, 1) := by decide +kernel
theorem dX10_image_53 : decode cX10_image 53 = .ok (.getfield 26, 3) := by decide +kernel
theorem dX10_image_56 : decode cX10_image 56 = .ok (.invokevirtual 147, 3) := by decide +kernel
theorem dX10_image_59 : decode cX10_image 59 = .ok (.iconst 1, 1) := by decide +kernel
theorem dX10_image_60 : decode cX10_image 60 = .ok (.ireturn, 1) := by decide +kernel
theorem dX10_restore_0 : decode cX10_restore 0 = .ok (.iload_n 1, 1) := by decide +kernel
theorem dX10_restore_1 : decode cX10_restore 1 = .ok (.ifCond .lt 8, 3) := by decide +kernel
theorem dX10_restore_4 : decode cX10_restore 4 = .ok (.iload_n 1, 1) := by decide +kernel
theorem dX10_restore_5 : decode cX10_restore 5 = .ok (.iconst 2, 1) := by decide +kernel
theorem dX10_restore_6 : decode cX10_restore 6 = .ok (.if_icmp .lt 6, 3) := by decide +kernel
theorem dX10_restore_9 : decode cX10_restore 9 = .ok (.ldc 83, 2) := by decide +kernel
theorem dX10_restore_11 : decode cX10_restore 11 = .ok (.ireturn, 1) := by decide +kernel
theorem dX10_restore_12 : decode cX10_restore 12 = .ok (.aload_n 0, 1) := by decide +kernel
theorem dX10_restore_13 : decode cX10_restore 13 = .ok (.getfield 33, 3) := by decide +kernel
theorem dX10_restore_16 : decode cX10_restore 16 = .ok (.iload_n 1, 1) := by decide +kernel
theorem dX10_restore_17 : decode cX10_restore 17 = .ok (.aaload, 1) := by decide +kernel
theorem dX10_restore_18 : decode cX10_restore 18 = .ok (.astore_n 2, 1) := by decide +kernel
theorem dX10_restore_19 : decode cX10_restore 19 = .ok (.aload_n 2, 1) := by decide +kernel
theorem dX10_restore_20 : decode cX10_restore 20 = .ok (.ifnonnull 6, 3) := by decide +kernel
theorem dX10_restore_23 : decode cX10_restore 23 = .ok (.ldc 166, 2) := by decide +kernel
theorem dX10_restore_25 : decode cX10_restore 25 = .ok (.ireturn, 1) := by decide +kernel
theorem dX10_restore_26 : decode cX10_restore 26 = .ok (.aload_n 0, 1) := by decide +kernel
theorem dX10_restore_27 : decode cX10_restore 27 = .ok (.getfield 26, 3) := by decide +kernel
theorem dX10_restore_30 : decode cX10_restore 30 = .ok (.aload_n 2, 1) := by decide +kernel
theorem dX10_restore_31 : decode cX10_restore 31 = .ok (.invokevirtual 147, 3) := by decide +kernel
theorem dX10_restore_34 : decode cX10_restore 34 = .ok (.aload_n 0, 1) := by decide +kernel
theorem dX10_restore_35 : decode cX10_restore 35 = .ok (.getfield 40, 3) := by decide +kernel
theorem dX10_restore_38 : decode cX10_restore 38 = .ok (.invokevirtual 150, 3) := by decide +kernel
theorem dX10_restore_41 : decode cX10_restore 41 = .ok (.iconst 1, 1) := by decide +kernel
theorem dX10_restore_42 : decode cX10_restore 42 = .ok (.ireturn, 1) := by decide +kernel
theorem dX10_kind_0 : decode cX10_kind 0 = .ok (.aload_n 0, 1) := by decide +kernel
theorem dX10_kind_1 : decode cX10_kind 1 = .ok (.getfield 26, 3) := by decide +kernel
theorem dX10_kind_4 : decode cX10_kind 4 = .ok (.iload_n 1, 1) := by decide +kernel
theorem dX10_kind_5 : decode cX10_kind 5 = .ok (.invokevirtual 156, 3) := by decide +kernel
theorem dX10_kind_8 : decode cX10_kind 8 = .ok (.ifCond .eq 15, 3) := by decide +kernel
theorem dX10_kind_11 : decode cX10_kind 11 = .ok (.aload_n 0, 1) := by decide +kernel
theorem dX10_kind_12 : decode cX10_kind 12 = .ok (.getfield 26, 3) := by decide +kernel
theorem dX10_kind_15 : decode cX10_kind 15 = .ok (.getfield 197, 3) := by decide +kernel
theorem dX10_kind_18 : decode cX10_kind 18 = .ok (.iload_n 1, 1) := by decide +kernel
theorem dX10_kind_19 : decode cX10_kind 19 = .ok (.iaload, 1) := by decide +kernel
theorem dX10_kind_20 : decode cX10_kind 20 = .ok (.goto 5, 3) := by decide +kernel
theorem dX10_kind_23 : decode cX10_kind 23 = .ok (.ldc 83, 2) := by decide +kernel
theorem dX10_kind_25 : decode cX10_kind 25 = .ok (.ireturn, 1) := by decide +kernel
theorem dX10_as_0 : decode cX10_as 0 = .ok (.aload_n 0, 1) := by decide +kernel
theorem dX10_as_1 : decode cX10_as 1 = .ok (.getfield 26, 3) := by decide +kernel
theorem dX10_as_4 : decode cX10_as 4 = .ok (.iload_n 1, 1) := by decide +kernel
theorem dX10_as_5 : decode cX10_as 5 = .ok (.invokevirtual 156, 3) := by decide +kernel
theorem dX10_as_8 : decode cX10_as 8 = .ok (.ifCond .eq 12, 3) := by decide +kernel
theorem dX10_as_11 : decode cX10_as 11 = .ok (.iload_n 2, 1) := by decide +kernel
theorem dX10_as_12 : decode cX10_as 12 = .ok (.ifCond .lt 8, 3) := by decide +kernel
theorem dX10_as_15 : decode cX10_as 15 = .ok (.iload_n 2, 1) := by decide +kernel
theorem dX10_as_16 : decode cX10_as 16 = .ok (.iconst 5, 1) := by decide +kernel
theorem dX10_as_17 : decode cX10_as 17 = .ok (.if_icmp .le 6, 3) := by decide +kernel
theorem dX10_as_20 : decode cX10_as 20 = .ok (.ldc 83, 2) := by decide +kernel
theorem dX10_as_22 : decode cX10_as 22 = .ok (.ireturn, 1) := by decide +kernel
theorem dX10_as_23 : decode cX10_as 23 = .ok (.aload_n 0, 1) := by decide +kernel
theorem dX10_as_24 : decode cX10_as 24 = .ok (.getfield 26, 3) := by decide +kernel
theorem dX10_as_27 : decode cX10_as 27 = .ok (.getfield 197, 3) := by decide +kernel
theorem dX10_as_30 : decode cX10_as 30 = .ok (.iload_n 1, 1) := by decide +kernel
theorem dX10_as_31 : decode cX10_as 31 = .ok (.iaload, 1) := by decide +kernel
theorem dX10_as_32 : decode cX10_as 32 = .ok (.iload_n 2, 1) := by decide +kernel
theorem dX10_as_33 : decode cX10_as 33 = .ok (.invokestatic 269, 3) := by decide +kernel
theorem dX10_as_36 : decode cX10_as 36 = .ok (.ifCond .eq 11, 3) := by decide +kernel
theorem dX10_as_39 : decode cX10_as 39 = .ok (.aload_n 0, 1) := by decide +kernel
theorem dX10_as_40 : decode cX10_as 40 = .ok (.iload_n 1, 1) := by decide +kernel
theorem dX10_as_41 : decode cX10_as 41 = .ok (.invokevirtual 92, 3) := by decide +kernel
theorem dX10_as_44 : decode cX10_as 44 = .ok (.goto 8, 3) := by decide +kernel
theorem dX10_as_47 : decode cX10_as 47 = .ok (.aload_n 0, 1) := by decide +kernel
theorem dX10_as_48 : decode cX10_as 48 = .ok (.iconst 3, 1) := by decide +kernel
theorem dX10_as_49 : decode cX10_as 49 = .ok (.invokevirtual 84, 3) := by decide +kernel
theorem dX10_as_52 : decode cX10_as 52 = .ok (.ireturn, 1) := by decide +kernel
theorem dX10_ask_0 : decode cX10_ask 0 = .ok (.aload_n 0, 1) := by decide +kernel
theorem dX10_ask_1 : decode cX10_ask 1 = .ok (.getfield 26, 3) := by decide +kernel
theorem dX10_ask_4 : decode cX10_ask 4 = .ok (.iload_n 1, 1) := by decide +kernel
theorem dX10_ask_5 : decode cX10_ask 5 = .ok (.invokevirtual 156, 3) := by decide +kernel
theorem dX10_ask_8 : decode cX10_ask 8 = .ok (.ifCond .eq 12, 3) := by decide +kernel
theorem dX10_ask_11 : decode cX10_ask 11 = .ok (.iload_n 2, 1) := by decide +kernel
theorem dX10_ask_12 : decode cX10_ask 12 = .ok (.ifCond .lt 8, 3) := by decide +kernel
theorem dX10_ask_15 : decode cX10_ask 15 = .ok (.iload_n 2, 1) := by decide +kernel
theorem dX10_ask_16 : decode cX10_ask 16 = .ok (.iconst 1, 1) := by decide +kernel
theorem dX10_ask_17 : decode cX10_ask 17 = .ok (.if_icmp .le 6, 3) := by decide +kernel
theorem dX10_ask_20 : decode cX10_ask 20 = .ok (.ldc 83, 2) := by decide +kernel
theorem dX10_ask_22 : decode cX10_ask 22 = .ok (.ireturn, 1) := by decide +kernel
theorem dX10_ask_23 : decode cX10_ask 23 = .ok (.aload_n 0, 1) := by decide +kernel
theorem dX10_ask_24 : decode cX10_ask 24 = .ok (.getfield 68, 3) := by decide +kernel
theorem dX10_ask_27 : decode cX10_ask 27 = .ok (.aload_n 0, 1) := by decide +kernel
theorem dX10_ask_28 : decode cX10_ask 28 = .ok (.getfield 26, 3) := by decide +kernel
theorem dX10_ask_31 : decode cX10_ask 31 = .ok (.iload_n 1, 1) := by decide +kernel
theorem dX10_ask_32 : decode cX10_ask 32 = .ok (.iload_n 2, 1) := by decide +kernel
theorem dX10_ask_33 : decode cX10_ask 33 = .ok (.invokevirtual 273, 3) := by decide +kernel
theorem dX10_ask_36 : decode cX10_ask 36 = .ok (.ireturn, 1) := by decide +kernel
theorem dX10_trace_0 : decode cX10_trace 0 = .ok (.iload_n 1, 1) := by decide +kernel
theorem dX10_trace_1 : decode cX10_trace 1 = .ok (.ifCond .lt 26, 3) := by decide +kernel
theorem dX10_trace_4 : decode cX10_trace 4 = .ok (.iload_n 1, 1) := by decide +kernel
theorem dX10_trace_5 : decode cX10_trace 5 = .ok (.aload_n 0, 1) := by decide +kernel
theorem dX10_trace_6 : decode cX10_trace 6 = .ok (.getfield 68, 3) := by decide +kernel
theorem dX10_trace_9 : decode cX10_trace 9 = .ok (.getfield 277, 3) := by decide +kernel
theorem dX10_trace_12 : decode cX10_trace 12 = .ok (.if_icmp .ge 15, 3) := by decide +kernel
theorem dX10_trace_15 : decode cX10_trace 15 = .ok (.aload_n 0, 1) := by decide +kernel
theorem dX10_trace_16 : decode cX10_trace 16 = .ok (.getfield 68, 3) := by decide +kernel
theorem dX10_trace_19 : decode cX10_trace 19 = .ok (.getfield 280, 3) := by decide +kernel
theorem dX10_trace_22 : decode cX10_trace 22 = .ok (.iload_n 1, 1) := by decide +kernel
theorem dX10_trace_23 : decode cX10_trace 23 = .ok (.iaload, 1) := by decide +kernel
theorem dX10_trace_24 : decode cX10_trace 24 = .ok (.goto 5, 3) := by decide +kernel
theorem dX10_trace_27 : decode cX10_trace 27 = .ok (.ldc 196, 2) := by decide +kernel
theorem dX10_trace_29 : decode cX10_trace 29 = .ok (.ireturn, 1) := by decide +kernel
theorem dX10_count_0 : decode cX10_count 0 = .ok (.iload_n 1, 1) := by decide +kernel
theorem dX10_count_1 : decode cX10_count 1 = .ok (.tableswitch 102 0 6 #[43, 51, 59, 67, 75, 83, 91], 43) := by decide +kernel
theorem dX10_count_44 : decode cX10_count 44 = .ok (.aload_n 0, 1) := by decide +kernel
theorem dX10_count_45 : decode cX10_count 45 = .ok (.getfield 10, 3) := by decide +kernel
theorem dX10_count_48 : decode cX10_count 48 = .ok (.invokevirtual 283, 3) := by decide +kernel
theorem dX10_count_51 : decode cX10_count 51 = .ok (.ireturn, 1) := by decide +kernel
theorem dX10_count_52 : decode cX10_count 52 = .ok (.aload_n 0, 1) := by decide +kernel
theorem dX10_count_53 : decode cX10_count 53 = .ok (.getfield 26, 3) := by decide +kernel
theorem dX10_count_56 : decode cX10_count 56 = .ok (.getfield 266, 3) := by decide +kernel
theorem dX10_count_59 : decode cX10_count 59 = .ok (.ireturn, 1) := by decide +kernel
theorem dX10_count_60 : decode cX10_count 60 = .ok (.aload_n 0, 1) := by decide +kernel
theorem dX10_count_61 : decode cX10_count 61 = .ok (.getfield 26, 3) := by decide +kernel
theorem dX10_count_64 : decode cX10_count 64 = .ok (.getfield 153, 3) := by decide +kernel
theorem dX10_count_67 : decode cX10_count 67 = .ok (.ireturn, 1) := by decide +kernel
theorem dX10_count_68 : decode cX10_count 68 = .ok (.aload_n 0, 1) := by decide +kernel
theorem dX10_count_69 : decode cX10_count 69 = .ok (.getfield 26, 3) := by decide +kernel
theorem dX10_count_72 : decode cX10_count 72 = .ok (.invokevirtual 286, 3) := by decide +kernel
theorem dX10_count_75 : decode cX10_count 75 = .ok (.ireturn, 1) := by decide +kernel
theorem dX10_count_76 : decode cX10_count 76 = .ok (.aload_n 0, 1) := by decide +kernel
theorem dX10_count_77 : decode cX10_count 77 = .ok (.getfield 40, 3) := by decide +kernel
theorem dX10_count_80 : decode cX10_count 80 = .ok (.getfield 208, 3) := by decide +kernel
theorem dX10_count_83 : decode cX10_count 83 = .ok (.ireturn, 1) := by decide +kernel
theorem dX10_count_84 : decode cX10_count 84 = .ok (.aload_n 0, 1) := by decide +kernel
theorem dX10_count_85 : decode cX10_count 85 = .ok (.getfield 26, 3) := by decide +kernel
theorem dX10_count_88 : decode cX10_count 88 = .ok (.invokevirtual 289, 3) := by decide +kernel
theorem dX10_count_91 : decode cX10_count 91 = .ok (.ireturn, 1) := by decide +kernel
theorem dX10_count_92 : decode cX10_count 92 = .ok (.aload_n 0, 1) := by decide +kernel
theorem dX10_count_93 : decode cX10_count 93 = .ok (.getfield 19, 3) := by decide +kernel
theorem dX10_count_96 : decode cX10_count 96 = .ok (.getfield 120, 3) := by decide +kernel
theorem dX10_count_99 : decode cX10_count 99 = .ok (.getfield 134, 3) := by decide +kernel
theorem dX10_count_102 : decode cX10_count 102 = .ok (.ireturn, 1) := by decide +kernel
theorem dX10_count_103 : decode cX10_count 103 = .ok (.ldc 83, 2) := by decide +kernel
theorem dX10_count_105 : decode cX10_count 105 = .ok (.ireturn, 1) := by decide +kernel
theorem dX10_status_0 : decode cX10_status 0 = .ok (.aload_n 0, 1) := by decide +kernel
theorem dX10_status_1 : decode cX10_status 1 = .ok (.getfield 76, 3) := by decide +kernel
theorem dX10_status_4 : decode cX10_status 4 = .ok (.ireturn, 1) := by decide +kernel
theorem dX10_found_0 : decode cX10_found 0 = .ok (.aload_n 0, 1) := by decide +kernel
theorem dX10_found_1 : decode cX10_found 1 = .ok (.iload_n 1, 1) := by decide +kernel
theorem dX10_found_2 : decode cX10_found 2 = .ok (.putfield 76, 3) := by decide +kernel
theorem dX10_found_5 : decode cX10_found 5 = .ok (.ldc_w 292, 3) := by decide +kernel
theorem dX10_found_8 : decode cX10_found 8 = .ok (.iload_n 1, 1) := by decide +kernel
theorem dX10_found_9 : decode cX10_found 9 = .ok (.isub, 1) := by decide +kernel
theorem dX10_found_10 : decode cX10_found 10 = .ok (.ireturn, 1) := by decide +kernel
theorem dX10_foundNothing_0 : decode cX10_foundNothing 0 = .ok (.aload_n 0, 1) := by decide +kernel
theorem dX10_foundNothing_1 : decode cX10_foundNothing 1 = .ok (.iconst 0, 1) := by decide +kernel
theorem dX10_foundNothing_2 : decode cX10_foundNothing 2 = .ok (.putfield 76, 3) := by decide +kernel
theorem dX10_foundNothing_5 : decode cX10_foundNothing 5 = .ok (.iload_n 1, 1) := by decide +kernel
theorem dX10_foundNothing_6 : decode cX10_foundNothing 6 = .ok (.ireturn, 1) := by decide +kernel
theorem dX10_isLoad_0 : decode cX10_isLoad 0 = .ok (.iload_n 0, 1) := by decide +kernel
theorem dX10_isLoad_1 : decode cX10_isLoad 1 = .ok (.ifCond .lt 14, 3) := by decide +kernel
theorem dX10_isLoad_4 : decode cX10_isLoad 4 = .ok (.iload_n 0, 1) := by decide +kernel
theorem dX10_isLoad_5 : decode cX10_isLoad 5 = .ok (.sipush 9999, 3) := by decide +kernel
theorem dX10_isLoad_8 : decode cX10_isLoad 8 = .ok (.if_icmp .gt 7, 3) := by decide +kernel
theorem dX10_isLoad_11 : decode cX10_isLoad 11 = .ok (.iconst 1, 1) := by decide +kernel
theorem dX10_isLoad_12 : decode cX10_isLoad 12 = .ok (.goto 4, 3) := by decide +kernel
theorem dX10_isLoad_15 : decode cX10_isLoad 15 = .ok (.iconst 0, 1) := by decide +kernel
theorem dX10_isLoad_16 : decode cX10_isLoad 16 = .ok (.ireturn, 1) := by decide +kernel
theorem dX10_isSeed_0 : decode cX10_isSeed 0 = .ok (.iload_n 0, 1) := by decide +kernel
theorem dX10_isSeed_1 : decode cX10_isSeed 1 = .ok (.iconst 1, 1) := by decide +kernel
theorem dX10_isSeed_2 : decode cX10_isSeed 2 = .ok (.if_icmp .lt 14, 3) := by decide +kernel
theorem dX10_isSeed_5 : decode cX10_isSeed 5 = .ok (.iload_n 0, 1) := by decide +kernel
theorem dX10_isSeed_6 : decode cX10_isSeed 6 = .ok (.ldc_w 293, 3) := by decide +kernel
theorem dX10_isSeed_9 : decode cX10_isSeed 9 = .ok (.if_icmp .gt 7, 3) := by decide +kernel
theorem dX10_isSeed_12 : decode cX10_isSeed 12 = .ok (.iconst 1, 1) := by decide +kernel
theorem dX10_isSeed_13 : decode cX10_isSeed 13 = .ok (.goto 4, 3) := by decide +kernel
theorem dX10_isSeed_16 : decode cX10_isSeed 16 = .ok (.iconst 0, 1) := by decide +kernel
theorem dX10_isSeed_17 : decode cX10_isSeed 17 = .ok (.ireturn, 1) := by decide +kernel
theorem dX10_nextX_0 : decode cX10_nextX 0 = .ok (.iload_n 0, 1) := by decide +kernel
theorem dX10_nextX_1 : decode cX10_nextX 1 = .ok (.i2l, 1) := by decide +kernel
theorem dX10_nextX_2 : decode cX10_nextX 2 = .ok (.ldc2_w 294, 3) := by decide +kernel
theorem dX10_nextX_5 : decode cX10_nextX 5 = .ok (.lmul, 1) := by decide +kernel
theorem dX10_nextX_6 : decode cX10_nextX 6 = .ok (.ldc2_w 296, 3) := by decide +kernel
theorem dX10_nextX_9 : decode cX10_nextX 9 = .ok (.lrem, 1) := by decide +kernel
theorem dX10_nextX_10 : decode cX10_nextX 10 = .ok (.l2i, 1) := by decide +kernel
theorem dX10_nextX_11 : decode cX10_nextX 11 = .ok (.ireturn, 1) := by decide +kernel
theorem dX11_init_0 : decode cX11_init 0 = .ok (.aload_n 0, 1) := by decide +kernel
theorem dX11_init_1 : decode cX11_init 1 = .ok (.invokespecial 1, 3) := by decide +kernel
theorem dX11_init_4 : decode cX11_init 4 = .ok (.aload_n 0, 1) := by decide +kernel
theorem dX11_init_5 : decode cX11_init 5 = .ok (.bipush 8, 2) := by decide +kernel
theorem dX11_init_7 : decode cX11_init 7 = .ok (.newarray .int, 2) := by decide +kernel
theorem dX11_init_9 : decode cX11_init 9 = .ok (.dup, 1) := by decide +kernel
theorem dX11_init_10 : decode cX11_init 10 = .ok (.iconst 0, 1) := by decide +kernel
theorem dX11_init_11 : decode cX11_init 11 = .ok (.iconst (-1), 1) := by decide +kernel
theorem dX11_init_12 : decode cX11_init 12 = .ok (.iastore, 1) := by decide +kernel
theorem dX11_init_13 : decode cX11_init 13 = .ok (.dup, 1) := by decide +kernel
theorem dX11_init_14 : decode cX11_init 14 = .ok (.iconst 1, 1) := by decide +kernel
theorem dX11_init_15 : decode cX11_init 15 = .ok (.iconst (-1), 1) := by decide +kernel
theorem dX11_init_16 : decode cX11_init 16 = .ok (.iastore, 1) := by decide +kernel
theorem dX11_init_17 : decode cX11_init 17 = .ok (.dup, 1) := by decide +kernel
theorem dX11_init_18 : decode cX11_init 18 = .ok (.iconst 2, 1) := by decide +kernel
theorem dX11_init_19 : decode cX11_init 19 = .ok (.iconst (-1), 1) := by decide +kernel
theorem dX11_init_20 : decode cX11_init 20 = .ok (.iastore, 1) := by decide +kernel
theorem dX11_init_21 : decode cX11_init 21 = .ok (.dup, 1) := by decide +kernel
theorem dX11_init_22 : decode cX11_init 22 = .ok (.iconst 3, 1) := by decide +kernel
theorem dX11_init_23 : decode cX11_init 23 = .ok (.iconst (-1), 1) := by decide +kernel
theorem dX11_init_24 : decode cX11_init 24 = .ok (.iastore, 1) := by decide +kernel
theorem dX11_init_25 : decode cX11_init 25 = .ok (.dup, 1) := by decide +kernel
theorem dX11_init_26 : decode cX11_init 26 = .ok (.iconst 4, 1) := by decide +kernel
theorem dX11_init_27 : decode cX11_init 27 = .ok (.iconst (-1), 1) := by decide +kernel
theorem dX11_init_28 : decode cX11_init 28 = .ok (.iastore, 1) := by decide +kernel
theorem dX11_init_29 : decode cX11_init 29 = .ok (.dup, 1) := by decide +kernel
theorem dX11_init_30 : decode cX11_init 30 = .ok (.iconst 5, 1) := by decide +kernel
theorem dX11_init_31 : decode cX11_init 31 = .ok (.iconst (-1), 1) := by decide +kernel
theorem dX11_init_32 : decode cX11_init 32 = .ok (.iastore, 1) := by decide +kernel
theorem dX11_init_33 : decode cX11_init 33 = .ok (.dup, 1) := by decide +kernel
theorem dX11_init_34 : decode cX11_init 34 = .ok (.bipush 6, 2) := by decide +kernel
theorem dX11_init_36 : decode cX11_init 36 = .ok (.iconst (-1), 1) := by decide +kernel
theorem dX11_init_37 : decode cX11_init 37 = .ok (.iastore, 1) := by decide +kernel
theorem dX11_init_38 : decode cX11_init 38 = .ok (.dup, 1) := by decide +kernel
theorem dX11_init_39 : decode cX11_init 39 = .ok (.bipush 7, 2) := by decide +kernel
theorem dX11_init_41 : decode cX11_init 41 = .ok (.iconst (-1), 1) := by decide +kernel
theorem dX11_init_42 : decode cX11_init 42 = .ok (.iastore, 1) := by decide +kernel
theorem dX11_init_43 : decode cX11_init 43 = .ok (.putfield 7, 3) := by decide +kernel
theorem dX11_init_46 : decode cX11_init 46 = .ok (.aload_n 0, 1) := by decide +kernel
theorem dX11_init_47 : decode cX11_init 47 = .ok (.bipush 8, 2) := by decide +kernel
theorem dX11_init_49 : decode cX11_init 49 = .ok (.newarray .int, 2) := by decide +kernel
theorem dX11_init_51 : decode cX11_init 51 = .ok (.putfield 13, 3) := by decide +kernel
theorem dX11_init_54 : decode cX11_init 54 = .ok (.aload_n 0, 1) := by decide +kernel
theorem dX11_init_55 : decode cX11_init 55 = .ok (.sipush 320, 3) := by decide +kernel
theorem dX11_init_58 : decode cX11_init 58 = .ok (.newarray .int, 2) := by decide +kernel
theorem dX11_init_60 : decode cX11_init 60 = .ok (.putfield 16, 3) := by decide +kernel
theorem dX11_init_63 : decode cX11_init 63 = .ok (.aload_n 0, 1) := by decide +kernel
theorem dX11_init_64 : decode cX11_init 64 = .ok (.bipush 77, 2) := by decide +kernel
theorem dX11_init_66 : decode cX11_init 66 = .ok (.newarray .int, 2) := by decide +kernel
theorem dX11_init_68 : decode cX11_init 68 = .ok (.putfield 19, 3) := by decide +kernel
theorem dX11_init_71 : decode cX11_init 71 = .ok (.aload_n 0, 1) := by decide +kernel
theorem dX11_init_72 : decode cX11_init 72 = .ok (.bipush 77, 2) := by decide +kernel
theorem dX11_init_74 : decode cX11_init 74 = .ok (.newarray .int, 2) := by decide +kernel
theorem dX11_init_76 : decode cX11_init 76 = .ok (.putfield 22, 3) := by decide +kernel
theorem dX11_init_79 : decode cX11_init 79 = .ok (.aload_n 0, 1) := by decide +kernel
theorem dX11_init_80 : decode cX11_init 80 = .ok (.sipush 1848, 3) := by decide +kernel
theorem dX11_init_83 : decode cX11_init 83 = .ok (.newarray .int, 2) := by decide +kernel
theorem dX11_init_85 : decode cX11_init 85 = .ok (.putfield 25, 3) := by decide +kernel
theorem dX11_init_88 : decode cX11_init 88 = .ok (.aload_n 0, 1) := by decide +kernel
theorem dX11_init_89 : decode cX11_init 89 = .ok (.sipush 400, 3) := by decide +kernel
theorem dX11_init_92 : decode cX11_init 92 = .ok (.newarray .int, 2) := by decide +kernel
theorem dX11_init_94 : decode cX11_init 94 = .ok (.putfield 28, 3) := by decide +kernel
theorem dX11_init_97 : decode cX11_init 97 = .ok (.aload_n 0, 1) := by decide +kernel
theorem dX11_init_98 : decode cX11_init 98 = .ok (.iconst 3, 1) := by decide +kernel
theorem dX11_init_99 : decode cX11_init 99 = .ok (.newarray .int, 2) := by decide +kernel
theorem dX11_init_101 : decode cX11_init 101 = .ok (.putfield 31, 3) := by decide +kernel
theorem dX11_init_104 : decode cX11_init 104 = .ok (.aload_n 0, 1) := by decide +kernel
theorem dX11_init_105 : decode cX11_init 105 = .ok (.sipush 512, 3) := by decide +kernel
theorem dX11_init_108 : decode cX11_init 108 = .ok (.newarray .int, 2) := by decide +kernel
theorem dX11_init_110 : decode cX11_init 110 = .ok (.putfield 34, 3) := by decide +kernel
theorem dX11_init_113 : decode cX11_init 113 = .ok (.aload_n 0, 1) := by decide +kernel
theorem dX11_init_114 : decode cX11_init 114 = .ok (.sipush 512, 3) := by decide +kernel
theorem dX11_init_117 : decode cX11_init 117 = .ok (.newarray .int, 2) := by decide +kernel
theorem dX11_init_119 : decode cX11_init 119 = .ok (.putfield 37, 3) := by decide +kernel
theorem dX11_init_122 : decode cX11_init 122 = .ok (.aload_n 0, 1) := by decide +kernel
theorem dX11_init_123 : decode cX11_init 123 = .ok (.iconst 2, 1) := by decide +kernel
theorem dX11_init_124 : decode cX11_init 124 = .ok (.newarray .boolean, 2) := by decide +kernel
theorem dX11_init_126 : decode cX11_init 126 = .ok (.putfield 40, 3) := by decide +kernel
theorem dX11_init_129 : decode cX11_init 129 = .ok (.aload_n 0, 1) := by decide +kernel
theorem dX11_init_130 : decode cX11_init 130 = .ok (.sipush 154, 3) := by decide +kernel
theorem dX11_init_133 : decode cX11_init 133 = .ok (.newarray .int, 2) := by decide +kernel
theorem dX11_init_135 : decode cX11_init 135 = .ok (.putfield 44, 3) := by decide +kernel
theorem dX11_init_138 : decode cX11_init 138 = .ok (.aload_n 0, 1) := by decide +kernel
theorem dX11_init_139 : decode cX11_init 139 = .ok (.bipush 16, 2) := by decide +kernel
theorem dX11_init_141 : decode cX11_init 141 = .ok (.newarray .int, 2) := by decide +kernel
theorem dX11_init_143 : decode cX11_init 143 = .ok (.putfield 47, 3) := by decide +kernel
theorem dX11_init_146 : decode cX11_init 146 = .ok (.return_, 1) := by decide +kernel
theorem dX11_in_0 : decode cX11_in 0 = .ok (.lload_n 0, 1) := by decide +kernel
theorem dX11_in_1 : decode cX11_in 1 = .ok (.lload_n 2, 1) := by decide +kernel
theorem dX11_in_2 : decode cX11_in 2 = .ok (.lcmp, 1) := by decide +kernel
theorem dX11_in_3 : decode cX11_in 3 = .ok (.ifCond .lt 14, 3) := by decide +kernel
theorem dX11_in_6 : decode cX11_in 6 = .ok (.lload_n 0, 1) := by decide +kernel
theorem dX11_in_7 : decode cX11_in 7 = .ok (.lload 4, 2) := by decide +kernel
theorem dX11_in_9 : decode cX11_in 9 = .ok (.lcmp, 1) := by decide +kernel
theorem dX11_in_10 : decode cX11_in 10 = .ok (.ifCond .gt 7, 3) := by decide +kernel
theorem dX11_in_13 : decode cX11_in 13 = .ok (.iconst 1, 1) := by decide +kernel
theorem dX11_in_14 : decode cX11_in 14 = .ok (.goto 4, 3) := by decide +kernel
theorem dX11_in_17 : decode cX11_in 17 = .ok (.iconst 0, 1) := by decide +kernel
theorem dX11_in_18 : decode cX11_in 18 = .ok (.ireturn, 1) := by decide +kernel
theorem dX11_finding_0 : decode cX11_finding 0 = .ok (.aload_n 0, 1) := by decide +kernel
theorem dX11_finding_1 : decode cX11_finding 1 = .ok (.iload_n 1, 1) := by decide +kernel
theorem dX11_finding_2 : decode cX11_finding 2 = .ok (.putfield 54, 3) := by decide +kernel
theorem dX11_finding_5 : decode cX11_finding 5 = .ok (.ldc 57, 2) := by decide +kernel
theorem dX11_finding_7 : decode cX11_finding 7 = .ok (.iload_n 1, 1) := by decide +kernel
theorem dX11_finding_8 : decode cX11_finding 8 = .ok (.isub, 1) := by decide +kernel
theorem dX11_finding_9 : decode cX11_finding 9 = .ok (.ireturn, 1) := by decide +kernel
theorem dX11_isRow_0 : decode cX11_isRow 0 = .ok (.iload_n 0, 1) := by decide +kernel
theorem dX11_isRow_1 : decode cX11_isRow 1 = .ok (.i2l, 1) := by decide +kernel
theorem dX11_isRow_2 : decode cX11_isRow 2 = .ok (.lconst 0, 1) := by decide +kernel
theorem dX11_isRow_3 : decode cX11_isRow 3 = .ok (.ldc2_w 58, 3) := by decide +kernel
theorem dX11_isRow_6 : decode cX11_isRow 6 = .ok (.invokestatic 60, 3) := by decide +kernel
theorem dX11_isRow_9 : decode cX11_isRow 9 = .ok (.ireturn, 1) := by decide +kernel
theorem dX11_row_0 : decode cX11_row 0 = .ok (.aload_n 0, 1) := by decide +kernel
theorem dX11_row_1 : decode cX11_row 1 = .ok (.iconst 0, 1) := by decide +kernel
theorem dX11_row_2 : decode cX11_row 2 = .ok (.putfield 50, 3) := by decide +kernel
theorem dX11_row_5 : decode cX11_row 5 = .ok (.iload_n 1, 1) := by decide +kernel
theorem dX11_row_6 : decode cX11_row 6 = .ok (.invokestatic 64, 3) := by decide +kernel
theorem dX11_row_9 : decode cX11_row 9 = .ok (.ifCond .eq 21, 3) := by decide +kernel
theorem dX11_row_12 : decode cX11_row 12 = .ok (.iload_n 2, 1) := by decide +kernel
theorem dX11_row_13 : decode cX11_row 13 = .ok (.i2l, 1) := by decide +kernel
theorem dX11_row_14 : decode cX11_row 14 = .ok (.lconst 0, 1) := by decide +kernel
theorem dX11_row_15 : decode cX11_row 15 = .ok (.ldc2_w 68, 3) := by decide +kernel
theorem dX11_row_18 : decode cX11_row 18 = .ok (.invokestatic 60, 3) := by decide +kernel
theorem dX11_row_21 : decode cX11_row 21 = .ok (.ifCond .eq 9, 3) := by decide +kernel
theorem dX11_row_24 : decode cX11_row 24 = .ok (.iload_n 3, 1) := by decide +kernel
theorem dX11_row_25 : decode cX11_row 25 = .ok (.bipush 40, 2) := by decide +kernel
theorem dX11_row_27 : decode cX11_row 27 = .ok (.if_icmp .le 6, 3) := by decide +kernel
theorem dX11_row_30 : decode cX11_row 30 = .ok (.ldc 70, 2) := by decide +kernel
theorem dX11_row_32 : decode cX11_row 32 = .ok (.ireturn, 1) := by decide +kernel
theorem dX11_row_33 : decode cX11_row 33 = .ok (.aload_n 0, 1) := by decide +kernel
theorem dX11_row_34 : decode cX11_row 34 = .ok (.iconst 0, 1) := by decide +kernel
theorem dX11_row_35 : decode cX11_row 35 = .ok (.putfield 54, 3) := by decide +kernel
theorem dX11_row_38 : decode cX11_row 38 = .ok (.iload_n 3, 1) := by decide +kernel
theorem dX11_row_39 : decode cX11_row 39 = .ok (.ifCond .ge 9, 3) := by decide +kernel
theorem dX11_row_42 : decode cX11_row 42 = .ok (.aload_n 0, 1) := by decide +kernel
theorem dX11_row_43 : decode cX11_row 43 = .ok (.iconst 4, 1) := by decide +kernel
theorem dX11_row_44 : decode cX11_row 44 = .ok (.invokevirtual 71, 3) := by decide +kernel
theorem dX11_row_47 : decode cX11_row 47 = .ok (.ireturn, 1) := by decide +kernel
theorem dX11_row_48 : decode cX11_row 48 = .ok (.aload_n 0, 1) := by decide +kernel
theorem dX11_row_49 : decode cX11_row 49 = .ok (.getfield 7, 3) := by decide +kernel
theorem dX11_row_52 : decode cX11_row 52 = .ok (.iload_n 1, 1) := by decide +kernel
theorem dX11_row_53 : decode cX11_row 53 = .ok (.iload_n 2, 1) := by decide +kernel
theorem dX11_row_54 : decode cX11_row 54 = .ok (.iastore, 1) := by decide +kernel
theorem dX11_row_55 : decode cX11_row 55 = .ok (.aload_n 0, 1) := by decide +kernel
theorem dX11_row_56 : decode cX11_row 56 = .ok (.getfield 13, 3) := by decide +kernel
theorem dX11_row_59 : decode cX11_row 59 = .ok (.iload_n 1, 1) := by decide +kernel
theorem dX11_row_60 : decode cX11_row 60 = .ok (.iload_n 3, 1) := by decide +kernel
theorem dX11_row_61 : decode cX11_row 61 = .ok (.iastore, 1) := by decide +kernel
theorem dX11_row_62 : decode cX11_row 62 = .ok (.iconst 0, 1) := by decide +kernel
theorem dX11_row_63 : decode cX11_row 63 = .ok (.istore 4, 2) := by decide +kernel
theorem dX11_row_65 : decode cX11_row 65 = .ok (.iload 4, 2) := by decide +kernel
theorem dX11_row_67 : decode cX11_row 67 = .ok (.bipush 40, 2) := by decide +kernel
theorem dX11_row_69 : decode cX11_row 69 = .ok (.if_icmp .ge 22, 3) := by decide +kernel
theorem dX11_row_72 : decode cX11_row 72 = .ok (.aload_n 0, 1) := by decide +kernel
theorem dX11_row_73 : decode cX11_row 73 = .ok (.getfield 16, 3) := by decide +kernel
theorem dX11_row_76 : decode cX11_row 76 = .ok (.bipush 40, 2) := by decide +kernel
theorem dX11_row_78 : decode cX11_row 78 = .ok (.iload_n 1, 1) := by decide +kernel
theorem dX11_row_79 : decode cX11_row 79 = .ok (.imul, 1) := by decide +kernel
theorem dX11_row_80 : decode cX11_row 80 = .ok (.iload 4, 2) := by decide +kernel
theorem dX11_row_82 : decode cX11_row 82 = .ok (.iadd, 1) := by decide +kernel
theorem dX11_row_83 : decode cX11_row 83 = .ok (.iconst 0, 1) := by decide +kernel
theorem dX11_row_84 : decode cX11_row 84 = .ok (.iastore, 1) := by decide +kernel
theorem dX11_row_85 : decode cX11_row 85 = .ok (.iinc 4 1, 3) := by decide +kernel
theorem dX11_row_88 : decode cX11_row 88 = .ok (.goto (-23), 3) := by decide +kernel
theorem dX11_row_91 : decode cX11_row 91 = .ok (.iload_n 3, 1) := by decide +kernel
theorem dX11_row_92 : decode cX11_row 92 = .ok (.ireturn, 1) := by decide +kernel
theorem dX11_set_0 : decode cX11_set 0 = .ok (.aload_n 0, 1) := by decide +kernel
theorem dX11_set_1 : decode cX11_set 1 = .ok (.iconst 0, 1) := by decide +kernel
theorem dX11_set_2 : decode cX11_set 2 = .ok (.putfield 50, 3) := by decide +kernel
theorem dX11_set_5 : decode cX11_set 5 = .ok (.iload_n 1, 1) := by decide +kernel
theorem dX11_set_6 : decode cX11_set 6 = .ok (.invokestatic 64, 3) := by decide +kernel
theorem dX11_set_9 : decode cX11_set 9 = .ok (.ifCond .ne 6, 3) := by decide +kernel
theorem dX11_set_12 : decode cX11_set 12 = .ok (.ldc 70, 2) := by decide +kernel
theorem dX11_set_14 : decode cX11_set 14 = .ok (.ireturn, 1) := by decide +kernel
theorem dX11_set_15 : decode cX11_set 15 = .ok (.aload_n 0, 1) := by decide +kernel
theorem dX11_set_16 : decode cX11_set 16 = .ok (.iconst 0, 1) := by decide +kernel
theorem dX11_set_17 : decode cX11_set 17 = .ok (.putfield 54, 3) := by decide +kernel
theorem dX11_set_20 : decode cX11_set 20 = .ok (.aload_n 0, 1) := by decide +kernel
theorem dX11_set_21 : decode cX11_set 21 = .ok (.getfield 7, 3) := by decide +kernel
theorem dX11_set_24 : decode cX11_set 24 = .ok (.iload_n 1, 1) := by decide +kernel
theorem dX11_set_25 : decode cX11_set 25 = .ok (.iaload, 1) := by decide +kernel
theorem dX11_set_26 : decode cX11_set 26 = .ok (.ifCond .ge 9, 3) := by decide +kernel
theorem dX11_set_29 : decode cX11_set 29 = .ok (.aload_n 0, 1) := by decide +kernel
theorem dX11_set_30 : decode cX11_set 30 = .ok (.iconst 1, 1) := by decide +kernel
theorem dX11_set_31 : decode cX11_set 31 = .ok (.invokevirtual 71, 3) := by decide +kernel
theorem dX11_set_34 : decode cX11_set 34 = .ok (.ireturn, 1) := by decide +kernel
theorem dX11_set_35 : decode cX11_set 35 = .ok (.iload_n 2, 1) := by decide +kernel
theorem dX11_set_36 : decode cX11_set 36 = .ok (.i2l, 1) := by decide +kernel
theorem dX11_set_37 : decode cX11_set 37 = .ok (.lconst 0, 1) := by decide +kernel
theorem dX11_set_38 : decode cX11_set 38 = .ok (.aload_n 0, 1) := by decide +kernel
theorem dX11_set_39 : decode cX11_set 39 = .ok (.getfield 13, 3) := by decide +kernel
theorem dX11_set_42 : decode cX11_set 42 = .ok (.iload_n 1, 1) := by decide +kernel
theorem dX11_set_43 : decode cX11_set 43 = .ok (.iaload, 1) := by decide +kernel
theorem dX11_set_44 : decode cX11_set 44 = .ok (.iconst 1, 1) := by decide +kernel
theorem dX11_set_45 : decode cX11_set 45 = .ok (.isub, 1) := by decide +kernel
theorem dX11_set_46 : decode cX11_set 46 = .ok (.i2l, 1) := by decide +kernel
theorem dX11_set_47 : decode cX11_set 47 = .ok (.invokestatic 60, 3) := by decide +kernel
theorem dX11_set_50 : decode cX11_set 50 = .ok (.ifCond .ne 9, 3) := by decide +kernel
theorem dX11_set_53 : decode cX11_set 53 = .ok (.aload_n 0, 1) := by decide +kernel
theorem dX11_set_54 : decode cX11_set 54 = .ok (.iconst 2, 1) := by decide +kernel
theorem dX11_set_55 : decode cX11_set 55 = .ok (.invokevirtual 71, 3) := by decide +kernel
theorem dX11_set_58 : decode cX11_set 58 = .ok (.ireturn, 1) := by decide +kernel
theorem dX11_set_59 : decode cX11_set 59 = .ok (.aload_n 0, 1) := by decide +kernel
theorem dX11_set_60 : decode cX11_set 60 = .ok (.getfield 16, 3) := by decide +kernel
theorem dX11_set_63 : decode cX11_set 63 = .ok (.bipush 40, 2) := by decide +kernel
theorem dX11_set_65 : decode cX11_set 65 = .ok (.iload_n 1, 1) := by decide +kernel
theorem dX11_set_66 : decode cX11_set 66 = .ok (.imul, 1) := by decide +kernel
theorem dX11_set_67 : decode cX11_set 67 = .ok (.iload_n 2, 1) := by decide +kernel
theorem dX11_set_68 : decode cX11_set 68 = .ok (.iadd, 1) := by decide +kernel
theorem dX11_set_69 : decode cX11_set 69 = .ok (.aload_n 0, 1) := by decide +kernel
theorem dX11_set_70 : decode cX11_set 70 = .ok (.getfield 7, 3) := by decide +kernel
theorem dX11_set_73 : decode cX11_set 73 = .ok (.iload_n 1, 1) := by decide +kernel
theorem dX11_set_74 : decode cX11_set 74 = .ok (.iaload, 1) := by decide +kernel
theorem dX11_set_75 : decode cX11_set 75 = .ok (.ifCond .ne 8, 3) := by decide +kernel
theorem dX11_set_78 : decode cX11_set 78 = .ok (.iload_n 3, 1) := by decide +kernel
theorem dX11_set_79 : decode cX11_set 79 = .ok (.i2b, 1) := by decide +kernel
theorem dX11_set_80 : decode cX11_set 80 = .ok (.goto 19, 3) := by decide +kernel
theorem dX11_set_83 : decode cX11_set 83 = .ok (.aload_n 0, 1) := by decide +kernel
theorem dX11_set_84 : decode cX11_set 84 = .ok (.getfield 7, 3) := by decide +kernel
theorem dX11_set_87 : decode cX11_set 87 = .ok (.iload_n 1, 1) := by decide +kernel
theorem dX11_set_88 : decode cX11_set 88 = .ok (.iaload, 1) := by decide +kernel
theorem dX11_set_89 : decode cX11_set 89 = .ok (.iconst 1, 1) := by decide +kernel
theorem dX11_set_90 : decode cX11_set 90 = .ok (.if_icmp .ne 8, 3) := by decide +kernel
theorem dX11_set_93 : decode cX11_set 93 = .ok (.iload_n 3, 1) := by decide +kernel
theorem dX11_set_94 : decode cX11_set 94 = .ok (.i2s, 1) := by decide +kernel
theorem dX11_set_95 : decode cX11_set 95 = .ok (.goto 4, 3) := by decide +kernel
theorem dX11_set_98 : decode cX11_set 98 = .ok (.iload_n 3, 1) := by decide +kernel
theorem dX11_set_99 : decode cX11_set 99 = .ok (.iastore, 1) := by decide +kernel
theorem dX11_set_100 : decode cX11_set 100 = .ok (.aload_n 0, 1) := by decide +kernel
theorem dX11_set_101 : decode cX11_set 101 = .ok (.getfield 16, 3) := by decide +kernel
theorem dX11_set_104 : decode cX11_set 104 = .ok (.bipush 40, 2) := by decide +kernel
theorem dX11_set_106 : decode cX11_set 106 = .ok (.iload_n 1, 1) := by decide +kernel
theorem dX11_set_107 : decode cX11_set 107 = .ok (.imul, 1) := by decide +kernel
theorem dX11_set_108 : decode cX11_set 108 = .ok (.iload_n 2, 1) := by decide +kernel
theorem dX11_set_109 : decode cX11_set 109 = .ok (.iadd, 1) := by decide +kernel
theorem dX11_set_110 : decode cX11_set 110 = .ok (.iaload, 1) := by decide +kernel
theorem dX11_set_111 : decode cX11_set 111 = .ok (.ireturn, 1) := by decide +kernel
theorem dX11_copy_0 : decode cX11_copy 0 = .ok (.aload_n 0, 1) := by decide +kernel
theorem dX11_copy_1 : decode cX11_copy 1 = .ok (.iconst 0, 1) := by decide +kernel
theorem dX11_copy_2 : decode cX11_copy 2 = .ok (.putfield 50, 3) := by decide +kernel
theorem dX11_copy_5 : decode cX11_copy 5 = .ok (.iload_n 1, 1) := by decide +kernel
theorem dX11_copy_6 : decode cX11_copy 6 = .ok (.invokestatic 64, 3) := by decide +kernel
theorem dX11_copy_9 : decode cX11_copy 9 = .ok (.ifCond .eq 10, 3) := by decide +kernel
theorem dX11_copy_12 : decode cX11_copy 12 = .ok (.iload_n 3, 1) := by decide +kernel
theorem dX11_copy_13 : decode cX11_copy 13 = .ok (.invokestatic 64, 3) := by decide +kernel
theorem dX11_copy_16 : decode cX11_copy 16 = .ok (.ifCond .ne 6, 3) := by decide +kernel
theorem dX11_copy_19 : decode cX11_copy 19 = .ok (.ldc 70, 2) := by decide +kernel
theorem dX11_copy_21 : decode cX11_copy 21 = .ok (.ireturn, 1) := by decide +kernel
theorem dX11_copy_22 : decode cX11_copy 22 = .ok (.aload_n 0, 1) := by decide +kernel
theorem dX11_copy_23 : decode cX11_copy 23 = .ok (.iconst 0, 1) := by decide +kernel
theorem dX11_copy_24 : decode cX11_copy 24 = .ok (.putfield 54, 3) := by decide +kernel
theorem dX11_copy_27 : decode cX11_copy 27 = .ok (.aload_n 0, 1) := by decide +kernel
theorem dX11_copy_28 : decode cX11_copy 28 = .ok (.getfield 7, 3) := by decide +kernel
theorem dX11_copy_31 : decode cX11_copy 31 = .ok (.iload_n 1, 1) := by decide +kernel
theorem dX11_copy_32 : decode cX11_copy 32 = .ok (.iaload, 1) := by decide +kernel
theorem dX11_copy_33 : decode cX11_copy 33 = .ok (.ifCond .lt 12, 3) := by decide +kernel
theorem dX11_copy_36 : decode cX11_copy 36 = .ok (.aload_n 0, 1) := by decide +kernel
theorem dX11_copy_37 : decode cX11_copy 37 = .ok (.getfield 7, 3) := by decide +kernel
theorem dX11_copy_40 : decode cX11_copy 40 = .ok (.iload_n 3, 1) := by decide +kernel
theorem dX11_copy_41 : decode cX11_copy 41 = .ok (.iaload, 1) := by decide +kernel
theorem dX11_copy_42 : decode cX11_copy 42 = .ok (.ifCond .ge 9, 3) := by decide +kernel
theorem dX11_copy_45 : decode cX11_copy 45 = .ok (.aload_n 0, 1) := by decide +kernel
theorem dX11_copy_46 : decode cX11_copy 46 = .ok (.iconst 1, 1) := by decide +kernel
theorem dX11_copy_47 : decode cX11_copy 47 = .ok (.invokevirtual 71, 3) := by decide +kernel
theorem dX11_copy_50 : decode cX11_copy 50 = .ok (.ireturn, 1) := by decide +kernel
theorem dX11_copy_51 : decode cX11_copy 51 = .ok (.aload_n 0, 1) := by decide +kernel
theorem dX11_copy_52 : decode cX11_copy 52 = .ok (.getfield 7, 3) := by decide +kernel
theorem dX11_copy_55 : decode cX11_copy 55 = .ok (.iload_n 1, 1) := by decide +kernel
theorem dX11_copy_56 : decode cX11_copy 56 = .ok (.iaload, 1) := by decide +kernel
theorem dX11_copy_57 : decode cX11_copy 57 = .ok (.aload_n 0, 1) := by decide +kernel
theorem dX11_copy_58 : decode cX11_copy 58 = .ok (.getfield 7, 3) := by decide +kernel
theorem dX11_copy_61 : decode cX11_copy 61 = .ok (.iload_n 3, 1) := by decide +kernel
theorem dX11_copy_62 : decode cX11_copy 62 = .ok (.iaload, 1) := by decide +kernel
theorem dX11_copy_63 : decode cX11_copy 63 = .ok (.if_icmp .eq 9, 3) := by decide +kernel
theorem dX11_copy_66 : decode cX11_copy 66 = .ok (.aload_n 0, 1) := by decide +kernel
theorem dX11_copy_67 : decode cX11_copy 67 = .ok (.iconst 5, 1) := by decide +kernel
theorem dX11_copy_68 : decode cX11_copy 68 = .ok (.invokevirtual 71, 3) := by decide +kernel
theorem dX11_copy_71 : decode cX11_copy 71 = .ok (.ireturn, 1) := by decide +kernel
theorem dX11_copy_72 : decode cX11_copy 72 = .ok (.iload_n 2, 1) := by decide +kernel
theorem dX11_copy_73 : decode cX11_copy 73 = .ok (.ifCond .lt 48, 3) := by decide +kernel
theorem dX11_copy_76 : decode cX11_copy 76 = .ok (.iload 4, 2) := by decide +kernel
theorem dX11_copy_78 : decode cX11_copy 78 = .ok (.ifCond .lt 43, 3) := by decide +kernel
theorem dX11_copy_81 : decode cX11_copy 81 = .ok (.iload 5, 2) := by decide +kernel
theorem dX11_copy_83 : decode cX11_copy 83 = .ok (.ifCond .lt 38, 3) := by decide +kernel
theorem dX11_copy_86 : decode cX11_copy 86 = .ok (.iload_n 2, 1) := by decide +kernel
theorem dX11_copy_87 : decode cX11_copy 87 = .ok (.i2l, 1) := by decide +kernel
theorem dX11_copy_88 : decode cX11_copy 88 = .ok (.iload 5, 2) := by decide +kernel
theorem dX11_copy_90 : decode cX11_copy 90 = .ok (.i2l, 1) := by decide +kernel
theorem dX11_copy_91 : decode cX11_copy 91 = .ok (.ladd, 1) := by decide +kernel
theorem dX11_copy_92 : decode cX11_copy 92 = .ok (.aload_n 0, 1) := by decide +kernel
theorem dX11_copy_93 : decode cX11_copy 93 = .ok (.getfield 13, 3) := by decide +kernel
theorem dX11_copy_96 : decode cX11_copy 96 = .ok (.iload_n 1, 1) := by decide +kernel
theorem dX11_copy_97 : decode cX11_copy 97 = .ok (.iaload, 1) := by decide +kernel
theorem dX11_copy_98 : decode cX11_copy 98 = .ok (.i2l, 1) := by decide +kernel
theorem dX11_copy_99 : decode cX11_copy 99 = .ok (.lcmp, 1) := by decide +kernel
theorem dX11_copy_100 : decode cX11_copy 100 = .ok (.ifCond .gt 21, 3) := by decide +kernel
theorem dX11_copy_103 : decode cX11_copy 103 = .ok (.iload 4, 2) := by decide +kernel
theorem dX11_copy_105 : decode cX11_copy 105 = .ok (.i2l, 1) := by decide +kernel
theorem dX11_copy_106 : decode cX11_copy 106 = .ok (.iload 5, 2) := by decide +kernel
theorem dX11_copy_108 : decode cX11_copy 108 = .ok (.i2l, 1) := by decide +kernel
theorem dX11_copy_109 : decode cX11_copy 109 = .ok (.ladd, 1) := by decide +kernel
theorem dX11_copy_110 : decode cX11_copy 110 = .ok (.aload_n 0, 1) := by decide +kernel
theorem dX11_copy_111 : decode cX11_copy 111 = .ok (.getfield 13, 3) := by decide +kernel
theorem dX11_copy_114 : decode cX11_copy 114 = .ok (.iload_n 3, 1) := by decide +kernel
theorem dX11_copy_115 : decode cX11_copy 115 = .ok (.iaload, 1) := by decide +kernel
theorem dX11_copy_116 : decode cX11_copy 116 = .ok (.i2l, 1) := by decide +kernel
theorem dX11_copy_117 : decode cX11_copy 117 = .ok (.lcmp, 1) := by decide +kernel
theorem dX11_copy_118 : decode cX11_copy 118 = .ok (.ifCond .le 9, 3) := by decide +kernel
theorem dX11_copy_121 : decode cX11_copy 121 = .ok (.aload_n 0, 1) := by decide +kernel
theorem dX11_copy_122 : decode cX11_copy 122 = .ok (.iconst 2, 1) := by decide +kernel
theorem dX11_copy_123 : decode cX11_copy 123 = .ok (.invokevirtual 71, 3) := by decide +kernel
theorem dX11_copy_126 : decode cX11_copy 126 = .ok (.ireturn, 1) := by decide +kernel
theorem dX11_copy_127 : decode cX11_copy 127 = .ok (.iload_n 2, 1) := by decide +kernel
theorem dX11_copy_128 : decode cX11_copy 128 = .ok (.iload 4, 2) := by decide +kernel
theorem dX11_copy_130 : decode cX11_copy 130 = .ok (.if_icmp .lt 7, 3) := by decide +kernel
theorem dX11_copy_133 : decode cX11_copy 133 = .ok (.iconst 1, 1) := by decide +kernel
theorem dX11_copy_134 : decode cX11_copy 134 = .ok (.goto 4, 3) := by decide +kernel
theorem dX11_copy_137 : decode cX11_copy 137 = .ok (.iconst 0, 1) := by decide +kernel
theorem dX11_copy_138 : decode cX11_copy 138 = .ok (.istore 6, 2) := by decide +kernel
theorem dX11_copy_140 : decode cX11_copy 140 = .ok (.iconst 0, 1) := by decide +kernel
theorem dX11_copy_141 : decode cX11_copy 141 = .ok (.istore 7, 2) := by decide +kernel
theorem dX11_copy_143 : decode cX11_copy 143 = .ok (.iload 7, 2) := by decide +kernel
theorem dX11_copy_145 : decode cX11_copy 145 = .ok (.iload 5, 2) := by decide +kernel
theorem dX11_copy_147 : decode cX11_copy 147 = .ok (.if_icmp .ge 57, 3) := by decide +kernel
theorem dX11_copy_150 : decode cX11_copy 150 = .ok (.iload 6, 2) := by decide +kernel
theorem dX11_copy_152 : decode cX11_copy 152 = .ok (.ifCond .eq 8, 3) := by decide +kernel
theorem dX11_copy_155 : decode cX11_copy 155 = .ok (.iload 7, 2) := by decide +kernel
theorem dX11_copy_157 : decode cX11_copy 157 = .ok (.goto 10, 3) := by decide +kernel
theorem dX11_copy_160 : decode cX11_copy 160 = .ok (.iload 5, 2) := by decide +kernel
theorem dX11_copy_162 : decode cX11_copy 162 = .ok (.iconst 1, 1) := by decide +kernel
theorem dX11_copy_163 : decode cX11_copy 163 = .ok (.isub, 1) := by decide +kernel
theorem dX11_copy_164 : decode cX11_copy 164 = .ok (.iload 7, 2) := by decide +kernel
theorem dX11_copy_166 : decode cX11_copy 166 = .ok (.isub, 1) := by decide +kernel
theorem dX11_copy_167 : decode cX11_copy 167 = .ok (.istore 8, 2) := by decide +kernel
theorem dX11_copy_169 : decode cX11_copy 169 = .ok (.aload_n 0, 1) := by decide +kernel
theorem dX11_copy_170 : decode cX11_copy 170 = .ok (.getfield 16, 3) := by decide +kernel
theorem dX11_copy_173 : decode cX11_copy 173 = .ok (.bipush 40, 2) := by decide +kernel
theorem dX11_copy_175 : decode cX11_copy 175 = .ok (.iload_n 3, 1) := by decide +kernel
theorem dX11_copy_176 : decode cX11_copy 176 = .ok (.imul, 1) := by decide +kernel
theorem dX11_copy_177 : decode cX11_copy 177 = .ok (.iload 4, 2) := by decide +kernel
theorem dX11_copy_179 : decode cX11_copy 179 = .ok (.iadd, 1) := by decide +kernel
theorem dX11_copy_180 : decode cX11_copy 180 = .ok (.iload 8, 2) := by decide +kernel
theorem dX11_copy_182 : decode cX11_copy 182 = .ok (.iadd, 1) := by decide +kernel
theorem dX11_copy_183 : decode cX11_copy 183 = .ok (.aload_n 0, 1) := by decide +kernel
theorem dX11_copy_184 : decode cX11_copy 184 = .ok (.getfield 16, 3) := by decide +kernel
theorem dX11_copy_187 : decode cX11_copy 187 = .ok (.bipush 40, 2) := by decide +kernel
theorem dX11_copy_189 : decode cX11_copy 189 = .ok (.iload_n 1, 1) := by decide +kernel
theorem dX11_copy_190 : decode cX11_copy 190 = .ok (.imul, 1) := by decide +kernel
theorem dX11_copy_191 : decode cX11_copy 191 = .ok (.iload_n 2, 1) := by decide +kernel
theorem dX11_copy_192 : decode cX11_copy 192 = .ok (.iadd, 1) := by decide +kernel
theorem dX11_copy_193 : decode cX11_copy 193 = .ok (.iload 8, 2) := by decide +kernel
theorem dX11_copy_195 : decode cX11_copy 195 = .ok (.iadd, 1) := by decide +kernel
theorem dX11_copy_196 : decode cX11_copy 196 = .ok (.iaload, 1) := by decide +kernel
theorem dX11_copy_197 : decode cX11_copy 197 = .ok (.iastore, 1) := by decide +kernel
theorem dX11_copy_198 : decode cX11_copy 198 = .ok (.iinc 7 1, 3) := by decide +kernel
theorem dX11_copy_201 : decode cX11_copy 201 = .ok (.goto (-58), 3) := by decide +kernel
theorem dX11_copy_204 : decode cX11_copy 204 = .ok (.iload 5, 2) := by decide +kernel
theorem dX11_copy_206 : decode cX11_copy 206 = .ok (.ireturn, 1) := by decide +kernel
theorem dX11_drop_0 : decode cX11_drop 0 = .ok (.aload_n 0, 1) := by decide +kernel
theorem dX11_drop_1 : decode cX11_drop 1 = .ok (.iconst 0, 1) := by decide +kernel
theorem dX11_drop_2 : decode cX11_drop 2 = .ok (.putfield 50, 3) := by decide +kernel
theorem dX11_drop_5 : decode cX11_drop 5 = .ok (.iload_n 1, 1) := by decide +kernel
theorem dX11_drop_6 : decode cX11_drop 6 = .ok (.invokestatic 64, 3) := by decide +kernel
theorem dX11_drop_9 : decode cX11_drop 9 = .ok (.ifCond .ne 6, 3) := by decide +kernel
theorem dX11_drop_12 : decode cX11_drop 12 = .ok (.ldc 70, 2) := by decide +kernel
theorem dX11_drop_14 : decode cX11_drop 14 = .ok (.ireturn, 1) := by decide +kernel
theorem dX11_drop_15 : decode cX11_drop 15 = .ok (.aload_n 0, 1) := by decide +kernel
theorem dX11_drop_16 : decode cX11_drop 16 = .ok (.iconst 0, 1) := by decide +kernel
theorem dX11_drop_17 : decode cX11_drop 17 = .ok (.putfield 54, 3) := by decide +kernel
theorem dX11_drop_20 : decode cX11_drop 20 = .ok (.aload_n 0, 1) := by decide +kernel
theorem dX11_drop_21 : decode cX11_drop 21 = .ok (.getfield 7, 3) := by decide +kernel
theorem dX11_drop_24 : decode cX11_drop 24 = .ok (.iload_n 1, 1) := by decide +kernel
theorem dX11_drop_25 : decode cX11_drop 25 = .ok (.iaload, 1) := by decide +kernel
theorem dX11_drop_26 : decode cX11_drop 26 = .ok (.ifCond .ge 9, 3) := by decide +kernel
theorem dX11_drop_29 : decode cX11_drop 29 = .ok (.aload_n 0, 1) := by decide +kernel
theorem dX11_drop_30 : decode cX11_drop 30 = .ok (.iconst 1, 1) := by decide +kernel
theorem dX11_drop_31 : decode cX11_drop 31 = .ok (.invokevirtual 71, 3) := by decide +kernel
theorem dX11_drop_34 : decode cX11_drop 34 = .ok (.ireturn, 1) := by decide +kernel
theorem dX11_drop_35 : decode cX11_drop 35 = .ok (.aload_n 0, 1) := by decide +kernel
theorem dX11_drop_36 : decode cX11_drop 36 = .ok (.getfield 7, 3) := by decide +kernel
theorem dX11_drop_39 : decode cX11_drop 39 = .ok (.iload_n 1, 1) := by decide +kernel
theorem dX11_drop_40 : decode cX11_drop 40 = .ok (.iconst (-1), 1) := by decide +kernel
theorem dX11_drop_41 : decode cX11_drop 41 = .ok (.iastore, 1) := by decide +kernel
theorem dX11_drop_42 : decode cX11_drop 42 = .ok (.aload_n 0, 1) := by decide +kernel
theorem dX11_drop_43 : decode cX11_drop 43 = .ok (.getfield 13, 3) := by decide +kernel
theorem dX11_drop_46 : decode cX11_drop 46 = .ok (.iload_n 1, 1) := by decide +kernel
theorem dX11_drop_47 : decode cX11_drop 47 = .ok (.iaload, 1) := by decide +kernel
theorem dX11_drop_48 : decode cX11_drop 48 = .ok (.ireturn, 1) := by decide +kernel
theorem dX11_feed_0 : decode cX11_feed 0 = .ok (.aload_n 0, 1) := by decide +kernel
theorem dX11_feed_1 : decode cX11_feed 1 = .ok (.iconst 0, 1) := by decide +kernel
theorem dX11_feed_2 : decode cX11_feed 2 = .ok (.putfield 50, 3) := by decide +kernel
theorem dX11_feed_5 : decode cX11_feed 5 = .ok (.iload_n 3, 1) := by decide +kernel
theorem dX11_feed_6 : decode cX11_feed 6 = .ok (.i2l, 1) := by decide +kernel
theorem dX11_feed_7 : decode cX11_feed 7 = .ok (.lconst 1, 1) := by decide +kernel
theorem dX11_feed_8 : decode cX11_feed 8 = .ok (.ldc2_w 75, 3) := by decide +kernel
theorem dX11_feed_11 : decode cX11_feed 11 = .ok (.invokestatic 60, 3) := by decide +kernel
theorem dX11_feed_14 : decode cX11_feed 14 = .ok (.ifCond .ne 6, 3) := by decide +kernel
theorem dX11_feed_17 : decode cX11_feed 17 = .ok (.ldc 70, 2) := by decide +kernel
theorem dX11_feed_19 : decode cX11_feed 19 = .ok (.ireturn, 1) := by decide +kernel
theorem dX11_feed_20 : decode cX11_feed 20 = .ok (.aload_n 0, 1) := by decide +kernel
theorem dX11_feed_21 : decode cX11_feed 21 = .ok (.getfield 77, 3) := by decide +kernel
theorem dX11_feed_24 : decode cX11_feed 24 = .ok (.iload_n 3, 1) := by decide +kernel
theorem dX11_feed_25 : decode cX11_feed 25 = .ok (.iadd, 1) := by decide +kernel
theorem dX11_feed_26 : decode cX11_feed 26 = .ok (.sipush 400, 3) := by decide +kernel
theorem dX11_feed_29 : decode cX11_feed 29 = .ok (.if_icmp .le 6, 3) := by decide +kernel
theorem dX11_feed_32 : decode cX11_feed 32 = .ok (.ldc 80, 2) := by decide +kernel
theorem dX11_feed_34 : decode cX11_feed 34 = .ok (.ireturn, 1) := by decide +kernel
theorem dX11_feed_35 : decode cX11_feed 35 = .ok (.iload_n 3, 1) := by decide +kernel
theorem dX11_feed_36 : decode cX11_feed 36 = .ok (.iconst 1, 1) := by decide +kernel
theorem dX11_feed_37 : decode cX11_feed 37 = .ok (.isub, 1) := by decide +kernel
theorem dX11_feed_38 : decode cX11_feed 38 = .ok (.istore 4, 2) := by decide +kernel
theorem dX11_feed_40 : decode cX11_feed 40 = .ok (.iload 4, 2) := by decide +kernel
theorem dX11_feed_42 : decode cX11_feed 42 = .ok (.ifCond .lt 40, 3) := by decide +kernel
theorem dX11_feed_45 : decode cX11_feed 45 = .ok (.aload_n 0, 1) := by decide +kernel
theorem dX11_feed_46 : decode cX11_feed 46 = .ok (.getfield 28, 3) := by decide +kernel
theorem dX11_feed_49 : decode cX11_feed 49 = .ok (.aload_n 0, 1) := by decide +kernel
theorem dX11_feed_50 : decode cX11_feed 50 = .ok (.getfield 77, 3) := by decide +kernel
theorem dX11_feed_53 : decode cX11_feed 53 = .ok (.lload_n 1, 1) := by decide +kernel
theorem dX11_feed_54 : decode cX11_feed 54 = .ok (.bipush 8, 2) := by decide +kernel
theorem dX11_feed_56 : decode cX11_feed 56 = .ok (.iload 4, 2) := by decide +kernel
theorem dX11_feed_58 : decode cX11_feed 58 = .ok (.imul, 1) := by decide +kernel
theorem dX11_feed_59 : decode cX11_feed 59 = .ok (.lshr, 1) := by decide +kernel
theorem dX11_feed_60 : decode cX11_feed 60 = .ok (.ldc2_w 81, 3) := by decide +kernel
theorem dX11_feed_63 : decode cX11_feed 63 = .ok (.land, 1) := by decide +kernel
theorem dX11_feed_64 : decode cX11_feed 64 = .ok (.l2i, 1) := by decide +kernel
theorem dX11_feed_65 : decode cX11_feed 65 = .ok (.iastore, 1) := by decide +kernel
theorem dX11_feed_66 : decode cX11_feed 66 = .ok (.aload_n 0, 1) := by decide +kernel
theorem dX11_feed_67 : decode cX11_feed 67 = .ok (.dup, 1) := by decide +kernel
theorem dX11_feed_68 : decode cX11_feed 68 = .ok (.getfield 77, 3) := by decide +kernel
theorem dX11_feed_71 : decode cX11_feed 71 = .ok (.iconst 1, 1) := by decide +kernel
theorem dX11_feed_72 : decode cX11_feed 72 = .ok (.iadd, 1) := by decide +kernel
theorem dX11_feed_73 : decode cX11_feed 73 = .ok (.putfield 77, 3) := by decide +kernel
theorem dX11_feed_76 : decode cX11_feed 76 = .ok (.iinc 4 (-1), 3) := by decide +kernel
theorem dX11_feed_79 : decode cX11_feed 79 = .ok (.goto (-39), 3) := by decide +kernel
theorem dX11_feed_82 : decode cX11_feed 82 = .ok (.aload_n 0, 1) := by decide +kernel
theorem dX11_feed_83 : decode cX11_feed 83 = .ok (.getfield 77, 3) := by decide +kernel
theorem dX11_feed_86 : decode cX11_feed 86 = .ok (.ireturn, 1) := by decide +kernel
theorem dX11_byteAt_0 : decode cX11_byteAt 0 = .ok (.iload_n 1, 1) := by decide +kernel
theorem dX11_byteAt_1 : decode cX11_byteAt 1 = .ok (.aload_n 0, 1) := by decide +kernel
theorem dX11_byteAt_2 : decode cX11_byteAt 2 = .ok (.getfield 83, 3) := by decide +kernel
theorem dX11_byteAt_5 : decode cX11_byteAt 5 = .ok (.if_icmp .ge 12, 3) := by decide +kernel
theorem dX11_byteAt_8 : decode cX11_byteAt 8 = .ok (.aload_n 0, 1) := by decide +kernel
theorem dX11_byteAt_9 : decode cX11_byteAt 9 = .ok (.getfield 28, 3) := by decide +kernel
theorem dX11_byteAt_12 : decode cX11_byteAt 12 = .ok (.iload_n 1, 1) := by decide +kernel
theorem dX11_byteAt_13 : decode cX11_byteAt 13 = .ok (.iaload, 1) := by decide +kernel
theorem dX11_byteAt_14 : decode cX11_byteAt 14 = .ok (.goto 5, 3) := by decide +kernel
theorem dX11_byteAt_17 : decode cX11_byteAt 17 = .ok (.ldc 86, 2) := by decide +kernel
theorem dX11_byteAt_19 : decode cX11_byteAt 19 = .ok (.ireturn, 1) := by decide +kernel
theorem dX11_isLetter_0 : decode cX11_isLetter 0 = .ok (.iload_n 0, 1) := by decide +kernel
theorem dX11_isLetter_1 : decode cX11_isLetter 1 = .ok (.bipush 97, 2) := by decide +kernel
theorem dX11_isLetter_3 : decode cX11_isLetter 3 = .ok (.if_icmp .lt 13, 3) := by decide +kernel
theorem dX11_isLetter_6 : decode cX11_isLetter 6 = .ok (.iload_n 0, 1) := by decide +kernel
theorem dX11_isLetter_7 : decode cX11_isLetter 7 = .ok (.bipush 122, 2) := by decide +kernel
theorem dX11_isLetter_9 : decode cX11_isLetter 9 = .ok (.if_icmp .gt 7, 3) := by decide +kernel
theorem dX11_isLetter_12 : decode cX11_isLetter 12 = .ok (.iconst 1, 1) := by decide +kernel
theorem dX11_isLetter_13 : decode cX11_isLetter 13 = .ok (.goto 4, 3) := by decide +kernel
theorem dX11_isLetter_16 : decode cX11_isLetter 16 = .ok (.iconst 0, 1) := by decide +kernel
theorem dX11_isLetter_17 : decode cX11_isLetter 17 = .ok (.ireturn, 1) := by decide +kernel
theorem dX11_isFigure_0 : decode cX11_isFigure 0 = .ok (.iload_n 0, 1) := by decide +kernel
theorem dX11_isFigure_1 : decode cX11_isFigure 1 = .ok (.bipush 48, 2) := by decide +kernel
theorem dX11_isFigure_3 : decode cX11_isFigure 3 = .ok (.if_icmp .lt 13, 3) := by decide +kernel
theorem dX11_isFigure_6 : decode cX11_isFigure 6 = .ok (.iload_n 0, 1) := by decide +kernel
theorem dX11_isFigure_7 : decode cX11_isFigure 7 = .ok (.bipush 57, 2) := by decide +kernel
theorem dX11_isFigure_9 : decode cX11_isFigure 9 = .ok (.if_icmp .gt 7, 3) := by decide +kernel
theorem dX11_isFigure_12 : decode cX11_isFigure 12 = .ok (.iconst 1, 1) := by decide +kernel
theorem dX11_isFigure_13 : decode cX11_isFigure 13 = .ok (.goto 4, 3) := by decide +kernel
theorem dX11_isFigure_16 : decode cX11_isFigure 16 = .ok (.iconst 0, 1) := by decide +kernel
theorem dX11_isFigure_17 : decode cX11_isFigure 17 = .ok (.ireturn, 1) := by decide +kernel
theorem dX11_next_0 : decode cX11_next 0 = .ok (.aload_n 0, 1) := by decide +kernel
theorem dX11_next_1 : decode cX11_next 1 = .ok (.aload_n 0, 1) := by decide +kernel
theorem dX11_next_2 : decode cX11_next 2 = .ok (.getfield 87, 3) := by decide +kernel
theorem dX11_next_5 : decode cX11_next 5 = .ok (.invokevirtual 90, 3) := by decide +kernel
theorem dX11_next_8 : decode cX11_next 8 = .ok (.bipush 32, 2) := by decide +kernel
theorem dX11_next_10 : decode cX11_next 10 = .ok (.if_icmp .eq 16, 3) := by decide +kernel
theorem dX11_next_13 : decode cX11_next 13 = .ok (.aload_n 0, 1) := by decide +kernel
theorem dX11_next_14 : decode cX11_next 14 = .ok (.aload_n 0, 1) := by decide +kernel
theorem dX11_next_15 : decode cX11_next 15 = .ok (.getfield 87, 3) := by decide +kernel
theorem dX11_next_18 : decode cX11_next 18 = .ok (.invokevirtual 90, 3) := by decide +kernel
theorem dX11_next_21 : decode cX11_next 21 = .ok (.bipush 10, 2) := by decide +kernel
theorem dX11_next_23 : decode cX11_next 23 = .ok (.if_icmp .ne 16, 3) := by decide +kernel
theorem dX11_next_26 : decode cX11_next 26 = .ok (.aload_n 0, 1) := by decide +kernel
theorem dX11_next_27 : decode cX11_next 27 = .ok (.dup, 1) := by decide +kernel
theorem dX11_next_28 : decode cX11_next 28 = .ok (.getfield 87, 3) := by decide +kernel
theorem dX11_next_31 : decode cX11_next 31 = .ok (.iconst 1, 1) := by decide +kernel
theorem dX11_next_32 : decode cX11_next 32 = .ok (.iadd, 1) := by decide +kernel
theorem dX11_next_33 : decode cX11_next 33 = .ok (.putfield 87, 3) := by decide +kernel
theorem dX11_next_36 : decode cX11_next 36 = .ok (.goto (-36), 3) := by decide +kernel
theorem dX11_next_39 : decode cX11_next 39 = .ok (.aload_n 0, 1) := by decide +kernel
theorem dX11_next_40 : decode cX11_next 40 = .ok (.aload_n 0, 1) := by decide +kernel
theorem dX11_next_41 : decode cX11_next 41 = .ok (.getfield 87, 3) := by decide +kernel
theorem dX11_next_44 : decode cX11_next 44 = .ok (.putfield 93, 3) := by decide +kernel
theorem dX11_next_47 : decode cX11_next 47 = .ok (.aload_n 0, 1) := by decide +kernel
theorem dX11_next_48 : decode cX11_next 48 = .ok (.aload_n 0, 1) := by decide +kernel
theorem dX11_next_49 : decode cX11_next 49 = .ok (.getfield 87, 3) := by decide +kernel
theorem dX11_next_52 : decode cX11_next 52 = .ok (.invokevirtual 90, 3) := by decide +kernel
theorem dX11_next_55 : decode cX11_next 55 = .ok (.istore_n 1, 1) := by decide +kernel
theorem dX11_next_56 : decode cX11_next 56 = .ok (.iload_n 1, 1) := by decide +kernel
theorem dX11_next_57 : decode cX11_next 57 = .ok (.ldc 86, 2) := by decide +kernel
theorem dX11_next_59 : decode cX11_next 59 = .ok (.if_icmp .ne 11, 3) := by decide +kernel
theorem dX11_next_62 : decode cX11_next 62 = .ok (.aload_n 0, 1) := by decide +kernel
theorem dX11_next_63 : decode cX11_next 63 = .ok (.iconst 1, 1) := by decide +kernel
theorem dX11_next_64 : decode cX11_next 64 = .ok (.putfield 96, 3) := by decide +kernel
theorem dX11_next_67 : decode cX11_next 67 = .ok (.goto 129, 3) := by decide +kernel
theorem dX11_next_70 : decode cX11_next 70 = .ok (.iload_n 1, 1) := by decide +kernel
theorem dX11_next_71 : decode cX11_next 71 = .ok (.invokestatic 99, 3) := by decide +kernel
theorem dX11_next_74 : decode cX11_next 74 = .ok (.ifCond .eq 38, 3) := by decide +kernel
theorem dX11_next_77 : decode cX11_next 77 = .ok (.aload_n 0, 1) := by decide +kernel
theorem dX11_next_78 : decode cX11_next 78 = .ok (.aload_n 0, 1) := by decide +kernel
theorem dX11_next_79 : decode cX11_next 79 = .ok (.getfield 87, 3) := by decide +kernel
theorem dX11_next_82 : decode cX11_next 82 = .ok (.invokevirtual 90, 3) := by decide +kernel
theorem dX11_next_85 : decode cX11_next 85 = .ok (.invokestatic 99, 3) := by decide +kernel
theorem dX11_next_88 : decode cX11_next 88 = .ok (.ifCond .eq 16, 3) := by decide +kernel
theorem dX11_next_91 : decode cX11_next 91 = .ok (.aload_n 0, 1) := by decide +kernel
theorem dX11_next_92 : decode cX11_next 92 = .ok (.dup, 1) := by decide +kernel
theorem dX11_next_93 : decode cX11_next 93 = .ok (.getfield 87, 3) := by decide +kernel
theorem dX11_next_96 : decode cX11_next 96 = .ok (.iconst 1, 1) := by decide +kernel
theorem dX11_next_97 : decode cX11_next 97 = .ok (.iadd, 1) := by decide +kernel
theorem dX11_next_98 : decode cX11_next 98 = .ok (.putfield 87, 3) := by decide +kernel
theorem dX11_next_101 : decode cX11_next 101 = .ok (.goto (-24), 3) := by decide +kernel
theorem dX11_next_104 : decode cX11_next 104 = .ok (.aload_n 0, 1) := by decide +kernel
theorem dX11_next_105 : decode cX11_next 105 = .ok (.iconst 2, 1) := by decide +kernel
theorem dX11_next_106 : decode cX11_next 106 = .ok (.putfield 96, 3) := by decide +kernel
theorem dX11_next_109 : decode cX11_next 109 = .ok (.goto 87, 3) := by decide +kernel
theorem dX11_next_112 : decode cX11_next 112 = .ok (.iload_n 1, 1) := by decide +kernel
theorem dX11_next_113 : decode cX11_next 113 = .ok (.invokestatic 102, 3) := by decide +kernel
theorem dX11_next_116 : decode cX11_next 116 = .ok (.ifCond .eq 55, 3) := by decide +kernel
theorem dX11_next_119 : decode cX11_next 119 = .ok (.aload_n 0, 1) := by decide +kernel
