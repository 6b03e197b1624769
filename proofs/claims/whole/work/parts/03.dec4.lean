theorem dX11_best_14 : decode cX11_best 14 = .ok (.ireturn, 1) := by decide +kernel
theorem dX11_best_15 : decode cX11_best 15 = .ok (.iload_n 1, 1) := by decide +kernel
theorem dX11_best_16 : decode cX11_best 16 = .ok (.i2l, 1) := by decide +kernel
theorem dX11_best_17 : decode cX11_best 17 = .ok (.ldc2_w 209, 3) := by decide +kernel
theorem dX11_best_20 : decode cX11_best 20 = .ok (.aload_n 0, 1) := by decide +kernel
theorem dX11_best_21 : decode cX11_best 21 = .ok (.getfield 19, 3) := by decide +kernel
theorem dX11_best_24 : decode cX11_best 24 = .ok (.iconst 3, 1) := by decide +kernel
theorem dX11_best_25 : decode cX11_best 25 = .ok (.iaload, 1) := by decide +kernel
theorem dX11_best_26 : decode cX11_best 26 = .ok (.iconst 1, 1) := by decide +kernel
theorem dX11_best_27 : decode cX11_best 27 = .ok (.isub, 1) := by decide +kernel
theorem dX11_best_28 : decode cX11_best 28 = .ok (.i2l, 1) := by decide +kernel
theorem dX11_best_29 : decode cX11_best 29 = .ok (.invokestatic 60, 3) := by decide +kernel
theorem dX11_best_32 : decode cX11_best 32 = .ok (.ifCond .ne 6, 3) := by decide +kernel
theorem dX11_best_35 : decode cX11_best 35 = .ok (.ldc 70, 2) := by decide +kernel
theorem dX11_best_37 : decode cX11_best 37 = .ok (.ireturn, 1) := by decide +kernel
theorem dX11_best_38 : decode cX11_best 38 = .ok (.aload_n 0, 1) := by decide +kernel
theorem dX11_best_39 : decode cX11_best 39 = .ok (.invokevirtual 255, 3) := by decide +kernel
theorem dX11_best_42 : decode cX11_best 42 = .ok (.istore_n 2, 1) := by decide +kernel
theorem dX11_best_43 : decode cX11_best 43 = .ok (.aload_n 0, 1) := by decide +kernel
theorem dX11_best_44 : decode cX11_best 44 = .ok (.getfield 252, 3) := by decide +kernel
theorem dX11_best_47 : decode cX11_best 47 = .ok (.istore_n 3, 1) := by decide +kernel
theorem dX11_best_48 : decode cX11_best 48 = .ok (.aload_n 0, 1) := by decide +kernel
theorem dX11_best_49 : decode cX11_best 49 = .ok (.getfield 19, 3) := by decide +kernel
theorem dX11_best_52 : decode cX11_best 52 = .ok (.iconst 3, 1) := by decide +kernel
theorem dX11_best_53 : decode cX11_best 53 = .ok (.iaload, 1) := by decide +kernel
theorem dX11_best_54 : decode cX11_best 54 = .ok (.iconst 1, 1) := by decide +kernel
theorem dX11_best_55 : decode cX11_best 55 = .ok (.isub, 1) := by decide +kernel
theorem dX11_best_56 : decode cX11_best 56 = .ok (.istore 4, 2) := by decide +kernel
theorem dX11_best_58 : decode cX11_best 58 = .ok (.iload 4, 2) := by decide +kernel
theorem dX11_best_60 : decode cX11_best 60 = .ok (.iload_n 1, 1) := by decide +kernel
theorem dX11_best_61 : decode cX11_best 61 = .ok (.if_icmp .le 17, 3) := by decide +kernel
theorem dX11_best_64 : decode cX11_best 64 = .ok (.iload_n 1, 1) := by decide +kernel
theorem dX11_best_65 : decode cX11_best 65 = .ok (.ifCond .lt 13, 3) := by decide +kernel
theorem dX11_best_68 : decode cX11_best 68 = .ok (.iload_n 3, 1) := by decide +kernel
theorem dX11_best_69 : decode cX11_best 69 = .ok (.iconst 3, 1) := by decide +kernel
theorem dX11_best_70 : decode cX11_best 70 = .ok (.idiv, 1) := by decide +kernel
theorem dX11_best_71 : decode cX11_best 71 = .ok (.istore_n 3, 1) := by decide +kernel
theorem dX11_best_72 : decode cX11_best 72 = .ok (.iinc 4 (-1), 3) := by decide +kernel
theorem dX11_best_75 : decode cX11_best 75 = .ok (.goto (-17), 3) := by decide +kernel
theorem dX11_best_78 : decode cX11_best 78 = .ok (.iload_n 1, 1) := by decide +kernel
theorem dX11_best_79 : decode cX11_best 79 = .ok (.ifCond .ge 7, 3) := by decide +kernel
theorem dX11_best_82 : decode cX11_best 82 = .ok (.iload_n 2, 1) := by decide +kernel
theorem dX11_best_83 : decode cX11_best 83 = .ok (.goto 6, 3) := by decide +kernel
theorem dX11_best_86 : decode cX11_best 86 = .ok (.iload_n 3, 1) := by decide +kernel
theorem dX11_best_87 : decode cX11_best 87 = .ok (.iconst 3, 1) := by decide +kernel
theorem dX11_best_88 : decode cX11_best 88 = .ok (.irem, 1) := by decide +kernel
theorem dX11_best_89 : decode cX11_best 89 = .ok (.ireturn, 1) := by decide +kernel
theorem dX11_layTogether_0 : decode cX11_layTogether 0 = .ok (.iconst 0, 1) := by decide +kernel
theorem dX11_layTogether_1 : decode cX11_layTogether 1 = .ok (.istore_n 2, 1) := by decide +kernel
theorem dX11_layTogether_2 : decode cX11_layTogether 2 = .ok (.iload_n 2, 1) := by decide +kernel
theorem dX11_layTogether_3 : decode cX11_layTogether 3 = .ok (.iconst 1, 1) := by decide +kernel
theorem dX11_layTogether_4 : decode cX11_layTogether 4 = .ok (.aload_n 0, 1) := by decide +kernel
theorem dX11_layTogether_5 : decode cX11_layTogether 5 = .ok (.getfield 19, 3) := by decide +kernel
theorem dX11_layTogether_8 : decode cX11_layTogether 8 = .ok (.iconst 3, 1) := by decide +kernel
theorem dX11_layTogether_9 : decode cX11_layTogether 9 = .ok (.iaload, 1) := by decide +kernel
theorem dX11_layTogether_10 : decode cX11_layTogether 10 = .ok (.ishl, 1) := by decide +kernel
theorem dX11_layTogether_11 : decode cX11_layTogether 11 = .ok (.if_icmp .ge 139, 3) := by decide +kernel
theorem dX11_layTogether_14 : decode cX11_layTogether 14 = .ok (.aload_n 0, 1) := by decide +kernel
theorem dX11_layTogether_15 : decode cX11_layTogether 15 = .ok (.getfield 34, 3) := by decide +kernel
theorem dX11_layTogether_18 : decode cX11_layTogether 18 = .ok (.iload_n 2, 1) := by decide +kernel
theorem dX11_layTogether_19 : decode cX11_layTogether 19 = .ok (.iconst 0, 1) := by decide +kernel
theorem dX11_layTogether_20 : decode cX11_layTogether 20 = .ok (.iastore, 1) := by decide +kernel
theorem dX11_layTogether_21 : decode cX11_layTogether 21 = .ok (.aload_n 0, 1) := by decide +kernel
theorem dX11_layTogether_22 : decode cX11_layTogether 22 = .ok (.getfield 37, 3) := by decide +kernel
theorem dX11_layTogether_25 : decode cX11_layTogether 25 = .ok (.iload_n 2, 1) := by decide +kernel
theorem dX11_layTogether_26 : decode cX11_layTogether 26 = .ok (.iconst 0, 1) := by decide +kernel
theorem dX11_layTogether_27 : decode cX11_layTogether 27 = .ok (.iastore, 1) := by decide +kernel
theorem dX11_layTogether_28 : decode cX11_layTogether 28 = .ok (.iconst 0, 1) := by decide +kernel
theorem dX11_layTogether_29 : decode cX11_layTogether 29 = .ok (.istore_n 3, 1) := by decide +kernel
theorem dX11_layTogether_30 : decode cX11_layTogether 30 = .ok (.iload_n 3, 1) := by decide +kernel
theorem dX11_layTogether_31 : decode cX11_layTogether 31 = .ok (.aload_n 0, 1) := by decide +kernel
theorem dX11_layTogether_32 : decode cX11_layTogether 32 = .ok (.getfield 19, 3) := by decide +kernel
theorem dX11_layTogether_35 : decode cX11_layTogether 35 = .ok (.iconst 3, 1) := by decide +kernel
theorem dX11_layTogether_36 : decode cX11_layTogether 36 = .ok (.iaload, 1) := by decide +kernel
theorem dX11_layTogether_37 : decode cX11_layTogether 37 = .ok (.if_icmp .ge 36, 3) := by decide +kernel
theorem dX11_layTogether_40 : decode cX11_layTogether 40 = .ok (.aload_n 0, 1) := by decide +kernel
theorem dX11_layTogether_41 : decode cX11_layTogether 41 = .ok (.getfield 34, 3) := by decide +kernel
theorem dX11_layTogether_44 : decode cX11_layTogether 44 = .ok (.iload_n 2, 1) := by decide +kernel
theorem dX11_layTogether_45 : decode cX11_layTogether 45 = .ok (.dup2, 1) := by decide +kernel
theorem dX11_layTogether_46 : decode cX11_layTogether 46 = .ok (.iaload, 1) := by decide +kernel
theorem dX11_layTogether_47 : decode cX11_layTogether 47 = .ok (.iload_n 2, 1) := by decide +kernel
theorem dX11_layTogether_48 : decode cX11_layTogether 48 = .ok (.iload_n 3, 1) := by decide +kernel
theorem dX11_layTogether_49 : decode cX11_layTogether 49 = .ok (.ishr, 1) := by decide +kernel
theorem dX11_layTogether_50 : decode cX11_layTogether 50 = .ok (.iconst 1, 1) := by decide +kernel
theorem dX11_layTogether_51 : decode cX11_layTogether 51 = .ok (.iand, 1) := by decide +kernel
theorem dX11_layTogether_52 : decode cX11_layTogether 52 = .ok (.iconst 1, 1) := by decide +kernel
theorem dX11_layTogether_53 : decode cX11_layTogether 53 = .ok (.if_icmp .ne 11, 3) := by decide +kernel
theorem dX11_layTogether_56 : decode cX11_layTogether 56 = .ok (.aload_n 0, 1) := by decide +kernel
theorem dX11_layTogether_57 : decode cX11_layTogether 57 = .ok (.iload_n 3, 1) := by decide +kernel
theorem dX11_layTogether_58 : decode cX11_layTogether 58 = .ok (.invokevirtual 200, 3) := by decide +kernel
theorem dX11_layTogether_61 : decode cX11_layTogether 61 = .ok (.goto 4, 3) := by decide +kernel
theorem dX11_layTogether_64 : decode cX11_layTogether 64 = .ok (.iconst 0, 1) := by decide +kernel
theorem dX11_layTogether_65 : decode cX11_layTogether 65 = .ok (.iadd, 1) := by decide +kernel
theorem dX11_layTogether_66 : decode cX11_layTogether 66 = .ok (.iastore, 1) := by decide +kernel
theorem dX11_layTogether_67 : decode cX11_layTogether 67 = .ok (.iinc 3 1, 3) := by decide +kernel
theorem dX11_layTogether_70 : decode cX11_layTogether 70 = .ok (.goto (-40), 3) := by decide +kernel
theorem dX11_layTogether_73 : decode cX11_layTogether 73 = .ok (.iload_n 2, 1) := by decide +kernel
theorem dX11_layTogether_74 : decode cX11_layTogether 74 = .ok (.istore_n 3, 1) := by decide +kernel
theorem dX11_layTogether_75 : decode cX11_layTogether 75 = .ok (.iload_n 3, 1) := by decide +kernel
theorem dX11_layTogether_76 : decode cX11_layTogether 76 = .ok (.ifCond .le 68, 3) := by decide +kernel
theorem dX11_layTogether_79 : decode cX11_layTogether 79 = .ok (.aload_n 0, 1) := by decide +kernel
theorem dX11_layTogether_80 : decode cX11_layTogether 80 = .ok (.getfield 34, 3) := by decide +kernel
theorem dX11_layTogether_83 : decode cX11_layTogether 83 = .ok (.iload_n 3, 1) := by decide +kernel
theorem dX11_layTogether_84 : decode cX11_layTogether 84 = .ok (.iaload, 1) := by decide +kernel
theorem dX11_layTogether_85 : decode cX11_layTogether 85 = .ok (.iload_n 1, 1) := by decide +kernel
theorem dX11_layTogether_86 : decode cX11_layTogether 86 = .ok (.if_icmp .lt 18, 3) := by decide +kernel
theorem dX11_layTogether_89 : decode cX11_layTogether 89 = .ok (.aload_n 0, 1) := by decide +kernel
theorem dX11_layTogether_90 : decode cX11_layTogether 90 = .ok (.getfield 37, 3) := by decide +kernel
theorem dX11_layTogether_93 : decode cX11_layTogether 93 = .ok (.iload_n 2, 1) := by decide +kernel
theorem dX11_layTogether_94 : decode cX11_layTogether 94 = .ok (.iload_n 3, 1) := by decide +kernel
theorem dX11_layTogether_95 : decode cX11_layTogether 95 = .ok (.iconst (-1), 1) := by decide +kernel
theorem dX11_layTogether_96 : decode cX11_layTogether 96 = .ok (.ixor, 1) := by decide +kernel
theorem dX11_layTogether_97 : decode cX11_layTogether 97 = .ok (.iand, 1) := by decide +kernel
theorem dX11_layTogether_98 : decode cX11_layTogether 98 = .ok (.iaload, 1) := by decide +kernel
theorem dX11_layTogether_99 : decode cX11_layTogether 99 = .ok (.iconst 1, 1) := by decide +kernel
theorem dX11_layTogether_100 : decode cX11_layTogether 100 = .ok (.iadd, 1) := by decide +kernel
theorem dX11_layTogether_101 : decode cX11_layTogether 101 = .ok (.goto 4, 3) := by decide +kernel
theorem dX11_layTogether_104 : decode cX11_layTogether 104 = .ok (.iconst 0, 1) := by decide +kernel
theorem dX11_layTogether_105 : decode cX11_layTogether 105 = .ok (.istore 4, 2) := by decide +kernel
theorem dX11_layTogether_107 : decode cX11_layTogether 107 = .ok (.aload_n 0, 1) := by decide +kernel
theorem dX11_layTogether_108 : decode cX11_layTogether 108 = .ok (.getfield 37, 3) := by decide +kernel
theorem dX11_layTogether_111 : decode cX11_layTogether 111 = .ok (.iload_n 2, 1) := by decide +kernel
theorem dX11_layTogether_112 : decode cX11_layTogether 112 = .ok (.iload 4, 2) := by decide +kernel
theorem dX11_layTogether_114 : decode cX11_layTogether 114 = .ok (.aload_n 0, 1) := by decide +kernel
theorem dX11_layTogether_115 : decode cX11_layTogether 115 = .ok (.getfield 37, 3) := by decide +kernel
theorem dX11_layTogether_118 : decode cX11_layTogether 118 = .ok (.iload_n 2, 1) := by decide +kernel
theorem dX11_layTogether_119 : decode cX11_layTogether 119 = .ok (.iaload, 1) := by decide +kernel
theorem dX11_layTogether_120 : decode cX11_layTogether 120 = .ok (.if_icmp .le 8, 3) := by decide +kernel
theorem dX11_layTogether_123 : decode cX11_layTogether 123 = .ok (.iload 4, 2) := by decide +kernel
theorem dX11_layTogether_125 : decode cX11_layTogether 125 = .ok (.goto 9, 3) := by decide +kernel
theorem dX11_layTogether_128 : decode cX11_layTogether 128 = .ok (.aload_n 0, 1) := by decide +kernel
theorem dX11_layTogether_129 : decode cX11_layTogether 129 = .ok (.getfield 37, 3) := by decide +kernel
theorem dX11_layTogether_132 : decode cX11_layTogether 132 = .ok (.iload_n 2, 1) := by decide +kernel
theorem dX11_layTogether_133 : decode cX11_layTogether 133 = .ok (.iaload, 1) := by decide +kernel
theorem dX11_layTogether_134 : decode cX11_layTogether 134 = .ok (.iastore, 1) := by decide +kernel
theorem dX11_layTogether_135 : decode cX11_layTogether 135 = .ok (.iload_n 3, 1) := by decide +kernel
theorem dX11_layTogether_136 : decode cX11_layTogether 136 = .ok (.iconst 1, 1) := by decide +kernel
theorem dX11_layTogether_137 : decode cX11_layTogether 137 = .ok (.isub, 1) := by decide +kernel
theorem dX11_layTogether_138 : decode cX11_layTogether 138 = .ok (.iload_n 2, 1) := by decide +kernel
theorem dX11_layTogether_139 : decode cX11_layTogether 139 = .ok (.iand, 1) := by decide +kernel
theorem dX11_layTogether_140 : decode cX11_layTogether 140 = .ok (.istore_n 3, 1) := by decide +kernel
theorem dX11_layTogether_141 : decode cX11_layTogether 141 = .ok (.goto (-66), 3) := by decide +kernel
theorem dX11_layTogether_144 : decode cX11_layTogether 144 = .ok (.iinc 2 1, 3) := by decide +kernel
theorem dX11_layTogether_147 : decode cX11_layTogether 147 = .ok (.goto (-145), 3) := by decide +kernel
theorem dX11_layTogether_150 : decode cX11_layTogether 150 = .ok (.return_, 1) := by decide +kernel
theorem dX11_costOf_0 : decode cX11_costOf 0 = .ok (.iconst 0, 1) := by decide +kernel
theorem dX11_costOf_1 : decode cX11_costOf 1 = .ok (.istore_n 2, 1) := by decide +kernel
theorem dX11_costOf_2 : decode cX11_costOf 2 = .ok (.iconst 0, 1) := by decide +kernel
theorem dX11_costOf_3 : decode cX11_costOf 3 = .ok (.istore_n 3, 1) := by decide +kernel
theorem dX11_costOf_4 : decode cX11_costOf 4 = .ok (.iload_n 3, 1) := by decide +kernel
theorem dX11_costOf_5 : decode cX11_costOf 5 = .ok (.aload_n 0, 1) := by decide +kernel
theorem dX11_costOf_6 : decode cX11_costOf 6 = .ok (.getfield 19, 3) := by decide +kernel
theorem dX11_costOf_9 : decode cX11_costOf 9 = .ok (.iconst 3, 1) := by decide +kernel
theorem dX11_costOf_10 : decode cX11_costOf 10 = .ok (.iaload, 1) := by decide +kernel
theorem dX11_costOf_11 : decode cX11_costOf 11 = .ok (.if_icmp .ge 37, 3) := by decide +kernel
theorem dX11_costOf_14 : decode cX11_costOf 14 = .ok (.iload_n 2, 1) := by decide +kernel
theorem dX11_costOf_15 : decode cX11_costOf 15 = .ok (.iload_n 1, 1) := by decide +kernel
theorem dX11_costOf_16 : decode cX11_costOf 16 = .ok (.iload_n 3, 1) := by decide +kernel
theorem dX11_costOf_17 : decode cX11_costOf 17 = .ok (.ishr, 1) := by decide +kernel
theorem dX11_costOf_18 : decode cX11_costOf 18 = .ok (.iconst 1, 1) := by decide +kernel
theorem dX11_costOf_19 : decode cX11_costOf 19 = .ok (.iand, 1) := by decide +kernel
theorem dX11_costOf_20 : decode cX11_costOf 20 = .ok (.iconst 1, 1) := by decide +kernel
theorem dX11_costOf_21 : decode cX11_costOf 21 = .ok (.if_icmp .ne 18, 3) := by decide +kernel
theorem dX11_costOf_24 : decode cX11_costOf 24 = .ok (.aload_n 0, 1) := by decide +kernel
theorem dX11_costOf_25 : decode cX11_costOf 25 = .ok (.iload_n 3, 1) := by decide +kernel
theorem dX11_costOf_26 : decode cX11_costOf 26 = .ok (.invokevirtual 191, 3) := by decide +kernel
theorem dX11_costOf_29 : decode cX11_costOf 29 = .ok (.aload_n 0, 1) := by decide +kernel
theorem dX11_costOf_30 : decode cX11_costOf 30 = .ok (.iload_n 3, 1) := by decide +kernel
theorem dX11_costOf_31 : decode cX11_costOf 31 = .ok (.iconst 2, 1) := by decide +kernel
theorem dX11_costOf_32 : decode cX11_costOf 32 = .ok (.invokevirtual 188, 3) := by decide +kernel
theorem dX11_costOf_35 : decode cX11_costOf 35 = .ok (.imul, 1) := by decide +kernel
theorem dX11_costOf_36 : decode cX11_costOf 36 = .ok (.goto 4, 3) := by decide +kernel
theorem dX11_costOf_39 : decode cX11_costOf 39 = .ok (.iconst 0, 1) := by decide +kernel
theorem dX11_costOf_40 : decode cX11_costOf 40 = .ok (.iadd, 1) := by decide +kernel
theorem dX11_costOf_41 : decode cX11_costOf 41 = .ok (.istore_n 2, 1) := by decide +kernel
theorem dX11_costOf_42 : decode cX11_costOf 42 = .ok (.iinc 3 1, 3) := by decide +kernel
theorem dX11_costOf_45 : decode cX11_costOf 45 = .ok (.goto (-41), 3) := by decide +kernel
theorem dX11_costOf_48 : decode cX11_costOf 48 = .ok (.iload_n 2, 1) := by decide +kernel
theorem dX11_costOf_49 : decode cX11_costOf 49 = .ok (.ireturn, 1) := by decide +kernel
theorem dX11_cheapest_0 : decode cX11_cheapest 0 = .ok (.aload_n 0, 1) := by decide +kernel
theorem dX11_cheapest_1 : decode cX11_cheapest 1 = .ok (.iconst 0, 1) := by decide +kernel
theorem dX11_cheapest_2 : decode cX11_cheapest 2 = .ok (.putfield 50, 3) := by decide +kernel
theorem dX11_cheapest_5 : decode cX11_cheapest 5 = .ok (.aload_n 0, 1) := by decide +kernel
theorem dX11_cheapest_6 : decode cX11_cheapest 6 = .ok (.getfield 177, 3) := by decide +kernel
theorem dX11_cheapest_9 : decode cX11_cheapest 9 = .ok (.ifCond .ne 6, 3) := by decide +kernel
theorem dX11_cheapest_12 : decode cX11_cheapest 12 = .ok (.ldc 218, 2) := by decide +kernel
theorem dX11_cheapest_14 : decode cX11_cheapest 14 = .ok (.ireturn, 1) := by decide +kernel
theorem dX11_cheapest_15 : decode cX11_cheapest 15 = .ok (.iload_n 1, 1) := by decide +kernel
theorem dX11_cheapest_16 : decode cX11_cheapest 16 = .ok (.invokestatic 227, 3) := by decide +kernel
theorem dX11_cheapest_19 : decode cX11_cheapest 19 = .ok (.ifCond .eq 13, 3) := by decide +kernel
theorem dX11_cheapest_22 : decode cX11_cheapest 22 = .ok (.iload_n 2, 1) := by decide +kernel
theorem dX11_cheapest_23 : decode cX11_cheapest 23 = .ok (.i2l, 1) := by decide +kernel
theorem dX11_cheapest_24 : decode cX11_cheapest 24 = .ok (.lconst 0, 1) := by decide +kernel
theorem dX11_cheapest_25 : decode cX11_cheapest 25 = .ok (.lconst 1, 1) := by decide +kernel
theorem dX11_cheapest_26 : decode cX11_cheapest 26 = .ok (.invokestatic 60, 3) := by decide +kernel
theorem dX11_cheapest_29 : decode cX11_cheapest 29 = .ok (.ifCond .ne 6, 3) := by decide +kernel
theorem dX11_cheapest_32 : decode cX11_cheapest 32 = .ok (.ldc 70, 2) := by decide +kernel
theorem dX11_cheapest_34 : decode cX11_cheapest 34 = .ok (.ireturn, 1) := by decide +kernel
theorem dX11_cheapest_35 : decode cX11_cheapest 35 = .ok (.iload_n 1, 1) := by decide +kernel
theorem dX11_cheapest_36 : decode cX11_cheapest 36 = .ok (.ifCond .ne 5, 3) := by decide +kernel
theorem dX11_cheapest_39 : decode cX11_cheapest 39 = .ok (.iconst 0, 1) := by decide +kernel
theorem dX11_cheapest_40 : decode cX11_cheapest 40 = .ok (.ireturn, 1) := by decide +kernel
theorem dX11_cheapest_41 : decode cX11_cheapest 41 = .ok (.aload_n 0, 1) := by decide +kernel
theorem dX11_cheapest_42 : decode cX11_cheapest 42 = .ok (.iload_n 1, 1) := by decide +kernel
theorem dX11_cheapest_43 : decode cX11_cheapest 43 = .ok (.iconst 2, 1) := by decide +kernel
theorem dX11_cheapest_44 : decode cX11_cheapest 44 = .ok (.iadd, 1) := by decide +kernel
theorem dX11_cheapest_45 : decode cX11_cheapest 45 = .ok (.iconst 3, 1) := by decide +kernel
theorem dX11_cheapest_46 : decode cX11_cheapest 46 = .ok (.idiv, 1) := by decide +kernel
theorem dX11_cheapest_47 : decode cX11_cheapest 47 = .ok (.invokevirtual 258, 3) := by decide +kernel
theorem dX11_cheapest_50 : decode cX11_cheapest 50 = .ok (.ldc 86, 2) := by decide +kernel
theorem dX11_cheapest_52 : decode cX11_cheapest 52 = .ok (.istore_n 3, 1) := by decide +kernel
theorem dX11_cheapest_53 : decode cX11_cheapest 53 = .ok (.iconst 0, 1) := by decide +kernel
theorem dX11_cheapest_54 : decode cX11_cheapest 54 = .ok (.istore 4, 2) := by decide +kernel
theorem dX11_cheapest_56 : decode cX11_cheapest 56 = .ok (.iload 4, 2) := by decide +kernel
theorem dX11_cheapest_58 : decode cX11_cheapest 58 = .ok (.iconst 1, 1) := by decide +kernel
theorem dX11_cheapest_59 : decode cX11_cheapest 59 = .ok (.aload_n 0, 1) := by decide +kernel
theorem dX11_cheapest_60 : decode cX11_cheapest 60 = .ok (.getfield 19, 3) := by decide +kernel
theorem dX11_cheapest_63 : decode cX11_cheapest 63 = .ok (.iconst 3, 1) := by decide +kernel
theorem dX11_cheapest_64 : decode cX11_cheapest 64 = .ok (.iaload, 1) := by decide +kernel
theorem dX11_cheapest_65 : decode cX11_cheapest 65 = .ok (.ishl, 1) := by decide +kernel
theorem dX11_cheapest_66 : decode cX11_cheapest 66 = .ok (.if_icmp .ge 59, 3) := by decide +kernel
theorem dX11_cheapest_69 : decode cX11_cheapest 69 = .ok (.aload_n 0, 1) := by decide +kernel
theorem dX11_cheapest_70 : decode cX11_cheapest 70 = .ok (.getfield 37, 3) := by decide +kernel
theorem dX11_cheapest_73 : decode cX11_cheapest 73 = .ok (.iload 4, 2) := by decide +kernel
theorem dX11_cheapest_75 : decode cX11_cheapest 75 = .ok (.iaload, 1) := by decide +kernel
theorem dX11_cheapest_76 : decode cX11_cheapest 76 = .ok (.iconst 3, 1) := by decide +kernel
theorem dX11_cheapest_77 : decode cX11_cheapest 77 = .ok (.if_icmp .lt 7, 3) := by decide +kernel
theorem dX11_cheapest_80 : decode cX11_cheapest 80 = .ok (.iconst 1, 1) := by decide +kernel
theorem dX11_cheapest_81 : decode cX11_cheapest 81 = .ok (.goto 4, 3) := by decide +kernel
theorem dX11_cheapest_84 : decode cX11_cheapest 84 = .ok (.iconst 0, 1) := by decide +kernel
theorem dX11_cheapest_85 : decode cX11_cheapest 85 = .ok (.istore 5, 2) := by decide +kernel
theorem dX11_cheapest_87 : decode cX11_cheapest 87 = .ok (.iload 5, 2) := by decide +kernel
theorem dX11_cheapest_89 : decode cX11_cheapest 89 = .ok (.ifCond .eq 28, 3) := by decide +kernel
theorem dX11_cheapest_92 : decode cX11_cheapest 92 = .ok (.iload_n 3, 1) := by decide +kernel
theorem dX11_cheapest_93 : decode cX11_cheapest 93 = .ok (.ldc 86, 2) := by decide +kernel
theorem dX11_cheapest_95 : decode cX11_cheapest 95 = .ok (.if_icmp .eq 17, 3) := by decide +kernel
theorem dX11_cheapest_98 : decode cX11_cheapest 98 = .ok (.aload_n 0, 1) := by decide +kernel
theorem dX11_cheapest_99 : decode cX11_cheapest 99 = .ok (.iload 4, 2) := by decide +kernel
theorem dX11_cheapest_101 : decode cX11_cheapest 101 = .ok (.invokevirtual 261, 3) := by decide +kernel
theorem dX11_cheapest_104 : decode cX11_cheapest 104 = .ok (.aload_n 0, 1) := by decide +kernel
theorem dX11_cheapest_105 : decode cX11_cheapest 105 = .ok (.iload_n 3, 1) := by decide +kernel
theorem dX11_cheapest_106 : decode cX11_cheapest 106 = .ok (.invokevirtual 261, 3) := by decide +kernel
theorem dX11_cheapest_109 : decode cX11_cheapest 109 = .ok (.if_icmp .ge 8, 3) := by decide +kernel
theorem dX11_cheapest_112 : decode cX11_cheapest 112 = .ok (.iload 4, 2) := by decide +kernel
theorem dX11_cheapest_114 : decode cX11_cheapest 114 = .ok (.goto 4, 3) := by decide +kernel
theorem dX11_cheapest_117 : decode cX11_cheapest 117 = .ok (.iload_n 3, 1) := by decide +kernel
theorem dX11_cheapest_118 : decode cX11_cheapest 118 = .ok (.istore_n 3, 1) := by decide +kernel
theorem dX11_cheapest_119 : decode cX11_cheapest 119 = .ok (.iinc 4 1, 3) := by decide +kernel
theorem dX11_cheapest_122 : decode cX11_cheapest 122 = .ok (.goto (-66), 3) := by decide +kernel
theorem dX11_cheapest_125 : decode cX11_cheapest 125 = .ok (.iload_n 3, 1) := by decide +kernel
theorem dX11_cheapest_126 : decode cX11_cheapest 126 = .ok (.ldc 86, 2) := by decide +kernel
theorem dX11_cheapest_128 : decode cX11_cheapest 128 = .ok (.if_icmp .eq 8, 3) := by decide +kernel
theorem dX11_cheapest_131 : decode cX11_cheapest 131 = .ok (.iload_n 2, 1) := by decide +kernel
theorem dX11_cheapest_132 : decode cX11_cheapest 132 = .ok (.iconst 1, 1) := by decide +kernel
theorem dX11_cheapest_133 : decode cX11_cheapest 133 = .ok (.if_icmp .ne 7, 3) := by decide +kernel
theorem dX11_cheapest_136 : decode cX11_cheapest 136 = .ok (.iload_n 3, 1) := by decide +kernel
theorem dX11_cheapest_137 : decode cX11_cheapest 137 = .ok (.goto 8, 3) := by decide +kernel
theorem dX11_cheapest_140 : decode cX11_cheapest 140 = .ok (.aload_n 0, 1) := by decide +kernel
theorem dX11_cheapest_141 : decode cX11_cheapest 141 = .ok (.iload_n 3, 1) := by decide +kernel
theorem dX11_cheapest_142 : decode cX11_cheapest 142 = .ok (.invokevirtual 261, 3) := by decide +kernel
theorem dX11_cheapest_145 : decode cX11_cheapest 145 = .ok (.ireturn, 1) := by decide +kernel
theorem dX11_bearsIf_0 : decode cX11_bearsIf 0 = .ok (.aload_n 0, 1) := by decide +kernel
theorem dX11_bearsIf_1 : decode cX11_bearsIf 1 = .ok (.invokevirtual 197, 3) := by decide +kernel
theorem dX11_bearsIf_4 : decode cX11_bearsIf 4 = .ok (.iconst 0, 1) := by decide +kernel
theorem dX11_bearsIf_5 : decode cX11_bearsIf 5 = .ok (.istore_n 2, 1) := by decide +kernel
theorem dX11_bearsIf_6 : decode cX11_bearsIf 6 = .ok (.iload_n 2, 1) := by decide +kernel
theorem dX11_bearsIf_7 : decode cX11_bearsIf 7 = .ok (.aload_n 0, 1) := by decide +kernel
theorem dX11_bearsIf_8 : decode cX11_bearsIf 8 = .ok (.getfield 19, 3) := by decide +kernel
theorem dX11_bearsIf_11 : decode cX11_bearsIf 11 = .ok (.iconst 3, 1) := by decide +kernel
theorem dX11_bearsIf_12 : decode cX11_bearsIf 12 = .ok (.iaload, 1) := by decide +kernel
theorem dX11_bearsIf_13 : decode cX11_bearsIf 13 = .ok (.if_icmp .ge 71, 3) := by decide +kernel
theorem dX11_bearsIf_16 : decode cX11_bearsIf 16 = .ok (.aload_n 0, 1) := by decide +kernel
theorem dX11_bearsIf_17 : decode cX11_bearsIf 17 = .ok (.iload_n 2, 1) := by decide +kernel
theorem dX11_bearsIf_18 : decode cX11_bearsIf 18 = .ok (.iconst 4, 1) := by decide +kernel
theorem dX11_bearsIf_19 : decode cX11_bearsIf 19 = .ok (.invokevirtual 188, 3) := by decide +kernel
theorem dX11_bearsIf_22 : decode cX11_bearsIf 22 = .ok (.ifCond .eq 12, 3) := by decide +kernel
theorem dX11_bearsIf_25 : decode cX11_bearsIf 25 = .ok (.aload_n 0, 1) := by decide +kernel
theorem dX11_bearsIf_26 : decode cX11_bearsIf 26 = .ok (.iload_n 2, 1) := by decide +kernel
theorem dX11_bearsIf_27 : decode cX11_bearsIf 27 = .ok (.iconst 4, 1) := by decide +kernel
theorem dX11_bearsIf_28 : decode cX11_bearsIf 28 = .ok (.invokevirtual 188, 3) := by decide +kernel
theorem dX11_bearsIf_31 : decode cX11_bearsIf 31 = .ok (.goto 17, 3) := by decide +kernel
theorem dX11_bearsIf_34 : decode cX11_bearsIf 34 = .ok (.iload_n 1, 1) := by decide +kernel
theorem dX11_bearsIf_35 : decode cX11_bearsIf 35 = .ok (.iload_n 2, 1) := by decide +kernel
theorem dX11_bearsIf_36 : decode cX11_bearsIf 36 = .ok (.ishr, 1) := by decide +kernel
theorem dX11_bearsIf_37 : decode cX11_bearsIf 37 = .ok (.iconst 1, 1) := by decide +kernel
theorem dX11_bearsIf_38 : decode cX11_bearsIf 38 = .ok (.iand, 1) := by decide +kernel
theorem dX11_bearsIf_39 : decode cX11_bearsIf 39 = .ok (.iconst 1, 1) := by decide +kernel
theorem dX11_bearsIf_40 : decode cX11_bearsIf 40 = .ok (.if_icmp .ne 7, 3) := by decide +kernel
theorem dX11_bearsIf_43 : decode cX11_bearsIf 43 = .ok (.iconst 1, 1) := by decide +kernel
theorem dX11_bearsIf_44 : decode cX11_bearsIf 44 = .ok (.goto 4, 3) := by decide +kernel
theorem dX11_bearsIf_47 : decode cX11_bearsIf 47 = .ok (.iconst 2, 1) := by decide +kernel
theorem dX11_bearsIf_48 : decode cX11_bearsIf 48 = .ok (.istore_n 3, 1) := by decide +kernel
theorem dX11_bearsIf_49 : decode cX11_bearsIf 49 = .ok (.aload_n 0, 1) := by decide +kernel
theorem dX11_bearsIf_50 : decode cX11_bearsIf 50 = .ok (.iload_n 2, 1) := by decide +kernel
theorem dX11_bearsIf_51 : decode cX11_bearsIf 51 = .ok (.iconst 3, 1) := by decide +kernel
theorem dX11_bearsIf_52 : decode cX11_bearsIf 52 = .ok (.invokevirtual 188, 3) := by decide +kernel
theorem dX11_bearsIf_55 : decode cX11_bearsIf 55 = .ok (.ifCond .lt 23, 3) := by decide +kernel
theorem dX11_bearsIf_58 : decode cX11_bearsIf 58 = .ok (.aload_n 0, 1) := by decide +kernel
theorem dX11_bearsIf_59 : decode cX11_bearsIf 59 = .ok (.getfield 31, 3) := by decide +kernel
theorem dX11_bearsIf_62 : decode cX11_bearsIf 62 = .ok (.aload_n 0, 1) := by decide +kernel
theorem dX11_bearsIf_63 : decode cX11_bearsIf 63 = .ok (.iload_n 2, 1) := by decide +kernel
theorem dX11_bearsIf_64 : decode cX11_bearsIf 64 = .ok (.iconst 3, 1) := by decide +kernel
theorem dX11_bearsIf_65 : decode cX11_bearsIf 65 = .ok (.invokevirtual 188, 3) := by decide +kernel
theorem dX11_bearsIf_68 : decode cX11_bearsIf 68 = .ok (.dup2, 1) := by decide +kernel
theorem dX11_bearsIf_69 : decode cX11_bearsIf 69 = .ok (.iaload, 1) := by decide +kernel
theorem dX11_bearsIf_70 : decode cX11_bearsIf 70 = .ok (.aload_n 0, 1) := by decide +kernel
theorem dX11_bearsIf_71 : decode cX11_bearsIf 71 = .ok (.iload_n 2, 1) := by decide +kernel
theorem dX11_bearsIf_72 : decode cX11_bearsIf 72 = .ok (.iload_n 3, 1) := by decide +kernel
theorem dX11_bearsIf_73 : decode cX11_bearsIf 73 = .ok (.invokevirtual 194, 3) := by decide +kernel
theorem dX11_bearsIf_76 : decode cX11_bearsIf 76 = .ok (.iadd, 1) := by decide +kernel
theorem dX11_bearsIf_77 : decode cX11_bearsIf 77 = .ok (.iastore, 1) := by decide +kernel
theorem dX11_bearsIf_78 : decode cX11_bearsIf 78 = .ok (.iinc 2 1, 3) := by decide +kernel
theorem dX11_bearsIf_81 : decode cX11_bearsIf 81 = .ok (.goto (-75), 3) := by decide +kernel
theorem dX11_bearsIf_84 : decode cX11_bearsIf 84 = .ok (.aload_n 0, 1) := by decide +kernel
theorem dX11_bearsIf_85 : decode cX11_bearsIf 85 = .ok (.invokevirtual 239, 3) := by decide +kernel
theorem dX11_bearsIf_88 : decode cX11_bearsIf 88 = .ok (.ireturn, 1) := by decide +kernel
theorem dX11_tenthsOf_0 : decode cX11_tenthsOf 0 = .ok (.aload_n 0, 1) := by decide +kernel
theorem dX11_tenthsOf_1 : decode cX11_tenthsOf 1 = .ok (.iload_n 1, 1) := by decide +kernel
theorem dX11_tenthsOf_2 : decode cX11_tenthsOf 2 = .ok (.iconst 0, 1) := by decide +kernel
theorem dX11_tenthsOf_3 : decode cX11_tenthsOf 3 = .ok (.invokevirtual 188, 3) := by decide +kernel
theorem dX11_tenthsOf_6 : decode cX11_tenthsOf 6 = .ok (.iconst 2, 1) := by decide +kernel
theorem dX11_tenthsOf_7 : decode cX11_tenthsOf 7 = .ok (.if_icmp .ne 8, 3) := by decide +kernel
theorem dX11_tenthsOf_10 : decode cX11_tenthsOf 10 = .ok (.bipush 10, 2) := by decide +kernel
theorem dX11_tenthsOf_12 : decode cX11_tenthsOf 12 = .ok (.goto 22, 3) := by decide +kernel
theorem dX11_tenthsOf_15 : decode cX11_tenthsOf 15 = .ok (.aload_n 0, 1) := by decide +kernel
theorem dX11_tenthsOf_16 : decode cX11_tenthsOf 16 = .ok (.iload_n 1, 1) := by decide +kernel
theorem dX11_tenthsOf_17 : decode cX11_tenthsOf 17 = .ok (.iconst 0, 1) := by decide +kernel
theorem dX11_tenthsOf_18 : decode cX11_tenthsOf 18 = .ok (.invokevirtual 188, 3) := by decide +kernel
theorem dX11_tenthsOf_21 : decode cX11_tenthsOf 21 = .ok (.iconst 4, 1) := by decide +kernel
theorem dX11_tenthsOf_22 : decode cX11_tenthsOf 22 = .ok (.if_icmp .ne 7, 3) := by decide +kernel
theorem dX11_tenthsOf_25 : decode cX11_tenthsOf 25 = .ok (.iconst 0, 1) := by decide +kernel
theorem dX11_tenthsOf_26 : decode cX11_tenthsOf 26 = .ok (.goto 8, 3) := by decide +kernel
theorem dX11_tenthsOf_29 : decode cX11_tenthsOf 29 = .ok (.aload_n 0, 1) := by decide +kernel
theorem dX11_tenthsOf_30 : decode cX11_tenthsOf 30 = .ok (.iload_n 1, 1) := by decide +kernel
theorem dX11_tenthsOf_31 : decode cX11_tenthsOf 31 = .ok (.invokevirtual 242, 3) := by decide +kernel
theorem dX11_tenthsOf_34 : decode cX11_tenthsOf 34 = .ok (.ireturn, 1) := by decide +kernel
theorem dX11_odds_0 : decode cX11_odds 0 = .ok (.aload_n 0, 1) := by decide +kernel
theorem dX11_odds_1 : decode cX11_odds 1 = .ok (.iconst 0, 1) := by decide +kernel
theorem dX11_odds_2 : decode cX11_odds 2 = .ok (.putfield 50, 3) := by decide +kernel
theorem dX11_odds_5 : decode cX11_odds 5 = .ok (.aload_n 0, 1) := by decide +kernel
theorem dX11_odds_6 : decode cX11_odds 6 = .ok (.getfield 177, 3) := by decide +kernel
theorem dX11_odds_9 : decode cX11_odds 9 = .ok (.ifCond .ne 6, 3) := by decide +kernel
theorem dX11_odds_12 : decode cX11_odds 12 = .ok (.ldc 218, 2) := by decide +kernel
theorem dX11_odds_14 : decode cX11_odds 14 = .ok (.ireturn, 1) := by decide +kernel
theorem dX11_odds_15 : decode cX11_odds 15 = .ok (.iload_n 1, 1) := by decide +kernel
theorem dX11_odds_16 : decode cX11_odds 16 = .ok (.invokestatic 227, 3) := by decide +kernel
theorem dX11_odds_19 : decode cX11_odds 19 = .ok (.ifCond .eq 13, 3) := by decide +kernel
theorem dX11_odds_22 : decode cX11_odds 22 = .ok (.iload_n 2, 1) := by decide +kernel
theorem dX11_odds_23 : decode cX11_odds 23 = .ok (.i2l, 1) := by decide +kernel
theorem dX11_odds_24 : decode cX11_odds 24 = .ok (.lconst 0, 1) := by decide +kernel
theorem dX11_odds_25 : decode cX11_odds 25 = .ok (.lconst 1, 1) := by decide +kernel
theorem dX11_odds_26 : decode cX11_odds 26 = .ok (.invokestatic 60, 3) := by decide +kernel
theorem dX11_odds_29 : decode cX11_odds 29 = .ok (.ifCond .ne 6, 3) := by decide +kernel
theorem dX11_odds_32 : decode cX11_odds 32 = .ok (.ldc 70, 2) := by decide +kernel
theorem dX11_odds_34 : decode cX11_odds 34 = .ok (.ireturn, 1) := by decide +kernel
theorem dX11_odds_35 : decode cX11_odds 35 = .ok (.iconst 1, 1) := by decide +kernel
theorem dX11_odds_36 : decode cX11_odds 36 = .ok (.istore_n 3, 1) := by decide +kernel
theorem dX11_odds_37 : decode cX11_odds 37 = .ok (.iconst 0, 1) := by decide +kernel
theorem dX11_odds_38 : decode cX11_odds 38 = .ok (.istore 4, 2) := by decide +kernel
theorem dX11_odds_40 : decode cX11_odds 40 = .ok (.iload 4, 2) := by decide +kernel
theorem dX11_odds_42 : decode cX11_odds 42 = .ok (.aload_n 0, 1) := by decide +kernel
theorem dX11_odds_43 : decode cX11_odds 43 = .ok (.getfield 19, 3) := by decide +kernel
theorem dX11_odds_46 : decode cX11_odds 46 = .ok (.iconst 3, 1) := by decide +kernel
theorem dX11_odds_47 : decode cX11_odds 47 = .ok (.iaload, 1) := by decide +kernel
theorem dX11_odds_48 : decode cX11_odds 48 = .ok (.if_icmp .ge 28, 3) := by decide +kernel
theorem dX11_odds_51 : decode cX11_odds 51 = .ok (.iload_n 3, 1) := by decide +kernel
theorem dX11_odds_52 : decode cX11_odds 52 = .ok (.aload_n 0, 1) := by decide +kernel
theorem dX11_odds_53 : decode cX11_odds 53 = .ok (.iload 4, 2) := by decide +kernel
theorem dX11_odds_55 : decode cX11_odds 55 = .ok (.iconst 4, 1) := by decide +kernel
theorem dX11_odds_56 : decode cX11_odds 56 = .ok (.invokevirtual 188, 3) := by decide +kernel
theorem dX11_odds_59 : decode cX11_odds 59 = .ok (.ifCond .ne 8, 3) := by decide +kernel
theorem dX11_odds_62 : decode cX11_odds 62 = .ok (.bipush 10, 2) := by decide +kernel
theorem dX11_odds_64 : decode cX11_odds 64 = .ok (.goto 4, 3) := by decide +kernel
theorem dX11_odds_67 : decode cX11_odds 67 = .ok (.iconst 1, 1) := by decide +kernel
theorem dX11_odds_68 : decode cX11_odds 68 = .ok (.imul, 1) := by decide +kernel
theorem dX11_odds_69 : decode cX11_odds 69 = .ok (.istore_n 3, 1) := by decide +kernel
theorem dX11_odds_70 : decode cX11_odds 70 = .ok (.iinc 4 1, 3) := by decide +kernel
theorem dX11_odds_73 : decode cX11_odds 73 = .ok (.goto (-33), 3) := by decide +kernel
theorem dX11_odds_76 : decode cX11_odds 76 = .ok (.iconst 0, 1) := by decide +kernel
theorem dX11_odds_77 : decode cX11_odds 77 = .ok (.istore 4, 2) := by decide +kernel
theorem dX11_odds_79 : decode cX11_odds 79 = .ok (.iconst 0, 1) := by decide +kernel
theorem dX11_odds_80 : decode cX11_odds 80 = .ok (.istore 5, 2) := by decide +kernel
theorem dX11_odds_82 : decode cX11_odds 82 = .ok (.iload 5, 2) := by decide +kernel
theorem dX11_odds_84 : decode cX11_odds 84 = .ok (.iconst 1, 1) := by decide +kernel
theorem dX11_odds_85 : decode cX11_odds 85 = .ok (.aload_n 0, 1) := by decide +kernel
theorem dX11_odds_86 : decode cX11_odds 86 = .ok (.getfield 19, 3) := by decide +kernel
theorem dX11_odds_89 : decode cX11_odds 89 = .ok (.iconst 3, 1) := by decide +kernel
theorem dX11_odds_90 : decode cX11_odds 90 = .ok (.iaload, 1) := by decide +kernel
theorem dX11_odds_91 : decode cX11_odds 91 = .ok (.ishl, 1) := by decide +kernel
theorem dX11_odds_92 : decode cX11_odds 92 = .ok (.if_icmp .ge 127, 3) := by decide +kernel
theorem dX11_odds_95 : decode cX11_odds 95 = .ok (.iconst 1, 1) := by decide +kernel
theorem dX11_odds_96 : decode cX11_odds 96 = .ok (.istore 6, 2) := by decide +kernel
theorem dX11_odds_98 : decode cX11_odds 98 = .ok (.iconst 0, 1) := by decide +kernel
theorem dX11_odds_99 : decode cX11_odds 99 = .ok (.istore 7, 2) := by decide +kernel
theorem dX11_odds_101 : decode cX11_odds 101 = .ok (.iload 7, 2) := by decide +kernel
theorem dX11_odds_103 : decode cX11_odds 103 = .ok (.aload_n 0, 1) := by decide +kernel
theorem dX11_odds_104 : decode cX11_odds 104 = .ok (.getfield 19, 3) := by decide +kernel
theorem dX11_odds_107 : decode cX11_odds 107 = .ok (.iconst 3, 1) := by decide +kernel
theorem dX11_odds_108 : decode cX11_odds 108 = .ok (.iaload, 1) := by decide +kernel
theorem dX11_odds_109 : decode cX11_odds 109 = .ok (.if_icmp .ge 78, 3) := by decide +kernel
theorem dX11_odds_112 : decode cX11_odds 112 = .ok (.iload 5, 2) := by decide +kernel
theorem dX11_odds_114 : decode cX11_odds 114 = .ok (.iload 7, 2) := by decide +kernel
theorem dX11_odds_116 : decode cX11_odds 116 = .ok (.ishr, 1) := by decide +kernel
theorem dX11_odds_117 : decode cX11_odds 117 = .ok (.iconst 1, 1) := by decide +kernel
theorem dX11_odds_118 : decode cX11_odds 118 = .ok (.iand, 1) := by decide +kernel
theorem dX11_odds_119 : decode cX11_odds 119 = .ok (.iconst 1, 1) := by decide +kernel
theorem dX11_odds_120 : decode cX11_odds 120 = .ok (.if_icmp .ne 7, 3) := by decide +kernel
theorem dX11_odds_123 : decode cX11_odds 123 = .ok (.iconst 1, 1) := by decide +kernel
theorem dX11_odds_124 : decode cX11_odds 124 = .ok (.goto 4, 3) := by decide +kernel
theorem dX11_odds_127 : decode cX11_odds 127 = .ok (.iconst 0, 1) := by decide +kernel
theorem dX11_odds_128 : decode cX11_odds 128 = .ok (.istore 8, 2) := by decide +kernel
theorem dX11_odds_130 : decode cX11_odds 130 = .ok (.iload 6, 2) := by decide +kernel
theorem dX11_odds_132 : decode cX11_odds 132 = .ok (.aload_n 0, 1) := by decide +kernel
theorem dX11_odds_133 : decode cX11_odds 133 = .ok (.iload 7, 2) := by decide +kernel
theorem dX11_odds_135 : decode cX11_odds 135 = .ok (.iconst 4, 1) := by decide +kernel
theorem dX11_odds_136 : decode cX11_odds 136 = .ok (.invokevirtual 188, 3) := by decide +kernel
theorem dX11_odds_139 : decode cX11_odds 139 = .ok (.ifCond .eq 16, 3) := by decide +kernel
theorem dX11_odds_142 : decode cX11_odds 142 = .ok (.iload 8, 2) := by decide +kernel
theorem dX11_odds_144 : decode cX11_odds 144 = .ok (.ifCond .eq 7, 3) := by decide +kernel
theorem dX11_odds_147 : decode cX11_odds 147 = .ok (.iconst 1, 1) := by decide +kernel
theorem dX11_odds_148 : decode cX11_odds 148 = .ok (.goto 30, 3) := by decide +kernel
theorem dX11_odds_151 : decode cX11_odds 151 = .ok (.iconst 0, 1) := by decide +kernel
theorem dX11_odds_152 : decode cX11_odds 152 = .ok (.goto 26, 3) := by decide +kernel
theorem dX11_odds_155 : decode cX11_odds 155 = .ok (.iload 8, 2) := by decide +kernel
theorem dX11_odds_157 : decode cX11_odds 157 = .ok (.ifCond .eq 12, 3) := by decide +kernel
theorem dX11_odds_160 : decode cX11_odds 160 = .ok (.aload_n 0, 1) := by decide +kernel
theorem dX11_odds_161 : decode cX11_odds 161 = .ok (.iload 7, 2) := by decide +kernel
theorem dX11_odds_163 : decode cX11_odds 163 = .ok (.invokevirtual 264, 3) := by decide +kernel
theorem dX11_odds_166 : decode cX11_odds 166 = .ok (.goto 12, 3) := by decide +kernel
theorem dX11_odds_169 : decode cX11_odds 169 = .ok (.bipush 10, 2) := by decide +kernel
theorem dX11_odds_171 : decode cX11_odds 171 = .ok (.aload_n 0, 1) := by decide +kernel
theorem dX11_odds_172 : decode cX11_odds 172 = .ok (.iload 7, 2) := by decide +kernel
theorem dX11_odds_174 : decode cX11_odds 174 = .ok (.invokevirtual 264, 3) := by decide +kernel
theorem dX11_odds_177 : decode cX11_odds 177 = .ok (.isub, 1) := by decide +kernel
theorem dX11_odds_178 : decode cX11_odds 178 = .ok (.imul, 1) := by decide +kernel
theorem dX11_odds_179 : decode cX11_odds 179 = .ok (.istore 6, 2) := by decide +kernel
theorem dX11_odds_181 : decode cX11_odds 181 = .ok (.iinc 7 1, 3) := by decide +kernel
theorem dX11_odds_184 : decode cX11_odds 184 = .ok (.goto (-83), 3) := by decide +kernel
theorem dX11_odds_187 : decode cX11_odds 187 = .ok (.iload 4, 2) := by decide +kernel
theorem dX11_odds_189 : decode cX11_odds 189 = .ok (.iload 6, 2) := by decide +kernel
theorem dX11_odds_191 : decode cX11_odds 191 = .ok (.ifCond .le 18, 3) := by decide +kernel
theorem dX11_odds_194 : decode cX11_odds 194 = .ok (.aload_n 0, 1) := by decide +kernel
theorem dX11_odds_195 : decode cX11_odds 195 = .ok (.iload 5, 2) := by decide +kernel
theorem dX11_odds_197 : decode cX11_odds 197 = .ok (.invokevirtual 267, 3) := by decide +kernel
theorem dX11_odds_200 : decode cX11_odds 200 = .ok (.iload_n 1, 1) := by decide +kernel
theorem dX11_odds_201 : decode cX11_odds 201 = .ok (.if_icmp .lt 8, 3) := by decide +kernel
theorem dX11_odds_204 : decode cX11_odds 204 = .ok (.iload 6, 2) := by decide +kernel
theorem dX11_odds_206 : decode cX11_odds 206 = .ok (.goto 4, 3) := by decide +kernel
theorem dX11_odds_209 : decode cX11_odds 209 = .ok (.iconst 0, 1) := by decide +kernel
theorem dX11_odds_210 : decode cX11_odds 210 = .ok (.iadd, 1) := by decide +kernel
theorem dX11_odds_211 : decode cX11_odds 211 = .ok (.istore 4, 2) := by decide +kernel
theorem dX11_odds_213 : decode cX11_odds 213 = .ok (.iinc 5 1, 3) := by decide +kernel
theorem dX11_odds_216 : decode cX11_odds 216 = .ok (.goto (-134), 3) := by decide +kernel
theorem dX11_odds_219 : decode cX11_odds 219 = .ok (.iload 4, 2) := by decide +kernel
theorem dX11_odds_221 : decode cX11_odds 221 = .ok (.istore 5, 2) := by decide +kernel
theorem dX11_odds_223 : decode cX11_odds 223 = .ok (.iload_n 3, 1) := by decide +kernel
theorem dX11_odds_224 : decode cX11_odds 224 = .ok (.istore 6, 2) := by decide +kernel
theorem dX11_odds_226 : decode cX11_odds 226 = .ok (.iload 6, 2) := by decide +kernel
theorem dX11_odds_228 : decode cX11_odds 228 = .ok (.ifCond .eq 21, 3) := by decide +kernel
theorem dX11_odds_231 : decode cX11_odds 231 = .ok (.iload 5, 2) := by decide +kernel
theorem dX11_odds_233 : decode cX11_odds 233 = .ok (.iload 6, 2) := by decide +kernel
theorem dX11_odds_235 : decode cX11_odds 235 = .ok (.irem, 1) := by decide +kernel
theorem dX11_odds_236 : decode cX11_odds 236 = .ok (.istore 7, 2) := by decide +kernel
theorem dX11_odds_238 : decode cX11_odds 238 = .ok (.iload 6, 2) := by decide +kernel
theorem dX11_odds_240 : decode cX11_odds 240 = .ok (.istore 5, 2) := by decide +kernel
theorem dX11_odds_242 : decode cX11_odds 242 = .ok (.iload 7, 2) := by decide +kernel
theorem dX11_odds_244 : decode cX11_odds 244 = .ok (.istore 6, 2) := by decide +kernel
theorem dX11_odds_246 : decode cX11_odds 246 = .ok (.goto (-20), 3) := by decide +kernel
theorem dX11_odds_249 : decode cX11_odds 249 = .ok (.iload_n 2, 1) := by decide +kernel
theorem dX11_odds_250 : decode cX11_odds 250 = .ok (.ifCond .ne 8, 3) := by decide +kernel
theorem dX11_odds_253 : decode cX11_odds 253 = .ok (.iload 4, 2) := by decide +kernel
theorem dX11_odds_255 : decode cX11_odds 255 = .ok (.goto 4, 3) := by decide +kernel
theorem dX11_odds_258 : decode cX11_odds 258 = .ok (.iload_n 3, 1) := by decide +kernel
theorem dX11_odds_259 : decode cX11_odds 259 = .ok (.iload 5, 2) := by decide +kernel
theorem dX11_odds_261 : decode cX11_odds 261 = .ok (.idiv, 1) := by decide +kernel
theorem dX11_odds_262 : decode cX11_odds 262 = .ok (.ireturn, 1) := by decide +kernel
theorem dX11_risk_0 : decode cX11_risk 0 = .ok (.aload_n 0, 1) := by decide +kernel
theorem dX11_risk_1 : decode cX11_risk 1 = .ok (.iconst 0, 1) := by decide +kernel
theorem dX11_risk_2 : decode cX11_risk 2 = .ok (.putfield 50, 3) := by decide +kernel
theorem dX11_risk_5 : decode cX11_risk 5 = .ok (.aload_n 0, 1) := by decide +kernel
theorem dX11_risk_6 : decode cX11_risk 6 = .ok (.getfield 177, 3) := by decide +kernel
theorem dX11_risk_9 : decode cX11_risk 9 = .ok (.ifCond .ne 6, 3) := by decide +kernel
theorem dX11_risk_12 : decode cX11_risk 12 = .ok (.ldc 218, 2) := by decide +kernel
theorem dX11_risk_14 : decode cX11_risk 14 = .ok (.ireturn, 1) := by decide +kernel
theorem dX11_risk_15 : decode cX11_risk 15 = .ok (.iload_n 1, 1) := by decide +kernel
theorem dX11_risk_16 : decode cX11_risk 16 = .ok (.invokestatic 64, 3) := by decide +kernel
theorem dX11_risk_19 : decode cX11_risk 19 = .ok (.ifCond .eq 15, 3) := by decide +kernel
theorem dX11_risk_22 : decode cX11_risk 22 = .ok (.iload_n 3, 1) := by decide +kernel
theorem dX11_risk_23 : decode cX11_risk 23 = .ok (.i2l, 1) := by decide +kernel
theorem dX11_risk_24 : decode cX11_risk 24 = .ok (.lconst 1, 1) := by decide +kernel
theorem dX11_risk_25 : decode cX11_risk 25 = .ok (.ldc2_w 270, 3) := by decide +kernel
theorem dX11_risk_28 : decode cX11_risk 28 = .ok (.invokestatic 60, 3) := by decide +kernel
theorem dX11_risk_31 : decode cX11_risk 31 = .ok (.ifCond .ne 6, 3) := by decide +kernel
theorem dX11_risk_34 : decode cX11_risk 34 = .ok (.ldc 70, 2) := by decide +kernel
theorem dX11_risk_36 : decode cX11_risk 36 = .ok (.ireturn, 1) := by decide +kernel
theorem dX11_risk_37 : decode cX11_risk 37 = .ok (.aload_n 0, 1) := by decide +kernel
theorem dX11_risk_38 : decode cX11_risk 38 = .ok (.getfield 7, 3) := by decide +kernel
theorem dX11_risk_41 : decode cX11_risk 41 = .ok (.iload_n 1, 1) := by decide +kernel
theorem dX11_risk_42 : decode cX11_risk 42 = .ok (.iaload, 1) := by decide +kernel
theorem dX11_risk_43 : decode cX11_risk 43 = .ok (.ifCond .ge 9, 3) := by decide +kernel
theorem dX11_risk_46 : decode cX11_risk 46 = .ok (.aload_n 0, 1) := by decide +kernel
theorem dX11_risk_47 : decode cX11_risk 47 = .ok (.iconst 1, 1) := by decide +kernel
theorem dX11_risk_48 : decode cX11_risk 48 = .ok (.invokevirtual 71, 3) := by decide +kernel
theorem dX11_risk_51 : decode cX11_risk 51 = .ok (.ireturn, 1) := by decide +kernel
theorem dX11_risk_52 : decode cX11_risk 52 = .ok (.iload_n 2, 1) := by decide +kernel
theorem dX11_risk_53 : decode cX11_risk 53 = .ok (.ifCond .lt 19, 3) := by decide +kernel
theorem dX11_risk_56 : decode cX11_risk 56 = .ok (.iload_n 2, 1) := by decide +kernel
theorem dX11_risk_57 : decode cX11_risk 57 = .ok (.i2l, 1) := by decide +kernel
theorem dX11_risk_58 : decode cX11_risk 58 = .ok (.iload_n 3, 1) := by decide +kernel
theorem dX11_risk_59 : decode cX11_risk 59 = .ok (.i2l, 1) := by decide +kernel
theorem dX11_risk_60 : decode cX11_risk 60 = .ok (.ladd, 1) := by decide +kernel
theorem dX11_risk_61 : decode cX11_risk 61 = .ok (.aload_n 0, 1) := by decide +kernel
theorem dX11_risk_62 : decode cX11_risk 62 = .ok (.getfield 13, 3) := by decide +kernel
theorem dX11_risk_65 : decode cX11_risk 65 = .ok (.iload_n 1, 1) := by decide +kernel
theorem dX11_risk_66 : decode cX11_risk 66 = .ok (.iaload, 1) := by decide +kernel
theorem dX11_risk_67 : decode cX11_risk 67 = .ok (.i2l, 1) := by decide +kernel
theorem dX11_risk_68 : decode cX11_risk 68 = .ok (.lcmp, 1) := by decide +kernel
theorem dX11_risk_69 : decode cX11_risk 69 = .ok (.ifCond .le 9, 3) := by decide +kernel
theorem dX11_risk_72 : decode cX11_risk 72 = .ok (.aload_n 0, 1) := by decide +kernel
theorem dX11_risk_73 : decode cX11_risk 73 = .ok (.iconst 2, 1) := by decide +kernel
theorem dX11_risk_74 : decode cX11_risk 74 = .ok (.invokevirtual 71, 3) := by decide +kernel
theorem dX11_risk_77 : decode cX11_risk 77 = .ok (.ireturn, 1) := by decide +kernel
theorem dX11_risk_78 : decode cX11_risk 78 = .ok (.iconst 0, 1) := by decide +kernel
theorem dX11_risk_79 : decode cX11_risk 79 = .ok (.istore 4, 2) := by decide +kernel
theorem dX11_risk_81 : decode cX11_risk 81 = .ok (.iload 4, 2) := by decide +kernel
theorem dX11_risk_83 : decode cX11_risk 83 = .ok (.iload_n 3, 1) := by decide +kernel
theorem dX11_risk_84 : decode cX11_risk 84 = .ok (.if_icmp .ge 29, 3) := by decide +kernel
theorem dX11_risk_87 : decode cX11_risk 87 = .ok (.aload_n 0, 1) := by decide +kernel
theorem dX11_risk_88 : decode cX11_risk 88 = .ok (.getfield 16, 3) := by decide +kernel
theorem dX11_risk_91 : decode cX11_risk 91 = .ok (.bipush 40, 2) := by decide +kernel
theorem dX11_risk_93 : decode cX11_risk 93 = .ok (.iload_n 1, 1) := by decide +kernel
theorem dX11_risk_94 : decode cX11_risk 94 = .ok (.imul, 1) := by decide +kernel
theorem dX11_risk_95 : decode cX11_risk 95 = .ok (.iload_n 2, 1) := by decide +kernel
theorem dX11_risk_96 : decode cX11_risk 96 = .ok (.iadd, 1) := by decide +kernel
theorem dX11_risk_97 : decode cX11_risk 97 = .ok (.iload 4, 2) := by decide +kernel
theorem dX11_risk_99 : decode cX11_risk 99 = .ok (.iadd, 1) := by decide +kernel
theorem dX11_risk_100 : decode cX11_risk 100 = .ok (.iaload, 1) := by decide +kernel
theorem dX11_risk_101 : decode cX11_risk 101 = .ok (.ifCond .ge 6, 3) := by decide +kernel
theorem dX11_risk_104 : decode cX11_risk 104 = .ok (.ldc 70, 2) := by decide +kernel
theorem dX11_risk_106 : decode cX11_risk 106 = .ok (.ireturn, 1) := by decide +kernel
theorem dX11_risk_107 : decode cX11_risk 107 = .ok (.iinc 4 1, 3) := by decide +kernel
theorem dX11_risk_110 : decode cX11_risk 110 = .ok (.goto (-29), 3) := by decide +kernel
theorem dX11_risk_113 : decode cX11_risk 113 = .ok (.aload_n 0, 1) := by decide +kernel
theorem dX11_risk_114 : decode cX11_risk 114 = .ok (.iconst 0, 1) := by decide +kernel
theorem dX11_risk_115 : decode cX11_risk 115 = .ok (.putfield 54, 3) := by decide +kernel
theorem dX11_risk_118 : decode cX11_risk 118 = .ok (.aload_n 0, 1) := by decide +kernel
theorem dX11_risk_119 : decode cX11_risk 119 = .ok (.invokevirtual 236, 3) := by decide +kernel
theorem dX11_risk_122 : decode cX11_risk 122 = .ok (.aload_n 0, 1) := by decide +kernel
theorem dX11_risk_123 : decode cX11_risk 123 = .ok (.invokevirtual 239, 3) := by decide +kernel
theorem dX11_risk_126 : decode cX11_risk 126 = .ok (.istore 4, 2) := by decide +kernel
theorem dX11_risk_128 : decode cX11_risk 128 = .ok (.iconst 0, 1) := by decide +kernel
theorem dX11_risk_129 : decode cX11_risk 129 = .ok (.istore 5, 2) := by decide +kernel
theorem dX11_risk_131 : decode cX11_risk 131 = .ok (.iload 5, 2) := by decide +kernel
theorem dX11_risk_133 : decode cX11_risk 133 = .ok (.iload_n 3, 1) := by decide +kernel
theorem dX11_risk_134 : decode cX11_risk 134 = .ok (.if_icmp .ge 28, 3) := by decide +kernel
theorem dX11_risk_137 : decode cX11_risk 137 = .ok (.aload_n 0, 1) := by decide +kernel
theorem dX11_risk_138 : decode cX11_risk 138 = .ok (.getfield 16, 3) := by decide +kernel
theorem dX11_risk_141 : decode cX11_risk 141 = .ok (.bipush 40, 2) := by decide +kernel
theorem dX11_risk_143 : decode cX11_risk 143 = .ok (.iload_n 1, 1) := by decide +kernel
theorem dX11_risk_144 : decode cX11_risk 144 = .ok (.imul, 1) := by decide +kernel
theorem dX11_risk_145 : decode cX11_risk 145 = .ok (.iload_n 2, 1) := by decide +kernel
theorem dX11_risk_146 : decode cX11_risk 146 = .ok (.iadd, 1) := by decide +kernel
theorem dX11_risk_147 : decode cX11_risk 147 = .ok (.iload 5, 2) := by decide +kernel
theorem dX11_risk_149 : decode cX11_risk 149 = .ok (.iadd, 1) := by decide +kernel
theorem dX11_risk_150 : decode cX11_risk 150 = .ok (.iaload, 1) := by decide +kernel
theorem dX11_risk_151 : decode cX11_risk 151 = .ok (.iload 4, 2) := by decide +kernel
theorem dX11_risk_153 : decode cX11_risk 153 = .ok (.if_icmp .gt 9, 3) := by decide +kernel
theorem dX11_risk_156 : decode cX11_risk 156 = .ok (.iinc 5 1, 3) := by decide +kernel
theorem dX11_risk_159 : decode cX11_risk 159 = .ok (.goto (-28), 3) := by decide +kernel
theorem dX11_risk_162 : decode cX11_risk 162 = .ok (.iload 5, 2) := by decide +kernel
theorem dX11_risk_164 : decode cX11_risk 164 = .ok (.ireturn, 1) := by decide +kernel
theorem dX11_whose_0 : decode cX11_whose 0 = .ok (.aload_n 0, 1) := by decide +kernel
theorem dX11_whose_1 : decode cX11_whose 1 = .ok (.iconst 0, 1) := by decide +kernel
theorem dX11_whose_2 : decode cX11_whose 2 = .ok (.putfield 50, 3) := by decide +kernel
theorem dX11_whose_5 : decode cX11_whose 5 = .ok (.aload_n 0, 1) := by decide +kernel
theorem dX11_whose_6 : decode cX11_whose 6 = .ok (.getfield 177, 3) := by decide +kernel
theorem dX11_whose_9 : decode cX11_whose 9 = .ok (.ifCond .ne 6, 3) := by decide +kernel
theorem dX11_whose_12 : decode cX11_whose 12 = .ok (.ldc 218, 2) := by decide +kernel
theorem dX11_whose_14 : decode cX11_whose 14 = .ok (.ireturn, 1) := by decide +kernel
theorem dX11_whose_15 : decode cX11_whose 15 = .ok (.iload_n 1, 1) := by decide +kernel
theorem dX11_whose_16 : decode cX11_whose 16 = .ok (.invokestatic 227, 3) := by decide +kernel
theorem dX11_whose_19 : decode cX11_whose 19 = .ok (.ifCond .eq 15, 3) := by decide +kernel
theorem dX11_whose_22 : decode cX11_whose 22 = .ok (.iload_n 2, 1) := by decide +kernel
theorem dX11_whose_23 : decode cX11_whose 23 = .ok (.invokestatic 227, 3) := by decide +kernel
theorem dX11_whose_26 : decode cX11_whose 26 = .ok (.ifCond .eq 8, 3) := by decide +kernel
theorem dX11_whose_29 : decode cX11_whose 29 = .ok (.iload_n 1, 1) := by decide +kernel
theorem dX11_whose_30 : decode cX11_whose 30 = .ok (.iload_n 2, 1) := by decide +kernel
theorem dX11_whose_31 : decode cX11_whose 31 = .ok (.if_icmp .lt 6, 3) := by decide +kernel
theorem dX11_whose_34 : decode cX11_whose 34 = .ok (.ldc 70, 2) := by decide +kernel
theorem dX11_whose_36 : decode cX11_whose 36 = .ok (.ireturn, 1) := by decide +kernel
theorem dX11_whose_37 : decode cX11_whose 37 = .ok (.iconst 0, 1) := by decide +kernel
theorem dX11_whose_38 : decode cX11_whose 38 = .ok (.istore_n 3, 1) := by decide +kernel
theorem dX11_whose_39 : decode cX11_whose 39 = .ok (.iconst 0, 1) := by decide +kernel
theorem dX11_whose_40 : decode cX11_whose 40 = .ok (.istore 4, 2) := by decide +kernel
theorem dX11_whose_42 : decode cX11_whose 42 = .ok (.iload 4, 2) := by decide +kernel
theorem dX11_whose_44 : decode cX11_whose 44 = .ok (.aload_n 0, 1) := by decide +kernel
theorem dX11_whose_45 : decode cX11_whose 45 = .ok (.getfield 19, 3) := by decide +kernel
theorem dX11_whose_48 : decode cX11_whose 48 = .ok (.iconst 3, 1) := by decide +kernel
theorem dX11_whose_49 : decode cX11_whose 49 = .ok (.iaload, 1) := by decide +kernel
theorem dX11_whose_50 : decode cX11_whose 50 = .ok (.if_icmp .ge 83, 3) := by decide +kernel
theorem dX11_whose_53 : decode cX11_whose 53 = .ok (.aload_n 0, 1) := by decide +kernel
theorem dX11_whose_54 : decode cX11_whose 54 = .ok (.iload 4, 2) := by decide +kernel
theorem dX11_whose_56 : decode cX11_whose 56 = .ok (.iconst 3, 1) := by decide +kernel
theorem dX11_whose_57 : decode cX11_whose 57 = .ok (.invokevirtual 188, 3) := by decide +kernel
theorem dX11_whose_60 : decode cX11_whose 60 = .ok (.istore 5, 2) := by decide +kernel
theorem dX11_whose_62 : decode cX11_whose 62 = .ok (.iload 5, 2) := by decide +kernel
theorem dX11_whose_64 : decode cX11_whose 64 = .ok (.ifCond .lt 63, 3) := by decide +kernel
theorem dX11_whose_67 : decode cX11_whose 67 = .ok (.aload_n 0, 1) := by decide +kernel
theorem dX11_whose_68 : decode cX11_whose 68 = .ok (.iload 4, 2) := by decide +kernel
theorem dX11_whose_70 : decode cX11_whose 70 = .ok (.iconst 4, 1) := by decide +kernel
theorem dX11_whose_71 : decode cX11_whose 71 = .ok (.invokevirtual 188, 3) := by decide +kernel
theorem dX11_whose_74 : decode cX11_whose 74 = .ok (.iconst 2, 1) := by decide +kernel
theorem dX11_whose_75 : decode cX11_whose 75 = .ok (.if_icmp .ge 52, 3) := by decide +kernel
theorem dX11_whose_78 : decode cX11_whose 78 = .ok (.aload_n 0, 1) := by decide +kernel
theorem dX11_whose_79 : decode cX11_whose 79 = .ok (.invokevirtual 236, 3) := by decide +kernel
theorem dX11_whose_82 : decode cX11_whose 82 = .ok (.aload_n 0, 1) := by decide +kernel
theorem dX11_whose_83 : decode cX11_whose 83 = .ok (.getfield 31, 3) := by decide +kernel
theorem dX11_whose_86 : decode cX11_whose 86 = .ok (.iload 5, 2) := by decide +kernel
theorem dX11_whose_88 : decode cX11_whose 88 = .ok (.dup2, 1) := by decide +kernel
theorem dX11_whose_89 : decode cX11_whose 89 = .ok (.iaload, 1) := by decide +kernel
theorem dX11_whose_90 : decode cX11_whose 90 = .ok (.aload_n 0, 1) := by decide +kernel
theorem dX11_whose_91 : decode cX11_whose 91 = .ok (.iload 4, 2) := by decide +kernel
theorem dX11_whose_93 : decode cX11_whose 93 = .ok (.invokevirtual 200, 3) := by decide +kernel
theorem dX11_whose_96 : decode cX11_whose 96 = .ok (.isub, 1) := by decide +kernel
theorem dX11_whose_97 : decode cX11_whose 97 = .ok (.iastore, 1) := by decide +kernel
theorem dX11_whose_98 : decode cX11_whose 98 = .ok (.aload_n 0, 1) := by decide +kernel
theorem dX11_whose_99 : decode cX11_whose 99 = .ok (.invokevirtual 239, 3) := by decide +kernel
theorem dX11_whose_102 : decode cX11_whose 102 = .ok (.istore 6, 2) := by decide +kernel
theorem dX11_whose_104 : decode cX11_whose 104 = .ok (.iload_n 3, 1) := by decide +kernel
theorem dX11_whose_105 : decode cX11_whose 105 = .ok (.iload 6, 2) := by decide +kernel
theorem dX11_whose_107 : decode cX11_whose 107 = .ok (.iload_n 1, 1) := by decide +kernel
theorem dX11_whose_108 : decode cX11_whose 108 = .ok (.if_icmp .lt 16, 3) := by decide +kernel
theorem dX11_whose_111 : decode cX11_whose 111 = .ok (.iload 6, 2) := by decide +kernel
theorem dX11_whose_113 : decode cX11_whose 113 = .ok (.iload_n 2, 1) := by decide +kernel
theorem dX11_whose_114 : decode cX11_whose 114 = .ok (.if_icmp .ge 10, 3) := by decide +kernel
theorem dX11_whose_117 : decode cX11_whose 117 = .ok (.iconst 1, 1) := by decide +kernel
theorem dX11_whose_118 : decode cX11_whose 118 = .ok (.iload 4, 2) := by decide +kernel
theorem dX11_whose_120 : decode cX11_whose 120 = .ok (.ishl, 1) := by decide +kernel
theorem dX11_whose_121 : decode cX11_whose 121 = .ok (.goto 4, 3) := by decide +kernel
theorem dX11_whose_124 : decode cX11_whose 124 = .ok (.iconst 0, 1) := by decide +kernel
theorem dX11_whose_125 : decode cX11_whose 125 = .ok (.ior, 1) := by decide +kernel
theorem dX11_whose_126 : decode cX11_whose 126 = .ok (.istore_n 3, 1) := by decide +kernel
theorem dX11_whose_127 : decode cX11_whose 127 = .ok (.iinc 4 1, 3) := by decide +kernel
theorem dX11_whose_130 : decode cX11_whose 130 = .ok (.goto (-88), 3) := by decide +kernel
theorem dX11_whose_133 : decode cX11_whose 133 = .ok (.iload_n 3, 1) := by decide +kernel
theorem dX11_whose_134 : decode cX11_whose 134 = .ok (.ireturn, 1) := by decide +kernel
theorem dX11_geese_0 : decode cX11_geese 0 = .ok (.aload_n 0, 1) := by decide +kernel
theorem dX11_geese_1 : decode cX11_geese 1 = .ok (.iconst 0, 1) := by decide +kernel
theorem dX11_geese_2 : decode cX11_geese 2 = .ok (.putfield 50, 3) := by decide +kernel
theorem dX11_geese_5 : decode cX11_geese 5 = .ok (.aload_n 0, 1) := by decide +kernel
theorem dX11_geese_6 : decode cX11_geese 6 = .ok (.getfield 177, 3) := by decide +kernel
theorem dX11_geese_9 : decode cX11_geese 9 = .ok (.ifCond .ne 6, 3) := by decide +kernel
theorem dX11_geese_12 : decode cX11_geese 12 = .ok (.ldc 218, 2) := by decide +kernel
theorem dX11_geese_14 : decode cX11_geese 14 = .ok (.ireturn, 1) := by decide +kernel
theorem dX11_geese_15 : decode cX11_geese 15 = .ok (.iload_n 1, 1) := by decide +kernel
theorem dX11_geese_16 : decode cX11_geese 16 = .ok (.i2l, 1) := by decide +kernel
theorem dX11_geese_17 : decode cX11_geese 17 = .ok (.lconst 1, 1) := by decide +kernel
theorem dX11_geese_18 : decode cX11_geese 18 = .ok (.iconst 1, 1) := by decide +kernel
theorem dX11_geese_19 : decode cX11_geese 19 = .ok (.aload_n 0, 1) := by decide +kernel
theorem dX11_geese_20 : decode cX11_geese 20 = .ok (.getfield 19, 3) := by decide +kernel
theorem dX11_geese_23 : decode cX11_geese 23 = .ok (.iconst 3, 1) := by decide +kernel
theorem dX11_geese_24 : decode cX11_geese 24 = .ok (.iaload, 1) := by decide +kernel
theorem dX11_geese_25 : decode cX11_geese 25 = .ok (.ishl, 1) := by decide +kernel
theorem dX11_geese_26 : decode cX11_geese 26 = .ok (.iconst 1, 1) := by decide +kernel
theorem dX11_geese_27 : decode cX11_geese 27 = .ok (.isub, 1) := by decide +kernel
theorem dX11_geese_28 : decode cX11_geese 28 = .ok (.i2l, 1) := by decide +kernel
theorem dX11_geese_29 : decode cX11_geese 29 = .ok (.invokestatic 60, 3) := by decide +kernel
theorem dX11_geese_32 : decode cX11_geese 32 = .ok (.ifCond .ne 6, 3) := by decide +kernel
theorem dX11_geese_35 : decode cX11_geese 35 = .ok (.ldc 70, 2) := by decide +kernel
theorem dX11_geese_37 : decode cX11_geese 37 = .ok (.ireturn, 1) := by decide +kernel
theorem dX11_geese_38 : decode cX11_geese 38 = .ok (.iconst 0, 1) := by decide +kernel
theorem dX11_geese_39 : decode cX11_geese 39 = .ok (.istore_n 2, 1) := by decide +kernel
theorem dX11_geese_40 : decode cX11_geese 40 = .ok (.iconst 0, 1) := by decide +kernel
theorem dX11_geese_41 : decode cX11_geese 41 = .ok (.istore_n 3, 1) := by decide +kernel
theorem dX11_geese_42 : decode cX11_geese 42 = .ok (.iload_n 3, 1) := by decide +kernel
theorem dX11_geese_43 : decode cX11_geese 43 = .ok (.bipush 9, 2) := by decide +kernel
theorem dX11_geese_45 : decode cX11_geese 45 = .ok (.if_icmp .ge 17, 3) := by decide +kernel
theorem dX11_geese_48 : decode cX11_geese 48 = .ok (.iload_n 2, 1) := by decide +kernel
theorem dX11_geese_49 : decode cX11_geese 49 = .ok (.iload_n 1, 1) := by decide +kernel
theorem dX11_geese_50 : decode cX11_geese 50 = .ok (.iload_n 3, 1) := by decide +kernel
theorem dX11_geese_51 : decode cX11_geese 51 = .ok (.ishr, 1) := by decide +kernel
theorem dX11_geese_52 : decode cX11_geese 52 = .ok (.iconst 1, 1) := by decide +kernel
theorem dX11_geese_53 : decode cX11_geese 53 = .ok (.iand, 1) := by decide +kernel
theorem dX11_geese_54 : decode cX11_geese 54 = .ok (.iadd, 1) := by decide +kernel
theorem dX11_geese_55 : decode cX11_geese 55 = .ok (.istore_n 2, 1) := by decide +kernel
theorem dX11_geese_56 : decode cX11_geese 56 = .ok (.iinc 3 1, 3) := by decide +kernel
theorem dX11_geese_59 : decode cX11_geese 59 = .ok (.goto (-17), 3) := by decide +kernel
theorem dX11_geese_62 : decode cX11_geese 62 = .ok (.iconst 0, 1) := by decide +kernel
theorem dX11_geese_63 : decode cX11_geese 63 = .ok (.istore_n 3, 1) := by decide +kernel
theorem dX11_geese_64 : decode cX11_geese 64 = .ok (.iconst 1, 1) := by decide +kernel
theorem dX11_geese_65 : decode cX11_geese 65 = .ok (.iload_n 3, 1) := by decide +kernel
theorem dX11_geese_66 : decode cX11_geese 66 = .ok (.ishl, 1) := by decide +kernel
theorem dX11_geese_67 : decode cX11_geese 67 = .ok (.iload_n 2, 1) := by decide +kernel
theorem dX11_geese_68 : decode cX11_geese 68 = .ok (.if_icmp .ge 9, 3) := by decide +kernel
theorem dX11_geese_71 : decode cX11_geese 71 = .ok (.iinc 3 1, 3) := by decide +kernel
theorem dX11_geese_74 : decode cX11_geese 74 = .ok (.goto (-10), 3) := by decide +kernel
theorem dX11_geese_77 : decode cX11_geese 77 = .ok (.iload_n 3, 1) := by decide +kernel
theorem dX11_geese_78 : decode cX11_geese 78 = .ok (.ireturn, 1) := by decide +kernel
theorem dX11_fathoms_0 : decode cX11_fathoms 0 = .ok (.aload_n 0, 1) := by decide +kernel
theorem dX11_fathoms_1 : decode cX11_fathoms 1 = .ok (.iconst 0, 1) := by decide +kernel
theorem dX11_fathoms_2 : decode cX11_fathoms 2 = .ok (.putfield 50, 3) := by decide +kernel
theorem dX11_fathoms_5 : decode cX11_fathoms 5 = .ok (.aload_n 0, 1) := by decide +kernel
theorem dX11_fathoms_6 : decode cX11_fathoms 6 = .ok (.iload_n 1, 1) := by decide +kernel
theorem dX11_fathoms_7 : decode cX11_fathoms 7 = .ok (.invokevirtual 272, 3) := by decide +kernel
theorem dX11_fathoms_10 : decode cX11_fathoms 10 = .ok (.ifCond .ne 6, 3) := by decide +kernel
theorem dX11_fathoms_13 : decode cX11_fathoms 13 = .ok (.ldc 70, 2) := by decide +kernel
theorem dX11_fathoms_15 : decode cX11_fathoms 15 = .ok (.ireturn, 1) := by decide +kernel
theorem dX11_fathoms_16 : decode cX11_fathoms 16 = .ok (.iconst 0, 1) := by decide +kernel
theorem dX11_fathoms_17 : decode cX11_fathoms 17 = .ok (.istore_n 2, 1) := by decide +kernel
theorem dX11_fathoms_18 : decode cX11_fathoms 18 = .ok (.iconst 0, 1) := by decide +kernel
theorem dX11_fathoms_19 : decode cX11_fathoms 19 = .ok (.istore_n 3, 1) := by decide +kernel
theorem dX11_fathoms_20 : decode cX11_fathoms 20 = .ok (.iload_n 3, 1) := by decide +kernel
theorem dX11_fathoms_21 : decode cX11_fathoms 21 = .ok (.aload_n 0, 1) := by decide +kernel
theorem dX11_fathoms_22 : decode cX11_fathoms 22 = .ok (.getfield 19, 3) := by decide +kernel
theorem dX11_fathoms_25 : decode cX11_fathoms 25 = .ok (.iconst 3, 1) := by decide +kernel
theorem dX11_fathoms_26 : decode cX11_fathoms 26 = .ok (.iaload, 1) := by decide +kernel
theorem dX11_fathoms_27 : decode cX11_fathoms 27 = .ok (.if_icmp .ge 42, 3) := by decide +kernel
theorem dX11_fathoms_30 : decode cX11_fathoms 30 = .ok (.iload_n 2, 1) := by decide +kernel
theorem dX11_fathoms_31 : decode cX11_fathoms 31 = .ok (.aload_n 0, 1) := by decide +kernel
theorem dX11_fathoms_32 : decode cX11_fathoms 32 = .ok (.iload_n 3, 1) := by decide +kernel
theorem dX11_fathoms_33 : decode cX11_fathoms 33 = .ok (.iconst 1, 1) := by decide +kernel
theorem dX11_fathoms_34 : decode cX11_fathoms 34 = .ok (.invokevirtual 188, 3) := by decide +kernel
theorem dX11_fathoms_37 : decode cX11_fathoms 37 = .ok (.iload_n 1, 1) := by decide +kernel
theorem dX11_fathoms_38 : decode cX11_fathoms 38 = .ok (.if_icmp .ne 22, 3) := by decide +kernel
theorem dX11_fathoms_41 : decode cX11_fathoms 41 = .ok (.aload_n 0, 1) := by decide +kernel
theorem dX11_fathoms_42 : decode cX11_fathoms 42 = .ok (.iload_n 3, 1) := by decide +kernel
theorem dX11_fathoms_43 : decode cX11_fathoms 43 = .ok (.iconst 4, 1) := by decide +kernel
theorem dX11_fathoms_44 : decode cX11_fathoms 44 = .ok (.invokevirtual 188, 3) := by decide +kernel
theorem dX11_fathoms_47 : decode cX11_fathoms 47 = .ok (.iconst 1, 1) := by decide +kernel
theorem dX11_fathoms_48 : decode cX11_fathoms 48 = .ok (.if_icmp .ne 12, 3) := by decide +kernel
theorem dX11_fathoms_51 : decode cX11_fathoms 51 = .ok (.aload_n 0, 1) := by decide +kernel
theorem dX11_fathoms_52 : decode cX11_fathoms 52 = .ok (.iload_n 3, 1) := by decide +kernel
theorem dX11_fathoms_53 : decode cX11_fathoms 53 = .ok (.iconst 2, 1) := by decide +kernel
theorem dX11_fathoms_54 : decode cX11_fathoms 54 = .ok (.invokevirtual 188, 3) := by decide +kernel
theorem dX11_fathoms_57 : decode cX11_fathoms 57 = .ok (.goto 4, 3) := by decide +kernel
theorem dX11_fathoms_60 : decode cX11_fathoms 60 = .ok (.iconst 0, 1) := by decide +kernel
theorem dX11_fathoms_61 : decode cX11_fathoms 61 = .ok (.iadd, 1) := by decide +kernel
theorem dX11_fathoms_62 : decode cX11_fathoms 62 = .ok (.istore_n 2, 1) := by decide +kernel
theorem dX11_fathoms_63 : decode cX11_fathoms 63 = .ok (.iinc 3 1, 3) := by decide +kernel
theorem dX11_fathoms_66 : decode cX11_fathoms 66 = .ok (.goto (-46), 3) := by decide +kernel
theorem dX11_fathoms_69 : decode cX11_fathoms 69 = .ok (.iload_n 2, 1) := by decide +kernel
theorem dX11_fathoms_70 : decode cX11_fathoms 70 = .ok (.ireturn, 1) := by decide +kernel
theorem dX11_image_0 : decode cX11_image 0 = .ok (.aload_n 0, 1) := by decide +kernel
theorem dX11_image_1 : decode cX11_image 1 = .ok (.iconst 0, 1) := by decide +kernel
theorem dX11_image_2 : decode cX11_image 2 = .ok (.putfield 50, 3) := by decide +kernel
theorem dX11_image_5 : decode cX11_image 5 = .ok (.iload_n 1, 1) := by decide +kernel
theorem dX11_image_6 : decode cX11_image 6 = .ok (.i2l, 1) := by decide +kernel
theorem dX11_image_7 : decode cX11_image 7 = .ok (.lconst 0, 1) := by decide +kernel
theorem dX11_image_8 : decode cX11_image 8 = .ok (.lconst 1, 1) := by decide +kernel
theorem dX11_image_9 : decode cX11_image 9 = .ok (.invokestatic 60, 3) := by decide +kernel
theorem dX11_image_12 : decode cX11_image 12 = .ok (.ifCond .ne 6, 3) := by decide +kernel
theorem dX11_image_15 : decode cX11_image 15 = .ok (.ldc 70, 2) := by decide +kernel
theorem dX11_image_17 : decode cX11_image 17 = .ok (.ireturn, 1) := by decide +kernel
theorem dX11_image_18 : decode cX11_image 18 = .ok (.aload_n 0, 1) := by decide +kernel
theorem dX11_image_19 : decode cX11_image 19 = .ok (.getfield 177, 3) := by decide +kernel
theorem dX11_image_22 : decode cX11_image 22 = .ok (.ifCond .ne 6, 3) := by decide +kernel
theorem dX11_image_25 : decode cX11_image 25 = .ok (.ldc 218, 2) := by decide +kernel
theorem dX11_image_27 : decode cX11_image 27 = .ok (.ireturn, 1) := by decide +kernel
theorem dX11_image_28 : decode cX11_image 28 = .ok (.iconst 0, 1) := by decide +kernel
theorem dX11_image_29 : decode cX11_image 29 = .ok (.istore_n 2, 1) := by decide +kernel
theorem dX11_image_30 : decode cX11_image 30 = .ok (.iload_n 2, 1) := by decide +kernel
theorem dX11_image_31 : decode cX11_image 31 = .ok (.bipush 77, 2) := by decide +kernel
theorem dX11_image_33 : decode cX11_image 33 = .ok (.if_icmp .ge 26, 3) := by decide +kernel
theorem dX11_image_36 : decode cX11_image 36 = .ok (.aload_n 0, 1) := by decide +kernel
theorem dX11_image_37 : decode cX11_image 37 = .ok (.getfield 44, 3) := by decide +kernel
theorem dX11_image_40 : decode cX11_image 40 = .ok (.bipush 77, 2) := by decide +kernel
theorem dX11_image_42 : decode cX11_image 42 = .ok (.iload_n 1, 1) := by decide +kernel
theorem dX11_image_43 : decode cX11_image 43 = .ok (.imul, 1) := by decide +kernel
theorem dX11_image_44 : decode cX11_image 44 = .ok (.iload_n 2, 1) := by decide +kernel
theorem dX11_image_45 : decode cX11_image 45 = .ok (.iadd, 1) := by decide +kernel
theorem dX11_image_46 : decode cX11_image 46 = .ok (.aload_n 0, 1) := by decide +kernel
theorem dX11_image_47 : decode cX11_image 47 = .ok (.getfield 19, 3) := by decide +kernel
theorem dX11_image_50 : decode cX11_image 50 = .ok (.iload_n 2, 1) := by decide +kernel
theorem dX11_image_51 : decode cX11_image 51 = .ok (.iaload, 1) := by decide +kernel
theorem dX11_image_52 : decode cX11_image 52 = .ok (.iastore, 1) := by decide +kernel
theorem dX11_image_53 : decode cX11_image 53 = .ok (.iinc 2 1, 3) := by decide +kernel
theorem dX11_image_56 : decode cX11_image 56 = .ok (.goto (-26), 3) := by decide +kernel
theorem dX11_image_59 : decode cX11_image 59 = .ok (.aload_n 0, 1) := by decide +kernel
theorem dX11_image_60 : decode cX11_image 60 = .ok (.getfield 40, 3) := by decide +kernel
theorem dX11_image_63 : decode cX11_image 63 = .ok (.iload_n 1, 1) := by decide +kernel
theorem dX11_image_64 : decode cX11_image 64 = .ok (.iconst 1, 1) := by decide +kernel
theorem dX11_image_65 : decode cX11_image 65 = .ok (.bastore, 1) := by decide +kernel
theorem dX11_image_66 : decode cX11_image 66 = .ok (.iconst 1, 1) := by decide +kernel
theorem dX11_image_67 : decode cX11_image 67 = .ok (.ireturn, 1) := by decide +kernel
theorem dX11_restore_0 : decode cX11_restore 0 = .ok (.aload_n 0, 1) := by decide +kernel
theorem dX11_restore_1 : decode cX11_restore 1 = .ok (.iconst 0, 1) := by decide +kernel
theorem dX11_restore_2 : decode cX11_restore 2 = .ok (.putfield 50, 3) := by decide +kernel
theorem dX11_restore_5 : decode cX11_restore 5 = .ok (.iload_n 1, 1) := by decide +kernel
theorem dX11_restore_6 : decode cX11_restore 6 = .ok (.i2l, 1) := by decide +kernel
theorem dX11_restore_7 : decode cX11_restore 7 = .ok (.lconst 0, 1) := by decide +kernel
theorem dX11_restore_8 : decode cX11_restore 8 = .ok (.lconst 1, 1) := by decide +kernel
theorem dX11_restore_9 : decode cX11_restore 9 = .ok (.invokestatic 60, 3) := by decide +kernel
theorem dX11_restore_12 : decode cX11_restore 12 = .ok (.ifCond .ne 6, 3) := by decide +kernel
theorem dX11_restore_15 : decode cX11_restore 15 = .ok (.ldc 70, 2) := by decide +kernel
theorem dX11_restore_17 : decode cX11_restore 17 = .ok (.ireturn, 1) := by decide +kernel
theorem dX11_restore_18 : decode cX11_restore 18 = .ok (.aload_n 0, 1) := by decide +kernel
theorem dX11_restore_19 : decode cX11_restore 19 = .ok (.getfield 40, 3) := by decide +kernel
theorem dX11_restore_22 : decode cX11_restore 22 = .ok (.iload_n 1, 1) := by decide +kernel
theorem dX11_restore_23 : decode cX11_restore 23 = .ok (.baload, 1) := by decide +kernel
theorem dX11_restore_24 : decode cX11_restore 24 = .ok (.ifCond .ne 6, 3) := by decide +kernel
theorem dX11_restore_27 : decode cX11_restore 27 = .ok (.ldc 218, 2) := by decide +kernel
theorem dX11_restore_29 : decode cX11_restore 29 = .ok (.ireturn, 1) := by decide +kernel
theorem dX11_restore_30 : decode cX11_restore 30 = .ok (.iconst 0, 1) := by decide +kernel
theorem dX11_restore_31 : decode cX11_restore 31 = .ok (.istore_n 2, 1) := by decide +kernel
theorem dX11_restore_32 : decode cX11_restore 32 = .ok (.iload_n 2, 1) := by decide +kernel
theorem dX11_restore_33 : decode cX11_restore 33 = .ok (.bipush 77, 2) := by decide +kernel
theorem dX11_restore_35 : decode cX11_restore 35 = .ok (.if_icmp .ge 26, 3) := by decide +kernel
theorem dX11_restore_38 : decode cX11_restore 38 = .ok (.aload_n 0, 1) := by decide +kernel
theorem dX11_restore_39 : decode cX11_restore 39 = .ok (.getfield 19, 3) := by decide +kernel
theorem dX11_restore_42 : decode cX11_restore 42 = .ok (.iload_n 2, 1) := by decide +kernel
theorem dX11_restore_43 : decode cX11_restore 43 = .ok (.aload_n 0, 1) := by decide +kernel
theorem dX11_restore_44 : decode cX11_restore 44 = .ok (.getfield 44, 3) := by decide +kernel
theorem dX11_restore_47 : decode cX11_restore 47 = .ok (.bipush 77, 2) := by decide +kernel
theorem dX11_restore_49 : decode cX11_restore 49 = .ok (.iload_n 1, 1) := by decide +kernel
theorem dX11_restore_50 : decode cX11_restore 50 = .ok (.imul, 1) := by decide +kernel
theorem dX11_restore_51 : decode cX11_restore 51 = .ok (.iload_n 2, 1) := by decide +kernel
theorem dX11_restore_52 : decode cX11_restore 52 = .ok (.iadd, 1) := by decide +kernel
theorem dX11_restore_53 : decode cX11_restore 53 = .ok (.iaload, 1) := by decide +kernel
theorem dX11_restore_54 : decode cX11_restore 54 = .ok (.iastore, 1) := by decide +kernel
theorem dX11_restore_55 : decode cX11_restore 55 = .ok (.iinc 2 1, 3) := by decide +kernel
theorem dX11_restore_58 : decode cX11_restore 58 = .ok (.goto (-26), 3) := by decide +kernel
theorem dX11_restore_61 : decode cX11_restore 61 = .ok (.aload_n 0, 1) := by decide +kernel
theorem dX11_restore_62 : decode cX11_restore 62 = .ok (.iconst 0, 1) := by decide +kernel
theorem dX11_restore_63 : decode cX11_restore 63 = .ok (.putfield 181, 3) := by decide +kernel
theorem dX11_restore_66 : decode cX11_restore 66 = .ok (.iconst 1, 1) := by decide +kernel
theorem dX11_restore_67 : decode cX11_restore 67 = .ok (.ireturn, 1) := by decide +kernel
theorem dX11_isOf_0 : decode cX11_isOf 0 = .ok (.iload_n 1, 1) := by decide +kernel
theorem dX11_isOf_1 : decode cX11_isOf 1 = .ok (.ifCond .eq 38, 3) := by decide +kernel
theorem dX11_isOf_4 : decode cX11_isOf 4 = .ok (.iload_n 0, 1) := by decide +kernel
theorem dX11_isOf_5 : decode cX11_isOf 5 = .ok (.iload_n 1, 1) := by decide +kernel
theorem dX11_isOf_6 : decode cX11_isOf 6 = .ok (.if_icmp .eq 33, 3) := by decide +kernel
theorem dX11_isOf_9 : decode cX11_isOf 9 = .ok (.iload_n 1, 1) := by decide +kernel
theorem dX11_isOf_10 : decode cX11_isOf 10 = .ok (.iconst 1, 1) := by decide +kernel
theorem dX11_isOf_11 : decode cX11_isOf 11 = .ok (.if_icmp .ne 8, 3) := by decide +kernel
theorem dX11_isOf_14 : decode cX11_isOf 14 = .ok (.iload_n 0, 1) := by decide +kernel
theorem dX11_isOf_15 : decode cX11_isOf 15 = .ok (.iconst 4, 1) := by decide +kernel
theorem dX11_isOf_16 : decode cX11_isOf 16 = .ok (.if_icmp .lt 23, 3) := by decide +kernel
theorem dX11_isOf_19 : decode cX11_isOf 19 = .ok (.iload_n 1, 1) := by decide +kernel
theorem dX11_isOf_20 : decode cX11_isOf 20 = .ok (.iconst 2, 1) := by decide +kernel
theorem dX11_isOf_21 : decode cX11_isOf 21 = .ok (.if_icmp .ne 8, 3) := by decide +kernel
theorem dX11_isOf_24 : decode cX11_isOf 24 = .ok (.iload_n 0, 1) := by decide +kernel
theorem dX11_isOf_25 : decode cX11_isOf 25 = .ok (.iconst 3, 1) := by decide +kernel
theorem dX11_isOf_26 : decode cX11_isOf 26 = .ok (.if_icmp .eq 13, 3) := by decide +kernel
theorem dX11_isOf_29 : decode cX11_isOf 29 = .ok (.iload_n 1, 1) := by decide +kernel
theorem dX11_isOf_30 : decode cX11_isOf 30 = .ok (.iconst 4, 1) := by decide +kernel
theorem dX11_isOf_31 : decode cX11_isOf 31 = .ok (.if_icmp .ne 12, 3) := by decide +kernel
theorem dX11_isOf_34 : decode cX11_isOf 34 = .ok (.iload_n 0, 1) := by decide +kernel
theorem dX11_isOf_35 : decode cX11_isOf 35 = .ok (.iconst 5, 1) := by decide +kernel
theorem dX11_isOf_36 : decode cX11_isOf 36 = .ok (.if_icmp .ne 7, 3) := by decide +kernel
theorem dX11_isOf_39 : decode cX11_isOf 39 = .ok (.iconst 1, 1) := by decide +kernel
theorem dX11_isOf_40 : decode cX11_isOf 40 = .ok (.goto 4, 3) := by decide +kernel
theorem dX11_isOf_43 : decode cX11_isOf 43 = .ok (.iconst 0, 1) := by decide +kernel
theorem dX11_isOf_44 : decode cX11_isOf 44 = .ok (.ireturn, 1) := by decide +kernel
theorem dX11_kind_0 : decode cX11_kind 0 = .ok (.aload_n 0, 1) := by decide +kernel
theorem dX11_kind_1 : decode cX11_kind 1 = .ok (.iconst 0, 1) := by decide +kernel
theorem dX11_kind_2 : decode cX11_kind 2 = .ok (.putfield 50, 3) := by decide +kernel
theorem dX11_kind_5 : decode cX11_kind 5 = .ok (.aload_n 0, 1) := by decide +kernel
theorem dX11_kind_6 : decode cX11_kind 6 = .ok (.iload_n 1, 1) := by decide +kernel
theorem dX11_kind_7 : decode cX11_kind 7 = .ok (.invokevirtual 206, 3) := by decide +kernel
theorem dX11_kind_10 : decode cX11_kind 10 = .ok (.ifCond .eq 12, 3) := by decide +kernel
theorem dX11_kind_13 : decode cX11_kind 13 = .ok (.aload_n 0, 1) := by decide +kernel
theorem dX11_kind_14 : decode cX11_kind 14 = .ok (.iload_n 1, 1) := by decide +kernel
theorem dX11_kind_15 : decode cX11_kind 15 = .ok (.iconst 0, 1) := by decide +kernel
theorem dX11_kind_16 : decode cX11_kind 16 = .ok (.invokevirtual 188, 3) := by decide +kernel
theorem dX11_kind_19 : decode cX11_kind 19 = .ok (.goto 5, 3) := by decide +kernel
theorem dX11_kind_22 : decode cX11_kind 22 = .ok (.ldc 70, 2) := by decide +kernel
theorem dX11_kind_24 : decode cX11_kind 24 = .ok (.ireturn, 1) := by decide +kernel
theorem dX11_as_0 : decode cX11_as 0 = .ok (.aload_n 0, 1) := by decide +kernel
theorem dX11_as_1 : decode cX11_as 1 = .ok (.iconst 0, 1) := by decide +kernel
theorem dX11_as_2 : decode cX11_as 2 = .ok (.putfield 50, 3) := by decide +kernel
theorem dX11_as_5 : decode cX11_as 5 = .ok (.aload_n 0, 1) := by decide +kernel
theorem dX11_as_6 : decode cX11_as 6 = .ok (.iload_n 1, 1) := by decide +kernel
theorem dX11_as_7 : decode cX11_as 7 = .ok (.invokevirtual 206, 3) := by decide +kernel
theorem dX11_as_10 : decode cX11_as 10 = .ok (.ifCond .eq 15, 3) := by decide +kernel
theorem dX11_as_13 : decode cX11_as 13 = .ok (.iload_n 2, 1) := by decide +kernel
theorem dX11_as_14 : decode cX11_as 14 = .ok (.i2l, 1) := by decide +kernel
theorem dX11_as_15 : decode cX11_as 15 = .ok (.lconst 0, 1) := by decide +kernel
theorem dX11_as_16 : decode cX11_as 16 = .ok (.ldc2_w 275, 3) := by decide +kernel
theorem dX11_as_19 : decode cX11_as 19 = .ok (.invokestatic 60, 3) := by decide +kernel
theorem dX11_as_22 : decode cX11_as 22 = .ok (.ifCond .ne 6, 3) := by decide +kernel
theorem dX11_as_25 : decode cX11_as 25 = .ok (.ldc 70, 2) := by decide +kernel
theorem dX11_as_27 : decode cX11_as 27 = .ok (.ireturn, 1) := by decide +kernel
theorem dX11_as_28 : decode cX11_as 28 = .ok (.aload_n 0, 1) := by decide +kernel
theorem dX11_as_29 : decode cX11_as 29 = .ok (.iconst 0, 1) := by decide +kernel
theorem dX11_as_30 : decode cX11_as 30 = .ok (.putfield 54, 3) := by decide +kernel
theorem dX11_as_33 : decode cX11_as 33 = .ok (.aload_n 0, 1) := by decide +kernel
theorem dX11_as_34 : decode cX11_as 34 = .ok (.iload_n 1, 1) := by decide +kernel
theorem dX11_as_35 : decode cX11_as 35 = .ok (.iconst 0, 1) := by decide +kernel
theorem dX11_as_36 : decode cX11_as 36 = .ok (.invokevirtual 188, 3) := by decide +kernel
theorem dX11_as_39 : decode cX11_as 39 = .ok (.iload_n 2, 1) := by decide +kernel
theorem dX11_as_40 : decode cX11_as 40 = .ok (.invokestatic 277, 3) := by decide +kernel
theorem dX11_as_43 : decode cX11_as 43 = .ok (.ifCond .eq 7, 3) := by decide +kernel
theorem dX11_as_46 : decode cX11_as 46 = .ok (.iload_n 1, 1) := by decide +kernel
theorem dX11_as_47 : decode cX11_as 47 = .ok (.goto 8, 3) := by decide +kernel
theorem dX11_as_50 : decode cX11_as 50 = .ok (.aload_n 0, 1) := by decide +kernel
theorem dX11_as_51 : decode cX11_as 51 = .ok (.iconst 3, 1) := by decide +kernel
theorem dX11_as_52 : decode cX11_as 52 = .ok (.invokevirtual 71, 3) := by decide +kernel
theorem dX11_as_55 : decode cX11_as 55 = .ok (.ireturn, 1) := by decide +kernel
theorem dX11_began_0 : decode cX11_began 0 = .ok (.aload_n 0, 1) := by decide +kernel
theorem dX11_began_1 : decode cX11_began 1 = .ok (.getfield 281, 3) := by decide +kernel
theorem dX11_began_4 : decode cX11_began 4 = .ok (.bipush 16, 2) := by decide +kernel
theorem dX11_began_6 : decode cX11_began 6 = .ok (.if_icmp .ge 23, 3) := by decide +kernel
theorem dX11_began_9 : decode cX11_began 9 = .ok (.aload_n 0, 1) := by decide +kernel
theorem dX11_began_10 : decode cX11_began 10 = .ok (.getfield 47, 3) := by decide +kernel
theorem dX11_began_13 : decode cX11_began 13 = .ok (.aload_n 0, 1) := by decide +kernel
theorem dX11_began_14 : decode cX11_began 14 = .ok (.getfield 281, 3) := by decide +kernel
theorem dX11_began_17 : decode cX11_began 17 = .ok (.iload_n 1, 1) := by decide +kernel
theorem dX11_began_18 : decode cX11_began 18 = .ok (.iastore, 1) := by decide +kernel
theorem dX11_began_19 : decode cX11_began 19 = .ok (.aload_n 0, 1) := by decide +kernel
theorem dX11_began_20 : decode cX11_began 20 = .ok (.dup, 1) := by decide +kernel
theorem dX11_began_21 : decode cX11_began 21 = .ok (.getfield 281, 3) := by decide +kernel
theorem dX11_began_24 : decode cX11_began 24 = .ok (.iconst 1, 1) := by decide +kernel
theorem dX11_began_25 : decode cX11_began 25 = .ok (.iadd, 1) := by decide +kernel
theorem dX11_began_26 : decode cX11_began 26 = .ok (.putfield 281, 3) := by decide +kernel
theorem dX11_began_29 : decode cX11_began 29 = .ok (.return_, 1) := by decide +kernel
theorem dX11_plainSize_0 : decode cX11_plainSize 0 = .ok (.aload_n 0, 1) := by decide +kernel
theorem dX11_plainSize_1 : decode cX11_plainSize 1 = .ok (.bipush 10, 2) := by decide +kernel
theorem dX11_plainSize_3 : decode cX11_plainSize 3 = .ok (.invokevirtual 284, 3) := by decide +kernel
theorem dX11_plainSize_6 : decode cX11_plainSize 6 = .ok (.aload_n 0, 1) := by decide +kernel
theorem dX11_plainSize_7 : decode cX11_plainSize 7 = .ok (.iload_n 1, 1) := by decide +kernel
theorem dX11_plainSize_8 : decode cX11_plainSize 8 = .ok (.iconst 2, 1) := by decide +kernel
theorem dX11_plainSize_9 : decode cX11_plainSize 9 = .ok (.invokevirtual 188, 3) := by decide +kernel
theorem dX11_plainSize_12 : decode cX11_plainSize 12 = .ok (.ireturn, 1) := by decide +kernel
theorem dX11_lieSize_0 : decode cX11_lieSize 0 = .ok (.aload_n 0, 1) := by decide +kernel
theorem dX11_lieSize_1 : decode cX11_lieSize 1 = .ok (.iload_n 1, 1) := by decide +kernel
theorem dX11_lieSize_2 : decode cX11_lieSize 2 = .ok (.iconst 0, 1) := by decide +kernel
theorem dX11_lieSize_3 : decode cX11_lieSize 3 = .ok (.invokevirtual 188, 3) := by decide +kernel
theorem dX11_lieSize_6 : decode cX11_lieSize 6 = .ok (.iconst 5, 1) := by decide +kernel
theorem dX11_lieSize_7 : decode cX11_lieSize 7 = .ok (.if_icmp .ne 9, 3) := by decide +kernel
theorem dX11_lieSize_10 : decode cX11_lieSize 10 = .ok (.aload_n 0, 1) := by decide +kernel
theorem dX11_lieSize_11 : decode cX11_lieSize 11 = .ok (.bipush 14, 2) := by decide +kernel
theorem dX11_lieSize_13 : decode cX11_lieSize 13 = .ok (.invokevirtual 284, 3) := by decide +kernel
theorem dX11_lieSize_16 : decode cX11_lieSize 16 = .ok (.aload_n 0, 1) := by decide +kernel
theorem dX11_lieSize_17 : decode cX11_lieSize 17 = .ok (.bipush 13, 2) := by decide +kernel
theorem dX11_lieSize_19 : decode cX11_lieSize 19 = .ok (.invokevirtual 284, 3) := by decide +kernel
theorem dX11_lieSize_22 : decode cX11_lieSize 22 = .ok (.aload_n 0, 1) := by decide +kernel
theorem dX11_lieSize_23 : decode cX11_lieSize 23 = .ok (.iload_n 1, 1) := by decide +kernel
theorem dX11_lieSize_24 : decode cX11_lieSize 24 = .ok (.invokevirtual 287, 3) := by decide +kernel
theorem dX11_lieSize_27 : decode cX11_lieSize 27 = .ok (.bipush 100, 2) := by decide +kernel
theorem dX11_lieSize_29 : decode cX11_lieSize 29 = .ok (.isub, 1) := by decide +kernel
theorem dX11_lieSize_30 : decode cX11_lieSize 30 = .ok (.istore_n 2, 1) := by decide +kernel
theorem dX11_lieSize_31 : decode cX11_lieSize 31 = .ok (.aload_n 0, 1) := by decide +kernel
theorem dX11_lieSize_32 : decode cX11_lieSize 32 = .ok (.iload_n 1, 1) := by decide +kernel
theorem dX11_lieSize_33 : decode cX11_lieSize 33 = .ok (.iconst 0, 1) := by decide +kernel
theorem dX11_lieSize_34 : decode cX11_lieSize 34 = .ok (.invokevirtual 188, 3) := by decide +kernel
theorem dX11_lieSize_37 : decode cX11_lieSize 37 = .ok (.iconst 5, 1) := by decide +kernel
theorem dX11_lieSize_38 : decode cX11_lieSize 38 = .ok (.if_icmp .ne 9, 3) := by decide +kernel
theorem dX11_lieSize_41 : decode cX11_lieSize 41 = .ok (.iconst 2, 1) := by decide +kernel
theorem dX11_lieSize_42 : decode cX11_lieSize 42 = .ok (.iload_n 2, 1) := by decide +kernel
theorem dX11_lieSize_43 : decode cX11_lieSize 43 = .ok (.imul, 1) := by decide +kernel
theorem dX11_lieSize_44 : decode cX11_lieSize 44 = .ok (.goto 4, 3) := by decide +kernel
theorem dX11_lieSize_47 : decode cX11_lieSize 47 = .ok (.iload_n 2, 1) := by decide +kernel
theorem dX11_lieSize_48 : decode cX11_lieSize 48 = .ok (.ireturn, 1) := by decide +kernel
theorem dX11_markOf_0 : decode cX11_markOf 0 = .ok (.aload_n 0, 1) := by decide +kernel
theorem dX11_markOf_1 : decode cX11_markOf 1 = .ok (.iload_n 1, 1) := by decide +kernel
theorem dX11_markOf_2 : decode cX11_markOf 2 = .ok (.iconst 0, 1) := by decide +kernel
theorem dX11_markOf_3 : decode cX11_markOf 3 = .ok (.invokevirtual 188, 3) := by decide +kernel
theorem dX11_markOf_6 : decode cX11_markOf 6 = .ok (.istore_n 2, 1) := by decide +kernel
theorem dX11_markOf_7 : decode cX11_markOf 7 = .ok (.iload_n 2, 1) := by decide +kernel
theorem dX11_markOf_8 : decode cX11_markOf 8 = .ok (.iconst 4, 1) := by decide +kernel
theorem dX11_markOf_9 : decode cX11_markOf 9 = .ok (.if_icmp .lt 23, 3) := by decide +kernel
theorem dX11_markOf_12 : decode cX11_markOf 12 = .ok (.aload_n 0, 1) := by decide +kernel
theorem dX11_markOf_13 : decode cX11_markOf 13 = .ok (.bipush 23, 2) := by decide +kernel
theorem dX11_markOf_15 : decode cX11_markOf 15 = .ok (.invokevirtual 284, 3) := by decide +kernel
theorem dX11_markOf_18 : decode cX11_markOf 18 = .ok (.aload_n 0, 1) := by decide +kernel
theorem dX11_markOf_19 : decode cX11_markOf 19 = .ok (.bipush 20, 2) := by decide +kernel
theorem dX11_markOf_21 : decode cX11_markOf 21 = .ok (.invokevirtual 284, 3) := by decide +kernel
theorem dX11_markOf_24 : decode cX11_markOf 24 = .ok (.iload_n 1, 1) := by decide +kernel
theorem dX11_markOf_25 : decode cX11_markOf 25 = .ok (.aload_n 0, 1) := by decide +kernel
theorem dX11_markOf_26 : decode cX11_markOf 26 = .ok (.iload_n 1, 1) := by decide +kernel
theorem dX11_markOf_27 : decode cX11_markOf 27 = .ok (.invokevirtual 290, 3) := by decide +kernel
theorem dX11_markOf_30 : decode cX11_markOf 30 = .ok (.isub, 1) := by decide +kernel
theorem dX11_markOf_31 : decode cX11_markOf 31 = .ok (.ireturn, 1) := by decide +kernel
theorem dX11_markOf_32 : decode cX11_markOf 32 = .ok (.iload_n 2, 1) := by decide +kernel
theorem dX11_markOf_33 : decode cX11_markOf 33 = .ok (.iconst 3, 1) := by decide +kernel
theorem dX11_markOf_34 : decode cX11_markOf 34 = .ok (.if_icmp .ne 9, 3) := by decide +kernel
theorem dX11_markOf_37 : decode cX11_markOf 37 = .ok (.aload_n 0, 1) := by decide +kernel
theorem dX11_markOf_38 : decode cX11_markOf 38 = .ok (.bipush 24, 2) := by decide +kernel
theorem dX11_markOf_40 : decode cX11_markOf 40 = .ok (.invokevirtual 284, 3) := by decide +kernel
theorem dX11_markOf_43 : decode cX11_markOf 43 = .ok (.iload_n 2, 1) := by decide +kernel
theorem dX11_markOf_44 : decode cX11_markOf 44 = .ok (.iconst 1, 1) := by decide +kernel
theorem dX11_markOf_45 : decode cX11_markOf 45 = .ok (.if_icmp .eq 9, 3) := by decide +kernel
theorem dX11_markOf_48 : decode cX11_markOf 48 = .ok (.aload_n 0, 1) := by decide +kernel
theorem dX11_markOf_49 : decode cX11_markOf 49 = .ok (.bipush 22, 2) := by decide +kernel
theorem dX11_markOf_51 : decode cX11_markOf 51 = .ok (.invokevirtual 284, 3) := by decide +kernel
theorem dX11_markOf_54 : decode cX11_markOf 54 = .ok (.aload_n 0, 1) := by decide +kernel
theorem dX11_markOf_55 : decode cX11_markOf 55 = .ok (.bipush 21, 2) := by decide +kernel
theorem dX11_markOf_57 : decode cX11_markOf 57 = .ok (.invokevirtual 284, 3) := by decide +kernel
theorem dX11_markOf_60 : decode cX11_markOf 60 = .ok (.aload_n 0, 1) := by decide +kernel
theorem dX11_markOf_61 : decode cX11_markOf 61 = .ok (.bipush 20, 2) := by decide +kernel
theorem dX11_markOf_63 : decode cX11_markOf 63 = .ok (.invokevirtual 284, 3) := by decide +kernel
theorem dX11_markOf_66 : decode cX11_markOf 66 = .ok (.iload_n 1, 1) := by decide +kernel
theorem dX11_markOf_67 : decode cX11_markOf 67 = .ok (.aload_n 0, 1) := by decide +kernel
theorem dX11_markOf_68 : decode cX11_markOf 68 = .ok (.iload_n 1, 1) := by decide +kernel
theorem dX11_markOf_69 : decode cX11_markOf 69 = .ok (.iconst 1, 1) := by decide +kernel
theorem dX11_markOf_70 : decode cX11_markOf 70 = .ok (.invokevirtual 188, 3) := by decide +kernel
theorem dX11_markOf_73 : decode cX11_markOf 73 = .ok (.iadd, 1) := by decide +kernel
theorem dX11_markOf_74 : decode cX11_markOf 74 = .ok (.iload_n 2, 1) := by decide +kernel
theorem dX11_markOf_75 : decode cX11_markOf 75 = .ok (.iconst 1, 1) := by decide +kernel
theorem dX11_markOf_76 : decode cX11_markOf 76 = .ok (.if_icmp .ne 7, 3) := by decide +kernel
theorem dX11_markOf_79 : decode cX11_markOf 79 = .ok (.iconst 0, 1) := by decide +kernel
theorem dX11_markOf_80 : decode cX11_markOf 80 = .ok (.goto 6, 3) := by decide +kernel
theorem dX11_markOf_83 : decode cX11_markOf 83 = .ok (.sipush 1000, 3) := by decide +kernel
theorem dX11_markOf_86 : decode cX11_markOf 86 = .ok (.isub, 1) := by decide +kernel
theorem dX11_markOf_87 : decode cX11_markOf 87 = .ok (.istore_n 3, 1) := by decide +kernel
theorem dX11_markOf_88 : decode cX11_markOf 88 = .ok (.iload_n 2, 1) := by decide +kernel
theorem dX11_markOf_89 : decode cX11_markOf 89 = .ok (.iconst 3, 1) := by decide +kernel
theorem dX11_markOf_90 : decode cX11_markOf 90 = .ok (.if_icmp .ne 9, 3) := by decide +kernel
theorem dX11_markOf_93 : decode cX11_markOf 93 = .ok (.iconst 2, 1) := by decide +kernel
theorem dX11_markOf_94 : decode cX11_markOf 94 = .ok (.iload_n 3, 1) := by decide +kernel
theorem dX11_markOf_95 : decode cX11_markOf 95 = .ok (.imul, 1) := by decide +kernel
theorem dX11_markOf_96 : decode cX11_markOf 96 = .ok (.goto 4, 3) := by decide +kernel
theorem dX11_markOf_99 : decode cX11_markOf 99 = .ok (.iload_n 3, 1) := by decide +kernel
theorem dX11_markOf_100 : decode cX11_markOf 100 = .ok (.ireturn, 1) := by decide +kernel
theorem dX11_sizeOf_0 : decode cX11_sizeOf 0 = .ok (.aload_n 0, 1) := by decide +kernel
theorem dX11_sizeOf_1 : decode cX11_sizeOf 1 = .ok (.iload_n 1, 1) := by decide +kernel
theorem dX11_sizeOf_2 : decode cX11_sizeOf 2 = .ok (.iconst 0, 1) := by decide +kernel
theorem dX11_sizeOf_3 : decode cX11_sizeOf 3 = .ok (.invokevirtual 188, 3) := by decide +kernel
theorem dX11_sizeOf_6 : decode cX11_sizeOf 6 = .ok (.istore_n 2, 1) := by decide +kernel
theorem dX11_sizeOf_7 : decode cX11_sizeOf 7 = .ok (.iload_n 2, 1) := by decide +kernel
theorem dX11_sizeOf_8 : decode cX11_sizeOf 8 = .ok (.iconst 4, 1) := by decide +kernel
theorem dX11_sizeOf_9 : decode cX11_sizeOf 9 = .ok (.if_icmp .lt 9, 3) := by decide +kernel
theorem dX11_sizeOf_12 : decode cX11_sizeOf 12 = .ok (.aload_n 0, 1) := by decide +kernel
theorem dX11_sizeOf_13 : decode cX11_sizeOf 13 = .ok (.iload_n 1, 1) := by decide +kernel
theorem dX11_sizeOf_14 : decode cX11_sizeOf 14 = .ok (.invokevirtual 290, 3) := by decide +kernel
theorem dX11_sizeOf_17 : decode cX11_sizeOf 17 = .ok (.ireturn, 1) := by decide +kernel
theorem dX11_sizeOf_18 : decode cX11_sizeOf 18 = .ok (.iload_n 2, 1) := by decide +kernel
theorem dX11_sizeOf_19 : decode cX11_sizeOf 19 = .ok (.iconst 3, 1) := by decide +kernel
theorem dX11_sizeOf_20 : decode cX11_sizeOf 20 = .ok (.if_icmp .ne 9, 3) := by decide +kernel
theorem dX11_sizeOf_23 : decode cX11_sizeOf 23 = .ok (.aload_n 0, 1) := by decide +kernel
theorem dX11_sizeOf_24 : decode cX11_sizeOf 24 = .ok (.bipush 12, 2) := by decide +kernel
theorem dX11_sizeOf_26 : decode cX11_sizeOf 26 = .ok (.invokevirtual 284, 3) := by decide +kernel
theorem dX11_sizeOf_29 : decode cX11_sizeOf 29 = .ok (.aload_n 0, 1) := by decide +kernel
theorem dX11_sizeOf_30 : decode cX11_sizeOf 30 = .ok (.bipush 11, 2) := by decide +kernel
theorem dX11_sizeOf_32 : decode cX11_sizeOf 32 = .ok (.invokevirtual 284, 3) := by decide +kernel
theorem dX11_sizeOf_35 : decode cX11_sizeOf 35 = .ok (.aload_n 0, 1) := by decide +kernel
theorem dX11_sizeOf_36 : decode cX11_sizeOf 36 = .ok (.iload_n 1, 1) := by decide +kernel
theorem dX11_sizeOf_37 : decode cX11_sizeOf 37 = .ok (.invokevirtual 287, 3) := by decide +kernel
theorem dX11_sizeOf_40 : decode cX11_sizeOf 40 = .ok (.istore_n 3, 1) := by decide +kernel
theorem dX11_sizeOf_41 : decode cX11_sizeOf 41 = .ok (.iload_n 3, 1) := by decide +kernel
theorem dX11_sizeOf_42 : decode cX11_sizeOf 42 = .ok (.aload_n 0, 1) := by decide +kernel
theorem dX11_sizeOf_43 : decode cX11_sizeOf 43 = .ok (.iload_n 1, 1) := by decide +kernel
theorem dX11_sizeOf_44 : decode cX11_sizeOf 44 = .ok (.invokevirtual 293, 3) := by decide +kernel
theorem dX11_sizeOf_47 : decode cX11_sizeOf 47 = .ok (.iadd, 1) := by decide +kernel
theorem dX11_sizeOf_48 : decode cX11_sizeOf 48 = .ok (.istore_n 3, 1) := by decide +kernel
theorem dX11_sizeOf_49 : decode cX11_sizeOf 49 = .ok (.iload_n 2, 1) := by decide +kernel
theorem dX11_sizeOf_50 : decode cX11_sizeOf 50 = .ok (.iconst 3, 1) := by decide +kernel
theorem dX11_sizeOf_51 : decode cX11_sizeOf 51 = .ok (.if_icmp .ne 8, 3) := by decide +kernel
theorem dX11_sizeOf_54 : decode cX11_sizeOf 54 = .ok (.iload_n 3, 1) := by decide +kernel
theorem dX11_sizeOf_55 : decode cX11_sizeOf 55 = .ok (.ineg, 1) := by decide +kernel
theorem dX11_sizeOf_56 : decode cX11_sizeOf 56 = .ok (.goto 4, 3) := by decide +kernel
theorem dX11_sizeOf_59 : decode cX11_sizeOf 59 = .ok (.iload_n 3, 1) := by decide +kernel
theorem dX11_sizeOf_60 : decode cX11_sizeOf 60 = .ok (.ireturn, 1) := by decide +kernel
theorem dX11_ask_0 : decode cX11_ask 0 = .ok (.aload_n 0, 1) := by decide +kernel
theorem dX11_ask_1 : decode cX11_ask 1 = .ok (.iconst 0, 1) := by decide +kernel
theorem dX11_ask_2 : decode cX11_ask 2 = .ok (.putfield 50, 3) := by decide +kernel
theorem dX11_ask_5 : decode cX11_ask 5 = .ok (.aload_n 0, 1) := by decide +kernel
theorem dX11_ask_6 : decode cX11_ask 6 = .ok (.iload_n 1, 1) := by decide +kernel
theorem dX11_ask_7 : decode cX11_ask 7 = .ok (.invokevirtual 206, 3) := by decide +kernel
theorem dX11_ask_10 : decode cX11_ask 10 = .ok (.ifCond .eq 13, 3) := by decide +kernel
theorem dX11_ask_13 : decode cX11_ask 13 = .ok (.iload_n 2, 1) := by decide +kernel
theorem dX11_ask_14 : decode cX11_ask 14 = .ok (.i2l, 1) := by decide +kernel
theorem dX11_ask_15 : decode cX11_ask 15 = .ok (.lconst 0, 1) := by decide +kernel
theorem dX11_ask_16 : decode cX11_ask 16 = .ok (.lconst 1, 1) := by decide +kernel
theorem dX11_ask_17 : decode cX11_ask 17 = .ok (.invokestatic 60, 3) := by decide +kernel
theorem dX11_ask_20 : decode cX11_ask 20 = .ok (.ifCond .ne 6, 3) := by decide +kernel
theorem dX11_ask_23 : decode cX11_ask 23 = .ok (.ldc 70, 2) := by decide +kernel
theorem dX11_ask_25 : decode cX11_ask 25 = .ok (.ireturn, 1) := by decide +kernel
theorem dX11_ask_26 : decode cX11_ask 26 = .ok (.aload_n 0, 1) := by decide +kernel
theorem dX11_ask_27 : decode cX11_ask 27 = .ok (.iconst 0, 1) := by decide +kernel
theorem dX11_ask_28 : decode cX11_ask 28 = .ok (.putfield 281, 3) := by decide +kernel
theorem dX11_ask_31 : decode cX11_ask 31 = .ok (.iload_n 2, 1) := by decide +kernel
theorem dX11_ask_32 : decode cX11_ask 32 = .ok (.ifCond .ne 11, 3) := by decide +kernel
theorem dX11_ask_35 : decode cX11_ask 35 = .ok (.aload_n 0, 1) := by decide +kernel
theorem dX11_ask_36 : decode cX11_ask 36 = .ok (.iload_n 1, 1) := by decide +kernel
theorem dX11_ask_37 : decode cX11_ask 37 = .ok (.invokevirtual 296, 3) := by decide +kernel
theorem dX11_ask_40 : decode cX11_ask 40 = .ok (.goto 8, 3) := by decide +kernel
theorem dX11_ask_43 : decode cX11_ask 43 = .ok (.aload_n 0, 1) := by decide +kernel
theorem dX11_ask_44 : decode cX11_ask 44 = .ok (.iload_n 1, 1) := by decide +kernel
theorem dX11_ask_45 : decode cX11_ask 45 = .ok (.invokevirtual 293, 3) := by decide +kernel
theorem dX11_ask_48 : decode cX11_ask 48 = .ok (.ireturn, 1) := by decide +kernel
theorem dX11_trace_0 : decode cX11_trace 0 = .ok (.aload_n 0, 1) := by decide +kernel
theorem dX11_trace_1 : decode cX11_trace 1 = .ok (.iconst 0, 1) := by decide +kernel
theorem dX11_trace_2 : decode cX11_trace 2 = .ok (.putfield 50, 3) := by decide +kernel
theorem dX11_trace_5 : decode cX11_trace 5 = .ok (.iload_n 1, 1) := by decide +kernel
theorem dX11_trace_6 : decode cX11_trace 6 = .ok (.i2l, 1) := by decide +kernel
theorem dX11_trace_7 : decode cX11_trace 7 = .ok (.lconst 0, 1) := by decide +kernel
theorem dX11_trace_8 : decode cX11_trace 8 = .ok (.aload_n 0, 1) := by decide +kernel
theorem dX11_trace_9 : decode cX11_trace 9 = .ok (.getfield 281, 3) := by decide +kernel
theorem dX11_trace_12 : decode cX11_trace 12 = .ok (.iconst 1, 1) := by decide +kernel
theorem dX11_trace_13 : decode cX11_trace 13 = .ok (.isub, 1) := by decide +kernel
theorem dX11_trace_14 : decode cX11_trace 14 = .ok (.i2l, 1) := by decide +kernel
theorem dX11_trace_15 : decode cX11_trace 15 = .ok (.invokestatic 60, 3) := by decide +kernel
theorem dX11_trace_18 : decode cX11_trace 18 = .ok (.ifCond .eq 12, 3) := by decide +kernel
theorem dX11_trace_21 : decode cX11_trace 21 = .ok (.aload_n 0, 1) := by decide +kernel
theorem dX11_trace_22 : decode cX11_trace 22 = .ok (.getfield 47, 3) := by decide +kernel
theorem dX11_trace_25 : decode cX11_trace 25 = .ok (.iload_n 1, 1) := by decide +kernel
theorem dX11_trace_26 : decode cX11_trace 26 = .ok (.iaload, 1) := by decide +kernel
theorem dX11_trace_27 : decode cX11_trace 27 = .ok (.goto 5, 3) := by decide +kernel
theorem dX11_trace_30 : decode cX11_trace 30 = .ok (.ldc 86, 2) := by decide +kernel
theorem dX11_trace_32 : decode cX11_trace 32 = .ok (.ireturn, 1) := by decide +kernel
theorem dX11_count_0 : decode cX11_count 0 = .ok (.aload_n 0, 1) := by decide +kernel
theorem dX11_count_1 : decode cX11_count 1 = .ok (.iconst 0, 1) := by decide +kernel
theorem dX11_count_2 : decode cX11_count 2 = .ok (.putfield 50, 3) := by decide +kernel
theorem dX11_count_5 : decode cX11_count 5 = .ok (.iconst 0, 1) := by decide +kernel
theorem dX11_count_6 : decode cX11_count 6 = .ok (.istore_n 2, 1) := by decide +kernel
theorem dX11_count_7 : decode cX11_count 7 = .ok (.iload_n 1, 1) := by decide +kernel
theorem dX11_count_8 : decode cX11_count 8 = .ok (.tableswitch 161 0 6 #[44, 77, 84, 91, 151, 91, 156], 44) := by decide +kernel
theorem dX11_count_52 : decode cX11_count 52 = .ok (.iconst 0, 1) := by decide +kernel
theorem dX11_count_53 : decode cX11_count 53 = .ok (.istore_n 3, 1) := by decide +kernel
theorem dX11_count_54 : decode cX11_count 54 = .ok (.iload_n 3, 1) := by decide +kernel
theorem dX11_count_55 : decode cX11_count 55 = .ok (.bipush 8, 2) := by decide +kernel
theorem dX11_count_57 : decode cX11_count 57 = .ok (.if_icmp .ge 26, 3) := by decide +kernel
theorem dX11_count_60 : decode cX11_count 60 = .ok (.iload_n 2, 1) := by decide +kernel
theorem dX11_count_61 : decode cX11_count 61 = .ok (.aload_n 0, 1) := by decide +kernel
theorem dX11_count_62 : decode cX11_count 62 = .ok (.getfield 7, 3) := by decide +kernel
theorem dX11_count_65 : decode cX11_count 65 = .ok (.iload_n 3, 1) := by decide +kernel
theorem dX11_count_66 : decode cX11_count 66 = .ok (.iaload, 1) := by decide +kernel
theorem dX11_count_67 : decode cX11_count 67 = .ok (.ifCond .lt 7, 3) := by decide +kernel
theorem dX11_count_70 : decode cX11_count 70 = .ok (.iconst 1, 1) := by decide +kernel
theorem dX11_count_71 : decode cX11_count 71 = .ok (.goto 4, 3) := by decide +kernel
theorem dX11_count_74 : decode cX11_count 74 = .ok (.iconst 0, 1) := by decide +kernel
theorem dX11_count_75 : decode cX11_count 75 = .ok (.iadd, 1) := by decide +kernel
theorem dX11_count_76 : decode cX11_count 76 = .ok (.istore_n 2, 1) := by decide +kernel
theorem dX11_count_77 : decode cX11_count 77 = .ok (.iinc 3 1, 3) := by decide +kernel
theorem dX11_count_80 : decode cX11_count 80 = .ok (.goto (-26), 3) := by decide +kernel
theorem dX11_count_83 : decode cX11_count 83 = .ok (.iload_n 2, 1) := by decide +kernel
theorem dX11_count_84 : decode cX11_count 84 = .ok (.ireturn, 1) := by decide +kernel
theorem dX11_count_85 : decode cX11_count 85 = .ok (.aload_n 0, 1) := by decide +kernel
theorem dX11_count_86 : decode cX11_count 86 = .ok (.getfield 19, 3) := by decide +kernel
theorem dX11_count_89 : decode cX11_count 89 = .ok (.iconst 2, 1) := by decide +kernel
theorem dX11_count_90 : decode cX11_count 90 = .ok (.iaload, 1) := by decide +kernel
theorem dX11_count_91 : decode cX11_count 91 = .ok (.ireturn, 1) := by decide +kernel
theorem dX11_count_92 : decode cX11_count 92 = .ok (.aload_n 0, 1) := by decide +kernel
theorem dX11_count_93 : decode cX11_count 93 = .ok (.getfield 19, 3) := by decide +kernel
theorem dX11_count_96 : decode cX11_count 96 = .ok (.iconst 3, 1) := by decide +kernel
theorem dX11_count_97 : decode cX11_count 97 = .ok (.iaload, 1) := by decide +kernel
theorem dX11_count_98 : decode cX11_count 98 = .ok (.ireturn, 1) := by decide +kernel
theorem dX11_count_99 : decode cX11_count 99 = .ok (.iconst 0, 1) := by decide +kernel
theorem dX11_count_100 : decode cX11_count 100 = .ok (.istore_n 3, 1) := by decide +kernel
theorem dX11_count_101 : decode cX11_count 101 = .ok (.iload_n 3, 1) := by decide +kernel
theorem dX11_count_102 : decode cX11_count 102 = .ok (.aload_n 0, 1) := by decide +kernel
theorem dX11_count_103 : decode cX11_count 103 = .ok (.getfield 19, 3) := by decide +kernel
theorem dX11_count_106 : decode cX11_count 106 = .ok (.iconst 3, 1) := by decide +kernel
theorem dX11_count_107 : decode cX11_count 107 = .ok (.iaload, 1) := by decide +kernel
theorem dX11_count_108 : decode cX11_count 108 = .ok (.if_icmp .ge 49, 3) := by decide +kernel
theorem dX11_count_111 : decode cX11_count 111 = .ok (.iload_n 2, 1) := by decide +kernel
theorem dX11_count_112 : decode cX11_count 112 = .ok (.iload_n 1, 1) := by decide +kernel
theorem dX11_count_113 : decode cX11_count 113 = .ok (.iconst 3, 1) := by decide +kernel
theorem dX11_count_114 : decode cX11_count 114 = .ok (.if_icmp .ne 20, 3) := by decide +kernel
theorem dX11_count_117 : decode cX11_count 117 = .ok (.aload_n 0, 1) := by decide +kernel
theorem dX11_count_118 : decode cX11_count 118 = .ok (.iload_n 3, 1) := by decide +kernel
theorem dX11_count_119 : decode cX11_count 119 = .ok (.iconst 3, 1) := by decide +kernel
theorem dX11_count_120 : decode cX11_count 120 = .ok (.invokevirtual 188, 3) := by decide +kernel
theorem dX11_count_123 : decode cX11_count 123 = .ok (.ifCond .lt 7, 3) := by decide +kernel
theorem dX11_count_126 : decode cX11_count 126 = .ok (.iconst 1, 1) := by decide +kernel
theorem dX11_count_127 : decode cX11_count 127 = .ok (.goto 22, 3) := by decide +kernel
theorem dX11_count_130 : decode cX11_count 130 = .ok (.iconst 0, 1) := by decide +kernel
theorem dX11_count_131 : decode cX11_count 131 = .ok (.goto 18, 3) := by decide +kernel
theorem dX11_count_134 : decode cX11_count 134 = .ok (.aload_n 0, 1) := by decide +kernel
theorem dX11_count_135 : decode cX11_count 135 = .ok (.iload_n 3, 1) := by decide +kernel
theorem dX11_count_136 : decode cX11_count 136 = .ok (.iconst 4, 1) := by decide +kernel
theorem dX11_count_137 : decode cX11_count 137 = .ok (.invokevirtual 188, 3) := by decide +kernel
theorem dX11_count_140 : decode cX11_count 140 = .ok (.iconst 2, 1) := by decide +kernel
theorem dX11_count_141 : decode cX11_count 141 = .ok (.if_icmp .ne 7, 3) := by decide +kernel
theorem dX11_count_144 : decode cX11_count 144 = .ok (.iconst 1, 1) := by decide +kernel
theorem dX11_count_145 : decode cX11_count 145 = .ok (.goto 4, 3) := by decide +kernel
theorem dX11_count_148 : decode cX11_count 148 = .ok (.iconst 0, 1) := by decide +kernel
theorem dX11_count_149 : decode cX11_count 149 = .ok (.iadd, 1) := by decide +kernel
theorem dX11_count_150 : decode cX11_count 150 = .ok (.istore_n 2, 1) := by decide +kernel
theorem dX11_count_151 : decode cX11_count 151 = .ok (.iinc 3 1, 3) := by decide +kernel
theorem dX11_count_154 : decode cX11_count 154 = .ok (.goto (-53), 3) := by decide +kernel
theorem dX11_count_157 : decode cX11_count 157 = .ok (.iload_n 2, 1) := by decide +kernel
theorem dX11_count_158 : decode cX11_count 158 = .ok (.ireturn, 1) := by decide +kernel
theorem dX11_count_159 : decode cX11_count 159 = .ok (.aload_n 0, 1) := by decide +kernel
theorem dX11_count_160 : decode cX11_count 160 = .ok (.getfield 181, 3) := by decide +kernel
theorem dX11_count_163 : decode cX11_count 163 = .ok (.ireturn, 1) := by decide +kernel
theorem dX11_count_164 : decode cX11_count 164 = .ok (.aload_n 0, 1) := by decide +kernel
theorem dX11_count_165 : decode cX11_count 165 = .ok (.getfield 77, 3) := by decide +kernel
theorem dX11_count_168 : decode cX11_count 168 = .ok (.ireturn, 1) := by decide +kernel
theorem dX11_count_169 : decode cX11_count 169 = .ok (.ldc 70, 2) := by decide +kernel
theorem dX11_count_171 : decode cX11_count 171 = .ok (.ireturn, 1) := by decide +kernel
theorem dX11_status_0 : decode cX11_status 0 = .ok (.aload_n 0, 1) := by decide +kernel
theorem dX11_status_1 : decode cX11_status 1 = .ok (.iconst 0, 1) := by decide +kernel
theorem dX11_status_2 : decode cX11_status 2 = .ok (.putfield 50, 3) := by decide +kernel
theorem dX11_status_5 : decode cX11_status 5 = .ok (.aload_n 0, 1) := by decide +kernel
theorem dX11_status_6 : decode cX11_status 6 = .ok (.getfield 54, 3) := by decide +kernel
theorem dX11_status_9 : decode cX11_status 9 = .ok (.ireturn, 1) := by decide +kernel
theorem dJ6_bitCount_0f7a4_0 : decode cJ6_bitCount_0f7a4 0 = .ok (.iload_n 0, 1) := by decide +kernel
theorem dJ6_bitCount_0f7a4_1 : decode cJ6_bitCount_0f7a4 1 = .ok (.iload_n 0, 1) := by decide +kernel
theorem dJ6_bitCount_0f7a4_2 : decode cJ6_bitCount_0f7a4 2 = .ok (.iconst 1, 1) := by decide +kernel
theorem dJ6_bitCount_0f7a4_3 : decode cJ6_bitCount_0f7a4 3 = .ok (.iushr, 1) := by decide +kernel
theorem dJ6_bitCount_0f7a4_4 : decode cJ6_bitCount_0f7a4 4 = .ok (.ldc_w 265, 3) := by decide +kernel
theorem dJ6_bitCount_0f7a4_7 : decode cJ6_bitCount_0f7a4 7 = .ok (.iand, 1) := by decide +kernel
theorem dJ6_bitCount_0f7a4_8 : decode cJ6_bitCount_0f7a4 8 = .ok (.isub, 1) := by decide +kernel
theorem dJ6_bitCount_0f7a4_9 : decode cJ6_bitCount_0f7a4 9 = .ok (.istore_n 0, 1) := by decide +kernel
theorem dJ6_bitCount_0f7a4_10 : decode cJ6_bitCount_0f7a4 10 = .ok (.iload_n 0, 1) := by decide +kernel
theorem dJ6_bitCount_0f7a4_11 : decode cJ6_bitCount_0f7a4 11 = .ok (.ldc_w 266, 3) := by decide +kernel
theorem dJ6_bitCount_0f7a4_14 : decode cJ6_bitCount_0f7a4 14 = .ok (.iand, 1) := by decide +kernel
theorem dJ6_bitCount_0f7a4_15 : decode cJ6_bitCount_0f7a4 15 = .ok (.iload_n 0, 1) := by decide +kernel
theorem dJ6_bitCount_0f7a4_16 : decode cJ6_bitCount_0f7a4 16 = .ok (.iconst 2, 1) := by decide +kernel
theorem dJ6_bitCount_0f7a4_17 : decode cJ6_bitCount_0f7a4 17 = .ok (.iushr, 1) := by decide +kernel
theorem dJ6_bitCount_0f7a4_18 : decode cJ6_bitCount_0f7a4 18 = .ok (.ldc_w 266, 3) := by decide +kernel
theorem dJ6_bitCount_0f7a4_21 : decode cJ6_bitCount_0f7a4 21 = .ok (.iand, 1) := by decide +kernel
theorem dJ6_bitCount_0f7a4_22 : decode cJ6_bitCount_0f7a4 22 = .ok (.iadd, 1) := by decide +kernel
theorem dJ6_bitCount_0f7a4_23 : decode cJ6_bitCount_0f7a4 23 = .ok (.istore_n 0, 1) := by decide +kernel
theorem dJ6_bitCount_0f7a4_24 : decode cJ6_bitCount_0f7a4 24 = .ok (.iload_n 0, 1) := by decide +kernel
theorem dJ6_bitCount_0f7a4_25 : decode cJ6_bitCount_0f7a4 25 = .ok (.iload_n 0, 1) := by decide +kernel
theorem dJ6_bitCount_0f7a4_26 : decode cJ6_bitCount_0f7a4 26 = .ok (.iconst 4, 1) := by decide +kernel
theorem dJ6_bitCount_0f7a4_27 : decode cJ6_bitCount_0f7a4 27 = .ok (.iushr, 1) := by decide +kernel
theorem dJ6_bitCount_0f7a4_28 : decode cJ6_bitCount_0f7a4 28 = .ok (.iadd, 1) := by decide +kernel
theorem dJ6_bitCount_0f7a4_29 : decode cJ6_bitCount_0f7a4 29 = .ok (.ldc_w 267, 3) := by decide +kernel
theorem dJ6_bitCount_0f7a4_32 : decode cJ6_bitCount_0f7a4 32 = .ok (.iand, 1) := by decide +kernel
theorem dJ6_bitCount_0f7a4_33 : decode cJ6_bitCount_0f7a4 33 = .ok (.istore_n 0, 1) := by decide +kernel
theorem dJ6_bitCount_0f7a4_34 : decode cJ6_bitCount_0f7a4 34 = .ok (.iload_n 0, 1) := by decide +kernel
theorem dJ6_bitCount_0f7a4_35 : decode cJ6_bitCount_0f7a4 35 = .ok (.iload_n 0, 1) := by decide +kernel
theorem dJ6_bitCount_0f7a4_36 : decode cJ6_bitCount_0f7a4 36 = .ok (.bipush 8, 2) := by decide +kernel
theorem dJ6_bitCount_0f7a4_38 : decode cJ6_bitCount_0f7a4 38 = .ok (.iushr, 1) := by decide +kernel
theorem dJ6_bitCount_0f7a4_39 : decode cJ6_bitCount_0f7a4 39 = .ok (.iadd, 1) := by decide +kernel
theorem dJ6_bitCount_0f7a4_40 : decode cJ6_bitCount_0f7a4 40 = .ok (.istore_n 0, 1) := by decide +kernel
theorem dJ6_bitCount_0f7a4_41 : decode cJ6_bitCount_0f7a4 41 = .ok (.iload_n 0, 1) := by decide +kernel
theorem dJ6_bitCount_0f7a4_42 : decode cJ6_bitCount_0f7a4 42 = .ok (.iload_n 0, 1) := by decide +kernel
theorem dJ6_bitCount_0f7a4_43 : decode cJ6_bitCount_0f7a4 43 = .ok (.bipush 16, 2) := by decide +kernel
theorem dJ6_bitCount_0f7a4_45 : decode cJ6_bitCount_0f7a4 45 = .ok (.iushr, 1) := by decide +kernel
theorem dJ6_bitCount_0f7a4_46 : decode cJ6_bitCount_0f7a4 46 = .ok (.iadd, 1) := by decide +kernel
theorem dJ6_bitCount_0f7a4_47 : decode cJ6_bitCount_0f7a4 47 = .ok (.istore_n 0, 1) := by decide +kernel
theorem dJ6_bitCount_0f7a4_48 : decode cJ6_bitCount_0f7a4 48 = .ok (.iload_n 0, 1) := by decide +kernel
theorem dJ6_bitCount_0f7a4_49 : decode cJ6_bitCount_0f7a4 49 = .ok (.bipush 63, 2) := by decide +kernel
theorem dJ6_bitCount_0f7a4_51 : decode cJ6_bitCount_0f7a4 51 = .ok (.iand, 1) := by decide +kernel
theorem dJ6_bitCount_0f7a4_52 : decode cJ6_bitCount_0f7a4 52 = .ok (.ireturn, 1) := by decide +kernel
theorem dJ9_max_7cf53_0 : decode cJ9_max_7cf53 0 = .ok (.iload_n 0, 1) := by decide +kernel
theorem dJ9_max_7cf53_1 : decode cJ9_max_7cf53 1 = .ok (.iload_n 1, 1) := by decide +kernel
theorem dJ9_max_7cf53_2 : decode cJ9_max_7cf53 2 = .ok (.if_icmp .lt 7, 3) := by decide +kernel
theorem dJ9_max_7cf53_5 : decode cJ9_max_7cf53 5 = .ok (.iload_n 0, 1) := by decide +kernel
theorem dJ9_max_7cf53_6 : decode cJ9_max_7cf53 6 = .ok (.goto 4, 3) := by decide +kernel
theorem dJ9_max_7cf53_9 : decode cJ9_max_7cf53 9 = .ok (.iload_n 1, 1) := by decide +kernel
theorem dJ9_max_7cf53_10 : decode cJ9_max_7cf53 10 = .ok (.ireturn, 1) := by decide +kernel
theorem dJ9_min_7cf53_0 : decode cJ9_min_7cf53 0 = .ok (.iload_n 0, 1) := by decide +kernel
theorem dJ9_min_7cf53_1 : decode cJ9_min_7cf53 1 = .ok (.iload_n 1, 1) := by decide +kernel
theorem dJ9_min_7cf53_2 : decode cJ9_min_7cf53 2 = .ok (.if_icmp .gt 7, 3) := by decide +kernel
theorem dJ9_min_7cf53_5 : decode cJ9_min_7cf53 5 = .ok (.iload_n 0, 1) := by decide +kernel
theorem dJ9_min_7cf53_6 : decode cJ9_min_7cf53 6 = .ok (.goto 4, 3) := by decide +kernel
theorem dJ9_min_7cf53_9 : decode cJ9_min_7cf53 9 = .ok (.iload_n 1, 1) := by decide +kernel
theorem dJ9_min_7cf53_10 : decode cJ9_min_7cf53 10 = .ok (.ireturn, 1) := by decide +kernel
theorem dJ0_length_8abf5_0 : decode cJ0_length_8abf5 0 = .ok (.aload_n 0, 1) := by decide +kernel
theorem dJ0_length_8abf5_1 : decode cJ0_length_8abf5 1 = .ok (.getfield 9, 3) := by decide +kernel
theorem dJ0_length_8abf5_4 : decode cJ0_length_8abf5 4 = .ok (.arraylength, 1) := by decide +kernel
theorem dJ0_length_8abf5_5 : decode cJ0_length_8abf5 5 = .ok (.aload_n 0, 1) := by decide +kernel
theorem dJ0_length_8abf5_6 : decode cJ0_length_8abf5 6 = .ok (.invokevirtual 335, 3) := by decide +kernel
theorem dJ0_length_8abf5_9 : decode cJ0_length_8abf5 9 = .ok (.ishr, 1) := by decide +kernel
theorem dJ0_length_8abf5_10 : decode cJ0_length_8abf5 10 = .ok (.ireturn, 1) := by decide +kernel
theorem dJ0_charAt_5068e_0 : decode cJ0_charAt_5068e 0 = .ok (.aload_n 0, 1) := by decide +kernel
theorem dJ0_charAt_5068e_1 : decode cJ0_charAt_5068e 1 = .ok (.invokevirtual 492, 3) := by decide +kernel
theorem dJ0_charAt_5068e_4 : decode cJ0_charAt_5068e 4 = .ok (.ifCond .eq 12, 3) := by decide +kernel
theorem dJ0_charAt_5068e_7 : decode cJ0_charAt_5068e 7 = .ok (.aload_n 0, 1) := by decide +kernel
theorem dJ0_charAt_5068e_8 : decode cJ0_charAt_5068e 8 = .ok (.getfield 9, 3) := by decide +kernel
theorem dJ0_charAt_5068e_11 : decode cJ0_charAt_5068e 11 = .ok (.iload_n 1, 1) := by decide +kernel
theorem dJ0_charAt_5068e_12 : decode cJ0_charAt_5068e 12 = .ok (.invokestatic 495, 3) := by decide +kernel
theorem dJ0_charAt_5068e_15 : decode cJ0_charAt_5068e 15 = .ok (.ireturn, 1) := by decide +kernel
theorem dJ0_charAt_5068e_16 : decode cJ0_charAt_5068e 16 = .ok (.aload_n 0, 1) := by decide +kernel
theorem dJ0_charAt_5068e_17 : decode cJ0_charAt_5068e 17 = .ok (.getfield 9, 3) := by decide +kernel
theorem dJ0_charAt_5068e_20 : decode cJ0_charAt_5068e 20 = .ok (.iload_n 1, 1) := by decide +kernel
theorem dJ0_charAt_5068e_21 : decode cJ0_charAt_5068e 21 = .ok (.invokestatic 498, 3) := by decide +kernel
theorem dJ0_charAt_5068e_24 : decode cJ0_charAt_5068e 24 = .ok (.ireturn, 1) := by decide +kernel
theorem dJ0_coder_7d493_0 : decode cJ0_coder_7d493 0 = .ok (.getstatic 38, 3) := by decide +kernel
theorem dJ0_coder_7d493_3 : decode cJ0_coder_7d493 3 = .ok (.ifCond .eq 10, 3) := by decide +kernel
theorem dJ0_coder_7d493_6 : decode cJ0_coder_7d493 6 = .ok (.aload_n 0, 1) := by decide +kernel
theorem dJ0_coder_7d493_7 : decode cJ0_coder_7d493 7 = .ok (.getfield 15, 3) := by decide +kernel
theorem dJ0_coder_7d493_10 : decode cJ0_coder_7d493 10 = .ok (.goto 4, 3) := by decide +kernel
theorem dJ0_coder_7d493_13 : decode cJ0_coder_7d493 13 = .ok (.iconst 1, 1) := by decide +kernel
theorem dJ0_coder_7d493_14 : decode cJ0_coder_7d493 14 = .ok (.ireturn, 1) := by decide +kernel
theorem dJ0_isLatin1_aae02_0 : decode cJ0_isLatin1_aae02 0 = .ok (.getstatic 38, 3) := by decide +kernel
theorem dJ0_isLatin1_aae02_3 : decode cJ0_isLatin1_aae02 3 = .ok (.ifCond .eq 14, 3) := by decide +kernel
theorem dJ0_isLatin1_aae02_6 : decode cJ0_isLatin1_aae02 6 = .ok (.aload_n 0, 1) := by decide +kernel
theorem dJ0_isLatin1_aae02_7 : decode cJ0_isLatin1_aae02 7 = .ok (.getfield 15, 3) := by decide +kernel
theorem dJ0_isLatin1_aae02_10 : decode cJ0_isLatin1_aae02 10 = .ok (.ifCond .ne 7, 3) := by decide +kernel
theorem dJ0_isLatin1_aae02_13 : decode cJ0_isLatin1_aae02 13 = .ok (.iconst 1, 1) := by decide +kernel
theorem dJ0_isLatin1_aae02_14 : decode cJ0_isLatin1_aae02 14 = .ok (.goto 4, 3) := by decide +kernel
theorem dJ0_isLatin1_aae02_17 : decode cJ0_isLatin1_aae02 17 = .ok (.iconst 0, 1) := by decide +kernel
theorem dJ0_isLatin1_aae02_18 : decode cJ0_isLatin1_aae02 18 = .ok (.ireturn, 1) := by decide +kernel
theorem dJ0_checkIndex_df160_0 : decode cJ0_checkIndex_df160 0 = .ok (.iload_n 0, 1) := by decide +kernel
theorem dJ0_checkIndex_df160_1 : decode cJ0_checkIndex_df160 1 = .ok (.iload_n 1, 1) := by decide +kernel
theorem dJ0_checkIndex_df160_2 : decode cJ0_checkIndex_df160 2 = .ok (.getstatic 1053, 3) := by decide +kernel
theorem dJ0_checkIndex_df160_5 : decode cJ0_checkIndex_df160 5 = .ok (.invokestatic 1059, 3) := by decide +kernel
theorem dJ0_checkIndex_df160_8 : decode cJ0_checkIndex_df160 8 = .ok (.pop, 1) := by decide +kernel
theorem dJ0_checkIndex_df160_9 : decode cJ0_checkIndex_df160 9 = .ok (.return_, 1) := by decide +kernel
theorem dJ1_charAt_3b067_0 : decode cJ1_charAt_3b067 0 = .ok (.iload_n 1, 1) := by decide +kernel
theorem dJ1_charAt_3b067_1 : decode cJ1_charAt_3b067 1 = .ok (.aload_n 0, 1) := by decide +kernel
theorem dJ1_charAt_3b067_2 : decode cJ1_charAt_3b067 2 = .ok (.arraylength, 1) := by decide +kernel
theorem dJ1_charAt_3b067_3 : decode cJ1_charAt_3b067 3 = .ok (.invokestatic 9, 3) := by decide +kernel
theorem dJ1_charAt_3b067_6 : decode cJ1_charAt_3b067 6 = .ok (.aload_n 0, 1) := by decide +kernel
theorem dJ1_charAt_3b067_7 : decode cJ1_charAt_3b067 7 = .ok (.iload_n 1, 1) := by decide +kernel
theorem dJ1_charAt_3b067_8 : decode cJ1_charAt_3b067 8 = .ok (.baload, 1) := by decide +kernel
theorem dJ1_charAt_3b067_9 : decode cJ1_charAt_3b067 9 = .ok (.sipush 255, 3) := by decide +kernel
theorem dJ1_charAt_3b067_12 : decode cJ1_charAt_3b067 12 = .ok (.iand, 1) := by decide +kernel
theorem dJ1_charAt_3b067_13 : decode cJ1_charAt_3b067 13 = .ok (.i2c, 1) := by decide +kernel
theorem dJ1_charAt_3b067_14 : decode cJ1_charAt_3b067 14 = .ok (.ireturn, 1) := by decide +kernel
theorem dJ3_checkIndex_8e157_0 : decode cJ3_checkIndex_8e157 0 = .ok (.iload_n 0, 1) := by decide +kernel
theorem dJ3_checkIndex_8e157_1 : decode cJ3_checkIndex_8e157 1 = .ok (.ifCond .lt 8, 3) := by decide +kernel
theorem dJ3_checkIndex_8e157_4 : decode cJ3_checkIndex_8e157 4 = .ok (.iload_n 0, 1) := by decide +kernel
