theorem dX7_hasBelowZero_16 : decode cX7_hasBelowZero 16 = .ok (.imul, 1) := by decide +kernel
theorem dX7_hasBelowZero_17 : decode cX7_hasBelowZero 17 = .ok (.iload_n 2, 1) := by decide +kernel
theorem dX7_hasBelowZero_18 : decode cX7_hasBelowZero 18 = .ok (.iadd, 1) := by decide +kernel
theorem dX7_hasBelowZero_19 : decode cX7_hasBelowZero 19 = .ok (.iload 4, 2) := by decide +kernel
theorem dX7_hasBelowZero_21 : decode cX7_hasBelowZero 21 = .ok (.iadd, 1) := by decide +kernel
theorem dX7_hasBelowZero_22 : decode cX7_hasBelowZero 22 = .ok (.iaload, 1) := by decide +kernel
theorem dX7_hasBelowZero_23 : decode cX7_hasBelowZero 23 = .ok (.ifCond .ge 5, 3) := by decide +kernel
theorem dX7_hasBelowZero_26 : decode cX7_hasBelowZero 26 = .ok (.iconst 1, 1) := by decide +kernel
theorem dX7_hasBelowZero_27 : decode cX7_hasBelowZero 27 = .ok (.ireturn, 1) := by decide +kernel
theorem dX7_hasBelowZero_28 : decode cX7_hasBelowZero 28 = .ok (.iinc 4 1, 3) := by decide +kernel
theorem dX7_hasBelowZero_31 : decode cX7_hasBelowZero 31 = .ok (.goto (-28), 3) := by decide +kernel
theorem dX7_hasBelowZero_34 : decode cX7_hasBelowZero 34 = .ok (.iconst 0, 1) := by decide +kernel
theorem dX7_hasBelowZero_35 : decode cX7_hasBelowZero 35 = .ok (.ireturn, 1) := by decide +kernel
theorem dX7_countUpTo_0 : decode cX7_countUpTo 0 = .ok (.iconst 0, 1) := by decide +kernel
theorem dX7_countUpTo_1 : decode cX7_countUpTo 1 = .ok (.istore 5, 2) := by decide +kernel
theorem dX7_countUpTo_3 : decode cX7_countUpTo 3 = .ok (.iload 5, 2) := by decide +kernel
theorem dX7_countUpTo_5 : decode cX7_countUpTo 5 = .ok (.iload_n 3, 1) := by decide +kernel
theorem dX7_countUpTo_6 : decode cX7_countUpTo 6 = .ok (.if_icmp .ge 31, 3) := by decide +kernel
theorem dX7_countUpTo_9 : decode cX7_countUpTo 9 = .ok (.aload_n 0, 1) := by decide +kernel
theorem dX7_countUpTo_10 : decode cX7_countUpTo 10 = .ok (.getfield 16, 3) := by decide +kernel
theorem dX7_countUpTo_13 : decode cX7_countUpTo 13 = .ok (.iload_n 1, 1) := by decide +kernel
theorem dX7_countUpTo_14 : decode cX7_countUpTo 14 = .ok (.bipush 40, 2) := by decide +kernel
theorem dX7_countUpTo_16 : decode cX7_countUpTo 16 = .ok (.imul, 1) := by decide +kernel
theorem dX7_countUpTo_17 : decode cX7_countUpTo 17 = .ok (.iload_n 2, 1) := by decide +kernel
theorem dX7_countUpTo_18 : decode cX7_countUpTo 18 = .ok (.iadd, 1) := by decide +kernel
theorem dX7_countUpTo_19 : decode cX7_countUpTo 19 = .ok (.iload 5, 2) := by decide +kernel
theorem dX7_countUpTo_21 : decode cX7_countUpTo 21 = .ok (.iadd, 1) := by decide +kernel
theorem dX7_countUpTo_22 : decode cX7_countUpTo 22 = .ok (.iaload, 1) := by decide +kernel
theorem dX7_countUpTo_23 : decode cX7_countUpTo 23 = .ok (.iload 4, 2) := by decide +kernel
theorem dX7_countUpTo_25 : decode cX7_countUpTo 25 = .ok (.if_icmp .le 6, 3) := by decide +kernel
theorem dX7_countUpTo_28 : decode cX7_countUpTo 28 = .ok (.iload 5, 2) := by decide +kernel
theorem dX7_countUpTo_30 : decode cX7_countUpTo 30 = .ok (.ireturn, 1) := by decide +kernel
theorem dX7_countUpTo_31 : decode cX7_countUpTo 31 = .ok (.iinc 5 1, 3) := by decide +kernel
theorem dX7_countUpTo_34 : decode cX7_countUpTo 34 = .ok (.goto (-31), 3) := by decide +kernel
theorem dX7_countUpTo_37 : decode cX7_countUpTo 37 = .ok (.iload_n 3, 1) := by decide +kernel
theorem dX7_countUpTo_38 : decode cX7_countUpTo 38 = .ok (.ireturn, 1) := by decide +kernel
theorem dX7_howMany_0 : decode cX7_howMany 0 = .ok (.iconst 0, 1) := by decide +kernel
theorem dX7_howMany_1 : decode cX7_howMany 1 = .ok (.istore_n 1, 1) := by decide +kernel
theorem dX7_howMany_2 : decode cX7_howMany 2 = .ok (.iconst 0, 1) := by decide +kernel
theorem dX7_howMany_3 : decode cX7_howMany 3 = .ok (.istore_n 2, 1) := by decide +kernel
theorem dX7_howMany_4 : decode cX7_howMany 4 = .ok (.iload_n 2, 1) := by decide +kernel
theorem dX7_howMany_5 : decode cX7_howMany 5 = .ok (.bipush 8, 2) := by decide +kernel
theorem dX7_howMany_7 : decode cX7_howMany 7 = .ok (.if_icmp .ge 25, 3) := by decide +kernel
theorem dX7_howMany_10 : decode cX7_howMany 10 = .ok (.iload_n 1, 1) := by decide +kernel
theorem dX7_howMany_11 : decode cX7_howMany 11 = .ok (.aload_n 0, 1) := by decide +kernel
theorem dX7_howMany_12 : decode cX7_howMany 12 = .ok (.iload_n 2, 1) := by decide +kernel
theorem dX7_howMany_13 : decode cX7_howMany 13 = .ok (.invokevirtual 25, 3) := by decide +kernel
theorem dX7_howMany_16 : decode cX7_howMany 16 = .ok (.ifCond .eq 7, 3) := by decide +kernel
theorem dX7_howMany_19 : decode cX7_howMany 19 = .ok (.iconst 0, 1) := by decide +kernel
theorem dX7_howMany_20 : decode cX7_howMany 20 = .ok (.goto 4, 3) := by decide +kernel
theorem dX7_howMany_23 : decode cX7_howMany 23 = .ok (.iconst 1, 1) := by decide +kernel
theorem dX7_howMany_24 : decode cX7_howMany 24 = .ok (.iadd, 1) := by decide +kernel
theorem dX7_howMany_25 : decode cX7_howMany 25 = .ok (.istore_n 1, 1) := by decide +kernel
theorem dX7_howMany_26 : decode cX7_howMany 26 = .ok (.iinc 2 1, 3) := by decide +kernel
theorem dX7_howMany_29 : decode cX7_howMany 29 = .ok (.goto (-25), 3) := by decide +kernel
theorem dX7_howMany_32 : decode cX7_howMany 32 = .ok (.iload_n 1, 1) := by decide +kernel
theorem dX7_howMany_33 : decode cX7_howMany 33 = .ok (.ireturn, 1) := by decide +kernel
theorem dX8_init_0 : decode cX8_init 0 = .ok (.aload_n 0, 1) := by decide +kernel
theorem dX8_init_1 : decode cX8_init 1 = .ok (.invokespecial 1, 3) := by decide +kernel
theorem dX8_init_4 : decode cX8_init 4 = .ok (.aload_n 0, 1) := by decide +kernel
theorem dX8_init_5 : decode cX8_init 5 = .ok (.sipush 400, 3) := by decide +kernel
theorem dX8_init_8 : decode cX8_init 8 = .ok (.newarray .byte, 2) := by decide +kernel
theorem dX8_init_10 : decode cX8_init 10 = .ok (.putfield 9, 3) := by decide +kernel
theorem dX8_init_13 : decode cX8_init 13 = .ok (.aload_n 0, 1) := by decide +kernel
theorem dX8_init_14 : decode cX8_init 14 = .ok (.iconst 0, 1) := by decide +kernel
theorem dX8_init_15 : decode cX8_init 15 = .ok (.putfield 13, 3) := by decide +kernel
theorem dX8_init_18 : decode cX8_init 18 = .ok (.aload_n 0, 1) := by decide +kernel
theorem dX8_init_19 : decode cX8_init 19 = .ok (.iconst 0, 1) := by decide +kernel
theorem dX8_init_20 : decode cX8_init 20 = .ok (.putfield 17, 3) := by decide +kernel
theorem dX8_init_23 : decode cX8_init 23 = .ok (.aload_n 0, 1) := by decide +kernel
theorem dX8_init_24 : decode cX8_init 24 = .ok (.iconst 0, 1) := by decide +kernel
theorem dX8_init_25 : decode cX8_init 25 = .ok (.putfield 20, 3) := by decide +kernel
theorem dX8_init_28 : decode cX8_init 28 = .ok (.aload_n 0, 1) := by decide +kernel
theorem dX8_init_29 : decode cX8_init 29 = .ok (.iconst 0, 1) := by decide +kernel
theorem dX8_init_30 : decode cX8_init 30 = .ok (.putfield 23, 3) := by decide +kernel
theorem dX8_init_33 : decode cX8_init 33 = .ok (.aload_n 0, 1) := by decide +kernel
theorem dX8_init_34 : decode cX8_init 34 = .ok (.iconst 0, 1) := by decide +kernel
theorem dX8_init_35 : decode cX8_init 35 = .ok (.putfield 26, 3) := by decide +kernel
theorem dX8_init_38 : decode cX8_init 38 = .ok (.return_, 1) := by decide +kernel
theorem dX8_hasRoom_0 : decode cX8_hasRoom 0 = .ok (.aload_n 0, 1) := by decide +kernel
theorem dX8_hasRoom_1 : decode cX8_hasRoom 1 = .ok (.getfield 13, 3) := by decide +kernel
theorem dX8_hasRoom_4 : decode cX8_hasRoom 4 = .ok (.iload_n 1, 1) := by decide +kernel
theorem dX8_hasRoom_5 : decode cX8_hasRoom 5 = .ok (.iadd, 1) := by decide +kernel
theorem dX8_hasRoom_6 : decode cX8_hasRoom 6 = .ok (.sipush 400, 3) := by decide +kernel
theorem dX8_hasRoom_9 : decode cX8_hasRoom 9 = .ok (.if_icmp .gt 7, 3) := by decide +kernel
theorem dX8_hasRoom_12 : decode cX8_hasRoom 12 = .ok (.iconst 1, 1) := by decide +kernel
theorem dX8_hasRoom_13 : decode cX8_hasRoom 13 = .ok (.goto 4, 3) := by decide +kernel
theorem dX8_hasRoom_16 : decode cX8_hasRoom 16 = .ok (.iconst 0, 1) := by decide +kernel
theorem dX8_hasRoom_17 : decode cX8_hasRoom 17 = .ok (.ireturn, 1) := by decide +kernel
theorem dX8_add_0 : decode cX8_add 0 = .ok (.aload_n 0, 1) := by decide +kernel
theorem dX8_add_1 : decode cX8_add 1 = .ok (.getfield 9, 3) := by decide +kernel
theorem dX8_add_4 : decode cX8_add 4 = .ok (.aload_n 0, 1) := by decide +kernel
theorem dX8_add_5 : decode cX8_add 5 = .ok (.getfield 13, 3) := by decide +kernel
theorem dX8_add_8 : decode cX8_add 8 = .ok (.iload_n 1, 1) := by decide +kernel
theorem dX8_add_9 : decode cX8_add 9 = .ok (.bastore, 1) := by decide +kernel
theorem dX8_add_10 : decode cX8_add 10 = .ok (.aload_n 0, 1) := by decide +kernel
theorem dX8_add_11 : decode cX8_add 11 = .ok (.dup, 1) := by decide +kernel
theorem dX8_add_12 : decode cX8_add 12 = .ok (.getfield 13, 3) := by decide +kernel
theorem dX8_add_15 : decode cX8_add 15 = .ok (.iconst 1, 1) := by decide +kernel
theorem dX8_add_16 : decode cX8_add 16 = .ok (.iadd, 1) := by decide +kernel
theorem dX8_add_17 : decode cX8_add 17 = .ok (.putfield 13, 3) := by decide +kernel
theorem dX8_add_20 : decode cX8_add 20 = .ok (.return_, 1) := by decide +kernel
theorem dX8_rewind_0 : decode cX8_rewind 0 = .ok (.aload_n 0, 1) := by decide +kernel
theorem dX8_rewind_1 : decode cX8_rewind 1 = .ok (.iconst 0, 1) := by decide +kernel
theorem dX8_rewind_2 : decode cX8_rewind 2 = .ok (.putfield 26, 3) := by decide +kernel
theorem dX8_rewind_5 : decode cX8_rewind 5 = .ok (.aload_n 0, 1) := by decide +kernel
theorem dX8_rewind_6 : decode cX8_rewind 6 = .ok (.invokevirtual 29, 3) := by decide +kernel
theorem dX8_rewind_9 : decode cX8_rewind 9 = .ok (.return_, 1) := by decide +kernel
theorem dX8_next_0 : decode cX8_next 0 = .ok (.aload_n 0, 1) := by decide +kernel
theorem dX8_next_1 : decode cX8_next 1 = .ok (.getfield 26, 3) := by decide +kernel
theorem dX8_next_4 : decode cX8_next 4 = .ok (.aload_n 0, 1) := by decide +kernel
theorem dX8_next_5 : decode cX8_next 5 = .ok (.getfield 13, 3) := by decide +kernel
theorem dX8_next_8 : decode cX8_next 8 = .ok (.if_icmp .ge 31, 3) := by decide +kernel
theorem dX8_next_11 : decode cX8_next 11 = .ok (.aload_n 0, 1) := by decide +kernel
theorem dX8_next_12 : decode cX8_next 12 = .ok (.getfield 9, 3) := by decide +kernel
theorem dX8_next_15 : decode cX8_next 15 = .ok (.aload_n 0, 1) := by decide +kernel
theorem dX8_next_16 : decode cX8_next 16 = .ok (.getfield 26, 3) := by decide +kernel
theorem dX8_next_19 : decode cX8_next 19 = .ok (.baload, 1) := by decide +kernel
theorem dX8_next_20 : decode cX8_next 20 = .ok (.invokestatic 32, 3) := by decide +kernel
theorem dX8_next_23 : decode cX8_next 23 = .ok (.ifCond .eq 16, 3) := by decide +kernel
theorem dX8_next_26 : decode cX8_next 26 = .ok (.aload_n 0, 1) := by decide +kernel
theorem dX8_next_27 : decode cX8_next 27 = .ok (.dup, 1) := by decide +kernel
theorem dX8_next_28 : decode cX8_next 28 = .ok (.getfield 26, 3) := by decide +kernel
theorem dX8_next_31 : decode cX8_next 31 = .ok (.iconst 1, 1) := by decide +kernel
theorem dX8_next_32 : decode cX8_next 32 = .ok (.iadd, 1) := by decide +kernel
theorem dX8_next_33 : decode cX8_next 33 = .ok (.putfield 26, 3) := by decide +kernel
theorem dX8_next_36 : decode cX8_next 36 = .ok (.goto (-36), 3) := by decide +kernel
theorem dX8_next_39 : decode cX8_next 39 = .ok (.aload_n 0, 1) := by decide +kernel
theorem dX8_next_40 : decode cX8_next 40 = .ok (.aload_n 0, 1) := by decide +kernel
theorem dX8_next_41 : decode cX8_next 41 = .ok (.getfield 26, 3) := by decide +kernel
theorem dX8_next_44 : decode cX8_next 44 = .ok (.putfield 20, 3) := by decide +kernel
theorem dX8_next_47 : decode cX8_next 47 = .ok (.aload_n 0, 1) := by decide +kernel
theorem dX8_next_48 : decode cX8_next 48 = .ok (.getfield 26, 3) := by decide +kernel
theorem dX8_next_51 : decode cX8_next 51 = .ok (.aload_n 0, 1) := by decide +kernel
theorem dX8_next_52 : decode cX8_next 52 = .ok (.getfield 13, 3) := by decide +kernel
theorem dX8_next_55 : decode cX8_next 55 = .ok (.if_icmp .lt 11, 3) := by decide +kernel
theorem dX8_next_58 : decode cX8_next 58 = .ok (.aload_n 0, 1) := by decide +kernel
theorem dX8_next_59 : decode cX8_next 59 = .ok (.iconst 0, 1) := by decide +kernel
theorem dX8_next_60 : decode cX8_next 60 = .ok (.putfield 17, 3) := by decide +kernel
theorem dX8_next_63 : decode cX8_next 63 = .ok (.goto 80, 3) := by decide +kernel
theorem dX8_next_66 : decode cX8_next 66 = .ok (.aload_n 0, 1) := by decide +kernel
theorem dX8_next_67 : decode cX8_next 67 = .ok (.getfield 9, 3) := by decide +kernel
theorem dX8_next_70 : decode cX8_next 70 = .ok (.aload_n 0, 1) := by decide +kernel
theorem dX8_next_71 : decode cX8_next 71 = .ok (.getfield 26, 3) := by decide +kernel
theorem dX8_next_74 : decode cX8_next 74 = .ok (.baload, 1) := by decide +kernel
theorem dX8_next_75 : decode cX8_next 75 = .ok (.invokestatic 36, 3) := by decide +kernel
theorem dX8_next_78 : decode cX8_next 78 = .ok (.ifCond .eq 10, 3) := by decide +kernel
theorem dX8_next_81 : decode cX8_next 81 = .ok (.aload_n 0, 1) := by decide +kernel
theorem dX8_next_82 : decode cX8_next 82 = .ok (.invokevirtual 39, 3) := by decide +kernel
theorem dX8_next_85 : decode cX8_next 85 = .ok (.goto 58, 3) := by decide +kernel
theorem dX8_next_88 : decode cX8_next 88 = .ok (.aload_n 0, 1) := by decide +kernel
theorem dX8_next_89 : decode cX8_next 89 = .ok (.getfield 9, 3) := by decide +kernel
theorem dX8_next_92 : decode cX8_next 92 = .ok (.aload_n 0, 1) := by decide +kernel
theorem dX8_next_93 : decode cX8_next 93 = .ok (.getfield 26, 3) := by decide +kernel
theorem dX8_next_96 : decode cX8_next 96 = .ok (.baload, 1) := by decide +kernel
theorem dX8_next_97 : decode cX8_next 97 = .ok (.invokestatic 42, 3) := by decide +kernel
theorem dX8_next_100 : decode cX8_next 100 = .ok (.ifCond .eq 10, 3) := by decide +kernel
theorem dX8_next_103 : decode cX8_next 103 = .ok (.aload_n 0, 1) := by decide +kernel
theorem dX8_next_104 : decode cX8_next 104 = .ok (.invokevirtual 45, 3) := by decide +kernel
theorem dX8_next_107 : decode cX8_next 107 = .ok (.goto 36, 3) := by decide +kernel
theorem dX8_next_110 : decode cX8_next 110 = .ok (.aload_n 0, 1) := by decide +kernel
theorem dX8_next_111 : decode cX8_next 111 = .ok (.aload_n 0, 1) := by decide +kernel
theorem dX8_next_112 : decode cX8_next 112 = .ok (.getfield 9, 3) := by decide +kernel
theorem dX8_next_115 : decode cX8_next 115 = .ok (.aload_n 0, 1) := by decide +kernel
theorem dX8_next_116 : decode cX8_next 116 = .ok (.getfield 26, 3) := by decide +kernel
theorem dX8_next_119 : decode cX8_next 119 = .ok (.baload, 1) := by decide +kernel
theorem dX8_next_120 : decode cX8_next 120 = .ok (.bipush 59, 2) := by decide +kernel
theorem dX8_next_122 : decode cX8_next 122 = .ok (.if_icmp .ne 7, 3) := by decide +kernel
theorem dX8_next_125 : decode cX8_next 125 = .ok (.iconst 3, 1) := by decide +kernel
theorem dX8_next_126 : decode cX8_next 126 = .ok (.goto 4, 3) := by decide +kernel
theorem dX8_next_129 : decode cX8_next 129 = .ok (.iconst 4, 1) := by decide +kernel
theorem dX8_next_130 : decode cX8_next 130 = .ok (.putfield 17, 3) := by decide +kernel
theorem dX8_next_133 : decode cX8_next 133 = .ok (.aload_n 0, 1) := by decide +kernel
theorem dX8_next_134 : decode cX8_next 134 = .ok (.dup, 1) := by decide +kernel
theorem dX8_next_135 : decode cX8_next 135 = .ok (.getfield 26, 3) := by decide +kernel
theorem dX8_next_138 : decode cX8_next 138 = .ok (.iconst 1, 1) := by decide +kernel
theorem dX8_next_139 : decode cX8_next 139 = .ok (.iadd, 1) := by decide +kernel
theorem dX8_next_140 : decode cX8_next 140 = .ok (.putfield 26, 3) := by decide +kernel
theorem dX8_next_143 : decode cX8_next 143 = .ok (.return_, 1) := by decide +kernel
theorem dX8_isWord_0 : decode cX8_isWord 0 = .ok (.aload_n 0, 1) := by decide +kernel
theorem dX8_isWord_1 : decode cX8_isWord 1 = .ok (.getfield 17, 3) := by decide +kernel
theorem dX8_isWord_4 : decode cX8_isWord 4 = .ok (.iconst 1, 1) := by decide +kernel
theorem dX8_isWord_5 : decode cX8_isWord 5 = .ok (.if_icmp .ne 19, 3) := by decide +kernel
theorem dX8_isWord_8 : decode cX8_isWord 8 = .ok (.aload_n 0, 1) := by decide +kernel
theorem dX8_isWord_9 : decode cX8_isWord 9 = .ok (.getfield 26, 3) := by decide +kernel
theorem dX8_isWord_12 : decode cX8_isWord 12 = .ok (.aload_n 0, 1) := by decide +kernel
theorem dX8_isWord_13 : decode cX8_isWord 13 = .ok (.getfield 20, 3) := by decide +kernel
theorem dX8_isWord_16 : decode cX8_isWord 16 = .ok (.isub, 1) := by decide +kernel
theorem dX8_isWord_17 : decode cX8_isWord 17 = .ok (.aload_n 1, 1) := by decide +kernel
theorem dX8_isWord_18 : decode cX8_isWord 18 = .ok (.invokevirtual 48, 3) := by decide +kernel
theorem dX8_isWord_21 : decode cX8_isWord 21 = .ok (.if_icmp .eq 5, 3) := by decide +kernel
theorem dX8_isWord_24 : decode cX8_isWord 24 = .ok (.iconst 0, 1) := by decide +kernel
theorem dX8_isWord_25 : decode cX8_isWord 25 = .ok (.ireturn, 1) := by decide +kernel
theorem dX8_isWord_26 : decode cX8_isWord 26 = .ok (.iconst 0, 1) := by decide +kernel
theorem dX8_isWord_27 : decode cX8_isWord 27 = .ok (.istore_n 2, 1) := by decide +kernel
theorem dX8_isWord_28 : decode cX8_isWord 28 = .ok (.iload_n 2, 1) := by decide +kernel
theorem dX8_isWord_29 : decode cX8_isWord 29 = .ok (.aload_n 1, 1) := by decide +kernel
theorem dX8_isWord_30 : decode cX8_isWord 30 = .ok (.invokevirtual 48, 3) := by decide +kernel
theorem dX8_isWord_33 : decode cX8_isWord 33 = .ok (.if_icmp .ge 30, 3) := by decide +kernel
theorem dX8_isWord_36 : decode cX8_isWord 36 = .ok (.aload_n 0, 1) := by decide +kernel
theorem dX8_isWord_37 : decode cX8_isWord 37 = .ok (.getfield 9, 3) := by decide +kernel
theorem dX8_isWord_40 : decode cX8_isWord 40 = .ok (.aload_n 0, 1) := by decide +kernel
theorem dX8_isWord_41 : decode cX8_isWord 41 = .ok (.getfield 20, 3) := by decide +kernel
theorem dX8_isWord_44 : decode cX8_isWord 44 = .ok (.iload_n 2, 1) := by decide +kernel
theorem dX8_isWord_45 : decode cX8_isWord 45 = .ok (.iadd, 1) := by decide +kernel
theorem dX8_isWord_46 : decode cX8_isWord 46 = .ok (.baload, 1) := by decide +kernel
theorem dX8_isWord_47 : decode cX8_isWord 47 = .ok (.aload_n 1, 1) := by decide +kernel
theorem dX8_isWord_48 : decode cX8_isWord 48 = .ok (.iload_n 2, 1) := by decide +kernel
theorem dX8_isWord_49 : decode cX8_isWord 49 = .ok (.invokevirtual 53, 3) := by decide +kernel
theorem dX8_isWord_52 : decode cX8_isWord 52 = .ok (.if_icmp .eq 5, 3) := by decide +kernel
theorem dX8_isWord_55 : decode cX8_isWord 55 = .ok (.iconst 0, 1) := by decide +kernel
theorem dX8_isWord_56 : decode cX8_isWord 56 = .ok (.ireturn, 1) := by decide +kernel
theorem dX8_isWord_57 : decode cX8_isWord 57 = .ok (.iinc 2 1, 3) := by decide +kernel
theorem dX8_isWord_60 : decode cX8_isWord 60 = .ok (.goto (-32), 3) := by decide +kernel
theorem dX8_isWord_63 : decode cX8_isWord 63 = .ok (.iconst 1, 1) := by decide +kernel
theorem dX8_isWord_64 : decode cX8_isWord 64 = .ok (.ireturn, 1) := by decide +kernel
theorem dX8_takeName_0 : decode cX8_takeName 0 = .ok (.aload_n 0, 1) := by decide +kernel
theorem dX8_takeName_1 : decode cX8_takeName 1 = .ok (.iconst 1, 1) := by decide +kernel
theorem dX8_takeName_2 : decode cX8_takeName 2 = .ok (.putfield 17, 3) := by decide +kernel
theorem dX8_takeName_5 : decode cX8_takeName 5 = .ok (.aload_n 0, 1) := by decide +kernel
theorem dX8_takeName_6 : decode cX8_takeName 6 = .ok (.getfield 26, 3) := by decide +kernel
theorem dX8_takeName_9 : decode cX8_takeName 9 = .ok (.aload_n 0, 1) := by decide +kernel
theorem dX8_takeName_10 : decode cX8_takeName 10 = .ok (.getfield 13, 3) := by decide +kernel
theorem dX8_takeName_13 : decode cX8_takeName 13 = .ok (.if_icmp .ge 31, 3) := by decide +kernel
theorem dX8_takeName_16 : decode cX8_takeName 16 = .ok (.aload_n 0, 1) := by decide +kernel
theorem dX8_takeName_17 : decode cX8_takeName 17 = .ok (.getfield 9, 3) := by decide +kernel
theorem dX8_takeName_20 : decode cX8_takeName 20 = .ok (.aload_n 0, 1) := by decide +kernel
theorem dX8_takeName_21 : decode cX8_takeName 21 = .ok (.getfield 26, 3) := by decide +kernel
theorem dX8_takeName_24 : decode cX8_takeName 24 = .ok (.baload, 1) := by decide +kernel
theorem dX8_takeName_25 : decode cX8_takeName 25 = .ok (.invokestatic 36, 3) := by decide +kernel
theorem dX8_takeName_28 : decode cX8_takeName 28 = .ok (.ifCond .eq 16, 3) := by decide +kernel
theorem dX8_takeName_31 : decode cX8_takeName 31 = .ok (.aload_n 0, 1) := by decide +kernel
theorem dX8_takeName_32 : decode cX8_takeName 32 = .ok (.dup, 1) := by decide +kernel
theorem dX8_takeName_33 : decode cX8_takeName 33 = .ok (.getfield 26, 3) := by decide +kernel
theorem dX8_takeName_36 : decode cX8_takeName 36 = .ok (.iconst 1, 1) := by decide +kernel
theorem dX8_takeName_37 : decode cX8_takeName 37 = .ok (.iadd, 1) := by decide +kernel
theorem dX8_takeName_38 : decode cX8_takeName 38 = .ok (.putfield 26, 3) := by decide +kernel
theorem dX8_takeName_41 : decode cX8_takeName 41 = .ok (.goto (-36), 3) := by decide +kernel
theorem dX8_takeName_44 : decode cX8_takeName 44 = .ok (.return_, 1) := by decide +kernel
theorem dX8_takeNumber_0 : decode cX8_takeNumber 0 = .ok (.aload_n 0, 1) := by decide +kernel
theorem dX8_takeNumber_1 : decode cX8_takeNumber 1 = .ok (.iconst 0, 1) := by decide +kernel
theorem dX8_takeNumber_2 : decode cX8_takeNumber 2 = .ok (.putfield 23, 3) := by decide +kernel
theorem dX8_takeNumber_5 : decode cX8_takeNumber 5 = .ok (.aload_n 0, 1) := by decide +kernel
theorem dX8_takeNumber_6 : decode cX8_takeNumber 6 = .ok (.getfield 26, 3) := by decide +kernel
theorem dX8_takeNumber_9 : decode cX8_takeNumber 9 = .ok (.aload_n 0, 1) := by decide +kernel
theorem dX8_takeNumber_10 : decode cX8_takeNumber 10 = .ok (.getfield 13, 3) := by decide +kernel
theorem dX8_takeNumber_13 : decode cX8_takeNumber 13 = .ok (.if_icmp .ge 55, 3) := by decide +kernel
theorem dX8_takeNumber_16 : decode cX8_takeNumber 16 = .ok (.aload_n 0, 1) := by decide +kernel
theorem dX8_takeNumber_17 : decode cX8_takeNumber 17 = .ok (.getfield 9, 3) := by decide +kernel
theorem dX8_takeNumber_20 : decode cX8_takeNumber 20 = .ok (.aload_n 0, 1) := by decide +kernel
theorem dX8_takeNumber_21 : decode cX8_takeNumber 21 = .ok (.getfield 26, 3) := by decide +kernel
theorem dX8_takeNumber_24 : decode cX8_takeNumber 24 = .ok (.baload, 1) := by decide +kernel
theorem dX8_takeNumber_25 : decode cX8_takeNumber 25 = .ok (.invokestatic 42, 3) := by decide +kernel
theorem dX8_takeNumber_28 : decode cX8_takeNumber 28 = .ok (.ifCond .eq 40, 3) := by decide +kernel
theorem dX8_takeNumber_31 : decode cX8_takeNumber 31 = .ok (.aload_n 0, 1) := by decide +kernel
theorem dX8_takeNumber_32 : decode cX8_takeNumber 32 = .ok (.aload_n 0, 1) := by decide +kernel
theorem dX8_takeNumber_33 : decode cX8_takeNumber 33 = .ok (.getfield 23, 3) := by decide +kernel
theorem dX8_takeNumber_36 : decode cX8_takeNumber 36 = .ok (.bipush 10, 2) := by decide +kernel
theorem dX8_takeNumber_38 : decode cX8_takeNumber 38 = .ok (.imul, 1) := by decide +kernel
theorem dX8_takeNumber_39 : decode cX8_takeNumber 39 = .ok (.aload_n 0, 1) := by decide +kernel
theorem dX8_takeNumber_40 : decode cX8_takeNumber 40 = .ok (.getfield 9, 3) := by decide +kernel
theorem dX8_takeNumber_43 : decode cX8_takeNumber 43 = .ok (.aload_n 0, 1) := by decide +kernel
theorem dX8_takeNumber_44 : decode cX8_takeNumber 44 = .ok (.getfield 26, 3) := by decide +kernel
theorem dX8_takeNumber_47 : decode cX8_takeNumber 47 = .ok (.baload, 1) := by decide +kernel
theorem dX8_takeNumber_48 : decode cX8_takeNumber 48 = .ok (.iadd, 1) := by decide +kernel
theorem dX8_takeNumber_49 : decode cX8_takeNumber 49 = .ok (.bipush 48, 2) := by decide +kernel
theorem dX8_takeNumber_51 : decode cX8_takeNumber 51 = .ok (.isub, 1) := by decide +kernel
theorem dX8_takeNumber_52 : decode cX8_takeNumber 52 = .ok (.putfield 23, 3) := by decide +kernel
theorem dX8_takeNumber_55 : decode cX8_takeNumber 55 = .ok (.aload_n 0, 1) := by decide +kernel
theorem dX8_takeNumber_56 : decode cX8_takeNumber 56 = .ok (.dup, 1) := by decide +kernel
theorem dX8_takeNumber_57 : decode cX8_takeNumber 57 = .ok (.getfield 26, 3) := by decide +kernel
theorem dX8_takeNumber_60 : decode cX8_takeNumber 60 = .ok (.iconst 1, 1) := by decide +kernel
theorem dX8_takeNumber_61 : decode cX8_takeNumber 61 = .ok (.iadd, 1) := by decide +kernel
theorem dX8_takeNumber_62 : decode cX8_takeNumber 62 = .ok (.putfield 26, 3) := by decide +kernel
theorem dX8_takeNumber_65 : decode cX8_takeNumber 65 = .ok (.goto (-60), 3) := by decide +kernel
theorem dX8_takeNumber_68 : decode cX8_takeNumber 68 = .ok (.aload_n 0, 1) := by decide +kernel
theorem dX8_takeNumber_69 : decode cX8_takeNumber 69 = .ok (.aload_n 0, 1) := by decide +kernel
theorem dX8_takeNumber_70 : decode cX8_takeNumber 70 = .ok (.getfield 26, 3) := by decide +kernel
theorem dX8_takeNumber_73 : decode cX8_takeNumber 73 = .ok (.aload_n 0, 1) := by decide +kernel
theorem dX8_takeNumber_74 : decode cX8_takeNumber 74 = .ok (.getfield 20, 3) := by decide +kernel
theorem dX8_takeNumber_77 : decode cX8_takeNumber 77 = .ok (.isub, 1) := by decide +kernel
theorem dX8_takeNumber_78 : decode cX8_takeNumber 78 = .ok (.iconst 3, 1) := by decide +kernel
theorem dX8_takeNumber_79 : decode cX8_takeNumber 79 = .ok (.if_icmp .gt 7, 3) := by decide +kernel
theorem dX8_takeNumber_82 : decode cX8_takeNumber 82 = .ok (.iconst 2, 1) := by decide +kernel
theorem dX8_takeNumber_83 : decode cX8_takeNumber 83 = .ok (.goto 4, 3) := by decide +kernel
theorem dX8_takeNumber_86 : decode cX8_takeNumber 86 = .ok (.iconst 4, 1) := by decide +kernel
theorem dX8_takeNumber_87 : decode cX8_takeNumber 87 = .ok (.putfield 17, 3) := by decide +kernel
theorem dX8_takeNumber_90 : decode cX8_takeNumber 90 = .ok (.return_, 1) := by decide +kernel
theorem dX8_isBlank_0 : decode cX8_isBlank 0 = .ok (.iload_n 0, 1) := by decide +kernel
theorem dX8_isBlank_1 : decode cX8_isBlank 1 = .ok (.bipush 32, 2) := by decide +kernel
theorem dX8_isBlank_3 : decode cX8_isBlank 3 = .ok (.if_icmp .eq 9, 3) := by decide +kernel
theorem dX8_isBlank_6 : decode cX8_isBlank 6 = .ok (.iload_n 0, 1) := by decide +kernel
theorem dX8_isBlank_7 : decode cX8_isBlank 7 = .ok (.bipush 10, 2) := by decide +kernel
theorem dX8_isBlank_9 : decode cX8_isBlank 9 = .ok (.if_icmp .ne 7, 3) := by decide +kernel
theorem dX8_isBlank_12 : decode cX8_isBlank 12 = .ok (.iconst 1, 1) := by decide +kernel
theorem dX8_isBlank_13 : decode cX8_isBlank 13 = .ok (.goto 4, 3) := by decide +kernel
theorem dX8_isBlank_16 : decode cX8_isBlank 16 = .ok (.iconst 0, 1) := by decide +kernel
theorem dX8_isBlank_17 : decode cX8_isBlank 17 = .ok (.ireturn, 1) := by decide +kernel
theorem dX8_isLetter_0 : decode cX8_isLetter 0 = .ok (.iload_n 0, 1) := by decide +kernel
theorem dX8_isLetter_1 : decode cX8_isLetter 1 = .ok (.bipush 97, 2) := by decide +kernel
theorem dX8_isLetter_3 : decode cX8_isLetter 3 = .ok (.if_icmp .lt 13, 3) := by decide +kernel
theorem dX8_isLetter_6 : decode cX8_isLetter 6 = .ok (.iload_n 0, 1) := by decide +kernel
theorem dX8_isLetter_7 : decode cX8_isLetter 7 = .ok (.bipush 122, 2) := by decide +kernel
theorem dX8_isLetter_9 : decode cX8_isLetter 9 = .ok (.if_icmp .gt 7, 3) := by decide +kernel
theorem dX8_isLetter_12 : decode cX8_isLetter 12 = .ok (.iconst 1, 1) := by decide +kernel
theorem dX8_isLetter_13 : decode cX8_isLetter 13 = .ok (.goto 4, 3) := by decide +kernel
theorem dX8_isLetter_16 : decode cX8_isLetter 16 = .ok (.iconst 0, 1) := by decide +kernel
theorem dX8_isLetter_17 : decode cX8_isLetter 17 = .ok (.ireturn, 1) := by decide +kernel
theorem dX8_isFigure_0 : decode cX8_isFigure 0 = .ok (.iload_n 0, 1) := by decide +kernel
theorem dX8_isFigure_1 : decode cX8_isFigure 1 = .ok (.bipush 48, 2) := by decide +kernel
theorem dX8_isFigure_3 : decode cX8_isFigure 3 = .ok (.if_icmp .lt 13, 3) := by decide +kernel
theorem dX8_isFigure_6 : decode cX8_isFigure 6 = .ok (.iload_n 0, 1) := by decide +kernel
theorem dX8_isFigure_7 : decode cX8_isFigure 7 = .ok (.bipush 57, 2) := by decide +kernel
theorem dX8_isFigure_9 : decode cX8_isFigure 9 = .ok (.if_icmp .gt 7, 3) := by decide +kernel
theorem dX8_isFigure_12 : decode cX8_isFigure 12 = .ok (.iconst 1, 1) := by decide +kernel
theorem dX8_isFigure_13 : decode cX8_isFigure 13 = .ok (.goto 4, 3) := by decide +kernel
theorem dX8_isFigure_16 : decode cX8_isFigure 16 = .ok (.iconst 0, 1) := by decide +kernel
theorem dX8_isFigure_17 : decode cX8_isFigure 17 = .ok (.ireturn, 1) := by decide +kernel
theorem dX9_init_0 : decode cX9_init 0 = .ok (.aload_n 0, 1) := by decide +kernel
theorem dX9_init_1 : decode cX9_init 1 = .ok (.invokespecial 3, 3) := by decide +kernel
theorem dX9_init_4 : decode cX9_init 4 = .ok (.aload_n 0, 1) := by decide +kernel
theorem dX9_init_5 : decode cX9_init 5 = .ok (.iconst 0, 1) := by decide +kernel
theorem dX9_init_6 : decode cX9_init 6 = .ok (.putfield 9, 3) := by decide +kernel
theorem dX9_init_9 : decode cX9_init 9 = .ok (.aload_n 0, 1) := by decide +kernel
theorem dX9_init_10 : decode cX9_init 10 = .ok (.iconst 0, 1) := by decide +kernel
theorem dX9_init_11 : decode cX9_init 11 = .ok (.putfield 15, 3) := by decide +kernel
theorem dX9_init_14 : decode cX9_init 14 = .ok (.aload_n 0, 1) := by decide +kernel
theorem dX9_init_15 : decode cX9_init 15 = .ok (.iconst 0, 1) := by decide +kernel
theorem dX9_init_16 : decode cX9_init 16 = .ok (.putfield 19, 3) := by decide +kernel
theorem dX9_init_19 : decode cX9_init 19 = .ok (.aload_n 0, 1) := by decide +kernel
theorem dX9_init_20 : decode cX9_init 20 = .ok (.iconst 0, 1) := by decide +kernel
theorem dX9_init_21 : decode cX9_init 21 = .ok (.putfield 22, 3) := by decide +kernel
theorem dX9_init_24 : decode cX9_init 24 = .ok (.aload_n 0, 1) := by decide +kernel
theorem dX9_init_25 : decode cX9_init 25 = .ok (.iconst 0, 1) := by decide +kernel
theorem dX9_init_26 : decode cX9_init 26 = .ok (.putfield 25, 3) := by decide +kernel
theorem dX9_init_29 : decode cX9_init 29 = .ok (.aload_n 0, 1) := by decide +kernel
theorem dX9_init_30 : decode cX9_init 30 = .ok (.iconst 5, 1) := by decide +kernel
theorem dX9_init_31 : decode cX9_init 31 = .ok (.newarray .int, 2) := by decide +kernel
theorem dX9_init_33 : decode cX9_init 33 = .ok (.putfield 28, 3) := by decide +kernel
theorem dX9_init_36 : decode cX9_init 36 = .ok (.aload_n 0, 1) := by decide +kernel
theorem dX9_init_37 : decode cX9_init 37 = .ok (.iconst 5, 1) := by decide +kernel
theorem dX9_init_38 : decode cX9_init 38 = .ok (.newarray .int, 2) := by decide +kernel
theorem dX9_init_40 : decode cX9_init 40 = .ok (.putfield 32, 3) := by decide +kernel
theorem dX9_init_43 : decode cX9_init 43 = .ok (.aload_n 0, 1) := by decide +kernel
theorem dX9_init_44 : decode cX9_init 44 = .ok (.bipush 9, 2) := by decide +kernel
theorem dX9_init_46 : decode cX9_init 46 = .ok (.newarray .int, 2) := by decide +kernel
theorem dX9_init_48 : decode cX9_init 48 = .ok (.putfield 35, 3) := by decide +kernel
theorem dX9_init_51 : decode cX9_init 51 = .ok (.aload_n 0, 1) := by decide +kernel
theorem dX9_init_52 : decode cX9_init 52 = .ok (.bipush 9, 2) := by decide +kernel
theorem dX9_init_54 : decode cX9_init 54 = .ok (.newarray .int, 2) := by decide +kernel
theorem dX9_init_56 : decode cX9_init 56 = .ok (.putfield 38, 3) := by decide +kernel
theorem dX9_init_59 : decode cX9_init 59 = .ok (.aload_n 0, 1) := by decide +kernel
theorem dX9_init_60 : decode cX9_init 60 = .ok (.bipush 9, 2) := by decide +kernel
theorem dX9_init_62 : decode cX9_init 62 = .ok (.newarray .int, 2) := by decide +kernel
theorem dX9_init_64 : decode cX9_init 64 = .ok (.putfield 41, 3) := by decide +kernel
theorem dX9_init_67 : decode cX9_init 67 = .ok (.aload_n 0, 1) := by decide +kernel
theorem dX9_init_68 : decode cX9_init 68 = .ok (.bipush 36, 2) := by decide +kernel
theorem dX9_init_70 : decode cX9_init 70 = .ok (.newarray .int, 2) := by decide +kernel
theorem dX9_init_72 : decode cX9_init 72 = .ok (.putfield 44, 3) := by decide +kernel
theorem dX9_init_75 : decode cX9_init 75 = .ok (.return_, 1) := by decide +kernel
theorem dX9_begin_0 : decode cX9_begin 0 = .ok (.aload_n 0, 1) := by decide +kernel
theorem dX9_begin_1 : decode cX9_begin 1 = .ok (.iconst 1, 1) := by decide +kernel
theorem dX9_begin_2 : decode cX9_begin 2 = .ok (.putfield 9, 3) := by decide +kernel
theorem dX9_begin_5 : decode cX9_begin 5 = .ok (.aload_n 0, 1) := by decide +kernel
theorem dX9_begin_6 : decode cX9_begin 6 = .ok (.iconst 0, 1) := by decide +kernel
theorem dX9_begin_7 : decode cX9_begin 7 = .ok (.putfield 22, 3) := by decide +kernel
theorem dX9_begin_10 : decode cX9_begin 10 = .ok (.aload_n 0, 1) := by decide +kernel
theorem dX9_begin_11 : decode cX9_begin 11 = .ok (.iconst 0, 1) := by decide +kernel
theorem dX9_begin_12 : decode cX9_begin 12 = .ok (.putfield 25, 3) := by decide +kernel
theorem dX9_begin_15 : decode cX9_begin 15 = .ok (.iconst 0, 1) := by decide +kernel
theorem dX9_begin_16 : decode cX9_begin 16 = .ok (.istore_n 1, 1) := by decide +kernel
theorem dX9_begin_17 : decode cX9_begin 17 = .ok (.iload_n 1, 1) := by decide +kernel
theorem dX9_begin_18 : decode cX9_begin 18 = .ok (.bipush 9, 2) := by decide +kernel
theorem dX9_begin_20 : decode cX9_begin 20 = .ok (.if_icmp .ge 48, 3) := by decide +kernel
theorem dX9_begin_23 : decode cX9_begin 23 = .ok (.aload_n 0, 1) := by decide +kernel
theorem dX9_begin_24 : decode cX9_begin 24 = .ok (.getfield 44, 3) := by decide +kernel
theorem dX9_begin_27 : decode cX9_begin 27 = .ok (.iconst 0, 1) := by decide +kernel
theorem dX9_begin_28 : decode cX9_begin 28 = .ok (.iload_n 1, 1) := by decide +kernel
theorem dX9_begin_29 : decode cX9_begin 29 = .ok (.iadd, 1) := by decide +kernel
theorem dX9_begin_30 : decode cX9_begin 30 = .ok (.iconst (-1), 1) := by decide +kernel
theorem dX9_begin_31 : decode cX9_begin 31 = .ok (.iastore, 1) := by decide +kernel
theorem dX9_begin_32 : decode cX9_begin 32 = .ok (.aload_n 0, 1) := by decide +kernel
theorem dX9_begin_33 : decode cX9_begin 33 = .ok (.getfield 44, 3) := by decide +kernel
theorem dX9_begin_36 : decode cX9_begin 36 = .ok (.bipush 9, 2) := by decide +kernel
theorem dX9_begin_38 : decode cX9_begin 38 = .ok (.iload_n 1, 1) := by decide +kernel
theorem dX9_begin_39 : decode cX9_begin 39 = .ok (.iadd, 1) := by decide +kernel
theorem dX9_begin_40 : decode cX9_begin 40 = .ok (.iconst 0, 1) := by decide +kernel
theorem dX9_begin_41 : decode cX9_begin 41 = .ok (.iastore, 1) := by decide +kernel
theorem dX9_begin_42 : decode cX9_begin 42 = .ok (.aload_n 0, 1) := by decide +kernel
theorem dX9_begin_43 : decode cX9_begin 43 = .ok (.getfield 44, 3) := by decide +kernel
theorem dX9_begin_46 : decode cX9_begin 46 = .ok (.bipush 18, 2) := by decide +kernel
theorem dX9_begin_48 : decode cX9_begin 48 = .ok (.iload_n 1, 1) := by decide +kernel
theorem dX9_begin_49 : decode cX9_begin 49 = .ok (.iadd, 1) := by decide +kernel
theorem dX9_begin_50 : decode cX9_begin 50 = .ok (.iconst 0, 1) := by decide +kernel
theorem dX9_begin_51 : decode cX9_begin 51 = .ok (.iastore, 1) := by decide +kernel
theorem dX9_begin_52 : decode cX9_begin 52 = .ok (.aload_n 0, 1) := by decide +kernel
theorem dX9_begin_53 : decode cX9_begin 53 = .ok (.getfield 44, 3) := by decide +kernel
theorem dX9_begin_56 : decode cX9_begin 56 = .ok (.bipush 27, 2) := by decide +kernel
theorem dX9_begin_58 : decode cX9_begin 58 = .ok (.iload_n 1, 1) := by decide +kernel
theorem dX9_begin_59 : decode cX9_begin 59 = .ok (.iadd, 1) := by decide +kernel
theorem dX9_begin_60 : decode cX9_begin 60 = .ok (.iconst 0, 1) := by decide +kernel
theorem dX9_begin_61 : decode cX9_begin 61 = .ok (.iastore, 1) := by decide +kernel
theorem dX9_begin_62 : decode cX9_begin 62 = .ok (.iinc 1 1, 3) := by decide +kernel
theorem dX9_begin_65 : decode cX9_begin 65 = .ok (.goto (-48), 3) := by decide +kernel
theorem dX9_begin_68 : decode cX9_begin 68 = .ok (.return_, 1) := by decide +kernel
theorem dX9_becomeAs_0 : decode cX9_becomeAs 0 = .ok (.aload_n 0, 1) := by decide +kernel
theorem dX9_becomeAs_1 : decode cX9_becomeAs 1 = .ok (.aload_n 1, 1) := by decide +kernel
theorem dX9_becomeAs_2 : decode cX9_becomeAs 2 = .ok (.getfield 9, 3) := by decide +kernel
theorem dX9_becomeAs_5 : decode cX9_becomeAs 5 = .ok (.putfield 9, 3) := by decide +kernel
theorem dX9_becomeAs_8 : decode cX9_becomeAs 8 = .ok (.aload_n 0, 1) := by decide +kernel
theorem dX9_becomeAs_9 : decode cX9_becomeAs 9 = .ok (.aload_n 1, 1) := by decide +kernel
theorem dX9_becomeAs_10 : decode cX9_becomeAs 10 = .ok (.getfield 15, 3) := by decide +kernel
theorem dX9_becomeAs_13 : decode cX9_becomeAs 13 = .ok (.putfield 15, 3) := by decide +kernel
theorem dX9_becomeAs_16 : decode cX9_becomeAs 16 = .ok (.aload_n 0, 1) := by decide +kernel
theorem dX9_becomeAs_17 : decode cX9_becomeAs 17 = .ok (.aload_n 1, 1) := by decide +kernel
theorem dX9_becomeAs_18 : decode cX9_becomeAs 18 = .ok (.getfield 19, 3) := by decide +kernel
theorem dX9_becomeAs_21 : decode cX9_becomeAs 21 = .ok (.putfield 19, 3) := by decide +kernel
theorem dX9_becomeAs_24 : decode cX9_becomeAs 24 = .ok (.aload_n 0, 1) := by decide +kernel
theorem dX9_becomeAs_25 : decode cX9_becomeAs 25 = .ok (.aload_n 1, 1) := by decide +kernel
theorem dX9_becomeAs_26 : decode cX9_becomeAs 26 = .ok (.getfield 22, 3) := by decide +kernel
theorem dX9_becomeAs_29 : decode cX9_becomeAs 29 = .ok (.putfield 22, 3) := by decide +kernel
theorem dX9_becomeAs_32 : decode cX9_becomeAs 32 = .ok (.aload_n 0, 1) := by decide +kernel
theorem dX9_becomeAs_33 : decode cX9_becomeAs 33 = .ok (.aload_n 1, 1) := by decide +kernel
theorem dX9_becomeAs_34 : decode cX9_becomeAs 34 = .ok (.getfield 25, 3) := by decide +kernel
theorem dX9_becomeAs_37 : decode cX9_becomeAs 37 = .ok (.putfield 25, 3) := by decide +kernel
theorem dX9_becomeAs_40 : decode cX9_becomeAs 40 = .ok (.aload_n 1, 1) := by decide +kernel
theorem dX9_becomeAs_41 : decode cX9_becomeAs 41 = .ok (.getfield 28, 3) := by decide +kernel
theorem dX9_becomeAs_44 : decode cX9_becomeAs 44 = .ok (.iconst 0, 1) := by decide +kernel
theorem dX9_becomeAs_45 : decode cX9_becomeAs 45 = .ok (.aload_n 0, 1) := by decide +kernel
theorem dX9_becomeAs_46 : decode cX9_becomeAs 46 = .ok (.getfield 28, 3) := by decide +kernel
theorem dX9_becomeAs_49 : decode cX9_becomeAs 49 = .ok (.iconst 0, 1) := by decide +kernel
theorem dX9_becomeAs_50 : decode cX9_becomeAs 50 = .ok (.iconst 5, 1) := by decide +kernel
theorem dX9_becomeAs_51 : decode cX9_becomeAs 51 = .ok (.invokestatic 47, 3) := by decide +kernel
theorem dX9_becomeAs_54 : decode cX9_becomeAs 54 = .ok (.aload_n 1, 1) := by decide +kernel
theorem dX9_becomeAs_55 : decode cX9_becomeAs 55 = .ok (.getfield 32, 3) := by decide +kernel
theorem dX9_becomeAs_58 : decode cX9_becomeAs 58 = .ok (.iconst 0, 1) := by decide +kernel
theorem dX9_becomeAs_59 : decode cX9_becomeAs 59 = .ok (.aload_n 0, 1) := by decide +kernel
theorem dX9_becomeAs_60 : decode cX9_becomeAs 60 = .ok (.getfield 32, 3) := by decide +kernel
theorem dX9_becomeAs_63 : decode cX9_becomeAs 63 = .ok (.iconst 0, 1) := by decide +kernel
theorem dX9_becomeAs_64 : decode cX9_becomeAs 64 = .ok (.iconst 5, 1) := by decide +kernel
theorem dX9_becomeAs_65 : decode cX9_becomeAs 65 = .ok (.invokestatic 47, 3) := by decide +kernel
theorem dX9_becomeAs_68 : decode cX9_becomeAs 68 = .ok (.aload_n 1, 1) := by decide +kernel
theorem dX9_becomeAs_69 : decode cX9_becomeAs 69 = .ok (.getfield 35, 3) := by decide +kernel
theorem dX9_becomeAs_72 : decode cX9_becomeAs 72 = .ok (.iconst 0, 1) := by decide +kernel
theorem dX9_becomeAs_73 : decode cX9_becomeAs 73 = .ok (.aload_n 0, 1) := by decide +kernel
theorem dX9_becomeAs_74 : decode cX9_becomeAs 74 = .ok (.getfield 35, 3) := by decide +kernel
theorem dX9_becomeAs_77 : decode cX9_becomeAs 77 = .ok (.iconst 0, 1) := by decide +kernel
theorem dX9_becomeAs_78 : decode cX9_becomeAs 78 = .ok (.bipush 9, 2) := by decide +kernel
theorem dX9_becomeAs_80 : decode cX9_becomeAs 80 = .ok (.invokestatic 47, 3) := by decide +kernel
theorem dX9_becomeAs_83 : decode cX9_becomeAs 83 = .ok (.aload_n 1, 1) := by decide +kernel
theorem dX9_becomeAs_84 : decode cX9_becomeAs 84 = .ok (.getfield 38, 3) := by decide +kernel
theorem dX9_becomeAs_87 : decode cX9_becomeAs 87 = .ok (.iconst 0, 1) := by decide +kernel
theorem dX9_becomeAs_88 : decode cX9_becomeAs 88 = .ok (.aload_n 0, 1) := by decide +kernel
theorem dX9_becomeAs_89 : decode cX9_becomeAs 89 = .ok (.getfield 38, 3) := by decide +kernel
theorem dX9_becomeAs_92 : decode cX9_becomeAs 92 = .ok (.iconst 0, 1) := by decide +kernel
theorem dX9_becomeAs_93 : decode cX9_becomeAs 93 = .ok (.bipush 9, 2) := by decide +kernel
theorem dX9_becomeAs_95 : decode cX9_becomeAs 95 = .ok (.invokestatic 47, 3) := by decide +kernel
theorem dX9_becomeAs_98 : decode cX9_becomeAs 98 = .ok (.aload_n 1, 1) := by decide +kernel
theorem dX9_becomeAs_99 : decode cX9_becomeAs 99 = .ok (.getfield 41, 3) := by decide +kernel
theorem dX9_becomeAs_102 : decode cX9_becomeAs 102 = .ok (.iconst 0, 1) := by decide +kernel
theorem dX9_becomeAs_103 : decode cX9_becomeAs 103 = .ok (.aload_n 0, 1) := by decide +kernel
theorem dX9_becomeAs_104 : decode cX9_becomeAs 104 = .ok (.getfield 41, 3) := by decide +kernel
theorem dX9_becomeAs_107 : decode cX9_becomeAs 107 = .ok (.iconst 0, 1) := by decide +kernel
theorem dX9_becomeAs_108 : decode cX9_becomeAs 108 = .ok (.bipush 9, 2) := by decide +kernel
theorem dX9_becomeAs_110 : decode cX9_becomeAs 110 = .ok (.invokestatic 47, 3) := by decide +kernel
theorem dX9_becomeAs_113 : decode cX9_becomeAs 113 = .ok (.aload_n 1, 1) := by decide +kernel
theorem dX9_becomeAs_114 : decode cX9_becomeAs 114 = .ok (.getfield 44, 3) := by decide +kernel
theorem dX9_becomeAs_117 : decode cX9_becomeAs 117 = .ok (.iconst 0, 1) := by decide +kernel
theorem dX9_becomeAs_118 : decode cX9_becomeAs 118 = .ok (.aload_n 0, 1) := by decide +kernel
theorem dX9_becomeAs_119 : decode cX9_becomeAs 119 = .ok (.getfield 44, 3) := by decide +kernel
theorem dX9_becomeAs_122 : decode cX9_becomeAs 122 = .ok (.iconst 0, 1) := by decide +kernel
theorem dX9_becomeAs_123 : decode cX9_becomeAs 123 = .ok (.bipush 36, 2) := by decide +kernel
theorem dX9_becomeAs_125 : decode cX9_becomeAs 125 = .ok (.invokestatic 47, 3) := by decide +kernel
theorem dX9_becomeAs_128 : decode cX9_becomeAs 128 = .ok (.return_, 1) := by decide +kernel
theorem dX9_hasYarn_0 : decode cX9_hasYarn 0 = .ok (.iload_n 1, 1) := by decide +kernel
theorem dX9_hasYarn_1 : decode cX9_hasYarn 1 = .ok (.ifCond .lt 15, 3) := by decide +kernel
theorem dX9_hasYarn_4 : decode cX9_hasYarn 4 = .ok (.iload_n 1, 1) := by decide +kernel
theorem dX9_hasYarn_5 : decode cX9_hasYarn 5 = .ok (.aload_n 0, 1) := by decide +kernel
theorem dX9_hasYarn_6 : decode cX9_hasYarn 6 = .ok (.getfield 25, 3) := by decide +kernel
theorem dX9_hasYarn_9 : decode cX9_hasYarn 9 = .ok (.if_icmp .ge 7, 3) := by decide +kernel
theorem dX9_hasYarn_12 : decode cX9_hasYarn 12 = .ok (.iconst 1, 1) := by decide +kernel
theorem dX9_hasYarn_13 : decode cX9_hasYarn 13 = .ok (.goto 4, 3) := by decide +kernel
theorem dX9_hasYarn_16 : decode cX9_hasYarn 16 = .ok (.iconst 0, 1) := by decide +kernel
theorem dX9_hasYarn_17 : decode cX9_hasYarn 17 = .ok (.ireturn, 1) := by decide +kernel
theorem dX9_isLaid_0 : decode cX9_isLaid 0 = .ok (.aload_n 0, 1) := by decide +kernel
theorem dX9_isLaid_1 : decode cX9_isLaid 1 = .ok (.getfield 44, 3) := by decide +kernel
theorem dX9_isLaid_4 : decode cX9_isLaid 4 = .ok (.iconst 0, 1) := by decide +kernel
theorem dX9_isLaid_5 : decode cX9_isLaid 5 = .ok (.iload_n 1, 1) := by decide +kernel
theorem dX9_isLaid_6 : decode cX9_isLaid 6 = .ok (.iadd, 1) := by decide +kernel
theorem dX9_isLaid_7 : decode cX9_isLaid 7 = .ok (.iaload, 1) := by decide +kernel
theorem dX9_isLaid_8 : decode cX9_isLaid 8 = .ok (.iconst (-1), 1) := by decide +kernel
theorem dX9_isLaid_9 : decode cX9_isLaid 9 = .ok (.if_icmp .eq 7, 3) := by decide +kernel
theorem dX9_isLaid_12 : decode cX9_isLaid 12 = .ok (.iconst 1, 1) := by decide +kernel
theorem dX9_isLaid_13 : decode cX9_isLaid 13 = .ok (.goto 4, 3) := by decide +kernel
theorem dX9_isLaid_16 : decode cX9_isLaid 16 = .ok (.iconst 0, 1) := by decide +kernel
theorem dX9_isLaid_17 : decode cX9_isLaid 17 = .ok (.ireturn, 1) := by decide +kernel
theorem dX9_strength_0 : decode cX9_strength 0 = .ok (.aload_n 0, 1) := by decide +kernel
theorem dX9_strength_1 : decode cX9_strength 1 = .ok (.iload_n 1, 1) := by decide +kernel
theorem dX9_strength_2 : decode cX9_strength 2 = .ok (.aload_n 0, 1) := by decide +kernel
theorem dX9_strength_3 : decode cX9_strength 3 = .ok (.getfield 44, 3) := by decide +kernel
theorem dX9_strength_6 : decode cX9_strength 6 = .ok (.bipush 9, 2) := by decide +kernel
theorem dX9_strength_8 : decode cX9_strength 8 = .ok (.iload_n 1, 1) := by decide +kernel
theorem dX9_strength_9 : decode cX9_strength 9 = .ok (.iadd, 1) := by decide +kernel
theorem dX9_strength_10 : decode cX9_strength 10 = .ok (.iaload, 1) := by decide +kernel
theorem dX9_strength_11 : decode cX9_strength 11 = .ok (.invokevirtual 53, 3) := by decide +kernel
theorem dX9_strength_14 : decode cX9_strength 14 = .ok (.ireturn, 1) := by decide +kernel
theorem dX9_strengthIf_0 : decode cX9_strengthIf 0 = .ok (.iload_n 2, 1) := by decide +kernel
theorem dX9_strengthIf_1 : decode cX9_strengthIf 1 = .ok (.iconst 2, 1) := by decide +kernel
theorem dX9_strengthIf_2 : decode cX9_strengthIf 2 = .ok (.if_icmp .ne 5, 3) := by decide +kernel
theorem dX9_strengthIf_5 : decode cX9_strengthIf 5 = .ok (.iconst 0, 1) := by decide +kernel
theorem dX9_strengthIf_6 : decode cX9_strengthIf 6 = .ok (.ireturn, 1) := by decide +kernel
theorem dX9_strengthIf_7 : decode cX9_strengthIf 7 = .ok (.aload_n 0, 1) := by decide +kernel
theorem dX9_strengthIf_8 : decode cX9_strengthIf 8 = .ok (.getfield 15, 3) := by decide +kernel
theorem dX9_strengthIf_11 : decode cX9_strengthIf 11 = .ok (.aload_n 0, 1) := by decide +kernel
theorem dX9_strengthIf_12 : decode cX9_strengthIf 12 = .ok (.getfield 41, 3) := by decide +kernel
theorem dX9_strengthIf_15 : decode cX9_strengthIf 15 = .ok (.iload_n 1, 1) := by decide +kernel
theorem dX9_strengthIf_16 : decode cX9_strengthIf 16 = .ok (.iaload, 1) := by decide +kernel
theorem dX9_strengthIf_17 : decode cX9_strengthIf 17 = .ok (.imul, 1) := by decide +kernel
theorem dX9_strengthIf_18 : decode cX9_strengthIf 18 = .ok (.istore_n 3, 1) := by decide +kernel
theorem dX9_strengthIf_19 : decode cX9_strengthIf 19 = .ok (.aload_n 0, 1) := by decide +kernel
theorem dX9_strengthIf_20 : decode cX9_strengthIf 20 = .ok (.getfield 35, 3) := by decide +kernel
theorem dX9_strengthIf_23 : decode cX9_strengthIf 23 = .ok (.iload_n 1, 1) := by decide +kernel
theorem dX9_strengthIf_24 : decode cX9_strengthIf 24 = .ok (.iaload, 1) := by decide +kernel
theorem dX9_strengthIf_25 : decode cX9_strengthIf 25 = .ok (.iconst 2, 1) := by decide +kernel
theorem dX9_strengthIf_26 : decode cX9_strengthIf 26 = .ok (.if_icmp .eq 13, 3) := by decide +kernel
theorem dX9_strengthIf_29 : decode cX9_strengthIf 29 = .ok (.aload_n 0, 1) := by decide +kernel
theorem dX9_strengthIf_30 : decode cX9_strengthIf 30 = .ok (.getfield 35, 3) := by decide +kernel
theorem dX9_strengthIf_33 : decode cX9_strengthIf 33 = .ok (.iload_n 1, 1) := by decide +kernel
theorem dX9_strengthIf_34 : decode cX9_strengthIf 34 = .ok (.iaload, 1) := by decide +kernel
theorem dX9_strengthIf_35 : decode cX9_strengthIf 35 = .ok (.iconst 3, 1) := by decide +kernel
theorem dX9_strengthIf_36 : decode cX9_strengthIf 36 = .ok (.if_icmp .ne 9, 3) := by decide +kernel
theorem dX9_strengthIf_39 : decode cX9_strengthIf 39 = .ok (.iload_n 3, 1) := by decide +kernel
theorem dX9_strengthIf_40 : decode cX9_strengthIf 40 = .ok (.iload_n 3, 1) := by decide +kernel
theorem dX9_strengthIf_41 : decode cX9_strengthIf 41 = .ok (.iconst 2, 1) := by decide +kernel
theorem dX9_strengthIf_42 : decode cX9_strengthIf 42 = .ok (.idiv, 1) := by decide +kernel
theorem dX9_strengthIf_43 : decode cX9_strengthIf 43 = .ok (.iadd, 1) := by decide +kernel
theorem dX9_strengthIf_44 : decode cX9_strengthIf 44 = .ok (.istore_n 3, 1) := by decide +kernel
theorem dX9_strengthIf_45 : decode cX9_strengthIf 45 = .ok (.aload_n 0, 1) := by decide +kernel
theorem dX9_strengthIf_46 : decode cX9_strengthIf 46 = .ok (.getfield 35, 3) := by decide +kernel
theorem dX9_strengthIf_49 : decode cX9_strengthIf 49 = .ok (.iload_n 1, 1) := by decide +kernel
theorem dX9_strengthIf_50 : decode cX9_strengthIf 50 = .ok (.iaload, 1) := by decide +kernel
theorem dX9_strengthIf_51 : decode cX9_strengthIf 51 = .ok (.iconst 4, 1) := by decide +kernel
theorem dX9_strengthIf_52 : decode cX9_strengthIf 52 = .ok (.if_icmp .eq 13, 3) := by decide +kernel
theorem dX9_strengthIf_55 : decode cX9_strengthIf 55 = .ok (.aload_n 0, 1) := by decide +kernel
theorem dX9_strengthIf_56 : decode cX9_strengthIf 56 = .ok (.getfield 35, 3) := by decide +kernel
theorem dX9_strengthIf_59 : decode cX9_strengthIf 59 = .ok (.iload_n 1, 1) := by decide +kernel
theorem dX9_strengthIf_60 : decode cX9_strengthIf 60 = .ok (.iaload, 1) := by decide +kernel
theorem dX9_strengthIf_61 : decode cX9_strengthIf 61 = .ok (.iconst 5, 1) := by decide +kernel
theorem dX9_strengthIf_62 : decode cX9_strengthIf 62 = .ok (.if_icmp .ne 7, 3) := by decide +kernel
theorem dX9_strengthIf_65 : decode cX9_strengthIf 65 = .ok (.iload_n 3, 1) := by decide +kernel
theorem dX9_strengthIf_66 : decode cX9_strengthIf 66 = .ok (.iconst 2, 1) := by decide +kernel
theorem dX9_strengthIf_67 : decode cX9_strengthIf 67 = .ok (.idiv, 1) := by decide +kernel
theorem dX9_strengthIf_68 : decode cX9_strengthIf 68 = .ok (.istore_n 3, 1) := by decide +kernel
theorem dX9_strengthIf_69 : decode cX9_strengthIf 69 = .ok (.aload_n 0, 1) := by decide +kernel
theorem dX9_strengthIf_70 : decode cX9_strengthIf 70 = .ok (.getfield 35, 3) := by decide +kernel
theorem dX9_strengthIf_73 : decode cX9_strengthIf 73 = .ok (.iload_n 1, 1) := by decide +kernel
theorem dX9_strengthIf_74 : decode cX9_strengthIf 74 = .ok (.iaload, 1) := by decide +kernel
theorem dX9_strengthIf_75 : decode cX9_strengthIf 75 = .ok (.iconst 3, 1) := by decide +kernel
theorem dX9_strengthIf_76 : decode cX9_strengthIf 76 = .ok (.if_icmp .ne 17, 3) := by decide +kernel
theorem dX9_strengthIf_79 : decode cX9_strengthIf 79 = .ok (.iload_n 3, 1) := by decide +kernel
theorem dX9_strengthIf_80 : decode cX9_strengthIf 80 = .ok (.aload_n 0, 1) := by decide +kernel
theorem dX9_strengthIf_81 : decode cX9_strengthIf 81 = .ok (.getfield 32, 3) := by decide +kernel
theorem dX9_strengthIf_84 : decode cX9_strengthIf 84 = .ok (.aload_n 0, 1) := by decide +kernel
theorem dX9_strengthIf_85 : decode cX9_strengthIf 85 = .ok (.getfield 38, 3) := by decide +kernel
theorem dX9_strengthIf_88 : decode cX9_strengthIf 88 = .ok (.iload_n 1, 1) := by decide +kernel
theorem dX9_strengthIf_89 : decode cX9_strengthIf 89 = .ok (.iaload, 1) := by decide +kernel
theorem dX9_strengthIf_90 : decode cX9_strengthIf 90 = .ok (.iaload, 1) := by decide +kernel
theorem dX9_strengthIf_91 : decode cX9_strengthIf 91 = .ok (.iadd, 1) := by decide +kernel
theorem dX9_strengthIf_92 : decode cX9_strengthIf 92 = .ok (.istore_n 3, 1) := by decide +kernel
theorem dX9_strengthIf_93 : decode cX9_strengthIf 93 = .ok (.aload_n 0, 1) := by decide +kernel
theorem dX9_strengthIf_94 : decode cX9_strengthIf 94 = .ok (.getfield 44, 3) := by decide +kernel
theorem dX9_strengthIf_97 : decode cX9_strengthIf 97 = .ok (.bipush 27, 2) := by decide +kernel
theorem dX9_strengthIf_99 : decode cX9_strengthIf 99 = .ok (.iload_n 1, 1) := by decide +kernel
theorem dX9_strengthIf_100 : decode cX9_strengthIf 100 = .ok (.iadd, 1) := by decide +kernel
theorem dX9_strengthIf_101 : decode cX9_strengthIf 101 = .ok (.iaload, 1) := by decide +kernel
theorem dX9_strengthIf_102 : decode cX9_strengthIf 102 = .ok (.ifCond .eq 10, 3) := by decide +kernel
theorem dX9_strengthIf_105 : decode cX9_strengthIf 105 = .ok (.iload_n 3, 1) := by decide +kernel
theorem dX9_strengthIf_106 : decode cX9_strengthIf 106 = .ok (.aload_n 0, 1) := by decide +kernel
theorem dX9_strengthIf_107 : decode cX9_strengthIf 107 = .ok (.getfield 19, 3) := by decide +kernel
theorem dX9_strengthIf_110 : decode cX9_strengthIf 110 = .ok (.iadd, 1) := by decide +kernel
theorem dX9_strengthIf_111 : decode cX9_strengthIf 111 = .ok (.istore_n 3, 1) := by decide +kernel
theorem dX9_strengthIf_112 : decode cX9_strengthIf 112 = .ok (.iload_n 2, 1) := by decide +kernel
theorem dX9_strengthIf_113 : decode cX9_strengthIf 113 = .ok (.iconst 1, 1) := by decide +kernel
theorem dX9_strengthIf_114 : decode cX9_strengthIf 114 = .ok (.if_icmp .ne 9, 3) := by decide +kernel
theorem dX9_strengthIf_117 : decode cX9_strengthIf 117 = .ok (.iload_n 3, 1) := by decide +kernel
theorem dX9_strengthIf_118 : decode cX9_strengthIf 118 = .ok (.iload_n 3, 1) := by decide +kernel
theorem dX9_strengthIf_119 : decode cX9_strengthIf 119 = .ok (.iconst 2, 1) := by decide +kernel
theorem dX9_strengthIf_120 : decode cX9_strengthIf 120 = .ok (.idiv, 1) := by decide +kernel
theorem dX9_strengthIf_121 : decode cX9_strengthIf 121 = .ok (.iadd, 1) := by decide +kernel
theorem dX9_strengthIf_122 : decode cX9_strengthIf 122 = .ok (.istore_n 3, 1) := by decide +kernel
theorem dX9_strengthIf_123 : decode cX9_strengthIf 123 = .ok (.iconst 0, 1) := by decide +kernel
theorem dX9_strengthIf_124 : decode cX9_strengthIf 124 = .ok (.iload_n 3, 1) := by decide +kernel
theorem dX9_strengthIf_125 : decode cX9_strengthIf 125 = .ok (.aload_n 0, 1) := by decide +kernel
theorem dX9_strengthIf_126 : decode cX9_strengthIf 126 = .ok (.getfield 44, 3) := by decide +kernel
theorem dX9_strengthIf_129 : decode cX9_strengthIf 129 = .ok (.bipush 18, 2) := by decide +kernel
theorem dX9_strengthIf_131 : decode cX9_strengthIf 131 = .ok (.iload_n 1, 1) := by decide +kernel
theorem dX9_strengthIf_132 : decode cX9_strengthIf 132 = .ok (.iadd, 1) := by decide +kernel
theorem dX9_strengthIf_133 : decode cX9_strengthIf 133 = .ok (.iaload, 1) := by decide +kernel
theorem dX9_strengthIf_134 : decode cX9_strengthIf 134 = .ok (.isub, 1) := by decide +kernel
theorem dX9_strengthIf_135 : decode cX9_strengthIf 135 = .ok (.invokestatic 59, 3) := by decide +kernel
theorem dX9_strengthIf_138 : decode cX9_strengthIf 138 = .ok (.ireturn, 1) := by decide +kernel
theorem dX9_strandBears_0 : decode cX9_strandBears 0 = .ok (.aload_n 0, 1) := by decide +kernel
theorem dX9_strandBears_1 : decode cX9_strandBears 1 = .ok (.iload_n 1, 1) := by decide +kernel
theorem dX9_strandBears_2 : decode cX9_strandBears 2 = .ok (.iconst (-1), 1) := by decide +kernel
theorem dX9_strandBears_3 : decode cX9_strandBears 3 = .ok (.invokevirtual 64, 3) := by decide +kernel
theorem dX9_strandBears_6 : decode cX9_strandBears 6 = .ok (.ireturn, 1) := by decide +kernel
theorem dX9_ropeBears_0 : decode cX9_ropeBears 0 = .ok (.aload_n 0, 1) := by decide +kernel
theorem dX9_ropeBears_1 : decode cX9_ropeBears 1 = .ok (.iconst (-1), 1) := by decide +kernel
theorem dX9_ropeBears_2 : decode cX9_ropeBears 2 = .ok (.invokevirtual 67, 3) := by decide +kernel
theorem dX9_ropeBears_5 : decode cX9_ropeBears 5 = .ok (.ireturn, 1) := by decide +kernel
theorem dX9_ropeBearsWithout_0 : decode cX9_ropeBearsWithout 0 = .ok (.aload_n 0, 1) := by decide +kernel
theorem dX9_ropeBearsWithout_1 : decode cX9_ropeBearsWithout 1 = .ok (.iconst 0, 1) := by decide +kernel
theorem dX9_ropeBearsWithout_2 : decode cX9_ropeBearsWithout 2 = .ok (.iload_n 1, 1) := by decide +kernel
theorem dX9_ropeBearsWithout_3 : decode cX9_ropeBearsWithout 3 = .ok (.invokevirtual 64, 3) := by decide +kernel
theorem dX9_ropeBearsWithout_6 : decode cX9_ropeBearsWithout 6 = .ok (.istore_n 2, 1) := by decide +kernel
theorem dX9_ropeBearsWithout_7 : decode cX9_ropeBearsWithout 7 = .ok (.iconst 1, 1) := by decide +kernel
theorem dX9_ropeBearsWithout_8 : decode cX9_ropeBearsWithout 8 = .ok (.istore_n 3, 1) := by decide +kernel
theorem dX9_ropeBearsWithout_9 : decode cX9_ropeBearsWithout 9 = .ok (.iload_n 3, 1) := by decide +kernel
theorem dX9_ropeBearsWithout_10 : decode cX9_ropeBearsWithout 10 = .ok (.iconst 3, 1) := by decide +kernel
theorem dX9_ropeBearsWithout_11 : decode cX9_ropeBearsWithout 11 = .ok (.if_icmp .ge 20, 3) := by decide +kernel
theorem dX9_ropeBearsWithout_14 : decode cX9_ropeBearsWithout 14 = .ok (.iload_n 2, 1) := by decide +kernel
theorem dX9_ropeBearsWithout_15 : decode cX9_ropeBearsWithout 15 = .ok (.aload_n 0, 1) := by decide +kernel
theorem dX9_ropeBearsWithout_16 : decode cX9_ropeBearsWithout 16 = .ok (.iload_n 3, 1) := by decide +kernel
theorem dX9_ropeBearsWithout_17 : decode cX9_ropeBearsWithout 17 = .ok (.iload_n 1, 1) := by decide +kernel
theorem dX9_ropeBearsWithout_18 : decode cX9_ropeBearsWithout 18 = .ok (.invokevirtual 64, 3) := by decide +kernel
theorem dX9_ropeBearsWithout_21 : decode cX9_ropeBearsWithout 21 = .ok (.invokestatic 71, 3) := by decide +kernel
theorem dX9_ropeBearsWithout_24 : decode cX9_ropeBearsWithout 24 = .ok (.istore_n 2, 1) := by decide +kernel
theorem dX9_ropeBearsWithout_25 : decode cX9_ropeBearsWithout 25 = .ok (.iinc 3 1, 3) := by decide +kernel
theorem dX9_ropeBearsWithout_28 : decode cX9_ropeBearsWithout 28 = .ok (.goto (-19), 3) := by decide +kernel
theorem dX9_ropeBearsWithout_31 : decode cX9_ropeBearsWithout 31 = .ok (.iconst 3, 1) := by decide +kernel
theorem dX9_ropeBearsWithout_32 : decode cX9_ropeBearsWithout 32 = .ok (.iload_n 2, 1) := by decide +kernel
theorem dX9_ropeBearsWithout_33 : decode cX9_ropeBearsWithout 33 = .ok (.imul, 1) := by decide +kernel
theorem dX9_ropeBearsWithout_34 : decode cX9_ropeBearsWithout 34 = .ok (.ireturn, 1) := by decide +kernel
theorem dX9_strandBearsWithout_0 : decode cX9_strandBearsWithout 0 = .ok (.iconst 0, 1) := by decide +kernel
theorem dX9_strandBearsWithout_1 : decode cX9_strandBearsWithout 1 = .ok (.istore_n 3, 1) := by decide +kernel
theorem dX9_strandBearsWithout_2 : decode cX9_strandBearsWithout 2 = .ok (.iconst 0, 1) := by decide +kernel
theorem dX9_strandBearsWithout_3 : decode cX9_strandBearsWithout 3 = .ok (.istore 4, 2) := by decide +kernel
theorem dX9_strandBearsWithout_5 : decode cX9_strandBearsWithout 5 = .ok (.iload 4, 2) := by decide +kernel
theorem dX9_strandBearsWithout_7 : decode cX9_strandBearsWithout 7 = .ok (.aload_n 0, 1) := by decide +kernel
theorem dX9_strandBearsWithout_8 : decode cX9_strandBearsWithout 8 = .ok (.getfield 25, 3) := by decide +kernel
theorem dX9_strandBearsWithout_11 : decode cX9_strandBearsWithout 11 = .ok (.if_icmp .ge 37, 3) := by decide +kernel
theorem dX9_strandBearsWithout_14 : decode cX9_strandBearsWithout 14 = .ok (.aload_n 0, 1) := by decide +kernel
theorem dX9_strandBearsWithout_15 : decode cX9_strandBearsWithout 15 = .ok (.getfield 44, 3) := by decide +kernel
theorem dX9_strandBearsWithout_18 : decode cX9_strandBearsWithout 18 = .ok (.iconst 0, 1) := by decide +kernel
theorem dX9_strandBearsWithout_19 : decode cX9_strandBearsWithout 19 = .ok (.iload 4, 2) := by decide +kernel
theorem dX9_strandBearsWithout_21 : decode cX9_strandBearsWithout 21 = .ok (.iadd, 1) := by decide +kernel
theorem dX9_strandBearsWithout_22 : decode cX9_strandBearsWithout 22 = .ok (.iaload, 1) := by decide +kernel
theorem dX9_strandBearsWithout_23 : decode cX9_strandBearsWithout 23 = .ok (.iload_n 1, 1) := by decide +kernel
theorem dX9_strandBearsWithout_24 : decode cX9_strandBearsWithout 24 = .ok (.if_icmp .ne 18, 3) := by decide +kernel
theorem dX9_strandBearsWithout_27 : decode cX9_strandBearsWithout 27 = .ok (.iload 4, 2) := by decide +kernel
theorem dX9_strandBearsWithout_29 : decode cX9_strandBearsWithout 29 = .ok (.iload_n 2, 1) := by decide +kernel
theorem dX9_strandBearsWithout_30 : decode cX9_strandBearsWithout 30 = .ok (.if_icmp .eq 12, 3) := by decide +kernel
theorem dX9_strandBearsWithout_33 : decode cX9_strandBearsWithout 33 = .ok (.iload_n 3, 1) := by decide +kernel
theorem dX9_strandBearsWithout_34 : decode cX9_strandBearsWithout 34 = .ok (.aload_n 0, 1) := by decide +kernel
theorem dX9_strandBearsWithout_35 : decode cX9_strandBearsWithout 35 = .ok (.iload 4, 2) := by decide +kernel
theorem dX9_strandBearsWithout_37 : decode cX9_strandBearsWithout 37 = .ok (.invokevirtual 74, 3) := by decide +kernel
theorem dX9_strandBearsWithout_40 : decode cX9_strandBearsWithout 40 = .ok (.iadd, 1) := by decide +kernel
theorem dX9_strandBearsWithout_41 : decode cX9_strandBearsWithout 41 = .ok (.istore_n 3, 1) := by decide +kernel
theorem dX9_strandBearsWithout_42 : decode cX9_strandBearsWithout 42 = .ok (.iinc 4 1, 3) := by decide +kernel
theorem dX9_strandBearsWithout_45 : decode cX9_strandBearsWithout 45 = .ok (.goto (-40), 3) := by decide +kernel
theorem dX9_strandBearsWithout_48 : decode cX9_strandBearsWithout 48 = .ok (.iload_n 3, 1) := by decide +kernel
theorem dX9_strandBearsWithout_49 : decode cX9_strandBearsWithout 49 = .ok (.ireturn, 1) := by decide +kernel
theorem dX9_weakestStrand_0 : decode cX9_weakestStrand 0 = .ok (.iconst 0, 1) := by decide +kernel
theorem dX9_weakestStrand_1 : decode cX9_weakestStrand 1 = .ok (.istore_n 1, 1) := by decide +kernel
theorem dX9_weakestStrand_2 : decode cX9_weakestStrand 2 = .ok (.iconst 1, 1) := by decide +kernel
theorem dX9_weakestStrand_3 : decode cX9_weakestStrand 3 = .ok (.istore_n 2, 1) := by decide +kernel
theorem dX9_weakestStrand_4 : decode cX9_weakestStrand 4 = .ok (.iload_n 2, 1) := by decide +kernel
theorem dX9_weakestStrand_5 : decode cX9_weakestStrand 5 = .ok (.iconst 3, 1) := by decide +kernel
theorem dX9_weakestStrand_6 : decode cX9_weakestStrand 6 = .ok (.if_icmp .ge 24, 3) := by decide +kernel
theorem dX9_weakestStrand_9 : decode cX9_weakestStrand 9 = .ok (.aload_n 0, 1) := by decide +kernel
theorem dX9_weakestStrand_10 : decode cX9_weakestStrand 10 = .ok (.iload_n 2, 1) := by decide +kernel
theorem dX9_weakestStrand_11 : decode cX9_weakestStrand 11 = .ok (.invokevirtual 77, 3) := by decide +kernel
theorem dX9_weakestStrand_14 : decode cX9_weakestStrand 14 = .ok (.aload_n 0, 1) := by decide +kernel
theorem dX9_weakestStrand_15 : decode cX9_weakestStrand 15 = .ok (.iload_n 1, 1) := by decide +kernel
theorem dX9_weakestStrand_16 : decode cX9_weakestStrand 16 = .ok (.invokevirtual 77, 3) := by decide +kernel
theorem dX9_weakestStrand_19 : decode cX9_weakestStrand 19 = .ok (.if_icmp .ge 5, 3) := by decide +kernel
theorem dX9_weakestStrand_22 : decode cX9_weakestStrand 22 = .ok (.iload_n 2, 1) := by decide +kernel
theorem dX9_weakestStrand_23 : decode cX9_weakestStrand 23 = .ok (.istore_n 1, 1) := by decide +kernel
theorem dX9_weakestStrand_24 : decode cX9_weakestStrand 24 = .ok (.iinc 2 1, 3) := by decide +kernel
theorem dX9_weakestStrand_27 : decode cX9_weakestStrand 27 = .ok (.goto (-23), 3) := by decide +kernel
theorem dX9_weakestStrand_30 : decode cX9_weakestStrand 30 = .ok (.iload_n 1, 1) := by decide +kernel
theorem dX9_weakestStrand_31 : decode cX9_weakestStrand 31 = .ok (.ireturn, 1) := by decide +kernel
theorem dX9_part_0 : decode cX9_part 0 = .ok (.iconst 0, 1) := by decide +kernel
theorem dX9_part_1 : decode cX9_part 1 = .ok (.istore_n 2, 1) := by decide +kernel
theorem dX9_part_2 : decode cX9_part 2 = .ok (.iload_n 2, 1) := by decide +kernel
theorem dX9_part_3 : decode cX9_part 3 = .ok (.aload_n 0, 1) := by decide +kernel
theorem dX9_part_4 : decode cX9_part 4 = .ok (.getfield 25, 3) := by decide +kernel
theorem dX9_part_7 : decode cX9_part 7 = .ok (.if_icmp .ge 43, 3) := by decide +kernel
theorem dX9_part_10 : decode cX9_part 10 = .ok (.aload_n 0, 1) := by decide +kernel
theorem dX9_part_11 : decode cX9_part 11 = .ok (.getfield 44, 3) := by decide +kernel
theorem dX9_part_14 : decode cX9_part 14 = .ok (.iconst 0, 1) := by decide +kernel
theorem dX9_part_15 : decode cX9_part 15 = .ok (.iload_n 2, 1) := by decide +kernel
theorem dX9_part_16 : decode cX9_part 16 = .ok (.iadd, 1) := by decide +kernel
theorem dX9_part_17 : decode cX9_part 17 = .ok (.iaload, 1) := by decide +kernel
theorem dX9_part_18 : decode cX9_part 18 = .ok (.iload_n 1, 1) := by decide +kernel
theorem dX9_part_19 : decode cX9_part 19 = .ok (.if_icmp .ne 25, 3) := by decide +kernel
theorem dX9_part_22 : decode cX9_part 22 = .ok (.aload_n 0, 1) := by decide +kernel
theorem dX9_part_23 : decode cX9_part 23 = .ok (.getfield 44, 3) := by decide +kernel
theorem dX9_part_26 : decode cX9_part 26 = .ok (.iconst 0, 1) := by decide +kernel
theorem dX9_part_27 : decode cX9_part 27 = .ok (.iload_n 2, 1) := by decide +kernel
theorem dX9_part_28 : decode cX9_part 28 = .ok (.iadd, 1) := by decide +kernel
theorem dX9_part_29 : decode cX9_part 29 = .ok (.iconst (-1), 1) := by decide +kernel
theorem dX9_part_30 : decode cX9_part 30 = .ok (.iastore, 1) := by decide +kernel
theorem dX9_part_31 : decode cX9_part 31 = .ok (.aload_n 0, 1) := by decide +kernel
theorem dX9_part_32 : decode cX9_part 32 = .ok (.getfield 44, 3) := by decide +kernel
theorem dX9_part_35 : decode cX9_part 35 = .ok (.bipush 18, 2) := by decide +kernel
theorem dX9_part_37 : decode cX9_part 37 = .ok (.iload_n 2, 1) := by decide +kernel
theorem dX9_part_38 : decode cX9_part 38 = .ok (.iadd, 1) := by decide +kernel
theorem dX9_part_39 : decode cX9_part 39 = .ok (.dup2, 1) := by decide +kernel
theorem dX9_part_40 : decode cX9_part 40 = .ok (.iaload, 1) := by decide +kernel
theorem dX9_part_41 : decode cX9_part 41 = .ok (.iconst 5, 1) := by decide +kernel
theorem dX9_part_42 : decode cX9_part 42 = .ok (.iadd, 1) := by decide +kernel
theorem dX9_part_43 : decode cX9_part 43 = .ok (.iastore, 1) := by decide +kernel
theorem dX9_part_44 : decode cX9_part 44 = .ok (.iinc 2 1, 3) := by decide +kernel
theorem dX9_part_47 : decode cX9_part 47 = .ok (.goto (-45), 3) := by decide +kernel
theorem dX9_part_50 : decode cX9_part 50 = .ok (.return_, 1) := by decide +kernel
theorem dX9_wearLaid_0 : decode cX9_wearLaid 0 = .ok (.iconst 0, 1) := by decide +kernel
theorem dX9_wearLaid_1 : decode cX9_wearLaid 1 = .ok (.istore_n 1, 1) := by decide +kernel
theorem dX9_wearLaid_2 : decode cX9_wearLaid 2 = .ok (.iload_n 1, 1) := by decide +kernel
theorem dX9_wearLaid_3 : decode cX9_wearLaid 3 = .ok (.aload_n 0, 1) := by decide +kernel
theorem dX9_wearLaid_4 : decode cX9_wearLaid 4 = .ok (.getfield 25, 3) := by decide +kernel
theorem dX9_wearLaid_7 : decode cX9_wearLaid 7 = .ok (.if_icmp .ge 34, 3) := by decide +kernel
theorem dX9_wearLaid_10 : decode cX9_wearLaid 10 = .ok (.aload_n 0, 1) := by decide +kernel
theorem dX9_wearLaid_11 : decode cX9_wearLaid 11 = .ok (.getfield 44, 3) := by decide +kernel
theorem dX9_wearLaid_14 : decode cX9_wearLaid 14 = .ok (.bipush 18, 2) := by decide +kernel
theorem dX9_wearLaid_16 : decode cX9_wearLaid 16 = .ok (.iload_n 1, 1) := by decide +kernel
theorem dX9_wearLaid_17 : decode cX9_wearLaid 17 = .ok (.iadd, 1) := by decide +kernel
theorem dX9_wearLaid_18 : decode cX9_wearLaid 18 = .ok (.dup2, 1) := by decide +kernel
theorem dX9_wearLaid_19 : decode cX9_wearLaid 19 = .ok (.iaload, 1) := by decide +kernel
theorem dX9_wearLaid_20 : decode cX9_wearLaid 20 = .ok (.aload_n 0, 1) := by decide +kernel
theorem dX9_wearLaid_21 : decode cX9_wearLaid 21 = .ok (.iload_n 1, 1) := by decide +kernel
theorem dX9_wearLaid_22 : decode cX9_wearLaid 22 = .ok (.invokevirtual 80, 3) := by decide +kernel
theorem dX9_wearLaid_25 : decode cX9_wearLaid 25 = .ok (.ifCond .eq 7, 3) := by decide +kernel
theorem dX9_wearLaid_28 : decode cX9_wearLaid 28 = .ok (.iconst 1, 1) := by decide +kernel
theorem dX9_wearLaid_29 : decode cX9_wearLaid 29 = .ok (.goto 4, 3) := by decide +kernel
theorem dX9_wearLaid_32 : decode cX9_wearLaid 32 = .ok (.iconst 0, 1) := by decide +kernel
theorem dX9_wearLaid_33 : decode cX9_wearLaid 33 = .ok (.iadd, 1) := by decide +kernel
theorem dX9_wearLaid_34 : decode cX9_wearLaid 34 = .ok (.iastore, 1) := by decide +kernel
theorem dX9_wearLaid_35 : decode cX9_wearLaid 35 = .ok (.iinc 1 1, 3) := by decide +kernel
theorem dX9_wearLaid_38 : decode cX9_wearLaid 38 = .ok (.goto (-36), 3) := by decide +kernel
theorem dX9_wearLaid_41 : decode cX9_wearLaid 41 = .ok (.return_, 1) := by decide +kernel
theorem dX9_isDrawn_0 : decode cX9_isDrawn 0 = .ok (.aload_n 0, 1) := by decide +kernel
theorem dX9_isDrawn_1 : decode cX9_isDrawn 1 = .ok (.getfield 35, 3) := by decide +kernel
theorem dX9_isDrawn_4 : decode cX9_isDrawn 4 = .ok (.iload_n 1, 1) := by decide +kernel
theorem dX9_isDrawn_5 : decode cX9_isDrawn 5 = .ok (.iaload, 1) := by decide +kernel
theorem dX9_isDrawn_6 : decode cX9_isDrawn 6 = .ok (.iconst 2, 1) := by decide +kernel
theorem dX9_isDrawn_7 : decode cX9_isDrawn 7 = .ok (.if_icmp .eq 17, 3) := by decide +kernel
theorem dX9_isDrawn_10 : decode cX9_isDrawn 10 = .ok (.aload_n 0, 1) := by decide +kernel
theorem dX9_isDrawn_11 : decode cX9_isDrawn 11 = .ok (.getfield 35, 3) := by decide +kernel
theorem dX9_isDrawn_14 : decode cX9_isDrawn 14 = .ok (.iload_n 1, 1) := by decide +kernel
theorem dX9_isDrawn_15 : decode cX9_isDrawn 15 = .ok (.iaload, 1) := by decide +kernel
theorem dX9_isDrawn_16 : decode cX9_isDrawn 16 = .ok (.iconst 4, 1) := by decide +kernel
theorem dX9_isDrawn_17 : decode cX9_isDrawn 17 = .ok (.if_icmp .eq 7, 3) := by decide +kernel
theorem dX9_isDrawn_20 : decode cX9_isDrawn 20 = .ok (.iconst 1, 1) := by decide +kernel
theorem dX9_isDrawn_21 : decode cX9_isDrawn 21 = .ok (.goto 4, 3) := by decide +kernel
theorem dX9_isDrawn_24 : decode cX9_isDrawn 24 = .ok (.iconst 0, 1) := by decide +kernel
theorem dX9_isDrawn_25 : decode cX9_isDrawn 25 = .ok (.ireturn, 1) := by decide +kernel
theorem dX9_keptInTen_0 : decode cX9_keptInTen 0 = .ok (.aload_n 0, 1) := by decide +kernel
theorem dX9_keptInTen_1 : decode cX9_keptInTen 1 = .ok (.getfield 44, 3) := by decide +kernel
theorem dX9_keptInTen_4 : decode cX9_keptInTen 4 = .ok (.bipush 9, 2) := by decide +kernel
theorem dX9_keptInTen_6 : decode cX9_keptInTen 6 = .ok (.iload_n 1, 1) := by decide +kernel
theorem dX9_keptInTen_7 : decode cX9_keptInTen 7 = .ok (.iadd, 1) := by decide +kernel
theorem dX9_keptInTen_8 : decode cX9_keptInTen 8 = .ok (.iaload, 1) := by decide +kernel
theorem dX9_keptInTen_9 : decode cX9_keptInTen 9 = .ok (.ifCond .eq 23, 3) := by decide +kernel
theorem dX9_keptInTen_12 : decode cX9_keptInTen 12 = .ok (.aload_n 0, 1) := by decide +kernel
theorem dX9_keptInTen_13 : decode cX9_keptInTen 13 = .ok (.getfield 44, 3) := by decide +kernel
theorem dX9_keptInTen_16 : decode cX9_keptInTen 16 = .ok (.bipush 9, 2) := by decide +kernel
theorem dX9_keptInTen_18 : decode cX9_keptInTen 18 = .ok (.iload_n 1, 1) := by decide +kernel
theorem dX9_keptInTen_19 : decode cX9_keptInTen 19 = .ok (.iadd, 1) := by decide +kernel
theorem dX9_keptInTen_20 : decode cX9_keptInTen 20 = .ok (.iaload, 1) := by decide +kernel
theorem dX9_keptInTen_21 : decode cX9_keptInTen 21 = .ok (.iconst 1, 1) := by decide +kernel
theorem dX9_keptInTen_22 : decode cX9_keptInTen 22 = .ok (.if_icmp .ne 8, 3) := by decide +kernel
theorem dX9_keptInTen_25 : decode cX9_keptInTen 25 = .ok (.bipush 10, 2) := by decide +kernel
theorem dX9_keptInTen_27 : decode cX9_keptInTen 27 = .ok (.goto 4, 3) := by decide +kernel
theorem dX9_keptInTen_30 : decode cX9_keptInTen 30 = .ok (.iconst 0, 1) := by decide +kernel
theorem dX9_keptInTen_31 : decode cX9_keptInTen 31 = .ok (.ireturn, 1) := by decide +kernel
theorem dX9_keptInTen_32 : decode cX9_keptInTen 32 = .ok (.aload_n 0, 1) := by decide +kernel
theorem dX9_keptInTen_33 : decode cX9_keptInTen 33 = .ok (.getfield 35, 3) := by decide +kernel
theorem dX9_keptInTen_36 : decode cX9_keptInTen 36 = .ok (.iload_n 1, 1) := by decide +kernel
theorem dX9_keptInTen_37 : decode cX9_keptInTen 37 = .ok (.iaload, 1) := by decide +kernel
theorem dX9_keptInTen_38 : decode cX9_keptInTen 38 = .ok (.iconst 2, 1) := by decide +kernel
theorem dX9_keptInTen_39 : decode cX9_keptInTen 39 = .ok (.if_icmp .ne 8, 3) := by decide +kernel
theorem dX9_keptInTen_42 : decode cX9_keptInTen 42 = .ok (.bipush 10, 2) := by decide +kernel
theorem dX9_keptInTen_44 : decode cX9_keptInTen 44 = .ok (.goto 28, 3) := by decide +kernel
theorem dX9_keptInTen_47 : decode cX9_keptInTen 47 = .ok (.aload_n 0, 1) := by decide +kernel
theorem dX9_keptInTen_48 : decode cX9_keptInTen 48 = .ok (.getfield 35, 3) := by decide +kernel
theorem dX9_keptInTen_51 : decode cX9_keptInTen 51 = .ok (.iload_n 1, 1) := by decide +kernel
theorem dX9_keptInTen_52 : decode cX9_keptInTen 52 = .ok (.iaload, 1) := by decide +kernel
theorem dX9_keptInTen_53 : decode cX9_keptInTen 53 = .ok (.iconst 4, 1) := by decide +kernel
theorem dX9_keptInTen_54 : decode cX9_keptInTen 54 = .ok (.if_icmp .ne 7, 3) := by decide +kernel
theorem dX9_keptInTen_57 : decode cX9_keptInTen 57 = .ok (.iconst 0, 1) := by decide +kernel
theorem dX9_keptInTen_58 : decode cX9_keptInTen 58 = .ok (.goto 14, 3) := by decide +kernel
theorem dX9_keptInTen_61 : decode cX9_keptInTen 61 = .ok (.aload_n 0, 1) := by decide +kernel
theorem dX9_keptInTen_62 : decode cX9_keptInTen 62 = .ok (.getfield 28, 3) := by decide +kernel
theorem dX9_keptInTen_65 : decode cX9_keptInTen 65 = .ok (.aload_n 0, 1) := by decide +kernel
theorem dX9_keptInTen_66 : decode cX9_keptInTen 66 = .ok (.getfield 38, 3) := by decide +kernel
theorem dX9_keptInTen_69 : decode cX9_keptInTen 69 = .ok (.iload_n 1, 1) := by decide +kernel
theorem dX9_keptInTen_70 : decode cX9_keptInTen 70 = .ok (.iaload, 1) := by decide +kernel
theorem dX9_keptInTen_71 : decode cX9_keptInTen 71 = .ok (.iaload, 1) := by decide +kernel
theorem dX9_keptInTen_72 : decode cX9_keptInTen 72 = .ok (.ireturn, 1) := by decide +kernel
theorem dX9_priceOf_0 : decode cX9_priceOf 0 = .ok (.iconst 0, 1) := by decide +kernel
theorem dX9_priceOf_1 : decode cX9_priceOf 1 = .ok (.istore_n 2, 1) := by decide +kernel
theorem dX9_priceOf_2 : decode cX9_priceOf 2 = .ok (.iconst 0, 1) := by decide +kernel
theorem dX9_priceOf_3 : decode cX9_priceOf 3 = .ok (.istore_n 3, 1) := by decide +kernel
theorem dX9_priceOf_4 : decode cX9_priceOf 4 = .ok (.iload_n 3, 1) := by decide +kernel
theorem dX9_priceOf_5 : decode cX9_priceOf 5 = .ok (.aload_n 0, 1) := by decide +kernel
theorem dX9_priceOf_6 : decode cX9_priceOf 6 = .ok (.getfield 25, 3) := by decide +kernel
theorem dX9_priceOf_9 : decode cX9_priceOf 9 = .ok (.if_icmp .ge 36, 3) := by decide +kernel
theorem dX9_priceOf_12 : decode cX9_priceOf 12 = .ok (.iload_n 2, 1) := by decide +kernel
theorem dX9_priceOf_13 : decode cX9_priceOf 13 = .ok (.iload_n 1, 1) := by decide +kernel
theorem dX9_priceOf_14 : decode cX9_priceOf 14 = .ok (.iload_n 3, 1) := by decide +kernel
theorem dX9_priceOf_15 : decode cX9_priceOf 15 = .ok (.ishr, 1) := by decide +kernel
theorem dX9_priceOf_16 : decode cX9_priceOf 16 = .ok (.iconst 1, 1) := by decide +kernel
theorem dX9_priceOf_17 : decode cX9_priceOf 17 = .ok (.iand, 1) := by decide +kernel
theorem dX9_priceOf_18 : decode cX9_priceOf 18 = .ok (.aload_n 0, 1) := by decide +kernel
theorem dX9_priceOf_19 : decode cX9_priceOf 19 = .ok (.getfield 32, 3) := by decide +kernel
theorem dX9_priceOf_22 : decode cX9_priceOf 22 = .ok (.aload_n 0, 1) := by decide +kernel
theorem dX9_priceOf_23 : decode cX9_priceOf 23 = .ok (.getfield 38, 3) := by decide +kernel
theorem dX9_priceOf_26 : decode cX9_priceOf 26 = .ok (.iload_n 3, 1) := by decide +kernel
theorem dX9_priceOf_27 : decode cX9_priceOf 27 = .ok (.iaload, 1) := by decide +kernel
theorem dX9_priceOf_28 : decode cX9_priceOf 28 = .ok (.iaload, 1) := by decide +kernel
theorem dX9_priceOf_29 : decode cX9_priceOf 29 = .ok (.imul, 1) := by decide +kernel
theorem dX9_priceOf_30 : decode cX9_priceOf 30 = .ok (.aload_n 0, 1) := by decide +kernel
theorem dX9_priceOf_31 : decode cX9_priceOf 31 = .ok (.getfield 41, 3) := by decide +kernel
theorem dX9_priceOf_34 : decode cX9_priceOf 34 = .ok (.iload_n 3, 1) := by decide +kernel
theorem dX9_priceOf_35 : decode cX9_priceOf 35 = .ok (.iaload, 1) := by decide +kernel
theorem dX9_priceOf_36 : decode cX9_priceOf 36 = .ok (.imul, 1) := by decide +kernel
theorem dX9_priceOf_37 : decode cX9_priceOf 37 = .ok (.iadd, 1) := by decide +kernel
theorem dX9_priceOf_38 : decode cX9_priceOf 38 = .ok (.istore_n 2, 1) := by decide +kernel
theorem dX9_priceOf_39 : decode cX9_priceOf 39 = .ok (.iinc 3 1, 3) := by decide +kernel
theorem dX9_priceOf_42 : decode cX9_priceOf 42 = .ok (.goto (-38), 3) := by decide +kernel
theorem dX9_priceOf_45 : decode cX9_priceOf 45 = .ok (.iload_n 2, 1) := by decide +kernel
theorem dX9_priceOf_46 : decode cX9_priceOf 46 = .ok (.ireturn, 1) := by decide +kernel
theorem dX9_laidYarns_0 : decode cX9_laidYarns 0 = .ok (.iconst 0, 1) := by decide +kernel
theorem dX9_laidYarns_1 : decode cX9_laidYarns 1 = .ok (.istore_n 1, 1) := by decide +kernel
theorem dX9_laidYarns_2 : decode cX9_laidYarns 2 = .ok (.iconst 0, 1) := by decide +kernel
theorem dX9_laidYarns_3 : decode cX9_laidYarns 3 = .ok (.istore_n 2, 1) := by decide +kernel
theorem dX9_laidYarns_4 : decode cX9_laidYarns 4 = .ok (.iload_n 2, 1) := by decide +kernel
theorem dX9_laidYarns_5 : decode cX9_laidYarns 5 = .ok (.aload_n 0, 1) := by decide +kernel
theorem dX9_laidYarns_6 : decode cX9_laidYarns 6 = .ok (.getfield 25, 3) := by decide +kernel
theorem dX9_laidYarns_9 : decode cX9_laidYarns 9 = .ok (.if_icmp .ge 25, 3) := by decide +kernel
theorem dX9_laidYarns_12 : decode cX9_laidYarns 12 = .ok (.iload_n 1, 1) := by decide +kernel
theorem dX9_laidYarns_13 : decode cX9_laidYarns 13 = .ok (.aload_n 0, 1) := by decide +kernel
theorem dX9_laidYarns_14 : decode cX9_laidYarns 14 = .ok (.iload_n 2, 1) := by decide +kernel
theorem dX9_laidYarns_15 : decode cX9_laidYarns 15 = .ok (.invokevirtual 80, 3) := by decide +kernel
theorem dX9_laidYarns_18 : decode cX9_laidYarns 18 = .ok (.ifCond .eq 7, 3) := by decide +kernel
theorem dX9_laidYarns_21 : decode cX9_laidYarns 21 = .ok (.iconst 1, 1) := by decide +kernel
theorem dX9_laidYarns_22 : decode cX9_laidYarns 22 = .ok (.goto 4, 3) := by decide +kernel
theorem dX9_laidYarns_25 : decode cX9_laidYarns 25 = .ok (.iconst 0, 1) := by decide +kernel
theorem dX9_laidYarns_26 : decode cX9_laidYarns 26 = .ok (.iadd, 1) := by decide +kernel
theorem dX9_laidYarns_27 : decode cX9_laidYarns 27 = .ok (.istore_n 1, 1) := by decide +kernel
theorem dX9_laidYarns_28 : decode cX9_laidYarns 28 = .ok (.iinc 2 1, 3) := by decide +kernel
theorem dX9_laidYarns_31 : decode cX9_laidYarns 31 = .ok (.goto (-27), 3) := by decide +kernel
theorem dX9_laidYarns_34 : decode cX9_laidYarns 34 = .ok (.iload_n 1, 1) := by decide +kernel
theorem dX9_laidYarns_35 : decode cX9_laidYarns 35 = .ok (.ireturn, 1) := by decide +kernel
theorem dX9_brokenVows_0 : decode cX9_brokenVows 0 = .ok (.iconst 0, 1) := by decide +kernel
theorem dX9_brokenVows_1 : decode cX9_brokenVows 1 = .ok (.istore_n 1, 1) := by decide +kernel
theorem dX9_brokenVows_2 : decode cX9_brokenVows 2 = .ok (.iconst 0, 1) := by decide +kernel
theorem dX9_brokenVows_3 : decode cX9_brokenVows 3 = .ok (.istore_n 2, 1) := by decide +kernel
theorem dX9_brokenVows_4 : decode cX9_brokenVows 4 = .ok (.iload_n 2, 1) := by decide +kernel
theorem dX9_brokenVows_5 : decode cX9_brokenVows 5 = .ok (.aload_n 0, 1) := by decide +kernel
theorem dX9_brokenVows_6 : decode cX9_brokenVows 6 = .ok (.getfield 25, 3) := by decide +kernel
theorem dX9_brokenVows_9 : decode cX9_brokenVows 9 = .ok (.if_icmp .ge 30, 3) := by decide +kernel
theorem dX9_brokenVows_12 : decode cX9_brokenVows 12 = .ok (.iload_n 1, 1) := by decide +kernel
theorem dX9_brokenVows_13 : decode cX9_brokenVows 13 = .ok (.aload_n 0, 1) := by decide +kernel
theorem dX9_brokenVows_14 : decode cX9_brokenVows 14 = .ok (.getfield 44, 3) := by decide +kernel
theorem dX9_brokenVows_17 : decode cX9_brokenVows 17 = .ok (.bipush 9, 2) := by decide +kernel
theorem dX9_brokenVows_19 : decode cX9_brokenVows 19 = .ok (.iload_n 2, 1) := by decide +kernel
theorem dX9_brokenVows_20 : decode cX9_brokenVows 20 = .ok (.iadd, 1) := by decide +kernel
theorem dX9_brokenVows_21 : decode cX9_brokenVows 21 = .ok (.iaload, 1) := by decide +kernel
theorem dX9_brokenVows_22 : decode cX9_brokenVows 22 = .ok (.iconst 2, 1) := by decide +kernel
theorem dX9_brokenVows_23 : decode cX9_brokenVows 23 = .ok (.if_icmp .ne 7, 3) := by decide +kernel
theorem dX9_brokenVows_26 : decode cX9_brokenVows 26 = .ok (.iconst 1, 1) := by decide +kernel
theorem dX9_brokenVows_27 : decode cX9_brokenVows 27 = .ok (.goto 4, 3) := by decide +kernel
theorem dX9_brokenVows_30 : decode cX9_brokenVows 30 = .ok (.iconst 0, 1) := by decide +kernel
theorem dX9_brokenVows_31 : decode cX9_brokenVows 31 = .ok (.iadd, 1) := by decide +kernel
theorem dX9_brokenVows_32 : decode cX9_brokenVows 32 = .ok (.istore_n 1, 1) := by decide +kernel
theorem dX9_brokenVows_33 : decode cX9_brokenVows 33 = .ok (.iinc 2 1, 3) := by decide +kernel
theorem dX9_brokenVows_36 : decode cX9_brokenVows 36 = .ok (.goto (-32), 3) := by decide +kernel
theorem dX9_brokenVows_39 : decode cX9_brokenVows 39 = .ok (.iload_n 1, 1) := by decide +kernel
theorem dX9_brokenVows_40 : decode cX9_brokenVows 40 = .ok (.ireturn, 1) := by decide +kernel
theorem dX10_init_0 : decode cX10_init 0 = .ok (.aload_n 0, 1) := by decide +kernel
theorem dX10_init_1 : decode cX10_init 1 = .ok (.invokespecial 1, 3) := by decide +kernel
theorem dX10_init_4 : decode cX10_init 4 = .ok (.aload_n 0, 1) := by decide +kernel
theorem dX10_init_5 : decode cX10_init 5 = .ok (.new 7, 3) := by decide +kernel
theorem dX10_init_8 : decode cX10_init 8 = .ok (.dup, 1) := by decide +kernel
theorem dX10_init_9 : decode cX10_init 9 = .ok (.invokespecial 9, 3) := by decide +kernel
theorem dX10_init_12 : decode cX10_init 12 = .ok (.putfield 10, 3) := by decide +kernel
theorem dX10_init_15 : decode cX10_init 15 = .ok (.aload_n 0, 1) := by decide +kernel
theorem dX10_init_16 : decode cX10_init 16 = .ok (.new 16, 3) := by decide +kernel
theorem dX10_init_19 : decode cX10_init 19 = .ok (.dup, 1) := by decide +kernel
theorem dX10_init_20 : decode cX10_init 20 = .ok (.invokespecial 18, 3) := by decide +kernel
theorem dX10_init_23 : decode cX10_init 23 = .ok (.putfield 19, 3) := by decide +kernel
theorem dX10_init_26 : decode cX10_init 26 = .ok (.aload_n 0, 1) := by decide +kernel
theorem dX10_init_27 : decode cX10_init 27 = .ok (.new 23, 3) := by decide +kernel
theorem dX10_init_30 : decode cX10_init 30 = .ok (.dup, 1) := by decide +kernel
theorem dX10_init_31 : decode cX10_init 31 = .ok (.invokespecial 25, 3) := by decide +kernel
theorem dX10_init_34 : decode cX10_init 34 = .ok (.putfield 26, 3) := by decide +kernel
theorem dX10_init_37 : decode cX10_init 37 = .ok (.aload_n 0, 1) := by decide +kernel
theorem dX10_init_38 : decode cX10_init 38 = .ok (.new 23, 3) := by decide +kernel
theorem dX10_init_41 : decode cX10_init 41 = .ok (.dup, 1) := by decide +kernel
theorem dX10_init_42 : decode cX10_init 42 = .ok (.invokespecial 25, 3) := by decide +kernel
theorem dX10_init_45 : decode cX10_init 45 = .ok (.putfield 30, 3) := by decide +kernel
theorem dX10_init_48 : decode cX10_init 48 = .ok (.aload_n 0, 1) := by decide +kernel
theorem dX10_init_49 : decode cX10_init 49 = .ok (.iconst 2, 1) := by decide +kernel
theorem dX10_init_50 : decode cX10_init 50 = .ok (.anewarray 23, 3) := by decide +kernel
theorem dX10_init_53 : decode cX10_init 53 = .ok (.putfield 33, 3) := by decide +kernel
theorem dX10_init_56 : decode cX10_init 56 = .ok (.aload_n 0, 1) := by decide +kernel
theorem dX10_init_57 : decode cX10_init 57 = .ok (.new 37, 3) := by decide +kernel
theorem dX10_init_60 : decode cX10_init 60 = .ok (.dup, 1) := by decide +kernel
theorem dX10_init_61 : decode cX10_init 61 = .ok (.invokespecial 39, 3) := by decide +kernel
theorem dX10_init_64 : decode cX10_init 64 = .ok (.putfield 40, 3) := by decide +kernel
theorem dX10_init_67 : decode cX10_init 67 = .ok (.aload_n 0, 1) := by decide +kernel
theorem dX10_init_68 : decode cX10_init 68 = .ok (.new 44, 3) := by decide +kernel
theorem dX10_init_71 : decode cX10_init 71 = .ok (.dup, 1) := by decide +kernel
theorem dX10_init_72 : decode cX10_init 72 = .ok (.invokespecial 46, 3) := by decide +kernel
theorem dX10_init_75 : decode cX10_init 75 = .ok (.putfield 47, 3) := by decide +kernel
theorem dX10_init_78 : decode cX10_init 78 = .ok (.aload_n 0, 1) := by decide +kernel
theorem dX10_init_79 : decode cX10_init 79 = .ok (.new 51, 3) := by decide +kernel
theorem dX10_init_82 : decode cX10_init 82 = .ok (.dup, 1) := by decide +kernel
theorem dX10_init_83 : decode cX10_init 83 = .ok (.invokespecial 53, 3) := by decide +kernel
theorem dX10_init_86 : decode cX10_init 86 = .ok (.putfield 54, 3) := by decide +kernel
theorem dX10_init_89 : decode cX10_init 89 = .ok (.aload_n 0, 1) := by decide +kernel
theorem dX10_init_90 : decode cX10_init 90 = .ok (.new 58, 3) := by decide +kernel
theorem dX10_init_93 : decode cX10_init 93 = .ok (.dup, 1) := by decide +kernel
theorem dX10_init_94 : decode cX10_init 94 = .ok (.invokespecial 60, 3) := by decide +kernel
theorem dX10_init_97 : decode cX10_init 97 = .ok (.putfield 61, 3) := by decide +kernel
theorem dX10_init_100 : decode cX10_init 100 = .ok (.aload_n 0, 1) := by decide +kernel
theorem dX10_init_101 : decode cX10_init 101 = .ok (.new 65, 3) := by decide +kernel
theorem dX10_init_104 : decode cX10_init 104 = .ok (.dup, 1) := by decide +kernel
theorem dX10_init_105 : decode cX10_init 105 = .ok (.invokespecial 67, 3) := by decide +kernel
theorem dX10_init_108 : decode cX10_init 108 = .ok (.putfield 68, 3) := by decide +kernel
theorem dX10_init_111 : decode cX10_init 111 = .ok (.aload_n 0, 1) := by decide +kernel
theorem dX10_init_112 : decode cX10_init 112 = .ok (.iconst 0, 1) := by decide +kernel
theorem dX10_init_113 : decode cX10_init 113 = .ok (.putfield 72, 3) := by decide +kernel
theorem dX10_init_116 : decode cX10_init 116 = .ok (.aload_n 0, 1) := by decide +kernel
theorem dX10_init_117 : decode cX10_init 117 = .ok (.iconst 0, 1) := by decide +kernel
theorem dX10_init_118 : decode cX10_init 118 = .ok (.putfield 76, 3) := by decide +kernel
theorem dX10_init_121 : decode cX10_init 121 = .ok (.return_, 1) := by decide +kernel
theorem dX10_row_0 : decode cX10_row 0 = .ok (.aload_n 0, 1) := by decide +kernel
theorem dX10_row_1 : decode cX10_row 1 = .ok (.getfield 10, 3) := by decide +kernel
theorem dX10_row_4 : decode cX10_row 4 = .ok (.iload_n 1, 1) := by decide +kernel
theorem dX10_row_5 : decode cX10_row 5 = .ok (.invokevirtual 79, 3) := by decide +kernel
theorem dX10_row_8 : decode cX10_row 8 = .ok (.ifCond .eq 18, 3) := by decide +kernel
theorem dX10_row_11 : decode cX10_row 11 = .ok (.iload_n 2, 1) := by decide +kernel
theorem dX10_row_12 : decode cX10_row 12 = .ok (.ifCond .lt 14, 3) := by decide +kernel
theorem dX10_row_15 : decode cX10_row 15 = .ok (.iload_n 2, 1) := by decide +kernel
theorem dX10_row_16 : decode cX10_row 16 = .ok (.iconst 2, 1) := by decide +kernel
theorem dX10_row_17 : decode cX10_row 17 = .ok (.if_icmp .gt 9, 3) := by decide +kernel
theorem dX10_row_20 : decode cX10_row 20 = .ok (.iload_n 3, 1) := by decide +kernel
theorem dX10_row_21 : decode cX10_row 21 = .ok (.bipush 40, 2) := by decide +kernel
theorem dX10_row_23 : decode cX10_row 23 = .ok (.if_icmp .le 6, 3) := by decide +kernel
theorem dX10_row_26 : decode cX10_row 26 = .ok (.ldc 83, 2) := by decide +kernel
theorem dX10_row_28 : decode cX10_row 28 = .ok (.ireturn, 1) := by decide +kernel
theorem dX10_row_29 : decode cX10_row 29 = .ok (.iload_n 3, 1) := by decide +kernel
theorem dX10_row_30 : decode cX10_row 30 = .ok (.ifCond .ge 9, 3) := by decide +kernel
theorem dX10_row_33 : decode cX10_row 33 = .ok (.aload_n 0, 1) := by decide +kernel
theorem dX10_row_34 : decode cX10_row 34 = .ok (.iconst 4, 1) := by decide +kernel
theorem dX10_row_35 : decode cX10_row 35 = .ok (.invokevirtual 84, 3) := by decide +kernel
theorem dX10_row_38 : decode cX10_row 38 = .ok (.ireturn, 1) := by decide +kernel
theorem dX10_row_39 : decode cX10_row 39 = .ok (.aload_n 0, 1) := by decide +kernel
theorem dX10_row_40 : decode cX10_row 40 = .ok (.getfield 10, 3) := by decide +kernel
theorem dX10_row_43 : decode cX10_row 43 = .ok (.iload_n 1, 1) := by decide +kernel
theorem dX10_row_44 : decode cX10_row 44 = .ok (.iload_n 2, 1) := by decide +kernel
theorem dX10_row_45 : decode cX10_row 45 = .ok (.iload_n 3, 1) := by decide +kernel
theorem dX10_row_46 : decode cX10_row 46 = .ok (.invokevirtual 88, 3) := by decide +kernel
theorem dX10_row_49 : decode cX10_row 49 = .ok (.aload_n 0, 1) := by decide +kernel
theorem dX10_row_50 : decode cX10_row 50 = .ok (.iload_n 3, 1) := by decide +kernel
theorem dX10_row_51 : decode cX10_row 51 = .ok (.invokevirtual 92, 3) := by decide +kernel
theorem dX10_row_54 : decode cX10_row 54 = .ok (.ireturn, 1) := by decide +kernel
theorem dX10_set_0 : decode cX10_set 0 = .ok (.aload_n 0, 1) := by decide +kernel
theorem dX10_set_1 : decode cX10_set 1 = .ok (.getfield 10, 3) := by decide +kernel
theorem dX10_set_4 : decode cX10_set 4 = .ok (.iload_n 1, 1) := by decide +kernel
theorem dX10_set_5 : decode cX10_set 5 = .ok (.invokevirtual 79, 3) := by decide +kernel
theorem dX10_set_8 : decode cX10_set 8 = .ok (.ifCond .ne 6, 3) := by decide +kernel
theorem dX10_set_11 : decode cX10_set 11 = .ok (.ldc 83, 2) := by decide +kernel
theorem dX10_set_13 : decode cX10_set 13 = .ok (.ireturn, 1) := by decide +kernel
theorem dX10_set_14 : decode cX10_set 14 = .ok (.aload_n 0, 1) := by decide +kernel
theorem dX10_set_15 : decode cX10_set 15 = .ok (.getfield 10, 3) := by decide +kernel
theorem dX10_set_18 : decode cX10_set 18 = .ok (.iload_n 1, 1) := by decide +kernel
theorem dX10_set_19 : decode cX10_set 19 = .ok (.invokevirtual 95, 3) := by decide +kernel
theorem dX10_set_22 : decode cX10_set 22 = .ok (.ifCond .eq 9, 3) := by decide +kernel
theorem dX10_set_25 : decode cX10_set 25 = .ok (.aload_n 0, 1) := by decide +kernel
theorem dX10_set_26 : decode cX10_set 26 = .ok (.iconst 1, 1) := by decide +kernel
theorem dX10_set_27 : decode cX10_set 27 = .ok (.invokevirtual 84, 3) := by decide +kernel
theorem dX10_set_30 : decode cX10_set 30 = .ok (.ireturn, 1) := by decide +kernel
theorem dX10_set_31 : decode cX10_set 31 = .ok (.aload_n 0, 1) := by decide +kernel
theorem dX10_set_32 : decode cX10_set 32 = .ok (.getfield 10, 3) := by decide +kernel
theorem dX10_set_35 : decode cX10_set 35 = .ok (.iload_n 1, 1) := by decide +kernel
theorem dX10_set_36 : decode cX10_set 36 = .ok (.iload_n 2, 1) := by decide +kernel
theorem dX10_set_37 : decode cX10_set 37 = .ok (.iconst 1, 1) := by decide +kernel
theorem dX10_set_38 : decode cX10_set 38 = .ok (.invokevirtual 98, 3) := by decide +kernel
theorem dX10_set_41 : decode cX10_set 41 = .ok (.ifCond .ne 9, 3) := by decide +kernel
theorem dX10_set_44 : decode cX10_set 44 = .ok (.aload_n 0, 1) := by decide +kernel
theorem dX10_set_45 : decode cX10_set 45 = .ok (.iconst 2, 1) := by decide +kernel
theorem dX10_set_46 : decode cX10_set 46 = .ok (.invokevirtual 84, 3) := by decide +kernel
theorem dX10_set_49 : decode cX10_set 49 = .ok (.ireturn, 1) := by decide +kernel
theorem dX10_set_50 : decode cX10_set 50 = .ok (.aload_n 0, 1) := by decide +kernel
theorem dX10_set_51 : decode cX10_set 51 = .ok (.aload_n 0, 1) := by decide +kernel
theorem dX10_set_52 : decode cX10_set 52 = .ok (.getfield 10, 3) := by decide +kernel
theorem dX10_set_55 : decode cX10_set 55 = .ok (.iload_n 1, 1) := by decide +kernel
theorem dX10_set_56 : decode cX10_set 56 = .ok (.iload_n 2, 1) := by decide +kernel
theorem dX10_set_57 : decode cX10_set 57 = .ok (.iload_n 3, 1) := by decide +kernel
theorem dX10_set_58 : decode cX10_set 58 = .ok (.invokevirtual 102, 3) := by decide +kernel
theorem dX10_set_61 : decode cX10_set 61 = .ok (.invokevirtual 92, 3) := by decide +kernel
theorem dX10_set_64 : decode cX10_set 64 = .ok (.ireturn, 1) := by decide +kernel
theorem dX10_copy_0 : decode cX10_copy 0 = .ok (.aload_n 0, 1) := by decide +kernel
theorem dX10_copy_1 : decode cX10_copy 1 = .ok (.getfield 10, 3) := by decide +kernel
theorem dX10_copy_4 : decode cX10_copy 4 = .ok (.iload_n 1, 1) := by decide +kernel
theorem dX10_copy_5 : decode cX10_copy 5 = .ok (.invokevirtual 79, 3) := by decide +kernel
theorem dX10_copy_8 : decode cX10_copy 8 = .ok (.ifCond .eq 14, 3) := by decide +kernel
theorem dX10_copy_11 : decode cX10_copy 11 = .ok (.aload_n 0, 1) := by decide +kernel
theorem dX10_copy_12 : decode cX10_copy 12 = .ok (.getfield 10, 3) := by decide +kernel
theorem dX10_copy_15 : decode cX10_copy 15 = .ok (.iload_n 3, 1) := by decide +kernel
theorem dX10_copy_16 : decode cX10_copy 16 = .ok (.invokevirtual 79, 3) := by decide +kernel
theorem dX10_copy_19 : decode cX10_copy 19 = .ok (.ifCond .ne 6, 3) := by decide +kernel
theorem dX10_copy_22 : decode cX10_copy 22 = .ok (.ldc 83, 2) := by decide +kernel
theorem dX10_copy_24 : decode cX10_copy 24 = .ok (.ireturn, 1) := by decide +kernel
theorem dX10_copy_25 : decode cX10_copy 25 = .ok (.aload_n 0, 1) := by decide +kernel
theorem dX10_copy_26 : decode cX10_copy 26 = .ok (.getfield 10, 3) := by decide +kernel
theorem dX10_copy_29 : decode cX10_copy 29 = .ok (.iload_n 1, 1) := by decide +kernel
theorem dX10_copy_30 : decode cX10_copy 30 = .ok (.invokevirtual 95, 3) := by decide +kernel
theorem dX10_copy_33 : decode cX10_copy 33 = .ok (.ifCond .ne 14, 3) := by decide +kernel
theorem dX10_copy_36 : decode cX10_copy 36 = .ok (.aload_n 0, 1) := by decide +kernel
theorem dX10_copy_37 : decode cX10_copy 37 = .ok (.getfield 10, 3) := by decide +kernel
theorem dX10_copy_40 : decode cX10_copy 40 = .ok (.iload_n 3, 1) := by decide +kernel
theorem dX10_copy_41 : decode cX10_copy 41 = .ok (.invokevirtual 95, 3) := by decide +kernel
theorem dX10_copy_44 : decode cX10_copy 44 = .ok (.ifCond .eq 9, 3) := by decide +kernel
theorem dX10_copy_47 : decode cX10_copy 47 = .ok (.aload_n 0, 1) := by decide +kernel
theorem dX10_copy_48 : decode cX10_copy 48 = .ok (.iconst 1, 1) := by decide +kernel
theorem dX10_copy_49 : decode cX10_copy 49 = .ok (.invokevirtual 84, 3) := by decide +kernel
theorem dX10_copy_52 : decode cX10_copy 52 = .ok (.ireturn, 1) := by decide +kernel
theorem dX10_copy_53 : decode cX10_copy 53 = .ok (.aload_n 0, 1) := by decide +kernel
theorem dX10_copy_54 : decode cX10_copy 54 = .ok (.getfield 10, 3) := by decide +kernel
theorem dX10_copy_57 : decode cX10_copy 57 = .ok (.iload_n 1, 1) := by decide +kernel
theorem dX10_copy_58 : decode cX10_copy 58 = .ok (.invokevirtual 106, 3) := by decide +kernel
theorem dX10_copy_61 : decode cX10_copy 61 = .ok (.aload_n 0, 1) := by decide +kernel
theorem dX10_copy_62 : decode cX10_copy 62 = .ok (.getfield 10, 3) := by decide +kernel
theorem dX10_copy_65 : decode cX10_copy 65 = .ok (.iload_n 3, 1) := by decide +kernel
theorem dX10_copy_66 : decode cX10_copy 66 = .ok (.invokevirtual 106, 3) := by decide +kernel
theorem dX10_copy_69 : decode cX10_copy 69 = .ok (.if_icmp .eq 9, 3) := by decide +kernel
theorem dX10_copy_72 : decode cX10_copy 72 = .ok (.aload_n 0, 1) := by decide +kernel
theorem dX10_copy_73 : decode cX10_copy 73 = .ok (.iconst 5, 1) := by decide +kernel
theorem dX10_copy_74 : decode cX10_copy 74 = .ok (.invokevirtual 84, 3) := by decide +kernel
theorem dX10_copy_77 : decode cX10_copy 77 = .ok (.ireturn, 1) := by decide +kernel
theorem dX10_copy_78 : decode cX10_copy 78 = .ok (.aload_n 0, 1) := by decide +kernel
theorem dX10_copy_79 : decode cX10_copy 79 = .ok (.getfield 10, 3) := by decide +kernel
theorem dX10_copy_82 : decode cX10_copy 82 = .ok (.iload_n 1, 1) := by decide +kernel
theorem dX10_copy_83 : decode cX10_copy 83 = .ok (.iload_n 2, 1) := by decide +kernel
theorem dX10_copy_84 : decode cX10_copy 84 = .ok (.iload 5, 2) := by decide +kernel
theorem dX10_copy_86 : decode cX10_copy 86 = .ok (.invokevirtual 98, 3) := by decide +kernel
theorem dX10_copy_89 : decode cX10_copy 89 = .ok (.ifCond .eq 18, 3) := by decide +kernel
theorem dX10_copy_92 : decode cX10_copy 92 = .ok (.aload_n 0, 1) := by decide +kernel
theorem dX10_copy_93 : decode cX10_copy 93 = .ok (.getfield 10, 3) := by decide +kernel
theorem dX10_copy_96 : decode cX10_copy 96 = .ok (.iload_n 3, 1) := by decide +kernel
theorem dX10_copy_97 : decode cX10_copy 97 = .ok (.iload 4, 2) := by decide +kernel
theorem dX10_copy_99 : decode cX10_copy 99 = .ok (.iload 5, 2) := by decide +kernel
theorem dX10_copy_101 : decode cX10_copy 101 = .ok (.invokevirtual 98, 3) := by decide +kernel
theorem dX10_copy_104 : decode cX10_copy 104 = .ok (.ifCond .ne 9, 3) := by decide +kernel
theorem dX10_copy_107 : decode cX10_copy 107 = .ok (.aload_n 0, 1) := by decide +kernel
theorem dX10_copy_108 : decode cX10_copy 108 = .ok (.iconst 2, 1) := by decide +kernel
theorem dX10_copy_109 : decode cX10_copy 109 = .ok (.invokevirtual 84, 3) := by decide +kernel
theorem dX10_copy_112 : decode cX10_copy 112 = .ok (.ireturn, 1) := by decide +kernel
theorem dX10_copy_113 : decode cX10_copy 113 = .ok (.aload_n 0, 1) := by decide +kernel
theorem dX10_copy_114 : decode cX10_copy 114 = .ok (.getfield 10, 3) := by decide +kernel
theorem dX10_copy_117 : decode cX10_copy 117 = .ok (.iload_n 1, 1) := by decide +kernel
theorem dX10_copy_118 : decode cX10_copy 118 = .ok (.iload_n 2, 1) := by decide +kernel
theorem dX10_copy_119 : decode cX10_copy 119 = .ok (.iload_n 3, 1) := by decide +kernel
theorem dX10_copy_120 : decode cX10_copy 120 = .ok (.iload 4, 2) := by decide +kernel
theorem dX10_copy_122 : decode cX10_copy 122 = .ok (.iload 5, 2) := by decide +kernel
theorem dX10_copy_124 : decode cX10_copy 124 = .ok (.invokevirtual 109, 3) := by decide +kernel
theorem dX10_copy_127 : decode cX10_copy 127 = .ok (.aload_n 0, 1) := by decide +kernel
theorem dX10_copy_128 : decode cX10_copy 128 = .ok (.iload 5, 2) := by decide +kernel
theorem dX10_copy_130 : decode cX10_copy 130 = .ok (.invokevirtual 92, 3) := by decide +kernel
theorem dX10_copy_133 : decode cX10_copy 133 = .ok (.ireturn, 1) := by decide +kernel
theorem dX10_drop_0 : decode cX10_drop 0 = .ok (.aload_n 0, 1) := by decide +kernel
theorem dX10_drop_1 : decode cX10_drop 1 = .ok (.getfield 10, 3) := by decide +kernel
theorem dX10_drop_4 : decode cX10_drop 4 = .ok (.iload_n 1, 1) := by decide +kernel
theorem dX10_drop_5 : decode cX10_drop 5 = .ok (.invokevirtual 79, 3) := by decide +kernel
theorem dX10_drop_8 : decode cX10_drop 8 = .ok (.ifCond .ne 6, 3) := by decide +kernel
theorem dX10_drop_11 : decode cX10_drop 11 = .ok (.ldc 83, 2) := by decide +kernel
theorem dX10_drop_13 : decode cX10_drop 13 = .ok (.ireturn, 1) := by decide +kernel
theorem dX10_drop_14 : decode cX10_drop 14 = .ok (.aload_n 0, 1) := by decide +kernel
theorem dX10_drop_15 : decode cX10_drop 15 = .ok (.getfield 10, 3) := by decide +kernel
theorem dX10_drop_18 : decode cX10_drop 18 = .ok (.iload_n 1, 1) := by decide +kernel
theorem dX10_drop_19 : decode cX10_drop 19 = .ok (.invokevirtual 95, 3) := by decide +kernel
theorem dX10_drop_22 : decode cX10_drop 22 = .ok (.ifCond .eq 9, 3) := by decide +kernel
theorem dX10_drop_25 : decode cX10_drop 25 = .ok (.aload_n 0, 1) := by decide +kernel
theorem dX10_drop_26 : decode cX10_drop 26 = .ok (.iconst 1, 1) := by decide +kernel
theorem dX10_drop_27 : decode cX10_drop 27 = .ok (.invokevirtual 84, 3) := by decide +kernel
theorem dX10_drop_30 : decode cX10_drop 30 = .ok (.ireturn, 1) := by decide +kernel
theorem dX10_drop_31 : decode cX10_drop 31 = .ok (.aload_n 0, 1) := by decide +kernel
theorem dX10_drop_32 : decode cX10_drop 32 = .ok (.getfield 10, 3) := by decide +kernel
theorem dX10_drop_35 : decode cX10_drop 35 = .ok (.iload_n 1, 1) := by decide +kernel
theorem dX10_drop_36 : decode cX10_drop 36 = .ok (.invokevirtual 113, 3) := by decide +kernel
theorem dX10_drop_39 : decode cX10_drop 39 = .ok (.istore_n 2, 1) := by decide +kernel
theorem dX10_drop_40 : decode cX10_drop 40 = .ok (.aload_n 0, 1) := by decide +kernel
theorem dX10_drop_41 : decode cX10_drop 41 = .ok (.getfield 10, 3) := by decide +kernel
theorem dX10_drop_44 : decode cX10_drop 44 = .ok (.iload_n 1, 1) := by decide +kernel
theorem dX10_drop_45 : decode cX10_drop 45 = .ok (.invokevirtual 116, 3) := by decide +kernel
theorem dX10_drop_48 : decode cX10_drop 48 = .ok (.aload_n 0, 1) := by decide +kernel
theorem dX10_drop_49 : decode cX10_drop 49 = .ok (.iload_n 2, 1) := by decide +kernel
theorem dX10_drop_50 : decode cX10_drop 50 = .ok (.invokevirtual 92, 3) := by decide +kernel
theorem dX10_drop_53 : decode cX10_drop 53 = .ok (.ireturn, 1) := by decide +kernel
theorem dX10_feed_0 : decode cX10_feed 0 = .ok (.iload_n 3, 1) := by decide +kernel
theorem dX10_feed_1 : decode cX10_feed 1 = .ok (.iconst 1, 1) := by decide +kernel
theorem dX10_feed_2 : decode cX10_feed 2 = .ok (.if_icmp .lt 9, 3) := by decide +kernel
theorem dX10_feed_5 : decode cX10_feed 5 = .ok (.iload_n 3, 1) := by decide +kernel
theorem dX10_feed_6 : decode cX10_feed 6 = .ok (.bipush 8, 2) := by decide +kernel
theorem dX10_feed_8 : decode cX10_feed 8 = .ok (.if_icmp .le 6, 3) := by decide +kernel
theorem dX10_feed_11 : decode cX10_feed 11 = .ok (.ldc 83, 2) := by decide +kernel
theorem dX10_feed_13 : decode cX10_feed 13 = .ok (.ireturn, 1) := by decide +kernel
theorem dX10_feed_14 : decode cX10_feed 14 = .ok (.aload_n 0, 1) := by decide +kernel
theorem dX10_feed_15 : decode cX10_feed 15 = .ok (.getfield 19, 3) := by decide +kernel
theorem dX10_feed_18 : decode cX10_feed 18 = .ok (.getfield 120, 3) := by decide +kernel
theorem dX10_feed_21 : decode cX10_feed 21 = .ok (.iload_n 3, 1) := by decide +kernel
theorem dX10_feed_22 : decode cX10_feed 22 = .ok (.invokevirtual 124, 3) := by decide +kernel
theorem dX10_feed_25 : decode cX10_feed 25 = .ok (.ifCond .ne 6, 3) := by decide +kernel
theorem dX10_feed_28 : decode cX10_feed 28 = .ok (.ldc 129, 2) := by decide +kernel
theorem dX10_feed_30 : decode cX10_feed 30 = .ok (.ireturn, 1) := by decide +kernel
theorem dX10_feed_31 : decode cX10_feed 31 = .ok (.iload_n 3, 1) := by decide +kernel
theorem dX10_feed_32 : decode cX10_feed 32 = .ok (.iconst 1, 1) := by decide +kernel
theorem dX10_feed_33 : decode cX10_feed 33 = .ok (.isub, 1) := by decide +kernel
theorem dX10_feed_34 : decode cX10_feed 34 = .ok (.istore 4, 2) := by decide +kernel
theorem dX10_feed_36 : decode cX10_feed 36 = .ok (.iload 4, 2) := by decide +kernel
theorem dX10_feed_38 : decode cX10_feed 38 = .ok (.ifCond .lt 28, 3) := by decide +kernel
theorem dX10_feed_41 : decode cX10_feed 41 = .ok (.aload_n 0, 1) := by decide +kernel
theorem dX10_feed_42 : decode cX10_feed 42 = .ok (.getfield 19, 3) := by decide +kernel
theorem dX10_feed_45 : decode cX10_feed 45 = .ok (.getfield 120, 3) := by decide +kernel
theorem dX10_feed_48 : decode cX10_feed 48 = .ok (.lload_n 1, 1) := by decide +kernel
theorem dX10_feed_49 : decode cX10_feed 49 = .ok (.bipush 8, 2) := by decide +kernel
theorem dX10_feed_51 : decode cX10_feed 51 = .ok (.iload 4, 2) := by decide +kernel
theorem dX10_feed_53 : decode cX10_feed 53 = .ok (.imul, 1) := by decide +kernel
theorem dX10_feed_54 : decode cX10_feed 54 = .ok (.lshr, 1) := by decide +kernel
theorem dX10_feed_55 : decode cX10_feed 55 = .ok (.l2i, 1) := by decide +kernel
theorem dX10_feed_56 : decode cX10_feed 56 = .ok (.i2b, 1) := by decide +kernel
theorem dX10_feed_57 : decode cX10_feed 57 = .ok (.invokevirtual 130, 3) := by decide +kernel
theorem dX10_feed_60 : decode cX10_feed 60 = .ok (.iinc 4 (-1), 3) := by decide +kernel
theorem dX10_feed_63 : decode cX10_feed 63 = .ok (.goto (-27), 3) := by decide +kernel
theorem dX10_feed_66 : decode cX10_feed 66 = .ok (.aload_n 0, 1) := by decide +kernel
theorem dX10_feed_67 : decode cX10_feed 67 = .ok (.getfield 19, 3) := by decide +kernel
theorem dX10_feed_70 : decode cX10_feed 70 = .ok (.getfield 120, 3) := by decide +kernel
theorem dX10_feed_73 : decode cX10_feed 73 = .ok (.getfield 134, 3) := by decide +kernel
theorem dX10_feed_76 : decode cX10_feed 76 = .ok (.ireturn, 1) := by decide +kernel
theorem dX10_walk_0 : decode cX10_walk 0 = .ok (.aload_n 0, 1) := by decide +kernel
theorem dX10_walk_1 : decode cX10_walk 1 = .ok (.getfield 19, 3) := by decide +kernel
theorem dX10_walk_4 : decode cX10_walk 4 = .ok (.aload_n 0, 1) := by decide +kernel
theorem dX10_walk_5 : decode cX10_walk 5 = .ok (.getfield 30, 3) := by decide +kernel
theorem dX10_walk_8 : decode cX10_walk 8 = .ok (.invokevirtual 137, 3) := by decide +kernel
theorem dX10_walk_11 : decode cX10_walk 11 = .ok (.aload_n 0, 1) := by decide +kernel
theorem dX10_walk_12 : decode cX10_walk 12 = .ok (.getfield 19, 3) := by decide +kernel
theorem dX10_walk_15 : decode cX10_walk 15 = .ok (.getfield 120, 3) := by decide +kernel
theorem dX10_walk_18 : decode cX10_walk 18 = .ok (.iconst 0, 1) := by decide +kernel
theorem dX10_walk_19 : decode cX10_walk 19 = .ok (.putfield 134, 3) := by decide +kernel
theorem dX10_walk_22 : decode cX10_walk 22 = .ok (.aload_n 0, 1) := by decide +kernel
theorem dX10_walk_23 : decode cX10_walk 23 = .ok (.getfield 19, 3) := by decide +kernel
theorem dX10_walk_26 : decode cX10_walk 26 = .ok (.getfield 141, 3) := by decide +kernel
theorem dX10_walk_29 : decode cX10_walk 29 = .ok (.ifCond .eq 28, 3) := by decide +kernel
theorem dX10_walk_32 : decode cX10_walk 32 = .ok (.aload_n 0, 1) := by decide +kernel
theorem dX10_walk_33 : decode cX10_walk 33 = .ok (.aload_n 0, 1) := by decide +kernel
theorem dX10_walk_34 : decode cX10_walk 34 = .ok (.getfield 19, 3) := by decide +kernel
theorem dX10_walk_37 : decode cX10_walk 37 = .ok (.getfield 141, 3) := by decide +kernel
theorem dX10_walk_40 : decode cX10_walk 40 = .ok (.putfield 72, 3) := by decide +kernel
theorem dX10_walk_43 : decode cX10_walk 43 = .ok (.ldc 143, 2) := by decide +kernel
theorem dX10_walk_45 : decode cX10_walk 45 = .ok (.aload_n 0, 1) := by decide +kernel
theorem dX10_walk_46 : decode cX10_walk 46 = .ok (.getfield 19, 3) := by decide +kernel
theorem dX10_walk_49 : decode cX10_walk 49 = .ok (.getfield 120, 3) := by decide +kernel
theorem dX10_walk_52 : decode cX10_walk 52 = .ok (.getfield 144, 3) := by decide +kernel
theorem dX10_walk_55 : decode cX10_walk 55 = .ok (.isub, 1) := by decide +kernel
theorem dX10_walk_56 : decode cX10_walk 56 = .ok (.ireturn, 1) := by decide +kernel
theorem dX10_walk_57 : decode cX10_walk 57 = .ok (.aload_n 0, 1) := by decide +kernel
theorem dX10_walk_58 : decode cX10_walk 58 = .ok (.getfield 26, 3) := by decide +kernel
theorem dX10_walk_61 : decode cX10_walk 61 = .ok (.aload_n 0, 1) := by decide +kernel
theorem dX10_walk_62 : decode cX10_walk 62 = .ok (.getfield 30, 3) := by decide +kernel
theorem dX10_walk_65 : decode cX10_walk 65 = .ok (.invokevirtual 147, 3) := by decide +kernel
theorem dX10_walk_68 : decode cX10_walk 68 = .ok (.aload_n 0, 1) := by decide +kernel
theorem dX10_walk_69 : decode cX10_walk 69 = .ok (.getfield 40, 3) := by decide +kernel
theorem dX10_walk_72 : decode cX10_walk 72 = .ok (.invokevirtual 150, 3) := by decide +kernel
theorem dX10_walk_75 : decode cX10_walk 75 = .ok (.aload_n 0, 1) := by decide +kernel
theorem dX10_walk_76 : decode cX10_walk 76 = .ok (.getfield 26, 3) := by decide +kernel
theorem dX10_walk_79 : decode cX10_walk 79 = .ok (.getfield 153, 3) := by decide +kernel
theorem dX10_walk_82 : decode cX10_walk 82 = .ok (.ireturn, 1) := by decide +kernel
theorem dX10_fault_0 : decode cX10_fault 0 = .ok (.aload_n 0, 1) := by decide +kernel
theorem dX10_fault_1 : decode cX10_fault 1 = .ok (.getfield 72, 3) := by decide +kernel
theorem dX10_fault_4 : decode cX10_fault 4 = .ok (.ireturn, 1) := by decide +kernel
theorem dX10_lay_0 : decode cX10_lay 0 = .ok (.aload_n 0, 1) := by decide +kernel
theorem dX10_lay_1 : decode cX10_lay 1 = .ok (.getfield 26, 3) := by decide +kernel
theorem dX10_lay_4 : decode cX10_lay 4 = .ok (.iload_n 1, 1) := by decide +kernel
theorem dX10_lay_5 : decode cX10_lay 5 = .ok (.invokevirtual 156, 3) := by decide +kernel
theorem dX10_lay_8 : decode cX10_lay 8 = .ok (.ifCond .eq 13, 3) := by decide +kernel
theorem dX10_lay_11 : decode cX10_lay 11 = .ok (.iload_n 2, 1) := by decide +kernel
theorem dX10_lay_12 : decode cX10_lay 12 = .ok (.iconst (-1), 1) := by decide +kernel
theorem dX10_lay_13 : decode cX10_lay 13 = .ok (.if_icmp .lt 8, 3) := by decide +kernel
theorem dX10_lay_16 : decode cX10_lay 16 = .ok (.iload_n 2, 1) := by decide +kernel
theorem dX10_lay_17 : decode cX10_lay 17 = .ok (.iconst 3, 1) := by decide +kernel
theorem dX10_lay_18 : decode cX10_lay 18 = .ok (.if_icmp .lt 6, 3) := by decide +kernel
theorem dX10_lay_21 : decode cX10_lay 21 = .ok (.ldc 83, 2) := by decide +kernel
theorem dX10_lay_23 : decode cX10_lay 23 = .ok (.ireturn, 1) := by decide +kernel
theorem dX10_lay_24 : decode cX10_lay 24 = .ok (.aload_n 0, 1) := by decide +kernel
theorem dX10_lay_25 : decode cX10_lay 25 = .ok (.getfield 40, 3) := by decide +kernel
theorem dX10_lay_28 : decode cX10_lay 28 = .ok (.aload_n 0, 1) := by decide +kernel
theorem dX10_lay_29 : decode cX10_lay 29 = .ok (.getfield 26, 3) := by decide +kernel
theorem dX10_lay_32 : decode cX10_lay 32 = .ok (.invokevirtual 159, 3) := by decide +kernel
theorem dX10_lay_35 : decode cX10_lay 35 = .ok (.aload_n 0, 1) := by decide +kernel
theorem dX10_lay_36 : decode cX10_lay 36 = .ok (.getfield 26, 3) := by decide +kernel
theorem dX10_lay_39 : decode cX10_lay 39 = .ok (.getfield 162, 3) := by decide +kernel
theorem dX10_lay_42 : decode cX10_lay 42 = .ok (.iconst 0, 1) := by decide +kernel
theorem dX10_lay_43 : decode cX10_lay 43 = .ok (.iload_n 1, 1) := by decide +kernel
theorem dX10_lay_44 : decode cX10_lay 44 = .ok (.iadd, 1) := by decide +kernel
theorem dX10_lay_45 : decode cX10_lay 45 = .ok (.iaload, 1) := by decide +kernel
theorem dX10_lay_46 : decode cX10_lay 46 = .ok (.istore_n 3, 1) := by decide +kernel
theorem dX10_lay_47 : decode cX10_lay 47 = .ok (.aload_n 0, 1) := by decide +kernel
theorem dX10_lay_48 : decode cX10_lay 48 = .ok (.getfield 26, 3) := by decide +kernel
theorem dX10_lay_51 : decode cX10_lay 51 = .ok (.getfield 162, 3) := by decide +kernel
theorem dX10_lay_54 : decode cX10_lay 54 = .ok (.iconst 0, 1) := by decide +kernel
theorem dX10_lay_55 : decode cX10_lay 55 = .ok (.iload_n 1, 1) := by decide +kernel
theorem dX10_lay_56 : decode cX10_lay 56 = .ok (.iadd, 1) := by decide +kernel
theorem dX10_lay_57 : decode cX10_lay 57 = .ok (.iload_n 2, 1) := by decide +kernel
theorem dX10_lay_58 : decode cX10_lay 58 = .ok (.iastore, 1) := by decide +kernel
theorem dX10_lay_59 : decode cX10_lay 59 = .ok (.iload_n 3, 1) := by decide +kernel
theorem dX10_lay_60 : decode cX10_lay 60 = .ok (.ireturn, 1) := by decide +kernel
theorem dX10_pitch_0 : decode cX10_pitch 0 = .ok (.aload_n 0, 1) := by decide +kernel
theorem dX10_pitch_1 : decode cX10_pitch 1 = .ok (.getfield 26, 3) := by decide +kernel
theorem dX10_pitch_4 : decode cX10_pitch 4 = .ok (.iload_n 1, 1) := by decide +kernel
theorem dX10_pitch_5 : decode cX10_pitch 5 = .ok (.invokevirtual 156, 3) := by decide +kernel
theorem dX10_pitch_8 : decode cX10_pitch 8 = .ok (.ifCond .ne 6, 3) := by decide +kernel
theorem dX10_pitch_11 : decode cX10_pitch 11 = .ok (.ldc 83, 2) := by decide +kernel
theorem dX10_pitch_13 : decode cX10_pitch 13 = .ok (.ireturn, 1) := by decide +kernel
theorem dX10_pitch_14 : decode cX10_pitch 14 = .ok (.aload_n 0, 1) := by decide +kernel
theorem dX10_pitch_15 : decode cX10_pitch 15 = .ok (.getfield 26, 3) := by decide +kernel
theorem dX10_pitch_18 : decode cX10_pitch 18 = .ok (.getfield 162, 3) := by decide +kernel
theorem dX10_pitch_21 : decode cX10_pitch 21 = .ok (.bipush 27, 2) := by decide +kernel
theorem dX10_pitch_23 : decode cX10_pitch 23 = .ok (.iload_n 1, 1) := by decide +kernel
theorem dX10_pitch_24 : decode cX10_pitch 24 = .ok (.iadd, 1) := by decide +kernel
theorem dX10_pitch_25 : decode cX10_pitch 25 = .ok (.iaload, 1) := by decide +kernel
theorem dX10_pitch_26 : decode cX10_pitch 26 = .ok (.ifCond .eq 6, 3) := by decide +kernel
theorem dX10_pitch_29 : decode cX10_pitch 29 = .ok (.ldc 166, 2) := by decide +kernel
theorem dX10_pitch_31 : decode cX10_pitch 31 = .ok (.ireturn, 1) := by decide +kernel
theorem dX10_pitch_32 : decode cX10_pitch 32 = .ok (.aload_n 0, 1) := by decide +kernel
theorem dX10_pitch_33 : decode cX10_pitch 33 = .ok (.getfield 40, 3) := by decide +kernel
theorem dX10_pitch_36 : decode cX10_pitch 36 = .ok (.aload_n 0, 1) := by decide +kernel
theorem dX10_pitch_37 : decode cX10_pitch 37 = .ok (.getfield 26, 3) := by decide +kernel
theorem dX10_pitch_40 : decode cX10_pitch 40 = .ok (.invokevirtual 159, 3) := by decide +kernel
theorem dX10_pitch_43 : decode cX10_pitch 43 = .ok (.aload_n 0, 1) := by decide +kernel
theorem dX10_pitch_44 : decode cX10_pitch 44 = .ok (.getfield 26, 3) := by decide +kernel
theorem dX10_pitch_47 : decode cX10_pitch 47 = .ok (.getfield 162, 3) := by decide +kernel
theorem dX10_pitch_50 : decode cX10_pitch 50 = .ok (.bipush 27, 2) := by decide +kernel
theorem dX10_pitch_52 : decode cX10_pitch 52 = .ok (.iload_n 1, 1) := by decide +kernel
theorem dX10_pitch_53 : decode cX10_pitch 53 = .ok (.iadd, 1) := by decide +kernel
theorem dX10_pitch_54 : decode cX10_pitch 54 = .ok (.iconst 1, 1) := by decide +kernel
theorem dX10_pitch_55 : decode cX10_pitch 55 = .ok (.iastore, 1) := by decide +kernel
theorem dX10_pitch_56 : decode cX10_pitch 56 = .ok (.aload_n 0, 1) := by decide +kernel
theorem dX10_pitch_57 : decode cX10_pitch 57 = .ok (.getfield 26, 3) := by decide +kernel
theorem dX10_pitch_60 : decode cX10_pitch 60 = .ok (.iload_n 1, 1) := by decide +kernel
theorem dX10_pitch_61 : decode cX10_pitch 61 = .ok (.invokevirtual 167, 3) := by decide +kernel
theorem dX10_pitch_64 : decode cX10_pitch 64 = .ok (.ireturn, 1) := by decide +kernel
theorem dX10_vow_0 : decode cX10_vow 0 = .ok (.aload_n 0, 1) := by decide +kernel
theorem dX10_vow_1 : decode cX10_vow 1 = .ok (.getfield 26, 3) := by decide +kernel
theorem dX10_vow_4 : decode cX10_vow 4 = .ok (.iload_n 1, 1) := by decide +kernel
theorem dX10_vow_5 : decode cX10_vow 5 = .ok (.invokevirtual 156, 3) := by decide +kernel
theorem dX10_vow_8 : decode cX10_vow 8 = .ok (.ifCond .eq 12, 3) := by decide +kernel
theorem dX10_vow_11 : decode cX10_vow 11 = .ok (.iload_n 2, 1) := by decide +kernel
theorem dX10_vow_12 : decode cX10_vow 12 = .ok (.ifCond .lt 8, 3) := by decide +kernel
theorem dX10_vow_15 : decode cX10_vow 15 = .ok (.iload_n 2, 1) := by decide +kernel
theorem dX10_vow_16 : decode cX10_vow 16 = .ok (.iconst 2, 1) := by decide +kernel
theorem dX10_vow_17 : decode cX10_vow 17 = .ok (.if_icmp .le 6, 3) := by decide +kernel
theorem dX10_vow_20 : decode cX10_vow 20 = .ok (.ldc 83, 2) := by decide +kernel
theorem dX10_vow_22 : decode cX10_vow 22 = .ok (.ireturn, 1) := by decide +kernel
theorem dX10_vow_23 : decode cX10_vow 23 = .ok (.aload_n 0, 1) := by decide +kernel
theorem dX10_vow_24 : decode cX10_vow 24 = .ok (.getfield 40, 3) := by decide +kernel
theorem dX10_vow_27 : decode cX10_vow 27 = .ok (.aload_n 0, 1) := by decide +kernel
theorem dX10_vow_28 : decode cX10_vow 28 = .ok (.getfield 26, 3) := by decide +kernel
theorem dX10_vow_31 : decode cX10_vow 31 = .ok (.invokevirtual 159, 3) := by decide +kernel
theorem dX10_vow_34 : decode cX10_vow 34 = .ok (.aload_n 0, 1) := by decide +kernel
theorem dX10_vow_35 : decode cX10_vow 35 = .ok (.getfield 26, 3) := by decide +kernel
theorem dX10_vow_38 : decode cX10_vow 38 = .ok (.getfield 162, 3) := by decide +kernel
theorem dX10_vow_41 : decode cX10_vow 41 = .ok (.bipush 9, 2) := by decide +kernel
theorem dX10_vow_43 : decode cX10_vow 43 = .ok (.iload_n 1, 1) := by decide +kernel
theorem dX10_vow_44 : decode cX10_vow 44 = .ok (.iadd, 1) := by decide +kernel
theorem dX10_vow_45 : decode cX10_vow 45 = .ok (.iaload, 1) := by decide +kernel
theorem dX10_vow_46 : decode cX10_vow 46 = .ok (.istore_n 3, 1) := by decide +kernel
theorem dX10_vow_47 : decode cX10_vow 47 = .ok (.aload_n 0, 1) := by decide +kernel
theorem dX10_vow_48 : decode cX10_vow 48 = .ok (.getfield 26, 3) := by decide +kernel
theorem dX10_vow_51 : decode cX10_vow 51 = .ok (.getfield 162, 3) := by decide +kernel
theorem dX10_vow_54 : decode cX10_vow 54 = .ok (.bipush 9, 2) := by decide +kernel
theorem dX10_vow_56 : decode cX10_vow 56 = .ok (.iload_n 1, 1) := by decide +kernel
theorem dX10_vow_57 : decode cX10_vow 57 = .ok (.iadd, 1) := by decide +kernel
theorem dX10_vow_58 : decode cX10_vow 58 = .ok (.iload_n 2, 1) := by decide +kernel
theorem dX10_vow_59 : decode cX10_vow 59 = .ok (.iastore, 1) := by decide +kernel
theorem dX10_vow_60 : decode cX10_vow 60 = .ok (.iload_n 3, 1) := by decide +kernel
theorem dX10_vow_61 : decode cX10_vow 61 = .ok (.ireturn, 1) := by decide +kernel
theorem dX10_splice_0 : decode cX10_splice 0 = .ok (.aload_n 0, 1) := by decide +kernel
theorem dX10_splice_1 : decode cX10_splice 1 = .ok (.getfield 26, 3) := by decide +kernel
theorem dX10_splice_4 : decode cX10_splice 4 = .ok (.iload_n 1, 1) := by decide +kernel
theorem dX10_splice_5 : decode cX10_splice 5 = .ok (.invokevirtual 156, 3) := by decide +kernel
theorem dX10_splice_8 : decode cX10_splice 8 = .ok (.ifCond .ne 6, 3) := by decide +kernel
theorem dX10_splice_11 : decode cX10_splice 11 = .ok (.ldc 83, 2) := by decide +kernel
theorem dX10_splice_13 : decode cX10_splice 13 = .ok (.ireturn, 1) := by decide +kernel
theorem dX10_splice_14 : decode cX10_splice 14 = .ok (.aload_n 0, 1) := by decide +kernel
theorem dX10_splice_15 : decode cX10_splice 15 = .ok (.getfield 40, 3) := by decide +kernel
