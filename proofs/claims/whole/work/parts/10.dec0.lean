theorem d_bp_init_0 : decode (mcode M_bp_init) 0 = .ok (.aload_n 0, 1) := by decide +kernel
theorem d_bp_init_1 : decode (mcode M_bp_init) 1 = .ok (.invokespecial 3, 3) := by decide +kernel
theorem d_bp_init_4 : decode (mcode M_bp_init) 4 = .ok (.aload_n 0, 1) := by decide +kernel
theorem d_bp_init_5 : decode (mcode M_bp_init) 5 = .ok (.bipush 12, 2) := by decide +kernel
theorem d_bp_init_7 : decode (mcode M_bp_init) 7 = .ok (.newarray .int, 2) := by decide +kernel
theorem d_bp_init_9 : decode (mcode M_bp_init) 9 = .ok (.putfield 9, 3) := by decide +kernel
theorem d_bp_init_12 : decode (mcode M_bp_init) 12 = .ok (.aload_n 0, 1) := by decide +kernel
theorem d_bp_init_13 : decode (mcode M_bp_init) 13 = .ok (.bipush 12, 2) := by decide +kernel
theorem d_bp_init_15 : decode (mcode M_bp_init) 15 = .ok (.newarray .int, 2) := by decide +kernel
theorem d_bp_init_17 : decode (mcode M_bp_init) 17 = .ok (.putfield 15, 3) := by decide +kernel
theorem d_bp_init_20 : decode (mcode M_bp_init) 20 = .ok (.aload_n 0, 1) := by decide +kernel
theorem d_bp_init_21 : decode (mcode M_bp_init) 21 = .ok (.bipush 12, 2) := by decide +kernel
theorem d_bp_init_23 : decode (mcode M_bp_init) 23 = .ok (.newarray .int, 2) := by decide +kernel
theorem d_bp_init_25 : decode (mcode M_bp_init) 25 = .ok (.putfield 18, 3) := by decide +kernel
theorem d_bp_init_28 : decode (mcode M_bp_init) 28 = .ok (.aload_n 0, 1) := by decide +kernel
theorem d_bp_init_29 : decode (mcode M_bp_init) 29 = .ok (.bipush 12, 2) := by decide +kernel
theorem d_bp_init_31 : decode (mcode M_bp_init) 31 = .ok (.newarray .int, 2) := by decide +kernel
theorem d_bp_init_33 : decode (mcode M_bp_init) 33 = .ok (.putfield 21, 3) := by decide +kernel
theorem d_bp_init_36 : decode (mcode M_bp_init) 36 = .ok (.aload_n 0, 1) := by decide +kernel
theorem d_bp_init_37 : decode (mcode M_bp_init) 37 = .ok (.bipush 13, 2) := by decide +kernel
theorem d_bp_init_39 : decode (mcode M_bp_init) 39 = .ok (.newarray .int, 2) := by decide +kernel
theorem d_bp_init_41 : decode (mcode M_bp_init) 41 = .ok (.putfield 24, 3) := by decide +kernel
theorem d_bp_init_44 : decode (mcode M_bp_init) 44 = .ok (.aload_n 0, 1) := by decide +kernel
theorem d_bp_init_45 : decode (mcode M_bp_init) 45 = .ok (.iconst 0, 1) := by decide +kernel
theorem d_bp_init_46 : decode (mcode M_bp_init) 46 = .ok (.putfield 27, 3) := by decide +kernel
theorem d_bp_init_49 : decode (mcode M_bp_init) 49 = .ok (.aload_n 0, 1) := by decide +kernel
theorem d_bp_init_50 : decode (mcode M_bp_init) 50 = .ok (.iconst 0, 1) := by decide +kernel
theorem d_bp_init_51 : decode (mcode M_bp_init) 51 = .ok (.putfield 31, 3) := by decide +kernel
theorem d_bp_init_54 : decode (mcode M_bp_init) 54 = .ok (.aload_n 0, 1) := by decide +kernel
theorem d_bp_init_55 : decode (mcode M_bp_init) 55 = .ok (.iconst 0, 1) := by decide +kernel
theorem d_bp_init_56 : decode (mcode M_bp_init) 56 = .ok (.putfield 34, 3) := by decide +kernel
theorem d_bp_init_59 : decode (mcode M_bp_init) 59 = .ok (.return_, 1) := by decide +kernel
theorem d_bp_clear_0 : decode (mcode M_bp_clear) 0 = .ok (.aload_n 0, 1) := by decide +kernel
theorem d_bp_clear_1 : decode (mcode M_bp_clear) 1 = .ok (.iconst 0, 1) := by decide +kernel
theorem d_bp_clear_2 : decode (mcode M_bp_clear) 2 = .ok (.putfield 27, 3) := by decide +kernel
theorem d_bp_clear_5 : decode (mcode M_bp_clear) 5 = .ok (.return_, 1) := by decide +kernel
theorem d_bp_add_0 : decode (mcode M_bp_add) 0 = .ok (.aload_n 0, 1) := by decide +kernel
theorem d_bp_add_1 : decode (mcode M_bp_add) 1 = .ok (.getfield 27, 3) := by decide +kernel
theorem d_bp_add_4 : decode (mcode M_bp_add) 4 = .ok (.bipush 12, 2) := by decide +kernel
theorem d_bp_add_6 : decode (mcode M_bp_add) 6 = .ok (.if_icmp .lt 5, 3) := by decide +kernel
theorem d_bp_add_9 : decode (mcode M_bp_add) 9 = .ok (.iconst 0, 1) := by decide +kernel
theorem d_bp_add_10 : decode (mcode M_bp_add) 10 = .ok (.ireturn, 1) := by decide +kernel
theorem d_bp_add_11 : decode (mcode M_bp_add) 11 = .ok (.aload_n 0, 1) := by decide +kernel
theorem d_bp_add_12 : decode (mcode M_bp_add) 12 = .ok (.getfield 27, 3) := by decide +kernel
theorem d_bp_add_15 : decode (mcode M_bp_add) 15 = .ok (.istore 4, 2) := by decide +kernel
theorem d_bp_add_17 : decode (mcode M_bp_add) 17 = .ok (.iload 4, 2) := by decide +kernel
theorem d_bp_add_19 : decode (mcode M_bp_add) 19 = .ok (.ifCond .le 86, 3) := by decide +kernel
theorem d_bp_add_22 : decode (mcode M_bp_add) 22 = .ok (.aload_n 0, 1) := by decide +kernel
theorem d_bp_add_23 : decode (mcode M_bp_add) 23 = .ok (.getfield 21, 3) := by decide +kernel
theorem d_bp_add_26 : decode (mcode M_bp_add) 26 = .ok (.iload 4, 2) := by decide +kernel
theorem d_bp_add_28 : decode (mcode M_bp_add) 28 = .ok (.iconst 1, 1) := by decide +kernel
theorem d_bp_add_29 : decode (mcode M_bp_add) 29 = .ok (.isub, 1) := by decide +kernel
theorem d_bp_add_30 : decode (mcode M_bp_add) 30 = .ok (.iaload, 1) := by decide +kernel
theorem d_bp_add_31 : decode (mcode M_bp_add) 31 = .ok (.iload_n 3, 1) := by decide +kernel
theorem d_bp_add_32 : decode (mcode M_bp_add) 32 = .ok (.if_icmp .le 73, 3) := by decide +kernel
theorem d_bp_add_35 : decode (mcode M_bp_add) 35 = .ok (.aload_n 0, 1) := by decide +kernel
theorem d_bp_add_36 : decode (mcode M_bp_add) 36 = .ok (.getfield 9, 3) := by decide +kernel
theorem d_bp_add_39 : decode (mcode M_bp_add) 39 = .ok (.iload 4, 2) := by decide +kernel
theorem d_bp_add_41 : decode (mcode M_bp_add) 41 = .ok (.aload_n 0, 1) := by decide +kernel
theorem d_bp_add_42 : decode (mcode M_bp_add) 42 = .ok (.getfield 9, 3) := by decide +kernel
theorem d_bp_add_45 : decode (mcode M_bp_add) 45 = .ok (.iload 4, 2) := by decide +kernel
theorem d_bp_add_47 : decode (mcode M_bp_add) 47 = .ok (.iconst 1, 1) := by decide +kernel
theorem d_bp_add_48 : decode (mcode M_bp_add) 48 = .ok (.isub, 1) := by decide +kernel
theorem d_bp_add_49 : decode (mcode M_bp_add) 49 = .ok (.iaload, 1) := by decide +kernel
theorem d_bp_add_50 : decode (mcode M_bp_add) 50 = .ok (.iastore, 1) := by decide +kernel
theorem d_bp_add_51 : decode (mcode M_bp_add) 51 = .ok (.aload_n 0, 1) := by decide +kernel
theorem d_bp_add_52 : decode (mcode M_bp_add) 52 = .ok (.getfield 15, 3) := by decide +kernel
theorem d_bp_add_55 : decode (mcode M_bp_add) 55 = .ok (.iload 4, 2) := by decide +kernel
theorem d_bp_add_57 : decode (mcode M_bp_add) 57 = .ok (.aload_n 0, 1) := by decide +kernel
theorem d_bp_add_58 : decode (mcode M_bp_add) 58 = .ok (.getfield 15, 3) := by decide +kernel
theorem d_bp_add_61 : decode (mcode M_bp_add) 61 = .ok (.iload 4, 2) := by decide +kernel
theorem d_bp_add_63 : decode (mcode M_bp_add) 63 = .ok (.iconst 1, 1) := by decide +kernel
theorem d_bp_add_64 : decode (mcode M_bp_add) 64 = .ok (.isub, 1) := by decide +kernel
theorem d_bp_add_65 : decode (mcode M_bp_add) 65 = .ok (.iaload, 1) := by decide +kernel
theorem d_bp_add_66 : decode (mcode M_bp_add) 66 = .ok (.iastore, 1) := by decide +kernel
theorem d_bp_add_67 : decode (mcode M_bp_add) 67 = .ok (.aload_n 0, 1) := by decide +kernel
theorem d_bp_add_68 : decode (mcode M_bp_add) 68 = .ok (.getfield 18, 3) := by decide +kernel
theorem d_bp_add_71 : decode (mcode M_bp_add) 71 = .ok (.iload 4, 2) := by decide +kernel
theorem d_bp_add_73 : decode (mcode M_bp_add) 73 = .ok (.aload_n 0, 1) := by decide +kernel
theorem d_bp_add_74 : decode (mcode M_bp_add) 74 = .ok (.getfield 18, 3) := by decide +kernel
theorem d_bp_add_77 : decode (mcode M_bp_add) 77 = .ok (.iload 4, 2) := by decide +kernel
theorem d_bp_add_79 : decode (mcode M_bp_add) 79 = .ok (.iconst 1, 1) := by decide +kernel
theorem d_bp_add_80 : decode (mcode M_bp_add) 80 = .ok (.isub, 1) := by decide +kernel
theorem d_bp_add_81 : decode (mcode M_bp_add) 81 = .ok (.iaload, 1) := by decide +kernel
theorem d_bp_add_82 : decode (mcode M_bp_add) 82 = .ok (.iastore, 1) := by decide +kernel
theorem d_bp_add_83 : decode (mcode M_bp_add) 83 = .ok (.aload_n 0, 1) := by decide +kernel
theorem d_bp_add_84 : decode (mcode M_bp_add) 84 = .ok (.getfield 21, 3) := by decide +kernel
theorem d_bp_add_87 : decode (mcode M_bp_add) 87 = .ok (.iload 4, 2) := by decide +kernel
theorem d_bp_add_89 : decode (mcode M_bp_add) 89 = .ok (.aload_n 0, 1) := by decide +kernel
theorem d_bp_add_90 : decode (mcode M_bp_add) 90 = .ok (.getfield 21, 3) := by decide +kernel
theorem d_bp_add_93 : decode (mcode M_bp_add) 93 = .ok (.iload 4, 2) := by decide +kernel
theorem d_bp_add_95 : decode (mcode M_bp_add) 95 = .ok (.iconst 1, 1) := by decide +kernel
theorem d_bp_add_96 : decode (mcode M_bp_add) 96 = .ok (.isub, 1) := by decide +kernel
theorem d_bp_add_97 : decode (mcode M_bp_add) 97 = .ok (.iaload, 1) := by decide +kernel
theorem d_bp_add_98 : decode (mcode M_bp_add) 98 = .ok (.iastore, 1) := by decide +kernel
theorem d_bp_add_99 : decode (mcode M_bp_add) 99 = .ok (.iinc 4 (-1), 3) := by decide +kernel
theorem d_bp_add_102 : decode (mcode M_bp_add) 102 = .ok (.goto (-85), 3) := by decide +kernel
theorem d_bp_add_105 : decode (mcode M_bp_add) 105 = .ok (.aload_n 0, 1) := by decide +kernel
theorem d_bp_add_106 : decode (mcode M_bp_add) 106 = .ok (.getfield 9, 3) := by decide +kernel
theorem d_bp_add_109 : decode (mcode M_bp_add) 109 = .ok (.iload 4, 2) := by decide +kernel
theorem d_bp_add_111 : decode (mcode M_bp_add) 111 = .ok (.iload_n 1, 1) := by decide +kernel
theorem d_bp_add_112 : decode (mcode M_bp_add) 112 = .ok (.iastore, 1) := by decide +kernel
theorem d_bp_add_113 : decode (mcode M_bp_add) 113 = .ok (.aload_n 0, 1) := by decide +kernel
theorem d_bp_add_114 : decode (mcode M_bp_add) 114 = .ok (.getfield 15, 3) := by decide +kernel
theorem d_bp_add_117 : decode (mcode M_bp_add) 117 = .ok (.iload 4, 2) := by decide +kernel
theorem d_bp_add_119 : decode (mcode M_bp_add) 119 = .ok (.aload_n 2, 1) := by decide +kernel
theorem d_bp_add_120 : decode (mcode M_bp_add) 120 = .ok (.getfield 37, 3) := by decide +kernel
theorem d_bp_add_123 : decode (mcode M_bp_add) 123 = .ok (.aload_n 2, 1) := by decide +kernel
theorem d_bp_add_124 : decode (mcode M_bp_add) 124 = .ok (.getfield 42, 3) := by decide +kernel
theorem d_bp_add_127 : decode (mcode M_bp_add) 127 = .ok (.iadd, 1) := by decide +kernel
theorem d_bp_add_128 : decode (mcode M_bp_add) 128 = .ok (.iastore, 1) := by decide +kernel
theorem d_bp_add_129 : decode (mcode M_bp_add) 129 = .ok (.aload_n 0, 1) := by decide +kernel
theorem d_bp_add_130 : decode (mcode M_bp_add) 130 = .ok (.getfield 18, 3) := by decide +kernel
theorem d_bp_add_133 : decode (mcode M_bp_add) 133 = .ok (.iload 4, 2) := by decide +kernel
theorem d_bp_add_135 : decode (mcode M_bp_add) 135 = .ok (.aload_n 2, 1) := by decide +kernel
theorem d_bp_add_136 : decode (mcode M_bp_add) 136 = .ok (.invokevirtual 45, 3) := by decide +kernel
theorem d_bp_add_139 : decode (mcode M_bp_add) 139 = .ok (.iastore, 1) := by decide +kernel
theorem d_bp_add_140 : decode (mcode M_bp_add) 140 = .ok (.aload_n 0, 1) := by decide +kernel
theorem d_bp_add_141 : decode (mcode M_bp_add) 141 = .ok (.getfield 21, 3) := by decide +kernel
theorem d_bp_add_144 : decode (mcode M_bp_add) 144 = .ok (.iload 4, 2) := by decide +kernel
theorem d_bp_add_146 : decode (mcode M_bp_add) 146 = .ok (.iload_n 3, 1) := by decide +kernel
theorem d_bp_add_147 : decode (mcode M_bp_add) 147 = .ok (.iastore, 1) := by decide +kernel
theorem d_bp_add_148 : decode (mcode M_bp_add) 148 = .ok (.aload_n 0, 1) := by decide +kernel
theorem d_bp_add_149 : decode (mcode M_bp_add) 149 = .ok (.dup, 1) := by decide +kernel
theorem d_bp_add_150 : decode (mcode M_bp_add) 150 = .ok (.getfield 27, 3) := by decide +kernel
theorem d_bp_add_153 : decode (mcode M_bp_add) 153 = .ok (.iconst 1, 1) := by decide +kernel
theorem d_bp_add_154 : decode (mcode M_bp_add) 154 = .ok (.iadd, 1) := by decide +kernel
theorem d_bp_add_155 : decode (mcode M_bp_add) 155 = .ok (.putfield 27, 3) := by decide +kernel
theorem d_bp_add_158 : decode (mcode M_bp_add) 158 = .ok (.iconst 1, 1) := by decide +kernel
theorem d_bp_add_159 : decode (mcode M_bp_add) 159 = .ok (.ireturn, 1) := by decide +kernel
theorem d_bp_choose_0 : decode (mcode M_bp_choose) 0 = .ok (.aload_n 0, 1) := by decide +kernel
theorem d_bp_choose_1 : decode (mcode M_bp_choose) 1 = .ok (.iconst 0, 1) := by decide +kernel
theorem d_bp_choose_2 : decode (mcode M_bp_choose) 2 = .ok (.putfield 31, 3) := by decide +kernel
theorem d_bp_choose_5 : decode (mcode M_bp_choose) 5 = .ok (.aload_n 0, 1) := by decide +kernel
theorem d_bp_choose_6 : decode (mcode M_bp_choose) 6 = .ok (.iconst 0, 1) := by decide +kernel
theorem d_bp_choose_7 : decode (mcode M_bp_choose) 7 = .ok (.putfield 34, 3) := by decide +kernel
theorem d_bp_choose_10 : decode (mcode M_bp_choose) 10 = .ok (.aload_n 0, 1) := by decide +kernel
theorem d_bp_choose_11 : decode (mcode M_bp_choose) 11 = .ok (.getfield 24, 3) := by decide +kernel
theorem d_bp_choose_14 : decode (mcode M_bp_choose) 14 = .ok (.aload_n 0, 1) := by decide +kernel
theorem d_bp_choose_15 : decode (mcode M_bp_choose) 15 = .ok (.getfield 27, 3) := by decide +kernel
theorem d_bp_choose_18 : decode (mcode M_bp_choose) 18 = .ok (.iconst 0, 1) := by decide +kernel
theorem d_bp_choose_19 : decode (mcode M_bp_choose) 19 = .ok (.iastore, 1) := by decide +kernel
theorem d_bp_choose_20 : decode (mcode M_bp_choose) 20 = .ok (.aload_n 0, 1) := by decide +kernel
theorem d_bp_choose_21 : decode (mcode M_bp_choose) 21 = .ok (.getfield 27, 3) := by decide +kernel
theorem d_bp_choose_24 : decode (mcode M_bp_choose) 24 = .ok (.iconst 1, 1) := by decide +kernel
theorem d_bp_choose_25 : decode (mcode M_bp_choose) 25 = .ok (.isub, 1) := by decide +kernel
theorem d_bp_choose_26 : decode (mcode M_bp_choose) 26 = .ok (.istore_n 1, 1) := by decide +kernel
theorem d_bp_choose_27 : decode (mcode M_bp_choose) 27 = .ok (.iload_n 1, 1) := by decide +kernel
theorem d_bp_choose_28 : decode (mcode M_bp_choose) 28 = .ok (.ifCond .lt 30, 3) := by decide +kernel
theorem d_bp_choose_31 : decode (mcode M_bp_choose) 31 = .ok (.aload_n 0, 1) := by decide +kernel
theorem d_bp_choose_32 : decode (mcode M_bp_choose) 32 = .ok (.getfield 24, 3) := by decide +kernel
theorem d_bp_choose_35 : decode (mcode M_bp_choose) 35 = .ok (.iload_n 1, 1) := by decide +kernel
theorem d_bp_choose_36 : decode (mcode M_bp_choose) 36 = .ok (.aload_n 0, 1) := by decide +kernel
theorem d_bp_choose_37 : decode (mcode M_bp_choose) 37 = .ok (.getfield 24, 3) := by decide +kernel
theorem d_bp_choose_40 : decode (mcode M_bp_choose) 40 = .ok (.iload_n 1, 1) := by decide +kernel
theorem d_bp_choose_41 : decode (mcode M_bp_choose) 41 = .ok (.iconst 1, 1) := by decide +kernel
theorem d_bp_choose_42 : decode (mcode M_bp_choose) 42 = .ok (.iadd, 1) := by decide +kernel
theorem d_bp_choose_43 : decode (mcode M_bp_choose) 43 = .ok (.iaload, 1) := by decide +kernel
theorem d_bp_choose_44 : decode (mcode M_bp_choose) 44 = .ok (.aload_n 0, 1) := by decide +kernel
theorem d_bp_choose_45 : decode (mcode M_bp_choose) 45 = .ok (.getfield 18, 3) := by decide +kernel
theorem d_bp_choose_48 : decode (mcode M_bp_choose) 48 = .ok (.iload_n 1, 1) := by decide +kernel
theorem d_bp_choose_49 : decode (mcode M_bp_choose) 49 = .ok (.iaload, 1) := by decide +kernel
theorem d_bp_choose_50 : decode (mcode M_bp_choose) 50 = .ok (.iadd, 1) := by decide +kernel
theorem d_bp_choose_51 : decode (mcode M_bp_choose) 51 = .ok (.iastore, 1) := by decide +kernel
theorem d_bp_choose_52 : decode (mcode M_bp_choose) 52 = .ok (.iinc 1 (-1), 3) := by decide +kernel
theorem d_bp_choose_55 : decode (mcode M_bp_choose) 55 = .ok (.goto (-28), 3) := by decide +kernel
theorem d_bp_choose_58 : decode (mcode M_bp_choose) 58 = .ok (.aload_n 0, 1) := by decide +kernel
theorem d_bp_choose_59 : decode (mcode M_bp_choose) 59 = .ok (.iconst 0, 1) := by decide +kernel
theorem d_bp_choose_60 : decode (mcode M_bp_choose) 60 = .ok (.iconst 0, 1) := by decide +kernel
theorem d_bp_choose_61 : decode (mcode M_bp_choose) 61 = .ok (.iconst 0, 1) := by decide +kernel
theorem d_bp_choose_62 : decode (mcode M_bp_choose) 62 = .ok (.iconst 0, 1) := by decide +kernel
theorem d_bp_choose_63 : decode (mcode M_bp_choose) 63 = .ok (.invokestatic 49, 3) := by decide +kernel
theorem d_bp_choose_66 : decode (mcode M_bp_choose) 66 = .ok (.return_, 1) := by decide +kernel
theorem d_bp_keepIfBetter_0 : decode (mcode M_bp_keepIfBetter) 0 = .ok (.iload_n 1, 1) := by decide +kernel
theorem d_bp_keepIfBetter_1 : decode (mcode M_bp_keepIfBetter) 1 = .ok (.aload_n 0, 1) := by decide +kernel
theorem d_bp_keepIfBetter_2 : decode (mcode M_bp_keepIfBetter) 2 = .ok (.getfield 31, 3) := by decide +kernel
theorem d_bp_keepIfBetter_5 : decode (mcode M_bp_keepIfBetter) 5 = .ok (.if_icmp .gt 19, 3) := by decide +kernel
theorem d_bp_keepIfBetter_8 : decode (mcode M_bp_keepIfBetter) 8 = .ok (.iload_n 1, 1) := by decide +kernel
theorem d_bp_keepIfBetter_9 : decode (mcode M_bp_keepIfBetter) 9 = .ok (.aload_n 0, 1) := by decide +kernel
theorem d_bp_keepIfBetter_10 : decode (mcode M_bp_keepIfBetter) 10 = .ok (.getfield 31, 3) := by decide +kernel
theorem d_bp_keepIfBetter_13 : decode (mcode M_bp_keepIfBetter) 13 = .ok (.if_icmp .ne 21, 3) := by decide +kernel
theorem d_bp_keepIfBetter_16 : decode (mcode M_bp_keepIfBetter) 16 = .ok (.iload_n 2, 1) := by decide +kernel
theorem d_bp_keepIfBetter_17 : decode (mcode M_bp_keepIfBetter) 17 = .ok (.aload_n 0, 1) := by decide +kernel
theorem d_bp_keepIfBetter_18 : decode (mcode M_bp_keepIfBetter) 18 = .ok (.getfield 34, 3) := by decide +kernel
theorem d_bp_keepIfBetter_21 : decode (mcode M_bp_keepIfBetter) 21 = .ok (.if_icmp .ge 13, 3) := by decide +kernel
theorem d_bp_keepIfBetter_24 : decode (mcode M_bp_keepIfBetter) 24 = .ok (.aload_n 0, 1) := by decide +kernel
theorem d_bp_keepIfBetter_25 : decode (mcode M_bp_keepIfBetter) 25 = .ok (.iload_n 1, 1) := by decide +kernel
theorem d_bp_keepIfBetter_26 : decode (mcode M_bp_keepIfBetter) 26 = .ok (.putfield 31, 3) := by decide +kernel
theorem d_bp_keepIfBetter_29 : decode (mcode M_bp_keepIfBetter) 29 = .ok (.aload_n 0, 1) := by decide +kernel
theorem d_bp_keepIfBetter_30 : decode (mcode M_bp_keepIfBetter) 30 = .ok (.iload_n 2, 1) := by decide +kernel
theorem d_bp_keepIfBetter_31 : decode (mcode M_bp_keepIfBetter) 31 = .ok (.putfield 34, 3) := by decide +kernel
theorem d_bp_keepIfBetter_34 : decode (mcode M_bp_keepIfBetter) 34 = .ok (.return_, 1) := by decide +kernel
theorem d_bp_search_0 : decode (mcode M_bp_search) 0 = .ok (.iload_n 1, 1) := by decide +kernel
theorem d_bp_search_1 : decode (mcode M_bp_search) 1 = .ok (.aload_n 0, 1) := by decide +kernel
theorem d_bp_search_2 : decode (mcode M_bp_search) 2 = .ok (.getfield 27, 3) := by decide +kernel
theorem d_bp_search_5 : decode (mcode M_bp_search) 5 = .ok (.if_icmp .lt 11, 3) := by decide +kernel
theorem d_bp_search_8 : decode (mcode M_bp_search) 8 = .ok (.aload_n 0, 1) := by decide +kernel
theorem d_bp_search_9 : decode (mcode M_bp_search) 9 = .ok (.iload_n 3, 1) := by decide +kernel
theorem d_bp_search_10 : decode (mcode M_bp_search) 10 = .ok (.iload 4, 2) := by decide +kernel
theorem d_bp_search_12 : decode (mcode M_bp_search) 12 = .ok (.invokevirtual 53, 3) := by decide +kernel
theorem d_bp_search_15 : decode (mcode M_bp_search) 15 = .ok (.return_, 1) := by decide +kernel
theorem d_bp_search_16 : decode (mcode M_bp_search) 16 = .ok (.iload_n 3, 1) := by decide +kernel
theorem d_bp_search_17 : decode (mcode M_bp_search) 17 = .ok (.aload_n 0, 1) := by decide +kernel
theorem d_bp_search_18 : decode (mcode M_bp_search) 18 = .ok (.getfield 24, 3) := by decide +kernel
theorem d_bp_search_21 : decode (mcode M_bp_search) 21 = .ok (.iload_n 1, 1) := by decide +kernel
theorem d_bp_search_22 : decode (mcode M_bp_search) 22 = .ok (.iaload, 1) := by decide +kernel
theorem d_bp_search_23 : decode (mcode M_bp_search) 23 = .ok (.iadd, 1) := by decide +kernel
theorem d_bp_search_24 : decode (mcode M_bp_search) 24 = .ok (.aload_n 0, 1) := by decide +kernel
theorem d_bp_search_25 : decode (mcode M_bp_search) 25 = .ok (.getfield 31, 3) := by decide +kernel
theorem d_bp_search_28 : decode (mcode M_bp_search) 28 = .ok (.if_icmp .ge 4, 3) := by decide +kernel
theorem d_bp_search_31 : decode (mcode M_bp_search) 31 = .ok (.return_, 1) := by decide +kernel
theorem d_bp_search_32 : decode (mcode M_bp_search) 32 = .ok (.iload_n 2, 1) := by decide +kernel
theorem d_bp_search_33 : decode (mcode M_bp_search) 33 = .ok (.aload_n 0, 1) := by decide +kernel
theorem d_bp_search_34 : decode (mcode M_bp_search) 34 = .ok (.getfield 15, 3) := by decide +kernel
theorem d_bp_search_37 : decode (mcode M_bp_search) 37 = .ok (.iload_n 1, 1) := by decide +kernel
theorem d_bp_search_38 : decode (mcode M_bp_search) 38 = .ok (.iaload, 1) := by decide +kernel
theorem d_bp_search_39 : decode (mcode M_bp_search) 39 = .ok (.iadd, 1) := by decide +kernel
theorem d_bp_search_40 : decode (mcode M_bp_search) 40 = .ok (.istore 5, 2) := by decide +kernel
theorem d_bp_search_42 : decode (mcode M_bp_search) 42 = .ok (.iload 5, 2) := by decide +kernel
theorem d_bp_search_44 : decode (mcode M_bp_search) 44 = .ok (.aload_n 0, 1) := by decide +kernel
theorem d_bp_search_45 : decode (mcode M_bp_search) 45 = .ok (.getfield 21, 3) := by decide +kernel
theorem d_bp_search_48 : decode (mcode M_bp_search) 48 = .ok (.iload_n 1, 1) := by decide +kernel
theorem d_bp_search_49 : decode (mcode M_bp_search) 49 = .ok (.iaload, 1) := by decide +kernel
theorem d_bp_search_50 : decode (mcode M_bp_search) 50 = .ok (.if_icmp .gt 31, 3) := by decide +kernel
theorem d_bp_search_53 : decode (mcode M_bp_search) 53 = .ok (.aload_n 0, 1) := by decide +kernel
theorem d_bp_search_54 : decode (mcode M_bp_search) 54 = .ok (.iload_n 1, 1) := by decide +kernel
theorem d_bp_search_55 : decode (mcode M_bp_search) 55 = .ok (.iconst 1, 1) := by decide +kernel
theorem d_bp_search_56 : decode (mcode M_bp_search) 56 = .ok (.iadd, 1) := by decide +kernel
theorem d_bp_search_57 : decode (mcode M_bp_search) 57 = .ok (.iload 5, 2) := by decide +kernel
theorem d_bp_search_59 : decode (mcode M_bp_search) 59 = .ok (.iload_n 3, 1) := by decide +kernel
theorem d_bp_search_60 : decode (mcode M_bp_search) 60 = .ok (.aload_n 0, 1) := by decide +kernel
theorem d_bp_search_61 : decode (mcode M_bp_search) 61 = .ok (.getfield 18, 3) := by decide +kernel
theorem d_bp_search_64 : decode (mcode M_bp_search) 64 = .ok (.iload_n 1, 1) := by decide +kernel
theorem d_bp_search_65 : decode (mcode M_bp_search) 65 = .ok (.iaload, 1) := by decide +kernel
theorem d_bp_search_66 : decode (mcode M_bp_search) 66 = .ok (.iadd, 1) := by decide +kernel
theorem d_bp_search_67 : decode (mcode M_bp_search) 67 = .ok (.iload 4, 2) := by decide +kernel
theorem d_bp_search_69 : decode (mcode M_bp_search) 69 = .ok (.iconst 1, 1) := by decide +kernel
theorem d_bp_search_70 : decode (mcode M_bp_search) 70 = .ok (.aload_n 0, 1) := by decide +kernel
theorem d_bp_search_71 : decode (mcode M_bp_search) 71 = .ok (.getfield 9, 3) := by decide +kernel
theorem d_bp_search_74 : decode (mcode M_bp_search) 74 = .ok (.iload_n 1, 1) := by decide +kernel
theorem d_bp_search_75 : decode (mcode M_bp_search) 75 = .ok (.iaload, 1) := by decide +kernel
theorem d_bp_search_76 : decode (mcode M_bp_search) 76 = .ok (.ishl, 1) := by decide +kernel
theorem d_bp_search_77 : decode (mcode M_bp_search) 77 = .ok (.ior, 1) := by decide +kernel
theorem d_bp_search_78 : decode (mcode M_bp_search) 78 = .ok (.invokestatic 49, 3) := by decide +kernel
theorem d_bp_search_81 : decode (mcode M_bp_search) 81 = .ok (.aload_n 0, 1) := by decide +kernel
theorem d_bp_search_82 : decode (mcode M_bp_search) 82 = .ok (.iload_n 1, 1) := by decide +kernel
theorem d_bp_search_83 : decode (mcode M_bp_search) 83 = .ok (.iconst 1, 1) := by decide +kernel
theorem d_bp_search_84 : decode (mcode M_bp_search) 84 = .ok (.iadd, 1) := by decide +kernel
theorem d_bp_search_85 : decode (mcode M_bp_search) 85 = .ok (.iload_n 2, 1) := by decide +kernel
theorem d_bp_search_86 : decode (mcode M_bp_search) 86 = .ok (.iload_n 3, 1) := by decide +kernel
theorem d_bp_search_87 : decode (mcode M_bp_search) 87 = .ok (.iload 4, 2) := by decide +kernel
theorem d_bp_search_89 : decode (mcode M_bp_search) 89 = .ok (.invokestatic 49, 3) := by decide +kernel
theorem d_bp_search_92 : decode (mcode M_bp_search) 92 = .ok (.return_, 1) := by decide +kernel
theorem d_ch_init_0 : decode (mcode M_ch_init) 0 = .ok (.aload_n 0, 1) := by decide +kernel
theorem d_ch_init_1 : decode (mcode M_ch_init) 1 = .ok (.invokespecial 3, 3) := by decide +kernel
theorem d_ch_init_4 : decode (mcode M_ch_init) 4 = .ok (.aload_n 0, 1) := by decide +kernel
theorem d_ch_init_5 : decode (mcode M_ch_init) 5 = .ok (.iconst 4, 1) := by decide +kernel
theorem d_ch_init_6 : decode (mcode M_ch_init) 6 = .ok (.newarray .int, 2) := by decide +kernel
theorem d_ch_init_8 : decode (mcode M_ch_init) 8 = .ok (.putfield 9, 3) := by decide +kernel
theorem d_ch_init_11 : decode (mcode M_ch_init) 11 = .ok (.aload_n 0, 1) := by decide +kernel
theorem d_ch_init_12 : decode (mcode M_ch_init) 12 = .ok (.iconst 4, 1) := by decide +kernel
theorem d_ch_init_13 : decode (mcode M_ch_init) 13 = .ok (.newarray .int, 2) := by decide +kernel
theorem d_ch_init_15 : decode (mcode M_ch_init) 15 = .ok (.putfield 15, 3) := by decide +kernel
theorem d_ch_init_18 : decode (mcode M_ch_init) 18 = .ok (.aload_n 0, 1) := by decide +kernel
theorem d_ch_init_19 : decode (mcode M_ch_init) 19 = .ok (.iconst 4, 1) := by decide +kernel
theorem d_ch_init_20 : decode (mcode M_ch_init) 20 = .ok (.newarray .int, 2) := by decide +kernel
theorem d_ch_init_22 : decode (mcode M_ch_init) 22 = .ok (.putfield 18, 3) := by decide +kernel
theorem d_ch_init_25 : decode (mcode M_ch_init) 25 = .ok (.aload_n 0, 1) := by decide +kernel
theorem d_ch_init_26 : decode (mcode M_ch_init) 26 = .ok (.iconst 1, 1) := by decide +kernel
theorem d_ch_init_27 : decode (mcode M_ch_init) 27 = .ok (.putfield 21, 3) := by decide +kernel
theorem d_ch_init_30 : decode (mcode M_ch_init) 30 = .ok (.aload_n 0, 1) := by decide +kernel
theorem d_ch_init_31 : decode (mcode M_ch_init) 31 = .ok (.getfield 9, 3) := by decide +kernel
theorem d_ch_init_34 : decode (mcode M_ch_init) 34 = .ok (.iconst 0, 1) := by decide +kernel
theorem d_ch_init_35 : decode (mcode M_ch_init) 35 = .ok (.iload_n 1, 1) := by decide +kernel
theorem d_ch_init_36 : decode (mcode M_ch_init) 36 = .ok (.iastore, 1) := by decide +kernel
theorem d_ch_init_37 : decode (mcode M_ch_init) 37 = .ok (.aload_n 0, 1) := by decide +kernel
theorem d_ch_init_38 : decode (mcode M_ch_init) 38 = .ok (.getfield 15, 3) := by decide +kernel
theorem d_ch_init_41 : decode (mcode M_ch_init) 41 = .ok (.iconst 0, 1) := by decide +kernel
theorem d_ch_init_42 : decode (mcode M_ch_init) 42 = .ok (.bipush 99, 2) := by decide +kernel
theorem d_ch_init_44 : decode (mcode M_ch_init) 44 = .ok (.iastore, 1) := by decide +kernel
theorem d_ch_init_45 : decode (mcode M_ch_init) 45 = .ok (.return_, 1) := by decide +kernel
theorem d_ch_reaches_0 : decode (mcode M_ch_reaches) 0 = .ok (.iload_n 1, 1) := by decide +kernel
theorem d_ch_reaches_1 : decode (mcode M_ch_reaches) 1 = .ok (.iconst 0, 1) := by decide +kernel
theorem d_ch_reaches_2 : decode (mcode M_ch_reaches) 2 = .ok (.aload_n 0, 1) := by decide +kernel
theorem d_ch_reaches_3 : decode (mcode M_ch_reaches) 3 = .ok (.getfield 21, 3) := by decide +kernel
theorem d_ch_reaches_6 : decode (mcode M_ch_reaches) 6 = .ok (.iconst 1, 1) := by decide +kernel
theorem d_ch_reaches_7 : decode (mcode M_ch_reaches) 7 = .ok (.isub, 1) := by decide +kernel
theorem d_ch_reaches_8 : decode (mcode M_ch_reaches) 8 = .ok (.invokestatic 25, 3) := by decide +kernel
theorem d_ch_reaches_11 : decode (mcode M_ch_reaches) 11 = .ok (.ireturn, 1) := by decide +kernel
theorem d_ch_personAt_0 : decode (mcode M_ch_personAt) 0 = .ok (.aload_n 0, 1) := by decide +kernel
theorem d_ch_personAt_1 : decode (mcode M_ch_personAt) 1 = .ok (.iload_n 1, 1) := by decide +kernel
theorem d_ch_personAt_2 : decode (mcode M_ch_personAt) 2 = .ok (.invokevirtual 29, 3) := by decide +kernel
theorem d_ch_personAt_5 : decode (mcode M_ch_personAt) 5 = .ok (.ifCond .eq 12, 3) := by decide +kernel
theorem d_ch_personAt_8 : decode (mcode M_ch_personAt) 8 = .ok (.aload_n 0, 1) := by decide +kernel
theorem d_ch_personAt_9 : decode (mcode M_ch_personAt) 9 = .ok (.getfield 9, 3) := by decide +kernel
theorem d_ch_personAt_12 : decode (mcode M_ch_personAt) 12 = .ok (.iload_n 1, 1) := by decide +kernel
theorem d_ch_personAt_13 : decode (mcode M_ch_personAt) 13 = .ok (.iaload, 1) := by decide +kernel
theorem d_ch_personAt_14 : decode (mcode M_ch_personAt) 14 = .ok (.goto 4, 3) := by decide +kernel
theorem d_ch_personAt_17 : decode (mcode M_ch_personAt) 17 = .ok (.iconst (-1), 1) := by decide +kernel
theorem d_ch_personAt_18 : decode (mcode M_ch_personAt) 18 = .ok (.ireturn, 1) := by decide +kernel
theorem d_ch_yearsAt_0 : decode (mcode M_ch_yearsAt) 0 = .ok (.aload_n 0, 1) := by decide +kernel
theorem d_ch_yearsAt_1 : decode (mcode M_ch_yearsAt) 1 = .ok (.iload_n 1, 1) := by decide +kernel
theorem d_ch_yearsAt_2 : decode (mcode M_ch_yearsAt) 2 = .ok (.invokevirtual 29, 3) := by decide +kernel
theorem d_ch_yearsAt_5 : decode (mcode M_ch_yearsAt) 5 = .ok (.ifCond .eq 12, 3) := by decide +kernel
theorem d_ch_yearsAt_8 : decode (mcode M_ch_yearsAt) 8 = .ok (.aload_n 0, 1) := by decide +kernel
theorem d_ch_yearsAt_9 : decode (mcode M_ch_yearsAt) 9 = .ok (.getfield 15, 3) := by decide +kernel
theorem d_ch_yearsAt_12 : decode (mcode M_ch_yearsAt) 12 = .ok (.iload_n 1, 1) := by decide +kernel
theorem d_ch_yearsAt_13 : decode (mcode M_ch_yearsAt) 13 = .ok (.iaload, 1) := by decide +kernel
theorem d_ch_yearsAt_14 : decode (mcode M_ch_yearsAt) 14 = .ok (.goto 4, 3) := by decide +kernel
theorem d_ch_yearsAt_17 : decode (mcode M_ch_yearsAt) 17 = .ok (.iconst (-1), 1) := by decide +kernel
theorem d_ch_yearsAt_18 : decode (mcode M_ch_yearsAt) 18 = .ok (.ireturn, 1) := by decide +kernel
theorem d_ch_rentAt_0 : decode (mcode M_ch_rentAt) 0 = .ok (.aload_n 0, 1) := by decide +kernel
theorem d_ch_rentAt_1 : decode (mcode M_ch_rentAt) 1 = .ok (.iload_n 1, 1) := by decide +kernel
theorem d_ch_rentAt_2 : decode (mcode M_ch_rentAt) 2 = .ok (.invokevirtual 29, 3) := by decide +kernel
theorem d_ch_rentAt_5 : decode (mcode M_ch_rentAt) 5 = .ok (.ifCond .eq 12, 3) := by decide +kernel
theorem d_ch_rentAt_8 : decode (mcode M_ch_rentAt) 8 = .ok (.aload_n 0, 1) := by decide +kernel
theorem d_ch_rentAt_9 : decode (mcode M_ch_rentAt) 9 = .ok (.getfield 18, 3) := by decide +kernel
theorem d_ch_rentAt_12 : decode (mcode M_ch_rentAt) 12 = .ok (.iload_n 1, 1) := by decide +kernel
theorem d_ch_rentAt_13 : decode (mcode M_ch_rentAt) 13 = .ok (.iaload, 1) := by decide +kernel
theorem d_ch_rentAt_14 : decode (mcode M_ch_rentAt) 14 = .ok (.goto 4, 3) := by decide +kernel
theorem d_ch_rentAt_17 : decode (mcode M_ch_rentAt) 17 = .ok (.iconst (-1), 1) := by decide +kernel
theorem d_ch_rentAt_18 : decode (mcode M_ch_rentAt) 18 = .ok (.ireturn, 1) := by decide +kernel
theorem d_ch_leases_0 : decode (mcode M_ch_leases) 0 = .ok (.iconst 0, 1) := by decide +kernel
theorem d_ch_leases_1 : decode (mcode M_ch_leases) 1 = .ok (.aload_n 0, 1) := by decide +kernel
theorem d_ch_leases_2 : decode (mcode M_ch_leases) 2 = .ok (.getfield 21, 3) := by decide +kernel
theorem d_ch_leases_5 : decode (mcode M_ch_leases) 5 = .ok (.iconst 1, 1) := by decide +kernel
theorem d_ch_leases_6 : decode (mcode M_ch_leases) 6 = .ok (.isub, 1) := by decide +kernel
theorem d_ch_leases_7 : decode (mcode M_ch_leases) 7 = .ok (.invokestatic 33, 3) := by decide +kernel
theorem d_ch_leases_10 : decode (mcode M_ch_leases) 10 = .ok (.ireturn, 1) := by decide +kernel
theorem d_ch_append_0 : decode (mcode M_ch_append) 0 = .ok (.aload_n 0, 1) := by decide +kernel
theorem d_ch_append_1 : decode (mcode M_ch_append) 1 = .ok (.getfield 21, 3) := by decide +kernel
theorem d_ch_append_4 : decode (mcode M_ch_append) 4 = .ok (.iconst 4, 1) := by decide +kernel
theorem d_ch_append_5 : decode (mcode M_ch_append) 5 = .ok (.if_icmp .ge 21, 3) := by decide +kernel
theorem d_ch_append_8 : decode (mcode M_ch_append) 8 = .ok (.iload_n 2, 1) := by decide +kernel
theorem d_ch_append_9 : decode (mcode M_ch_append) 9 = .ok (.iconst 1, 1) := by decide +kernel
theorem d_ch_append_10 : decode (mcode M_ch_append) 10 = .ok (.aload_n 0, 1) := by decide +kernel
theorem d_ch_append_11 : decode (mcode M_ch_append) 11 = .ok (.aload_n 0, 1) := by decide +kernel
theorem d_ch_append_12 : decode (mcode M_ch_append) 12 = .ok (.getfield 21, 3) := by decide +kernel
theorem d_ch_append_15 : decode (mcode M_ch_append) 15 = .ok (.iconst 1, 1) := by decide +kernel
theorem d_ch_append_16 : decode (mcode M_ch_append) 16 = .ok (.isub, 1) := by decide +kernel
theorem d_ch_append_17 : decode (mcode M_ch_append) 17 = .ok (.invokevirtual 39, 3) := by decide +kernel
theorem d_ch_append_20 : decode (mcode M_ch_append) 20 = .ok (.invokestatic 25, 3) := by decide +kernel
theorem d_ch_append_23 : decode (mcode M_ch_append) 23 = .ok (.ifCond .ne 5, 3) := by decide +kernel
theorem d_ch_append_26 : decode (mcode M_ch_append) 26 = .ok (.iconst 0, 1) := by decide +kernel
theorem d_ch_append_27 : decode (mcode M_ch_append) 27 = .ok (.ireturn, 1) := by decide +kernel
theorem d_ch_append_28 : decode (mcode M_ch_append) 28 = .ok (.aload_n 0, 1) := by decide +kernel
theorem d_ch_append_29 : decode (mcode M_ch_append) 29 = .ok (.getfield 9, 3) := by decide +kernel
theorem d_ch_append_32 : decode (mcode M_ch_append) 32 = .ok (.aload_n 0, 1) := by decide +kernel
theorem d_ch_append_33 : decode (mcode M_ch_append) 33 = .ok (.getfield 21, 3) := by decide +kernel
theorem d_ch_append_36 : decode (mcode M_ch_append) 36 = .ok (.iload_n 1, 1) := by decide +kernel
theorem d_ch_append_37 : decode (mcode M_ch_append) 37 = .ok (.iastore, 1) := by decide +kernel
theorem d_ch_append_38 : decode (mcode M_ch_append) 38 = .ok (.aload_n 0, 1) := by decide +kernel
theorem d_ch_append_39 : decode (mcode M_ch_append) 39 = .ok (.getfield 15, 3) := by decide +kernel
theorem d_ch_append_42 : decode (mcode M_ch_append) 42 = .ok (.aload_n 0, 1) := by decide +kernel
theorem d_ch_append_43 : decode (mcode M_ch_append) 43 = .ok (.getfield 21, 3) := by decide +kernel
theorem d_ch_append_46 : decode (mcode M_ch_append) 46 = .ok (.iload_n 2, 1) := by decide +kernel
theorem d_ch_append_47 : decode (mcode M_ch_append) 47 = .ok (.iastore, 1) := by decide +kernel
theorem d_ch_append_48 : decode (mcode M_ch_append) 48 = .ok (.aload_n 0, 1) := by decide +kernel
theorem d_ch_append_49 : decode (mcode M_ch_append) 49 = .ok (.getfield 18, 3) := by decide +kernel
theorem d_ch_append_52 : decode (mcode M_ch_append) 52 = .ok (.aload_n 0, 1) := by decide +kernel
theorem d_ch_append_53 : decode (mcode M_ch_append) 53 = .ok (.getfield 21, 3) := by decide +kernel
theorem d_ch_append_56 : decode (mcode M_ch_append) 56 = .ok (.iload_n 3, 1) := by decide +kernel
theorem d_ch_append_57 : decode (mcode M_ch_append) 57 = .ok (.iastore, 1) := by decide +kernel
theorem d_ch_append_58 : decode (mcode M_ch_append) 58 = .ok (.aload_n 0, 1) := by decide +kernel
theorem d_ch_append_59 : decode (mcode M_ch_append) 59 = .ok (.dup, 1) := by decide +kernel
theorem d_ch_append_60 : decode (mcode M_ch_append) 60 = .ok (.getfield 21, 3) := by decide +kernel
theorem d_ch_append_63 : decode (mcode M_ch_append) 63 = .ok (.iconst 1, 1) := by decide +kernel
theorem d_ch_append_64 : decode (mcode M_ch_append) 64 = .ok (.iadd, 1) := by decide +kernel
theorem d_ch_append_65 : decode (mcode M_ch_append) 65 = .ok (.putfield 21, 3) := by decide +kernel
theorem d_ch_append_68 : decode (mcode M_ch_append) 68 = .ok (.iconst 1, 1) := by decide +kernel
theorem d_ch_append_69 : decode (mcode M_ch_append) 69 = .ok (.ireturn, 1) := by decide +kernel
theorem d_ch_interestOf_0 : decode (mcode M_ch_interestOf) 0 = .ok (.aload_n 0, 1) := by decide +kernel
theorem d_ch_interestOf_1 : decode (mcode M_ch_interestOf) 1 = .ok (.iload_n 1, 1) := by decide +kernel
theorem d_ch_interestOf_2 : decode (mcode M_ch_interestOf) 2 = .ok (.invokevirtual 29, 3) := by decide +kernel
theorem d_ch_interestOf_5 : decode (mcode M_ch_interestOf) 5 = .ok (.ifCond .ne 5, 3) := by decide +kernel
theorem d_ch_interestOf_8 : decode (mcode M_ch_interestOf) 8 = .ok (.iconst 0, 1) := by decide +kernel
theorem d_ch_interestOf_9 : decode (mcode M_ch_interestOf) 9 = .ok (.ireturn, 1) := by decide +kernel
theorem d_ch_interestOf_10 : decode (mcode M_ch_interestOf) 10 = .ok (.aload_n 0, 1) := by decide +kernel
theorem d_ch_interestOf_11 : decode (mcode M_ch_interestOf) 11 = .ok (.iload_n 1, 1) := by decide +kernel
theorem d_ch_interestOf_12 : decode (mcode M_ch_interestOf) 12 = .ok (.iconst 1, 1) := by decide +kernel
theorem d_ch_interestOf_13 : decode (mcode M_ch_interestOf) 13 = .ok (.iadd, 1) := by decide +kernel
theorem d_ch_interestOf_14 : decode (mcode M_ch_interestOf) 14 = .ok (.invokevirtual 29, 3) := by decide +kernel
theorem d_ch_interestOf_17 : decode (mcode M_ch_interestOf) 17 = .ok (.ifCond .eq 14, 3) := by decide +kernel
theorem d_ch_interestOf_20 : decode (mcode M_ch_interestOf) 20 = .ok (.aload_n 0, 1) := by decide +kernel
theorem d_ch_interestOf_21 : decode (mcode M_ch_interestOf) 21 = .ok (.getfield 18, 3) := by decide +kernel
theorem d_ch_interestOf_24 : decode (mcode M_ch_interestOf) 24 = .ok (.iload_n 1, 1) := by decide +kernel
theorem d_ch_interestOf_25 : decode (mcode M_ch_interestOf) 25 = .ok (.iconst 1, 1) := by decide +kernel
theorem d_ch_interestOf_26 : decode (mcode M_ch_interestOf) 26 = .ok (.iadd, 1) := by decide +kernel
theorem d_ch_interestOf_27 : decode (mcode M_ch_interestOf) 27 = .ok (.iaload, 1) := by decide +kernel
theorem d_ch_interestOf_28 : decode (mcode M_ch_interestOf) 28 = .ok (.goto 4, 3) := by decide +kernel
theorem d_ch_interestOf_31 : decode (mcode M_ch_interestOf) 31 = .ok (.iload_n 2, 1) := by decide +kernel
theorem d_ch_interestOf_32 : decode (mcode M_ch_interestOf) 32 = .ok (.istore_n 3, 1) := by decide +kernel
theorem d_ch_interestOf_33 : decode (mcode M_ch_interestOf) 33 = .ok (.iload_n 1, 1) := by decide +kernel
theorem d_ch_interestOf_34 : decode (mcode M_ch_interestOf) 34 = .ok (.ifCond .ne 8, 3) := by decide +kernel
theorem d_ch_interestOf_37 : decode (mcode M_ch_interestOf) 37 = .ok (.bipush 40, 2) := by decide +kernel
theorem d_ch_interestOf_39 : decode (mcode M_ch_interestOf) 39 = .ok (.goto 9, 3) := by decide +kernel
theorem d_ch_interestOf_42 : decode (mcode M_ch_interestOf) 42 = .ok (.aload_n 0, 1) := by decide +kernel
theorem d_ch_interestOf_43 : decode (mcode M_ch_interestOf) 43 = .ok (.getfield 15, 3) := by decide +kernel
theorem d_ch_interestOf_46 : decode (mcode M_ch_interestOf) 46 = .ok (.iload_n 1, 1) := by decide +kernel
theorem d_ch_interestOf_47 : decode (mcode M_ch_interestOf) 47 = .ok (.iaload, 1) := by decide +kernel
theorem d_ch_interestOf_48 : decode (mcode M_ch_interestOf) 48 = .ok (.istore 4, 2) := by decide +kernel
theorem d_ch_interestOf_50 : decode (mcode M_ch_interestOf) 50 = .ok (.iconst 0, 1) := by decide +kernel
theorem d_ch_interestOf_51 : decode (mcode M_ch_interestOf) 51 = .ok (.iload_n 3, 1) := by decide +kernel
theorem d_ch_interestOf_52 : decode (mcode M_ch_interestOf) 52 = .ok (.aload_n 0, 1) := by decide +kernel
theorem d_ch_interestOf_53 : decode (mcode M_ch_interestOf) 53 = .ok (.getfield 18, 3) := by decide +kernel
theorem d_ch_interestOf_56 : decode (mcode M_ch_interestOf) 56 = .ok (.iload_n 1, 1) := by decide +kernel
theorem d_ch_interestOf_57 : decode (mcode M_ch_interestOf) 57 = .ok (.iaload, 1) := by decide +kernel
theorem d_ch_interestOf_58 : decode (mcode M_ch_interestOf) 58 = .ok (.isub, 1) := by decide +kernel
theorem d_ch_interestOf_59 : decode (mcode M_ch_interestOf) 59 = .ok (.invokestatic 33, 3) := by decide +kernel
theorem d_ch_interestOf_62 : decode (mcode M_ch_interestOf) 62 = .ok (.iload 4, 2) := by decide +kernel
theorem d_ch_interestOf_64 : decode (mcode M_ch_interestOf) 64 = .ok (.imul, 1) := by decide +kernel
theorem d_ch_interestOf_65 : decode (mcode M_ch_interestOf) 65 = .ok (.ireturn, 1) := by decide +kernel
theorem d_ch_prolong_0 : decode (mcode M_ch_prolong) 0 = .ok (.iconst 1, 1) := by decide +kernel
theorem d_ch_prolong_1 : decode (mcode M_ch_prolong) 1 = .ok (.istore_n 3, 1) := by decide +kernel
theorem d_ch_prolong_2 : decode (mcode M_ch_prolong) 2 = .ok (.iload_n 3, 1) := by decide +kernel
theorem d_ch_prolong_3 : decode (mcode M_ch_prolong) 3 = .ok (.iload_n 1, 1) := by decide +kernel
theorem d_ch_prolong_4 : decode (mcode M_ch_prolong) 4 = .ok (.if_icmp .gt 33, 3) := by decide +kernel
theorem d_ch_prolong_7 : decode (mcode M_ch_prolong) 7 = .ok (.iload_n 3, 1) := by decide +kernel
theorem d_ch_prolong_8 : decode (mcode M_ch_prolong) 8 = .ok (.aload_n 0, 1) := by decide +kernel
theorem d_ch_prolong_9 : decode (mcode M_ch_prolong) 9 = .ok (.getfield 21, 3) := by decide +kernel
theorem d_ch_prolong_12 : decode (mcode M_ch_prolong) 12 = .ok (.if_icmp .ge 25, 3) := by decide +kernel
theorem d_ch_prolong_15 : decode (mcode M_ch_prolong) 15 = .ok (.aload_n 0, 1) := by decide +kernel
theorem d_ch_prolong_16 : decode (mcode M_ch_prolong) 16 = .ok (.getfield 15, 3) := by decide +kernel
theorem d_ch_prolong_19 : decode (mcode M_ch_prolong) 19 = .ok (.iload_n 3, 1) := by decide +kernel
theorem d_ch_prolong_20 : decode (mcode M_ch_prolong) 20 = .ok (.aload_n 0, 1) := by decide +kernel
theorem d_ch_prolong_21 : decode (mcode M_ch_prolong) 21 = .ok (.getfield 15, 3) := by decide +kernel
theorem d_ch_prolong_24 : decode (mcode M_ch_prolong) 24 = .ok (.iload_n 3, 1) := by decide +kernel
theorem d_ch_prolong_25 : decode (mcode M_ch_prolong) 25 = .ok (.iaload, 1) := by decide +kernel
theorem d_ch_prolong_26 : decode (mcode M_ch_prolong) 26 = .ok (.iload_n 2, 1) := by decide +kernel
theorem d_ch_prolong_27 : decode (mcode M_ch_prolong) 27 = .ok (.invokestatic 33, 3) := by decide +kernel
theorem d_ch_prolong_30 : decode (mcode M_ch_prolong) 30 = .ok (.iastore, 1) := by decide +kernel
theorem d_ch_prolong_31 : decode (mcode M_ch_prolong) 31 = .ok (.iinc 3 1, 3) := by decide +kernel
theorem d_ch_prolong_34 : decode (mcode M_ch_prolong) 34 = .ok (.goto (-32), 3) := by decide +kernel
theorem d_ch_prolong_37 : decode (mcode M_ch_prolong) 37 = .ok (.return_, 1) := by decide +kernel
theorem d_ch_passYear_0 : decode (mcode M_ch_passYear) 0 = .ok (.iconst 1, 1) := by decide +kernel
theorem d_ch_passYear_1 : decode (mcode M_ch_passYear) 1 = .ok (.istore_n 1, 1) := by decide +kernel
theorem d_ch_passYear_2 : decode (mcode M_ch_passYear) 2 = .ok (.iload_n 1, 1) := by decide +kernel
theorem d_ch_passYear_3 : decode (mcode M_ch_passYear) 3 = .ok (.aload_n 0, 1) := by decide +kernel
theorem d_ch_passYear_4 : decode (mcode M_ch_passYear) 4 = .ok (.getfield 21, 3) := by decide +kernel
theorem d_ch_passYear_7 : decode (mcode M_ch_passYear) 7 = .ok (.if_icmp .ge 33, 3) := by decide +kernel
theorem d_ch_passYear_10 : decode (mcode M_ch_passYear) 10 = .ok (.aload_n 0, 1) := by decide +kernel
theorem d_ch_passYear_11 : decode (mcode M_ch_passYear) 11 = .ok (.getfield 15, 3) := by decide +kernel
theorem d_ch_passYear_14 : decode (mcode M_ch_passYear) 14 = .ok (.iload_n 1, 1) := by decide +kernel
theorem d_ch_passYear_15 : decode (mcode M_ch_passYear) 15 = .ok (.dup2, 1) := by decide +kernel
theorem d_ch_passYear_16 : decode (mcode M_ch_passYear) 16 = .ok (.iaload, 1) := by decide +kernel
theorem d_ch_passYear_17 : decode (mcode M_ch_passYear) 17 = .ok (.iconst 1, 1) := by decide +kernel
theorem d_ch_passYear_18 : decode (mcode M_ch_passYear) 18 = .ok (.isub, 1) := by decide +kernel
theorem d_ch_passYear_19 : decode (mcode M_ch_passYear) 19 = .ok (.iastore, 1) := by decide +kernel
theorem d_ch_passYear_20 : decode (mcode M_ch_passYear) 20 = .ok (.aload_n 0, 1) := by decide +kernel
theorem d_ch_passYear_21 : decode (mcode M_ch_passYear) 21 = .ok (.getfield 15, 3) := by decide +kernel
theorem d_ch_passYear_24 : decode (mcode M_ch_passYear) 24 = .ok (.iload_n 1, 1) := by decide +kernel
theorem d_ch_passYear_25 : decode (mcode M_ch_passYear) 25 = .ok (.iaload, 1) := by decide +kernel
theorem d_ch_passYear_26 : decode (mcode M_ch_passYear) 26 = .ok (.ifCond .gt 8, 3) := by decide +kernel
theorem d_ch_passYear_29 : decode (mcode M_ch_passYear) 29 = .ok (.aload_n 0, 1) := by decide +kernel
theorem d_ch_passYear_30 : decode (mcode M_ch_passYear) 30 = .ok (.iload_n 1, 1) := by decide +kernel
theorem d_ch_passYear_31 : decode (mcode M_ch_passYear) 31 = .ok (.putfield 21, 3) := by decide +kernel
theorem d_ch_passYear_34 : decode (mcode M_ch_passYear) 34 = .ok (.iinc 1 1, 3) := by decide +kernel
theorem d_ch_passYear_37 : decode (mcode M_ch_passYear) 37 = .ok (.goto (-35), 3) := by decide +kernel
theorem d_ch_passYear_40 : decode (mcode M_ch_passYear) 40 = .ok (.return_, 1) := by decide +kernel
theorem d_ch_end_0 : decode (mcode M_ch_end) 0 = .ok (.aload_n 0, 1) := by decide +kernel
theorem d_ch_end_1 : decode (mcode M_ch_end) 1 = .ok (.iconst 0, 1) := by decide +kernel
theorem d_ch_end_2 : decode (mcode M_ch_end) 2 = .ok (.putfield 21, 3) := by decide +kernel
theorem d_ch_end_5 : decode (mcode M_ch_end) 5 = .ok (.return_, 1) := by decide +kernel
theorem d_ct_init_0 : decode (mcode M_ct_init) 0 = .ok (.aload_n 0, 1) := by decide +kernel
theorem d_ct_init_1 : decode (mcode M_ct_init) 1 = .ok (.invokespecial 3, 3) := by decide +kernel
theorem d_ct_init_4 : decode (mcode M_ct_init) 4 = .ok (.aload_n 0, 1) := by decide +kernel
theorem d_ct_init_5 : decode (mcode M_ct_init) 5 = .ok (.bipush 20, 2) := by decide +kernel
theorem d_ct_init_7 : decode (mcode M_ct_init) 7 = .ok (.newarray .int, 2) := by decide +kernel
theorem d_ct_init_9 : decode (mcode M_ct_init) 9 = .ok (.putfield 9, 3) := by decide +kernel
theorem d_ct_init_12 : decode (mcode M_ct_init) 12 = .ok (.aload_n 0, 1) := by decide +kernel
theorem d_ct_init_13 : decode (mcode M_ct_init) 13 = .ok (.iconst 0, 1) := by decide +kernel
theorem d_ct_init_14 : decode (mcode M_ct_init) 14 = .ok (.putfield 15, 3) := by decide +kernel
theorem d_ct_init_17 : decode (mcode M_ct_init) 17 = .ok (.aload_n 0, 1) := by decide +kernel
theorem d_ct_init_18 : decode (mcode M_ct_init) 18 = .ok (.iconst 0, 1) := by decide +kernel
theorem d_ct_init_19 : decode (mcode M_ct_init) 19 = .ok (.putfield 19, 3) := by decide +kernel
theorem d_ct_init_22 : decode (mcode M_ct_init) 22 = .ok (.aload_n 0, 1) := by decide +kernel
theorem d_ct_init_23 : decode (mcode M_ct_init) 23 = .ok (.iconst 0, 1) := by decide +kernel
theorem d_ct_init_24 : decode (mcode M_ct_init) 24 = .ok (.putfield 22, 3) := by decide +kernel
theorem d_ct_init_27 : decode (mcode M_ct_init) 27 = .ok (.aload_n 0, 1) := by decide +kernel
theorem d_ct_init_28 : decode (mcode M_ct_init) 28 = .ok (.iconst 0, 1) := by decide +kernel
theorem d_ct_init_29 : decode (mcode M_ct_init) 29 = .ok (.putfield 25, 3) := by decide +kernel
theorem d_ct_init_32 : decode (mcode M_ct_init) 32 = .ok (.return_, 1) := by decide +kernel
theorem d_ct_addWork_0 : decode (mcode M_ct_addWork) 0 = .ok (.aload_n 0, 1) := by decide +kernel
theorem d_ct_addWork_1 : decode (mcode M_ct_addWork) 1 = .ok (.getfield 15, 3) := by decide +kernel
theorem d_ct_addWork_4 : decode (mcode M_ct_addWork) 4 = .ok (.bipush 20, 2) := by decide +kernel
theorem d_ct_addWork_6 : decode (mcode M_ct_addWork) 6 = .ok (.if_icmp .lt 5, 3) := by decide +kernel
theorem d_ct_addWork_9 : decode (mcode M_ct_addWork) 9 = .ok (.iconst (-1), 1) := by decide +kernel
theorem d_ct_addWork_10 : decode (mcode M_ct_addWork) 10 = .ok (.ireturn, 1) := by decide +kernel
theorem d_ct_addWork_11 : decode (mcode M_ct_addWork) 11 = .ok (.aload_n 0, 1) := by decide +kernel
theorem d_ct_addWork_12 : decode (mcode M_ct_addWork) 12 = .ok (.getfield 9, 3) := by decide +kernel
theorem d_ct_addWork_15 : decode (mcode M_ct_addWork) 15 = .ok (.aload_n 0, 1) := by decide +kernel
theorem d_ct_addWork_16 : decode (mcode M_ct_addWork) 16 = .ok (.getfield 15, 3) := by decide +kernel
theorem d_ct_addWork_19 : decode (mcode M_ct_addWork) 19 = .ok (.iload_n 1, 1) := by decide +kernel
theorem d_ct_addWork_20 : decode (mcode M_ct_addWork) 20 = .ok (.iastore, 1) := by decide +kernel
theorem d_ct_addWork_21 : decode (mcode M_ct_addWork) 21 = .ok (.aload_n 0, 1) := by decide +kernel
theorem d_ct_addWork_22 : decode (mcode M_ct_addWork) 22 = .ok (.dup, 1) := by decide +kernel
theorem d_ct_addWork_23 : decode (mcode M_ct_addWork) 23 = .ok (.getfield 15, 3) := by decide +kernel
theorem d_ct_addWork_26 : decode (mcode M_ct_addWork) 26 = .ok (.iconst 1, 1) := by decide +kernel
theorem d_ct_addWork_27 : decode (mcode M_ct_addWork) 27 = .ok (.iadd, 1) := by decide +kernel
theorem d_ct_addWork_28 : decode (mcode M_ct_addWork) 28 = .ok (.putfield 15, 3) := by decide +kernel
theorem d_ct_addWork_31 : decode (mcode M_ct_addWork) 31 = .ok (.aload_n 0, 1) := by decide +kernel
theorem d_ct_addWork_32 : decode (mcode M_ct_addWork) 32 = .ok (.getfield 15, 3) := by decide +kernel
theorem d_ct_addWork_35 : decode (mcode M_ct_addWork) 35 = .ok (.iconst 1, 1) := by decide +kernel
theorem d_ct_addWork_36 : decode (mcode M_ct_addWork) 36 = .ok (.isub, 1) := by decide +kernel
theorem d_ct_addWork_37 : decode (mcode M_ct_addWork) 37 = .ok (.ireturn, 1) := by decide +kernel
theorem d_ct_endYear_0 : decode (mcode M_ct_endYear) 0 = .ok (.aload_n 0, 1) := by decide +kernel
theorem d_ct_endYear_1 : decode (mcode M_ct_endYear) 1 = .ok (.dup, 1) := by decide +kernel
theorem d_ct_endYear_2 : decode (mcode M_ct_endYear) 2 = .ok (.getfield 22, 3) := by decide +kernel
theorem d_ct_endYear_5 : decode (mcode M_ct_endYear) 5 = .ok (.aload_n 0, 1) := by decide +kernel
theorem d_ct_endYear_6 : decode (mcode M_ct_endYear) 6 = .ok (.getfield 25, 3) := by decide +kernel
theorem d_ct_endYear_9 : decode (mcode M_ct_endYear) 9 = .ok (.iadd, 1) := by decide +kernel
theorem d_ct_endYear_10 : decode (mcode M_ct_endYear) 10 = .ok (.putfield 22, 3) := by decide +kernel
theorem d_ct_endYear_13 : decode (mcode M_ct_endYear) 13 = .ok (.aload_n 0, 1) := by decide +kernel
theorem d_ct_endYear_14 : decode (mcode M_ct_endYear) 14 = .ok (.getfield 19, 3) := by decide +kernel
theorem d_ct_endYear_17 : decode (mcode M_ct_endYear) 17 = .ok (.aload_n 0, 1) := by decide +kernel
theorem d_ct_endYear_18 : decode (mcode M_ct_endYear) 18 = .ok (.getfield 15, 3) := by decide +kernel
theorem d_ct_endYear_21 : decode (mcode M_ct_endYear) 21 = .ok (.if_icmp .ge 50, 3) := by decide +kernel
theorem d_ct_endYear_24 : decode (mcode M_ct_endYear) 24 = .ok (.aload_n 0, 1) := by decide +kernel
theorem d_ct_endYear_25 : decode (mcode M_ct_endYear) 25 = .ok (.getfield 22, 3) := by decide +kernel
theorem d_ct_endYear_28 : decode (mcode M_ct_endYear) 28 = .ok (.aload_n 0, 1) := by decide +kernel
theorem d_ct_endYear_29 : decode (mcode M_ct_endYear) 29 = .ok (.getfield 9, 3) := by decide +kernel
theorem d_ct_endYear_32 : decode (mcode M_ct_endYear) 32 = .ok (.aload_n 0, 1) := by decide +kernel
theorem d_ct_endYear_33 : decode (mcode M_ct_endYear) 33 = .ok (.getfield 19, 3) := by decide +kernel
theorem d_ct_endYear_36 : decode (mcode M_ct_endYear) 36 = .ok (.iaload, 1) := by decide +kernel
theorem d_ct_endYear_37 : decode (mcode M_ct_endYear) 37 = .ok (.if_icmp .lt 34, 3) := by decide +kernel
theorem d_ct_endYear_40 : decode (mcode M_ct_endYear) 40 = .ok (.aload_n 0, 1) := by decide +kernel
theorem d_ct_endYear_41 : decode (mcode M_ct_endYear) 41 = .ok (.dup, 1) := by decide +kernel
theorem d_ct_endYear_42 : decode (mcode M_ct_endYear) 42 = .ok (.getfield 22, 3) := by decide +kernel
theorem d_ct_endYear_45 : decode (mcode M_ct_endYear) 45 = .ok (.aload_n 0, 1) := by decide +kernel
theorem d_ct_endYear_46 : decode (mcode M_ct_endYear) 46 = .ok (.getfield 9, 3) := by decide +kernel
theorem d_ct_endYear_49 : decode (mcode M_ct_endYear) 49 = .ok (.aload_n 0, 1) := by decide +kernel
theorem d_ct_endYear_50 : decode (mcode M_ct_endYear) 50 = .ok (.getfield 19, 3) := by decide +kernel
theorem d_ct_endYear_53 : decode (mcode M_ct_endYear) 53 = .ok (.iaload, 1) := by decide +kernel
theorem d_ct_endYear_54 : decode (mcode M_ct_endYear) 54 = .ok (.isub, 1) := by decide +kernel
theorem d_ct_endYear_55 : decode (mcode M_ct_endYear) 55 = .ok (.putfield 22, 3) := by decide +kernel
theorem d_ct_endYear_58 : decode (mcode M_ct_endYear) 58 = .ok (.aload_n 0, 1) := by decide +kernel
theorem d_ct_endYear_59 : decode (mcode M_ct_endYear) 59 = .ok (.dup, 1) := by decide +kernel
theorem d_ct_endYear_60 : decode (mcode M_ct_endYear) 60 = .ok (.getfield 19, 3) := by decide +kernel
theorem d_ct_endYear_63 : decode (mcode M_ct_endYear) 63 = .ok (.iconst 1, 1) := by decide +kernel
theorem d_ct_endYear_64 : decode (mcode M_ct_endYear) 64 = .ok (.iadd, 1) := by decide +kernel
theorem d_ct_endYear_65 : decode (mcode M_ct_endYear) 65 = .ok (.putfield 19, 3) := by decide +kernel
theorem d_ct_endYear_68 : decode (mcode M_ct_endYear) 68 = .ok (.goto (-55), 3) := by decide +kernel
theorem d_ct_endYear_71 : decode (mcode M_ct_endYear) 71 = .ok (.aload_n 0, 1) := by decide +kernel
theorem d_ct_endYear_72 : decode (mcode M_ct_endYear) 72 = .ok (.getfield 19, 3) := by decide +kernel
theorem d_ct_endYear_75 : decode (mcode M_ct_endYear) 75 = .ok (.aload_n 0, 1) := by decide +kernel
theorem d_ct_endYear_76 : decode (mcode M_ct_endYear) 76 = .ok (.getfield 15, 3) := by decide +kernel
theorem d_ct_endYear_79 : decode (mcode M_ct_endYear) 79 = .ok (.if_icmp .ge 24, 3) := by decide +kernel
theorem d_ct_endYear_82 : decode (mcode M_ct_endYear) 82 = .ok (.aload_n 0, 1) := by decide +kernel
theorem d_ct_endYear_83 : decode (mcode M_ct_endYear) 83 = .ok (.getfield 9, 3) := by decide +kernel
theorem d_ct_endYear_86 : decode (mcode M_ct_endYear) 86 = .ok (.aload_n 0, 1) := by decide +kernel
theorem d_ct_endYear_87 : decode (mcode M_ct_endYear) 87 = .ok (.getfield 19, 3) := by decide +kernel
theorem d_ct_endYear_90 : decode (mcode M_ct_endYear) 90 = .ok (.dup2, 1) := by decide +kernel
theorem d_ct_endYear_91 : decode (mcode M_ct_endYear) 91 = .ok (.iaload, 1) := by decide +kernel
theorem d_ct_endYear_92 : decode (mcode M_ct_endYear) 92 = .ok (.aload_n 0, 1) := by decide +kernel
theorem d_ct_endYear_93 : decode (mcode M_ct_endYear) 93 = .ok (.getfield 22, 3) := by decide +kernel
theorem d_ct_endYear_96 : decode (mcode M_ct_endYear) 96 = .ok (.isub, 1) := by decide +kernel
theorem d_ct_endYear_97 : decode (mcode M_ct_endYear) 97 = .ok (.iastore, 1) := by decide +kernel
theorem d_ct_endYear_98 : decode (mcode M_ct_endYear) 98 = .ok (.aload_n 0, 1) := by decide +kernel
theorem d_ct_endYear_99 : decode (mcode M_ct_endYear) 99 = .ok (.iconst 0, 1) := by decide +kernel
theorem d_ct_endYear_100 : decode (mcode M_ct_endYear) 100 = .ok (.putfield 22, 3) := by decide +kernel
theorem d_ct_endYear_103 : decode (mcode M_ct_endYear) 103 = .ok (.return_, 1) := by decide +kernel
theorem d_pl_init_0 : decode (mcode M_pl_init) 0 = .ok (.aload_n 0, 1) := by decide +kernel
theorem d_pl_init_1 : decode (mcode M_pl_init) 1 = .ok (.invokespecial 3, 3) := by decide +kernel
theorem d_pl_init_4 : decode (mcode M_pl_init) 4 = .ok (.aload_n 0, 1) := by decide +kernel
theorem d_pl_init_5 : decode (mcode M_pl_init) 5 = .ok (.iconst 0, 1) := by decide +kernel
theorem d_pl_init_6 : decode (mcode M_pl_init) 6 = .ok (.putfield 9, 3) := by decide +kernel
theorem d_pl_init_9 : decode (mcode M_pl_init) 9 = .ok (.aload_n 0, 1) := by decide +kernel
theorem d_pl_init_10 : decode (mcode M_pl_init) 10 = .ok (.iconst (-1), 1) := by decide +kernel
theorem d_pl_init_11 : decode (mcode M_pl_init) 11 = .ok (.putfield 15, 3) := by decide +kernel
theorem d_pl_init_14 : decode (mcode M_pl_init) 14 = .ok (.aload_n 0, 1) := by decide +kernel
theorem d_pl_init_15 : decode (mcode M_pl_init) 15 = .ok (.iconst (-1), 1) := by decide +kernel
theorem d_pl_init_16 : decode (mcode M_pl_init) 16 = .ok (.putfield 18, 3) := by decide +kernel
theorem d_pl_init_19 : decode (mcode M_pl_init) 19 = .ok (.aload_n 0, 1) := by decide +kernel
theorem d_pl_init_20 : decode (mcode M_pl_init) 20 = .ok (.iconst (-1), 1) := by decide +kernel
theorem d_pl_init_21 : decode (mcode M_pl_init) 21 = .ok (.putfield 21, 3) := by decide +kernel
theorem d_pl_init_24 : decode (mcode M_pl_init) 24 = .ok (.aload_n 0, 1) := by decide +kernel
theorem d_pl_init_25 : decode (mcode M_pl_init) 25 = .ok (.aconst_null, 1) := by decide +kernel
theorem d_pl_init_26 : decode (mcode M_pl_init) 26 = .ok (.putfield 24, 3) := by decide +kernel
theorem d_pl_init_29 : decode (mcode M_pl_init) 29 = .ok (.aload_n 0, 1) := by decide +kernel
theorem d_pl_init_30 : decode (mcode M_pl_init) 30 = .ok (.aconst_null, 1) := by decide +kernel
theorem d_pl_init_31 : decode (mcode M_pl_init) 31 = .ok (.putfield 28, 3) := by decide +kernel
theorem d_pl_init_34 : decode (mcode M_pl_init) 34 = .ok (.aload_n 0, 1) := by decide +kernel
theorem d_pl_init_35 : decode (mcode M_pl_init) 35 = .ok (.iload_n 1, 1) := by decide +kernel
theorem d_pl_init_36 : decode (mcode M_pl_init) 36 = .ok (.putfield 31, 3) := by decide +kernel
theorem d_pl_init_39 : decode (mcode M_pl_init) 39 = .ok (.aload_n 0, 1) := by decide +kernel
theorem d_pl_init_40 : decode (mcode M_pl_init) 40 = .ok (.iload_n 2, 1) := by decide +kernel
theorem d_pl_init_41 : decode (mcode M_pl_init) 41 = .ok (.putfield 34, 3) := by decide +kernel
theorem d_pl_init_44 : decode (mcode M_pl_init) 44 = .ok (.aload_n 0, 1) := by decide +kernel
theorem d_pl_init_45 : decode (mcode M_pl_init) 45 = .ok (.new 37, 3) := by decide +kernel
theorem d_pl_init_48 : decode (mcode M_pl_init) 48 = .ok (.dup, 1) := by decide +kernel
theorem d_pl_init_49 : decode (mcode M_pl_init) 49 = .ok (.iload_n 3, 1) := by decide +kernel
theorem d_pl_init_50 : decode (mcode M_pl_init) 50 = .ok (.invokespecial 39, 3) := by decide +kernel
theorem d_pl_init_53 : decode (mcode M_pl_init) 53 = .ok (.putfield 42, 3) := by decide +kernel
theorem d_pl_init_56 : decode (mcode M_pl_init) 56 = .ok (.return_, 1) := by decide +kernel
theorem d_pl_yearlyWorth_0 : decode (mcode M_pl_yearlyWorth) 0 = .ok (.aload_n 0, 1) := by decide +kernel
theorem d_pl_yearlyWorth_1 : decode (mcode M_pl_yearlyWorth) 1 = .ok (.getfield 31, 3) := by decide +kernel
theorem d_pl_yearlyWorth_4 : decode (mcode M_pl_yearlyWorth) 4 = .ok (.aload_n 0, 1) := by decide +kernel
theorem d_pl_yearlyWorth_5 : decode (mcode M_pl_yearlyWorth) 5 = .ok (.getfield 34, 3) := by decide +kernel
theorem d_pl_yearlyWorth_8 : decode (mcode M_pl_yearlyWorth) 8 = .ok (.imul, 1) := by decide +kernel
theorem d_pl_yearlyWorth_9 : decode (mcode M_pl_yearlyWorth) 9 = .ok (.bipush 20, 2) := by decide +kernel
theorem d_pl_yearlyWorth_11 : decode (mcode M_pl_yearlyWorth) 11 = .ok (.idiv, 1) := by decide +kernel
theorem d_pl_yearlyWorth_12 : decode (mcode M_pl_yearlyWorth) 12 = .ok (.ireturn, 1) := by decide +kernel
theorem d_pl_isThere_0 : decode (mcode M_pl_isThere) 0 = .ok (.aload_n 0, 1) := by decide +kernel
theorem d_pl_isThere_1 : decode (mcode M_pl_isThere) 1 = .ok (.getfield 9, 3) := by decide +kernel
theorem d_pl_isThere_4 : decode (mcode M_pl_isThere) 4 = .ok (.ifCond .eq 11, 3) := by decide +kernel
theorem d_pl_isThere_7 : decode (mcode M_pl_isThere) 7 = .ok (.aload_n 0, 1) := by decide +kernel
theorem d_pl_isThere_8 : decode (mcode M_pl_isThere) 8 = .ok (.getfield 9, 3) := by decide +kernel
theorem d_pl_isThere_11 : decode (mcode M_pl_isThere) 11 = .ok (.iconst 1, 1) := by decide +kernel
theorem d_pl_isThere_12 : decode (mcode M_pl_isThere) 12 = .ok (.if_icmp .ne 7, 3) := by decide +kernel
theorem d_pl_isThere_15 : decode (mcode M_pl_isThere) 15 = .ok (.iconst 1, 1) := by decide +kernel
theorem d_pl_isThere_16 : decode (mcode M_pl_isThere) 16 = .ok (.goto 4, 3) := by decide +kernel
theorem d_pl_isThere_19 : decode (mcode M_pl_isThere) 19 = .ok (.iconst 0, 1) := by decide +kernel
theorem d_pl_isThere_20 : decode (mcode M_pl_isThere) 20 = .ok (.ireturn, 1) := by decide +kernel
theorem d_pl_raise_0 : decode (mcode M_pl_raise) 0 = .ok (.aload_n 0, 1) := by decide +kernel
theorem d_pl_raise_1 : decode (mcode M_pl_raise) 1 = .ok (.iconst 1, 1) := by decide +kernel
theorem d_pl_raise_2 : decode (mcode M_pl_raise) 2 = .ok (.putfield 9, 3) := by decide +kernel
theorem d_pl_raise_5 : decode (mcode M_pl_raise) 5 = .ok (.aload_n 0, 1) := by decide +kernel
theorem d_pl_raise_6 : decode (mcode M_pl_raise) 6 = .ok (.iload_n 1, 1) := by decide +kernel
theorem d_pl_raise_7 : decode (mcode M_pl_raise) 7 = .ok (.putfield 15, 3) := by decide +kernel
theorem d_pl_raise_10 : decode (mcode M_pl_raise) 10 = .ok (.aload_n 0, 1) := by decide +kernel
theorem d_pl_raise_11 : decode (mcode M_pl_raise) 11 = .ok (.iload_n 2, 1) := by decide +kernel
theorem d_pl_raise_12 : decode (mcode M_pl_raise) 12 = .ok (.putfield 18, 3) := by decide +kernel
theorem d_pl_raise_15 : decode (mcode M_pl_raise) 15 = .ok (.return_, 1) := by decide +kernel
theorem d_pl_lose_0 : decode (mcode M_pl_lose) 0 = .ok (.aload_n 0, 1) := by decide +kernel
theorem d_pl_lose_1 : decode (mcode M_pl_lose) 1 = .ok (.iload_n 1, 1) := by decide +kernel
theorem d_pl_lose_2 : decode (mcode M_pl_lose) 2 = .ok (.putfield 9, 3) := by decide +kernel
theorem d_pl_lose_5 : decode (mcode M_pl_lose) 5 = .ok (.aload_n 0, 1) := by decide +kernel
theorem d_pl_lose_6 : decode (mcode M_pl_lose) 6 = .ok (.getfield 42, 3) := by decide +kernel
theorem d_pl_lose_9 : decode (mcode M_pl_lose) 9 = .ok (.invokevirtual 46, 3) := by decide +kernel
theorem d_pl_lose_12 : decode (mcode M_pl_lose) 12 = .ok (.return_, 1) := by decide +kernel
theorem d_pl_paidWalls_0 : decode (mcode M_pl_paidWalls) 0 = .ok (.iconst 0, 1) := by decide +kernel
theorem d_pl_paidWalls_1 : decode (mcode M_pl_paidWalls) 1 = .ok (.istore_n 1, 1) := by decide +kernel
theorem d_pl_paidWalls_2 : decode (mcode M_pl_paidWalls) 2 = .ok (.aload_n 0, 1) := by decide +kernel
theorem d_pl_paidWalls_3 : decode (mcode M_pl_paidWalls) 3 = .ok (.getfield 24, 3) := by decide +kernel
theorem d_pl_paidWalls_6 : decode (mcode M_pl_paidWalls) 6 = .ok (.ifnull 16, 3) := by decide +kernel
theorem d_pl_paidWalls_9 : decode (mcode M_pl_paidWalls) 9 = .ok (.aload_n 0, 1) := by decide +kernel
theorem d_pl_paidWalls_10 : decode (mcode M_pl_paidWalls) 10 = .ok (.getfield 24, 3) := by decide +kernel
theorem d_pl_paidWalls_13 : decode (mcode M_pl_paidWalls) 13 = .ok (.invokevirtual 49, 3) := by decide +kernel
theorem d_pl_paidWalls_16 : decode (mcode M_pl_paidWalls) 16 = .ok (.ifCond .eq 6, 3) := by decide +kernel
theorem d_pl_paidWalls_19 : decode (mcode M_pl_paidWalls) 19 = .ok (.iinc 1 1, 3) := by decide +kernel
theorem d_pl_paidWalls_22 : decode (mcode M_pl_paidWalls) 22 = .ok (.aload_n 0, 1) := by decide +kernel
theorem d_pl_paidWalls_23 : decode (mcode M_pl_paidWalls) 23 = .ok (.getfield 28, 3) := by decide +kernel
theorem d_pl_paidWalls_26 : decode (mcode M_pl_paidWalls) 26 = .ok (.ifnull 16, 3) := by decide +kernel
theorem d_pl_paidWalls_29 : decode (mcode M_pl_paidWalls) 29 = .ok (.aload_n 0, 1) := by decide +kernel
theorem d_pl_paidWalls_30 : decode (mcode M_pl_paidWalls) 30 = .ok (.getfield 28, 3) := by decide +kernel
theorem d_pl_paidWalls_33 : decode (mcode M_pl_paidWalls) 33 = .ok (.invokevirtual 49, 3) := by decide +kernel
theorem d_pl_paidWalls_36 : decode (mcode M_pl_paidWalls) 36 = .ok (.ifCond .eq 6, 3) := by decide +kernel
theorem d_pl_paidWalls_39 : decode (mcode M_pl_paidWalls) 39 = .ok (.iinc 1 1, 3) := by decide +kernel
theorem d_pl_paidWalls_42 : decode (mcode M_pl_paidWalls) 42 = .ok (.iload_n 1, 1) := by decide +kernel
theorem d_pl_paidWalls_43 : decode (mcode M_pl_paidWalls) 43 = .ok (.ireturn, 1) := by decide +kernel
theorem d_sh_init_0 : decode (mcode M_sh_init) 0 = .ok (.aload_n 0, 1) := by decide +kernel
theorem d_sh_init_1 : decode (mcode M_sh_init) 1 = .ok (.invokespecial 3, 3) := by decide +kernel
theorem d_sh_init_4 : decode (mcode M_sh_init) 4 = .ok (.aload_n 0, 1) := by decide +kernel
theorem d_sh_init_5 : decode (mcode M_sh_init) 5 = .ok (.iconst 4, 1) := by decide +kernel
theorem d_sh_init_6 : decode (mcode M_sh_init) 6 = .ok (.newarray .int, 2) := by decide +kernel
theorem d_sh_init_8 : decode (mcode M_sh_init) 8 = .ok (.putfield 9, 3) := by decide +kernel
theorem d_sh_init_11 : decode (mcode M_sh_init) 11 = .ok (.aload_n 0, 1) := by decide +kernel
theorem d_sh_init_12 : decode (mcode M_sh_init) 12 = .ok (.iconst 4, 1) := by decide +kernel
theorem d_sh_init_13 : decode (mcode M_sh_init) 13 = .ok (.newarray .long, 2) := by decide +kernel
theorem d_sh_init_15 : decode (mcode M_sh_init) 15 = .ok (.putfield 15, 3) := by decide +kernel
theorem d_sh_init_18 : decode (mcode M_sh_init) 18 = .ok (.return_, 1) := by decide +kernel
theorem d_sh_partOf_0 : decode (mcode M_sh_partOf) 0 = .ok (.iload_n 1, 1) := by decide +kernel
theorem d_sh_partOf_1 : decode (mcode M_sh_partOf) 1 = .ok (.iconst 0, 1) := by decide +kernel
theorem d_sh_partOf_2 : decode (mcode M_sh_partOf) 2 = .ok (.iconst 3, 1) := by decide +kernel
theorem d_sh_partOf_3 : decode (mcode M_sh_partOf) 3 = .ok (.invokestatic 19, 3) := by decide +kernel
theorem d_sh_partOf_6 : decode (mcode M_sh_partOf) 6 = .ok (.ifCond .eq 12, 3) := by decide +kernel
theorem d_sh_partOf_9 : decode (mcode M_sh_partOf) 9 = .ok (.aload_n 0, 1) := by decide +kernel
theorem d_sh_partOf_10 : decode (mcode M_sh_partOf) 10 = .ok (.getfield 9, 3) := by decide +kernel
theorem d_sh_partOf_13 : decode (mcode M_sh_partOf) 13 = .ok (.iload_n 1, 1) := by decide +kernel
theorem d_sh_partOf_14 : decode (mcode M_sh_partOf) 14 = .ok (.iaload, 1) := by decide +kernel
theorem d_sh_partOf_15 : decode (mcode M_sh_partOf) 15 = .ok (.goto 4, 3) := by decide +kernel
theorem d_sh_partOf_18 : decode (mcode M_sh_partOf) 18 = .ok (.iconst 0, 1) := by decide +kernel
theorem d_sh_partOf_19 : decode (mcode M_sh_partOf) 19 = .ok (.ireturn, 1) := by decide +kernel
theorem d_sh_divide_0 : decode (mcode M_sh_divide) 0 = .ok (.lconst 0, 1) := by decide +kernel
theorem d_sh_divide_1 : decode (mcode M_sh_divide) 1 = .ok (.lstore 4, 2) := by decide +kernel
theorem d_sh_divide_3 : decode (mcode M_sh_divide) 3 = .ok (.iconst 0, 1) := by decide +kernel
theorem d_sh_divide_4 : decode (mcode M_sh_divide) 4 = .ok (.istore 6, 2) := by decide +kernel
theorem d_sh_divide_6 : decode (mcode M_sh_divide) 6 = .ok (.iload 6, 2) := by decide +kernel
theorem d_sh_divide_8 : decode (mcode M_sh_divide) 8 = .ok (.aload_n 1, 1) := by decide +kernel
theorem d_sh_divide_9 : decode (mcode M_sh_divide) 9 = .ok (.getfield 23, 3) := by decide +kernel
theorem d_sh_divide_12 : decode (mcode M_sh_divide) 12 = .ok (.getfield 29, 3) := by decide +kernel
theorem d_sh_divide_15 : decode (mcode M_sh_divide) 15 = .ok (.if_icmp .ge 28, 3) := by decide +kernel
theorem d_sh_divide_18 : decode (mcode M_sh_divide) 18 = .ok (.lload 4, 2) := by decide +kernel
theorem d_sh_divide_20 : decode (mcode M_sh_divide) 20 = .ok (.aload_n 1, 1) := by decide +kernel
theorem d_sh_divide_21 : decode (mcode M_sh_divide) 21 = .ok (.getfield 23, 3) := by decide +kernel
theorem d_sh_divide_24 : decode (mcode M_sh_divide) 24 = .ok (.iload 6, 2) := by decide +kernel
theorem d_sh_divide_26 : decode (mcode M_sh_divide) 26 = .ok (.aload_n 1, 1) := by decide +kernel
theorem d_sh_divide_27 : decode (mcode M_sh_divide) 27 = .ok (.invokevirtual 35, 3) := by decide +kernel
theorem d_sh_divide_30 : decode (mcode M_sh_divide) 30 = .ok (.invokevirtual 39, 3) := by decide +kernel
theorem d_sh_divide_33 : decode (mcode M_sh_divide) 33 = .ok (.i2l, 1) := by decide +kernel
theorem d_sh_divide_34 : decode (mcode M_sh_divide) 34 = .ok (.ladd, 1) := by decide +kernel
theorem d_sh_divide_35 : decode (mcode M_sh_divide) 35 = .ok (.lstore 4, 2) := by decide +kernel
theorem d_sh_divide_37 : decode (mcode M_sh_divide) 37 = .ok (.iinc 6 1, 3) := by decide +kernel
theorem d_sh_divide_40 : decode (mcode M_sh_divide) 40 = .ok (.goto (-34), 3) := by decide +kernel
theorem d_sh_divide_43 : decode (mcode M_sh_divide) 43 = .ok (.lload 4, 2) := by decide +kernel
theorem d_sh_divide_45 : decode (mcode M_sh_divide) 45 = .ok (.lconst 0, 1) := by decide +kernel
theorem d_sh_divide_46 : decode (mcode M_sh_divide) 46 = .ok (.lcmp, 1) := by decide +kernel
theorem d_sh_divide_47 : decode (mcode M_sh_divide) 47 = .ok (.ifCond .le 12, 3) := by decide +kernel
theorem d_sh_divide_50 : decode (mcode M_sh_divide) 50 = .ok (.aload_n 0, 1) := by decide +kernel
theorem d_sh_divide_51 : decode (mcode M_sh_divide) 51 = .ok (.aload_n 1, 1) := by decide +kernel
theorem d_sh_divide_52 : decode (mcode M_sh_divide) 52 = .ok (.iload_n 2, 1) := by decide +kernel
theorem d_sh_divide_53 : decode (mcode M_sh_divide) 53 = .ok (.lload 4, 2) := by decide +kernel
theorem d_sh_divide_55 : decode (mcode M_sh_divide) 55 = .ok (.invokevirtual 43, 3) := by decide +kernel
theorem d_sh_divide_58 : decode (mcode M_sh_divide) 58 = .ok (.return_, 1) := by decide +kernel
theorem d_sh_divide_59 : decode (mcode M_sh_divide) 59 = .ok (.iconst 0, 1) := by decide +kernel
theorem d_sh_divide_60 : decode (mcode M_sh_divide) 60 = .ok (.istore 6, 2) := by decide +kernel
theorem d_sh_divide_62 : decode (mcode M_sh_divide) 62 = .ok (.iload 6, 2) := by decide +kernel
theorem d_sh_divide_64 : decode (mcode M_sh_divide) 64 = .ok (.iconst 4, 1) := by decide +kernel
theorem d_sh_divide_65 : decode (mcode M_sh_divide) 65 = .ok (.if_icmp .ge 27, 3) := by decide +kernel
theorem d_sh_divide_68 : decode (mcode M_sh_divide) 68 = .ok (.aload_n 0, 1) := by decide +kernel
theorem d_sh_divide_69 : decode (mcode M_sh_divide) 69 = .ok (.getfield 9, 3) := by decide +kernel
theorem d_sh_divide_72 : decode (mcode M_sh_divide) 72 = .ok (.iload 6, 2) := by decide +kernel
theorem d_sh_divide_74 : decode (mcode M_sh_divide) 74 = .ok (.iload 6, 2) := by decide +kernel
theorem d_sh_divide_76 : decode (mcode M_sh_divide) 76 = .ok (.iload_n 3, 1) := by decide +kernel
theorem d_sh_divide_77 : decode (mcode M_sh_divide) 77 = .ok (.if_icmp .ne 7, 3) := by decide +kernel
theorem d_sh_divide_80 : decode (mcode M_sh_divide) 80 = .ok (.iload_n 2, 1) := by decide +kernel
theorem d_sh_divide_81 : decode (mcode M_sh_divide) 81 = .ok (.goto 4, 3) := by decide +kernel
theorem d_sh_divide_84 : decode (mcode M_sh_divide) 84 = .ok (.iconst 0, 1) := by decide +kernel
theorem d_sh_divide_85 : decode (mcode M_sh_divide) 85 = .ok (.iastore, 1) := by decide +kernel
theorem d_sh_divide_86 : decode (mcode M_sh_divide) 86 = .ok (.iinc 6 1, 3) := by decide +kernel
theorem d_sh_divide_89 : decode (mcode M_sh_divide) 89 = .ok (.goto (-27), 3) := by decide +kernel
theorem d_sh_divide_92 : decode (mcode M_sh_divide) 92 = .ok (.return_, 1) := by decide +kernel
theorem d_sh_divideByInterest_0 : decode (mcode M_sh_divideByInterest) 0 = .ok (.lload_n 3, 1) := by decide +kernel
theorem d_sh_divideByInterest_1 : decode (mcode M_sh_divideByInterest) 1 = .ok (.lconst 0, 1) := by decide +kernel
theorem d_sh_divideByInterest_2 : decode (mcode M_sh_divideByInterest) 2 = .ok (.lcmp, 1) := by decide +kernel
theorem d_sh_divideByInterest_3 : decode (mcode M_sh_divideByInterest) 3 = .ok (.ifCond .gt 4, 3) := by decide +kernel
theorem d_sh_divideByInterest_6 : decode (mcode M_sh_divideByInterest) 6 = .ok (.return_, 1) := by decide +kernel
theorem d_sh_divideByInterest_7 : decode (mcode M_sh_divideByInterest) 7 = .ok (.iload_n 2, 1) := by decide +kernel
theorem d_sh_divideByInterest_8 : decode (mcode M_sh_divideByInterest) 8 = .ok (.istore 5, 2) := by decide +kernel
theorem d_sh_divideByInterest_10 : decode (mcode M_sh_divideByInterest) 10 = .ok (.iconst 0, 1) := by decide +kernel
theorem d_sh_divideByInterest_11 : decode (mcode M_sh_divideByInterest) 11 = .ok (.istore 6, 2) := by decide +kernel
theorem d_sh_divideByInterest_13 : decode (mcode M_sh_divideByInterest) 13 = .ok (.iload 6, 2) := by decide +kernel
theorem d_sh_divideByInterest_15 : decode (mcode M_sh_divideByInterest) 15 = .ok (.iconst 4, 1) := by decide +kernel
theorem d_sh_divideByInterest_16 : decode (mcode M_sh_divideByInterest) 16 = .ok (.if_icmp .ge 63, 3) := by decide +kernel
theorem d_sh_divideByInterest_19 : decode (mcode M_sh_divideByInterest) 19 = .ok (.iload_n 2, 1) := by decide +kernel
theorem d_sh_divideByInterest_20 : decode (mcode M_sh_divideByInterest) 20 = .ok (.i2l, 1) := by decide +kernel
theorem d_sh_divideByInterest_21 : decode (mcode M_sh_divideByInterest) 21 = .ok (.aload_n 1, 1) := by decide +kernel
theorem d_sh_divideByInterest_22 : decode (mcode M_sh_divideByInterest) 22 = .ok (.getfield 23, 3) := by decide +kernel
theorem d_sh_divideByInterest_25 : decode (mcode M_sh_divideByInterest) 25 = .ok (.iload 6, 2) := by decide +kernel
theorem d_sh_divideByInterest_27 : decode (mcode M_sh_divideByInterest) 27 = .ok (.aload_n 1, 1) := by decide +kernel
theorem d_sh_divideByInterest_28 : decode (mcode M_sh_divideByInterest) 28 = .ok (.invokevirtual 35, 3) := by decide +kernel
theorem d_sh_divideByInterest_31 : decode (mcode M_sh_divideByInterest) 31 = .ok (.invokevirtual 39, 3) := by decide +kernel
theorem d_sh_divideByInterest_34 : decode (mcode M_sh_divideByInterest) 34 = .ok (.i2l, 1) := by decide +kernel
theorem d_sh_divideByInterest_35 : decode (mcode M_sh_divideByInterest) 35 = .ok (.lmul, 1) := by decide +kernel
theorem d_sh_divideByInterest_36 : decode (mcode M_sh_divideByInterest) 36 = .ok (.lstore 7, 2) := by decide +kernel
theorem d_sh_divideByInterest_38 : decode (mcode M_sh_divideByInterest) 38 = .ok (.aload_n 0, 1) := by decide +kernel
theorem d_sh_divideByInterest_39 : decode (mcode M_sh_divideByInterest) 39 = .ok (.getfield 9, 3) := by decide +kernel
theorem d_sh_divideByInterest_42 : decode (mcode M_sh_divideByInterest) 42 = .ok (.iload 6, 2) := by decide +kernel
theorem d_sh_divideByInterest_44 : decode (mcode M_sh_divideByInterest) 44 = .ok (.lload 7, 2) := by decide +kernel
theorem d_sh_divideByInterest_46 : decode (mcode M_sh_divideByInterest) 46 = .ok (.lload_n 3, 1) := by decide +kernel
theorem d_sh_divideByInterest_47 : decode (mcode M_sh_divideByInterest) 47 = .ok (.ldiv, 1) := by decide +kernel
theorem d_sh_divideByInterest_48 : decode (mcode M_sh_divideByInterest) 48 = .ok (.l2i, 1) := by decide +kernel
theorem d_sh_divideByInterest_49 : decode (mcode M_sh_divideByInterest) 49 = .ok (.iastore, 1) := by decide +kernel
theorem d_sh_divideByInterest_50 : decode (mcode M_sh_divideByInterest) 50 = .ok (.aload_n 0, 1) := by decide +kernel
theorem d_sh_divideByInterest_51 : decode (mcode M_sh_divideByInterest) 51 = .ok (.getfield 15, 3) := by decide +kernel
theorem d_sh_divideByInterest_54 : decode (mcode M_sh_divideByInterest) 54 = .ok (.iload 6, 2) := by decide +kernel
theorem d_sh_divideByInterest_56 : decode (mcode M_sh_divideByInterest) 56 = .ok (.lload 7, 2) := by decide +kernel
theorem d_sh_divideByInterest_58 : decode (mcode M_sh_divideByInterest) 58 = .ok (.lload_n 3, 1) := by decide +kernel
theorem d_sh_divideByInterest_59 : decode (mcode M_sh_divideByInterest) 59 = .ok (.lrem, 1) := by decide +kernel
theorem d_sh_divideByInterest_60 : decode (mcode M_sh_divideByInterest) 60 = .ok (.lastore, 1) := by decide +kernel
theorem d_sh_divideByInterest_61 : decode (mcode M_sh_divideByInterest) 61 = .ok (.iload 5, 2) := by decide +kernel
theorem d_sh_divideByInterest_63 : decode (mcode M_sh_divideByInterest) 63 = .ok (.aload_n 0, 1) := by decide +kernel
theorem d_sh_divideByInterest_64 : decode (mcode M_sh_divideByInterest) 64 = .ok (.getfield 9, 3) := by decide +kernel
theorem d_sh_divideByInterest_67 : decode (mcode M_sh_divideByInterest) 67 = .ok (.iload 6, 2) := by decide +kernel
theorem d_sh_divideByInterest_69 : decode (mcode M_sh_divideByInterest) 69 = .ok (.iaload, 1) := by decide +kernel
theorem d_sh_divideByInterest_70 : decode (mcode M_sh_divideByInterest) 70 = .ok (.isub, 1) := by decide +kernel
theorem d_sh_divideByInterest_71 : decode (mcode M_sh_divideByInterest) 71 = .ok (.istore 5, 2) := by decide +kernel
theorem d_sh_divideByInterest_73 : decode (mcode M_sh_divideByInterest) 73 = .ok (.iinc 6 1, 3) := by decide +kernel
theorem d_sh_divideByInterest_76 : decode (mcode M_sh_divideByInterest) 76 = .ok (.goto (-63), 3) := by decide +kernel
theorem d_sh_divideByInterest_79 : decode (mcode M_sh_divideByInterest) 79 = .ok (.iconst 0, 1) := by decide +kernel
theorem d_sh_divideByInterest_80 : decode (mcode M_sh_divideByInterest) 80 = .ok (.istore 6, 2) := by decide +kernel
theorem d_sh_divideByInterest_82 : decode (mcode M_sh_divideByInterest) 82 = .ok (.iload 6, 2) := by decide +kernel
theorem d_sh_divideByInterest_84 : decode (mcode M_sh_divideByInterest) 84 = .ok (.iload 5, 2) := by decide +kernel
theorem d_sh_divideByInterest_86 : decode (mcode M_sh_divideByInterest) 86 = .ok (.if_icmp .ge 42, 3) := by decide +kernel
theorem d_sh_divideByInterest_89 : decode (mcode M_sh_divideByInterest) 89 = .ok (.iload 6, 2) := by decide +kernel
theorem d_sh_divideByInterest_91 : decode (mcode M_sh_divideByInterest) 91 = .ok (.iconst 4, 1) := by decide +kernel
theorem d_sh_divideByInterest_92 : decode (mcode M_sh_divideByInterest) 92 = .ok (.if_icmp .ge 36, 3) := by decide +kernel
theorem d_sh_divideByInterest_95 : decode (mcode M_sh_divideByInterest) 95 = .ok (.aload_n 0, 1) := by decide +kernel
theorem d_sh_divideByInterest_96 : decode (mcode M_sh_divideByInterest) 96 = .ok (.invokevirtual 47, 3) := by decide +kernel
theorem d_sh_divideByInterest_99 : decode (mcode M_sh_divideByInterest) 99 = .ok (.istore 7, 2) := by decide +kernel
theorem d_sh_divideByInterest_101 : decode (mcode M_sh_divideByInterest) 101 = .ok (.aload_n 0, 1) := by decide +kernel
theorem d_sh_divideByInterest_102 : decode (mcode M_sh_divideByInterest) 102 = .ok (.getfield 9, 3) := by decide +kernel
theorem d_sh_divideByInterest_105 : decode (mcode M_sh_divideByInterest) 105 = .ok (.iload 7, 2) := by decide +kernel
theorem d_sh_divideByInterest_107 : decode (mcode M_sh_divideByInterest) 107 = .ok (.dup2, 1) := by decide +kernel
theorem d_sh_divideByInterest_108 : decode (mcode M_sh_divideByInterest) 108 = .ok (.iaload, 1) := by decide +kernel
theorem d_sh_divideByInterest_109 : decode (mcode M_sh_divideByInterest) 109 = .ok (.iconst 1, 1) := by decide +kernel
theorem d_sh_divideByInterest_110 : decode (mcode M_sh_divideByInterest) 110 = .ok (.iadd, 1) := by decide +kernel
theorem d_sh_divideByInterest_111 : decode (mcode M_sh_divideByInterest) 111 = .ok (.iastore, 1) := by decide +kernel
theorem d_sh_divideByInterest_112 : decode (mcode M_sh_divideByInterest) 112 = .ok (.aload_n 0, 1) := by decide +kernel
theorem d_sh_divideByInterest_113 : decode (mcode M_sh_divideByInterest) 113 = .ok (.getfield 15, 3) := by decide +kernel
theorem d_sh_divideByInterest_116 : decode (mcode M_sh_divideByInterest) 116 = .ok (.iload 7, 2) := by decide +kernel
theorem d_sh_divideByInterest_118 : decode (mcode M_sh_divideByInterest) 118 = .ok (.ldc2_w 50, 3) := by decide +kernel
theorem d_sh_divideByInterest_121 : decode (mcode M_sh_divideByInterest) 121 = .ok (.lastore, 1) := by decide +kernel
theorem d_sh_divideByInterest_122 : decode (mcode M_sh_divideByInterest) 122 = .ok (.iinc 6 1, 3) := by decide +kernel
theorem d_sh_divideByInterest_125 : decode (mcode M_sh_divideByInterest) 125 = .ok (.goto (-43), 3) := by decide +kernel
theorem d_sh_divideByInterest_128 : decode (mcode M_sh_divideByInterest) 128 = .ok (.return_, 1) := by decide +kernel
theorem d_sh_placeOfMostCutOff_0 : decode (mcode M_sh_placeOfMostCutOff) 0 = .ok (.iconst 0, 1) := by decide +kernel
theorem d_sh_placeOfMostCutOff_1 : decode (mcode M_sh_placeOfMostCutOff) 1 = .ok (.istore_n 1, 1) := by decide +kernel
theorem d_sh_placeOfMostCutOff_2 : decode (mcode M_sh_placeOfMostCutOff) 2 = .ok (.iconst 1, 1) := by decide +kernel
theorem d_sh_placeOfMostCutOff_3 : decode (mcode M_sh_placeOfMostCutOff) 3 = .ok (.istore_n 2, 1) := by decide +kernel
theorem d_sh_placeOfMostCutOff_4 : decode (mcode M_sh_placeOfMostCutOff) 4 = .ok (.iload_n 2, 1) := by decide +kernel
theorem d_sh_placeOfMostCutOff_5 : decode (mcode M_sh_placeOfMostCutOff) 5 = .ok (.iconst 4, 1) := by decide +kernel
theorem d_sh_placeOfMostCutOff_6 : decode (mcode M_sh_placeOfMostCutOff) 6 = .ok (.if_icmp .ge 27, 3) := by decide +kernel
theorem d_sh_placeOfMostCutOff_9 : decode (mcode M_sh_placeOfMostCutOff) 9 = .ok (.aload_n 0, 1) := by decide +kernel
theorem d_sh_placeOfMostCutOff_10 : decode (mcode M_sh_placeOfMostCutOff) 10 = .ok (.getfield 15, 3) := by decide +kernel
theorem d_sh_placeOfMostCutOff_13 : decode (mcode M_sh_placeOfMostCutOff) 13 = .ok (.iload_n 2, 1) := by decide +kernel
theorem d_sh_placeOfMostCutOff_14 : decode (mcode M_sh_placeOfMostCutOff) 14 = .ok (.laload, 1) := by decide +kernel
theorem d_sh_placeOfMostCutOff_15 : decode (mcode M_sh_placeOfMostCutOff) 15 = .ok (.aload_n 0, 1) := by decide +kernel
theorem d_sh_placeOfMostCutOff_16 : decode (mcode M_sh_placeOfMostCutOff) 16 = .ok (.getfield 15, 3) := by decide +kernel
theorem d_sh_placeOfMostCutOff_19 : decode (mcode M_sh_placeOfMostCutOff) 19 = .ok (.iload_n 1, 1) := by decide +kernel
theorem d_sh_placeOfMostCutOff_20 : decode (mcode M_sh_placeOfMostCutOff) 20 = .ok (.laload, 1) := by decide +kernel
theorem d_sh_placeOfMostCutOff_21 : decode (mcode M_sh_placeOfMostCutOff) 21 = .ok (.lcmp, 1) := by decide +kernel
theorem d_sh_placeOfMostCutOff_22 : decode (mcode M_sh_placeOfMostCutOff) 22 = .ok (.ifCond .le 5, 3) := by decide +kernel
theorem d_sh_placeOfMostCutOff_25 : decode (mcode M_sh_placeOfMostCutOff) 25 = .ok (.iload_n 2, 1) := by decide +kernel
theorem d_sh_placeOfMostCutOff_26 : decode (mcode M_sh_placeOfMostCutOff) 26 = .ok (.istore_n 1, 1) := by decide +kernel
theorem d_sh_placeOfMostCutOff_27 : decode (mcode M_sh_placeOfMostCutOff) 27 = .ok (.iinc 2 1, 3) := by decide +kernel
theorem d_sh_placeOfMostCutOff_30 : decode (mcode M_sh_placeOfMostCutOff) 30 = .ok (.goto (-26), 3) := by decide +kernel
theorem d_sh_placeOfMostCutOff_33 : decode (mcode M_sh_placeOfMostCutOff) 33 = .ok (.iload_n 1, 1) := by decide +kernel
theorem d_sh_placeOfMostCutOff_34 : decode (mcode M_sh_placeOfMostCutOff) 34 = .ok (.ireturn, 1) := by decide +kernel
theorem d_sr_init_0 : decode (mcode M_sr_init) 0 = .ok (.aload_n 0, 1) := by decide +kernel
theorem d_sr_init_1 : decode (mcode M_sr_init) 1 = .ok (.invokespecial 3, 3) := by decide +kernel
theorem d_sr_init_4 : decode (mcode M_sr_init) 4 = .ok (.aload_n 0, 1) := by decide +kernel
theorem d_sr_init_5 : decode (mcode M_sr_init) 5 = .ok (.new 9, 3) := by decide +kernel
theorem d_sr_init_8 : decode (mcode M_sr_init) 8 = .ok (.dup, 1) := by decide +kernel
theorem d_sr_init_9 : decode (mcode M_sr_init) 9 = .ok (.invokespecial 11, 3) := by decide +kernel
theorem d_sr_init_12 : decode (mcode M_sr_init) 12 = .ok (.putfield 12, 3) := by decide +kernel
theorem d_sr_init_15 : decode (mcode M_sr_init) 15 = .ok (.aload_n 0, 1) := by decide +kernel
theorem d_sr_init_16 : decode (mcode M_sr_init) 16 = .ok (.bipush 7, 2) := by decide +kernel
theorem d_sr_init_18 : decode (mcode M_sr_init) 18 = .ok (.newarray .int, 2) := by decide +kernel
theorem d_sr_init_20 : decode (mcode M_sr_init) 20 = .ok (.putfield 18, 3) := by decide +kernel
theorem d_sr_init_23 : decode (mcode M_sr_init) 23 = .ok (.iconst 0, 1) := by decide +kernel
theorem d_sr_init_24 : decode (mcode M_sr_init) 24 = .ok (.istore_n 1, 1) := by decide +kernel
theorem d_sr_init_25 : decode (mcode M_sr_init) 25 = .ok (.iload_n 1, 1) := by decide +kernel
theorem d_sr_init_26 : decode (mcode M_sr_init) 26 = .ok (.aload_n 0, 1) := by decide +kernel
theorem d_sr_init_27 : decode (mcode M_sr_init) 27 = .ok (.getfield 18, 3) := by decide +kernel
theorem d_sr_init_30 : decode (mcode M_sr_init) 30 = .ok (.arraylength, 1) := by decide +kernel
theorem d_sr_init_31 : decode (mcode M_sr_init) 31 = .ok (.if_icmp .ge 16, 3) := by decide +kernel
theorem d_sr_init_34 : decode (mcode M_sr_init) 34 = .ok (.aload_n 0, 1) := by decide +kernel
theorem d_sr_init_35 : decode (mcode M_sr_init) 35 = .ok (.getfield 18, 3) := by decide +kernel
theorem d_sr_init_38 : decode (mcode M_sr_init) 38 = .ok (.iload_n 1, 1) := by decide +kernel
theorem d_sr_init_39 : decode (mcode M_sr_init) 39 = .ok (.iconst (-1), 1) := by decide +kernel
theorem d_sr_init_40 : decode (mcode M_sr_init) 40 = .ok (.iastore, 1) := by decide +kernel
theorem d_sr_init_41 : decode (mcode M_sr_init) 41 = .ok (.iinc 1 1, 3) := by decide +kernel
theorem d_sr_init_44 : decode (mcode M_sr_init) 44 = .ok (.goto (-19), 3) := by decide +kernel
theorem d_sr_init_47 : decode (mcode M_sr_init) 47 = .ok (.return_, 1) := by decide +kernel
theorem d_sr_append_0 : decode (mcode M_sr_append) 0 = .ok (.aload_n 0, 1) := by decide +kernel
theorem d_sr_append_1 : decode (mcode M_sr_append) 1 = .ok (.getfield 12, 3) := by decide +kernel
theorem d_sr_append_4 : decode (mcode M_sr_append) 4 = .ok (.invokevirtual 22, 3) := by decide +kernel
theorem d_sr_append_7 : decode (mcode M_sr_append) 7 = .ok (.bipush 8, 2) := by decide +kernel
theorem d_sr_append_9 : decode (mcode M_sr_append) 9 = .ok (.if_icmp .lt 5, 3) := by decide +kernel
theorem d_sr_append_12 : decode (mcode M_sr_append) 12 = .ok (.iconst 0, 1) := by decide +kernel
theorem d_sr_append_13 : decode (mcode M_sr_append) 13 = .ok (.ireturn, 1) := by decide +kernel
theorem d_sr_append_14 : decode (mcode M_sr_append) 14 = .ok (.aload_n 0, 1) := by decide +kernel
theorem d_sr_append_15 : decode (mcode M_sr_append) 15 = .ok (.getfield 12, 3) := by decide +kernel
theorem d_sr_append_18 : decode (mcode M_sr_append) 18 = .ok (.invokevirtual 26, 3) := by decide +kernel
theorem d_sr_append_21 : decode (mcode M_sr_append) 21 = .ok (.ifCond .ne 43, 3) := by decide +kernel
theorem d_sr_append_24 : decode (mcode M_sr_append) 24 = .ok (.aload_n 0, 1) := by decide +kernel
theorem d_sr_append_25 : decode (mcode M_sr_append) 25 = .ok (.getfield 12, 3) := by decide +kernel
theorem d_sr_append_28 : decode (mcode M_sr_append) 28 = .ok (.aload_n 0, 1) := by decide +kernel
theorem d_sr_append_29 : decode (mcode M_sr_append) 29 = .ok (.getfield 12, 3) := by decide +kernel
theorem d_sr_append_32 : decode (mcode M_sr_append) 32 = .ok (.invokevirtual 22, 3) := by decide +kernel
theorem d_sr_append_35 : decode (mcode M_sr_append) 35 = .ok (.iconst 1, 1) := by decide +kernel
theorem d_sr_append_36 : decode (mcode M_sr_append) 36 = .ok (.isub, 1) := by decide +kernel
theorem d_sr_append_37 : decode (mcode M_sr_append) 37 = .ok (.invokevirtual 30, 3) := by decide +kernel
theorem d_sr_append_40 : decode (mcode M_sr_append) 40 = .ok (.checkcast 34, 3) := by decide +kernel
theorem d_sr_append_43 : decode (mcode M_sr_append) 43 = .ok (.astore_n 2, 1) := by decide +kernel
theorem d_sr_append_44 : decode (mcode M_sr_append) 44 = .ok (.new 36, 3) := by decide +kernel
theorem d_sr_append_47 : decode (mcode M_sr_append) 47 = .ok (.dup, 1) := by decide +kernel
theorem d_sr_append_48 : decode (mcode M_sr_append) 48 = .ok (.aload_n 2, 1) := by decide +kernel
theorem d_sr_append_49 : decode (mcode M_sr_append) 49 = .ok (.aload_n 1, 1) := by decide +kernel
theorem d_sr_append_50 : decode (mcode M_sr_append) 50 = .ok (.invokespecial 38, 3) := by decide +kernel
theorem d_sr_append_53 : decode (mcode M_sr_append) 53 = .ok (.astore_n 3, 1) := by decide +kernel
theorem d_sr_append_54 : decode (mcode M_sr_append) 54 = .ok (.aload_n 2, 1) := by decide +kernel
theorem d_sr_append_55 : decode (mcode M_sr_append) 55 = .ok (.aload_n 3, 1) := by decide +kernel
theorem d_sr_append_56 : decode (mcode M_sr_append) 56 = .ok (.putfield 41, 3) := by decide +kernel
theorem d_sr_append_59 : decode (mcode M_sr_append) 59 = .ok (.aload_n 1, 1) := by decide +kernel
theorem d_sr_append_60 : decode (mcode M_sr_append) 60 = .ok (.aload_n 3, 1) := by decide +kernel
theorem d_sr_append_61 : decode (mcode M_sr_append) 61 = .ok (.putfield 45, 3) := by decide +kernel
theorem d_sr_append_64 : decode (mcode M_sr_append) 64 = .ok (.aload_n 0, 1) := by decide +kernel
theorem d_sr_append_65 : decode (mcode M_sr_append) 65 = .ok (.getfield 12, 3) := by decide +kernel
theorem d_sr_append_68 : decode (mcode M_sr_append) 68 = .ok (.aload_n 1, 1) := by decide +kernel
theorem d_sr_append_69 : decode (mcode M_sr_append) 69 = .ok (.invokevirtual 48, 3) := by decide +kernel
theorem d_sr_append_72 : decode (mcode M_sr_append) 72 = .ok (.pop, 1) := by decide +kernel
theorem d_sr_append_73 : decode (mcode M_sr_append) 73 = .ok (.iconst 1, 1) := by decide +kernel
theorem d_sr_append_74 : decode (mcode M_sr_append) 74 = .ok (.ireturn, 1) := by decide +kernel
theorem d_sr_canMeasure_0 : decode (mcode M_sr_canMeasure) 0 = .ok (.aload_n 0, 1) := by decide +kernel
theorem d_sr_canMeasure_1 : decode (mcode M_sr_canMeasure) 1 = .ok (.getfield 12, 3) := by decide +kernel
theorem d_sr_canMeasure_4 : decode (mcode M_sr_canMeasure) 4 = .ok (.invokevirtual 26, 3) := by decide +kernel
theorem d_sr_canMeasure_7 : decode (mcode M_sr_canMeasure) 7 = .ok (.ifCond .ne 28, 3) := by decide +kernel
theorem d_sr_canMeasure_10 : decode (mcode M_sr_canMeasure) 10 = .ok (.iload_n 1, 1) := by decide +kernel
theorem d_sr_canMeasure_11 : decode (mcode M_sr_canMeasure) 11 = .ok (.iconst 2, 1) := by decide +kernel
theorem d_sr_canMeasure_12 : decode (mcode M_sr_canMeasure) 12 = .ok (.aload_n 0, 1) := by decide +kernel
theorem d_sr_canMeasure_13 : decode (mcode M_sr_canMeasure) 13 = .ok (.getfield 12, 3) := by decide +kernel
theorem d_sr_canMeasure_16 : decode (mcode M_sr_canMeasure) 16 = .ok (.invokevirtual 22, 3) := by decide +kernel
theorem d_sr_canMeasure_19 : decode (mcode M_sr_canMeasure) 19 = .ok (.invokestatic 52, 3) := by decide +kernel
theorem d_sr_canMeasure_22 : decode (mcode M_sr_canMeasure) 22 = .ok (.sipush 300, 3) := by decide +kernel
theorem d_sr_canMeasure_25 : decode (mcode M_sr_canMeasure) 25 = .ok (.invokestatic 58, 3) := by decide +kernel
theorem d_sr_canMeasure_28 : decode (mcode M_sr_canMeasure) 28 = .ok (.ifCond .eq 7, 3) := by decide +kernel
theorem d_sr_canMeasure_31 : decode (mcode M_sr_canMeasure) 31 = .ok (.iconst 1, 1) := by decide +kernel
theorem d_sr_canMeasure_32 : decode (mcode M_sr_canMeasure) 32 = .ok (.goto 4, 3) := by decide +kernel
theorem d_sr_canMeasure_35 : decode (mcode M_sr_canMeasure) 35 = .ok (.iconst 0, 1) := by decide +kernel
theorem d_sr_canMeasure_36 : decode (mcode M_sr_canMeasure) 36 = .ok (.ireturn, 1) := by decide +kernel
theorem d_sr_frontOf_0 : decode (mcode M_sr_frontOf) 0 = .ok (.iload_n 1, 1) := by decide +kernel
theorem d_sr_frontOf_1 : decode (mcode M_sr_frontOf) 1 = .ok (.iconst 0, 1) := by decide +kernel
theorem d_sr_frontOf_2 : decode (mcode M_sr_frontOf) 2 = .ok (.aload_n 0, 1) := by decide +kernel
theorem d_sr_frontOf_3 : decode (mcode M_sr_frontOf) 3 = .ok (.getfield 12, 3) := by decide +kernel
theorem d_sr_frontOf_6 : decode (mcode M_sr_frontOf) 6 = .ok (.invokevirtual 22, 3) := by decide +kernel
theorem d_sr_frontOf_9 : decode (mcode M_sr_frontOf) 9 = .ok (.iconst 1, 1) := by decide +kernel
theorem d_sr_frontOf_10 : decode (mcode M_sr_frontOf) 10 = .ok (.isub, 1) := by decide +kernel
theorem d_sr_frontOf_11 : decode (mcode M_sr_frontOf) 11 = .ok (.invokestatic 58, 3) := by decide +kernel
theorem d_sr_frontOf_14 : decode (mcode M_sr_frontOf) 14 = .ok (.ifCond .eq 20, 3) := by decide +kernel
theorem d_sr_frontOf_17 : decode (mcode M_sr_frontOf) 17 = .ok (.aload_n 0, 1) := by decide +kernel
theorem d_sr_frontOf_18 : decode (mcode M_sr_frontOf) 18 = .ok (.getfield 12, 3) := by decide +kernel
theorem d_sr_frontOf_21 : decode (mcode M_sr_frontOf) 21 = .ok (.iload_n 1, 1) := by decide +kernel
theorem d_sr_frontOf_22 : decode (mcode M_sr_frontOf) 22 = .ok (.invokevirtual 30, 3) := by decide +kernel
theorem d_sr_frontOf_25 : decode (mcode M_sr_frontOf) 25 = .ok (.checkcast 34, 3) := by decide +kernel
theorem d_sr_frontOf_28 : decode (mcode M_sr_frontOf) 28 = .ok (.getfield 62, 3) := by decide +kernel
theorem d_sr_frontOf_31 : decode (mcode M_sr_frontOf) 31 = .ok (.goto 4, 3) := by decide +kernel
theorem d_sr_frontOf_34 : decode (mcode M_sr_frontOf) 34 = .ok (.iconst 0, 1) := by decide +kernel
theorem d_sr_frontOf_35 : decode (mcode M_sr_frontOf) 35 = .ok (.ireturn, 1) := by decide +kernel
theorem d_sr_stakeGap_0 : decode (mcode M_sr_stakeGap) 0 = .ok (.iload_n 1, 1) := by decide +kernel
theorem d_sr_stakeGap_1 : decode (mcode M_sr_stakeGap) 1 = .ok (.iconst 0, 1) := by decide +kernel
theorem d_sr_stakeGap_2 : decode (mcode M_sr_stakeGap) 2 = .ok (.aload_n 0, 1) := by decide +kernel
theorem d_sr_stakeGap_3 : decode (mcode M_sr_stakeGap) 3 = .ok (.getfield 18, 3) := by decide +kernel
theorem d_sr_stakeGap_6 : decode (mcode M_sr_stakeGap) 6 = .ok (.arraylength, 1) := by decide +kernel
theorem d_sr_stakeGap_7 : decode (mcode M_sr_stakeGap) 7 = .ok (.iconst 1, 1) := by decide +kernel
theorem d_sr_stakeGap_8 : decode (mcode M_sr_stakeGap) 8 = .ok (.isub, 1) := by decide +kernel
theorem d_sr_stakeGap_9 : decode (mcode M_sr_stakeGap) 9 = .ok (.invokestatic 58, 3) := by decide +kernel
theorem d_sr_stakeGap_12 : decode (mcode M_sr_stakeGap) 12 = .ok (.ifCond .eq 13, 3) := by decide +kernel
theorem d_sr_stakeGap_15 : decode (mcode M_sr_stakeGap) 15 = .ok (.aload_n 0, 1) := by decide +kernel
theorem d_sr_stakeGap_16 : decode (mcode M_sr_stakeGap) 16 = .ok (.getfield 18, 3) := by decide +kernel
theorem d_sr_stakeGap_19 : decode (mcode M_sr_stakeGap) 19 = .ok (.iload_n 1, 1) := by decide +kernel
theorem d_sr_stakeGap_20 : decode (mcode M_sr_stakeGap) 20 = .ok (.iaload, 1) := by decide +kernel
theorem d_sr_stakeGap_21 : decode (mcode M_sr_stakeGap) 21 = .ok (.iconst (-1), 1) := by decide +kernel
theorem d_sr_stakeGap_22 : decode (mcode M_sr_stakeGap) 22 = .ok (.if_icmp .ne 5, 3) := by decide +kernel
theorem d_sr_stakeGap_25 : decode (mcode M_sr_stakeGap) 25 = .ok (.iconst 0, 1) := by decide +kernel
theorem d_sr_stakeGap_26 : decode (mcode M_sr_stakeGap) 26 = .ok (.ireturn, 1) := by decide +kernel
theorem d_sr_stakeGap_27 : decode (mcode M_sr_stakeGap) 27 = .ok (.iload_n 2, 1) := by decide +kernel
theorem d_sr_stakeGap_28 : decode (mcode M_sr_stakeGap) 28 = .ok (.aload_n 0, 1) := by decide +kernel
theorem d_sr_stakeGap_29 : decode (mcode M_sr_stakeGap) 29 = .ok (.getfield 18, 3) := by decide +kernel
theorem d_sr_stakeGap_32 : decode (mcode M_sr_stakeGap) 32 = .ok (.iload_n 1, 1) := by decide +kernel
theorem d_sr_stakeGap_33 : decode (mcode M_sr_stakeGap) 33 = .ok (.iaload, 1) := by decide +kernel
theorem d_sr_stakeGap_34 : decode (mcode M_sr_stakeGap) 34 = .ok (.isub, 1) := by decide +kernel
theorem d_sr_stakeGap_35 : decode (mcode M_sr_stakeGap) 35 = .ok (.invokestatic 66, 3) := by decide +kernel
theorem d_sr_stakeGap_38 : decode (mcode M_sr_stakeGap) 38 = .ok (.ireturn, 1) := by decide +kernel
theorem d_sv_init_0 : decode (mcode M_sv_init) 0 = .ok (.aload_n 0, 1) := by decide +kernel
theorem d_sv_init_1 : decode (mcode M_sv_init) 1 = .ok (.invokespecial 3, 3) := by decide +kernel
theorem d_sv_init_4 : decode (mcode M_sv_init) 4 = .ok (.aload_n 0, 1) := by decide +kernel
theorem d_sv_init_5 : decode (mcode M_sv_init) 5 = .ok (.bipush 8, 2) := by decide +kernel
theorem d_sv_init_7 : decode (mcode M_sv_init) 7 = .ok (.sipush 301, 3) := by decide +kernel
theorem d_sv_init_10 : decode (mcode M_sv_init) 10 = .ok (.multianewarray 9 2, 4) := by decide +kernel
theorem d_sv_init_14 : decode (mcode M_sv_init) 14 = .ok (.putfield 11, 3) := by decide +kernel
theorem d_sv_init_17 : decode (mcode M_sv_init) 17 = .ok (.return_, 1) := by decide +kernel
theorem d_sv_measure_0 : decode (mcode M_sv_measure) 0 = .ok (.aload_n 1, 1) := by decide +kernel
theorem d_sv_measure_1 : decode (mcode M_sv_measure) 1 = .ok (.getfield 16, 3) := by decide +kernel
theorem d_sv_measure_4 : decode (mcode M_sv_measure) 4 = .ok (.invokevirtual 22, 3) := by decide +kernel
theorem d_sv_measure_7 : decode (mcode M_sv_measure) 7 = .ok (.iconst 1, 1) := by decide +kernel
theorem d_sv_measure_8 : decode (mcode M_sv_measure) 8 = .ok (.isub, 1) := by decide +kernel
theorem d_sv_measure_9 : decode (mcode M_sv_measure) 9 = .ok (.istore_n 3, 1) := by decide +kernel
theorem d_sv_measure_10 : decode (mcode M_sv_measure) 10 = .ok (.iload_n 3, 1) := by decide +kernel
theorem d_sv_measure_11 : decode (mcode M_sv_measure) 11 = .ok (.iconst 0, 1) := by decide +kernel
theorem d_sv_measure_12 : decode (mcode M_sv_measure) 12 = .ok (.bipush 7, 2) := by decide +kernel
theorem d_sv_measure_14 : decode (mcode M_sv_measure) 14 = .ok (.invokestatic 28, 3) := by decide +kernel
theorem d_sv_measure_17 : decode (mcode M_sv_measure) 17 = .ok (.ifCond .eq 14, 3) := by decide +kernel
theorem d_sv_measure_20 : decode (mcode M_sv_measure) 20 = .ok (.iload_n 2, 1) := by decide +kernel
theorem d_sv_measure_21 : decode (mcode M_sv_measure) 21 = .ok (.iconst 1, 1) := by decide +kernel
theorem d_sv_measure_22 : decode (mcode M_sv_measure) 22 = .ok (.sipush 300, 3) := by decide +kernel
theorem d_sv_measure_25 : decode (mcode M_sv_measure) 25 = .ok (.invokestatic 28, 3) := by decide +kernel
theorem d_sv_measure_28 : decode (mcode M_sv_measure) 28 = .ok (.ifCond .ne 4, 3) := by decide +kernel
theorem d_sv_measure_31 : decode (mcode M_sv_measure) 31 = .ok (.return_, 1) := by decide +kernel
theorem d_sv_measure_32 : decode (mcode M_sv_measure) 32 = .ok (.aload_n 0, 1) := by decide +kernel
theorem d_sv_measure_33 : decode (mcode M_sv_measure) 33 = .ok (.getfield 11, 3) := by decide +kernel
theorem d_sv_measure_36 : decode (mcode M_sv_measure) 36 = .ok (.iload_n 3, 1) := by decide +kernel
theorem d_sv_measure_37 : decode (mcode M_sv_measure) 37 = .ok (.aaload, 1) := by decide +kernel
theorem d_sv_measure_38 : decode (mcode M_sv_measure) 38 = .ok (.iload_n 2, 1) := by decide +kernel
theorem d_sv_measure_39 : decode (mcode M_sv_measure) 39 = .ok (.iconst 0, 1) := by decide +kernel
theorem d_sv_measure_40 : decode (mcode M_sv_measure) 40 = .ok (.iastore, 1) := by decide +kernel
theorem d_sv_measure_41 : decode (mcode M_sv_measure) 41 = .ok (.iload_n 3, 1) := by decide +kernel
theorem d_sv_measure_42 : decode (mcode M_sv_measure) 42 = .ok (.iconst 1, 1) := by decide +kernel
theorem d_sv_measure_43 : decode (mcode M_sv_measure) 43 = .ok (.isub, 1) := by decide +kernel
theorem d_sv_measure_44 : decode (mcode M_sv_measure) 44 = .ok (.istore 4, 2) := by decide +kernel
theorem d_sv_measure_46 : decode (mcode M_sv_measure) 46 = .ok (.iload 4, 2) := by decide +kernel
theorem d_sv_measure_48 : decode (mcode M_sv_measure) 48 = .ok (.ifCond .lt 22, 3) := by decide +kernel
theorem d_sv_measure_51 : decode (mcode M_sv_measure) 51 = .ok (.aload_n 0, 1) := by decide +kernel
theorem d_sv_measure_52 : decode (mcode M_sv_measure) 52 = .ok (.aload_n 1, 1) := by decide +kernel
theorem d_sv_measure_53 : decode (mcode M_sv_measure) 53 = .ok (.iload 4, 2) := by decide +kernel
theorem d_sv_measure_55 : decode (mcode M_sv_measure) 55 = .ok (.iload_n 2, 1) := by decide +kernel
theorem d_sv_measure_56 : decode (mcode M_sv_measure) 56 = .ok (.iload_n 3, 1) := by decide +kernel
theorem d_sv_measure_57 : decode (mcode M_sv_measure) 57 = .ok (.iload 4, 2) := by decide +kernel
theorem d_sv_measure_59 : decode (mcode M_sv_measure) 59 = .ok (.isub, 1) := by decide +kernel
theorem d_sv_measure_60 : decode (mcode M_sv_measure) 60 = .ok (.isub, 1) := by decide +kernel
theorem d_sv_measure_61 : decode (mcode M_sv_measure) 61 = .ok (.invokevirtual 32, 3) := by decide +kernel
theorem d_sv_measure_64 : decode (mcode M_sv_measure) 64 = .ok (.iinc 4 (-1), 3) := by decide +kernel
theorem d_sv_measure_67 : decode (mcode M_sv_measure) 67 = .ok (.goto (-21), 3) := by decide +kernel
theorem d_sv_measure_70 : decode (mcode M_sv_measure) 70 = .ok (.return_, 1) := by decide +kernel
theorem d_sv_fillRow_0 : decode (mcode M_sv_fillRow) 0 = .ok (.iload_n 2, 1) := by decide +kernel
theorem d_sv_fillRow_1 : decode (mcode M_sv_fillRow) 1 = .ok (.iconst 1, 1) := by decide +kernel
theorem d_sv_fillRow_2 : decode (mcode M_sv_fillRow) 2 = .ok (.iadd, 1) := by decide +kernel
theorem d_sv_fillRow_3 : decode (mcode M_sv_fillRow) 3 = .ok (.aload_n 1, 1) := by decide +kernel
theorem d_sv_fillRow_4 : decode (mcode M_sv_fillRow) 4 = .ok (.getfield 16, 3) := by decide +kernel
theorem d_sv_fillRow_7 : decode (mcode M_sv_fillRow) 7 = .ok (.invokevirtual 22, 3) := by decide +kernel
theorem d_sv_fillRow_10 : decode (mcode M_sv_fillRow) 10 = .ok (.iconst 1, 1) := by decide +kernel
theorem d_sv_fillRow_11 : decode (mcode M_sv_fillRow) 11 = .ok (.isub, 1) := by decide +kernel
theorem d_sv_fillRow_12 : decode (mcode M_sv_fillRow) 12 = .ok (.if_icmp .ne 7, 3) := by decide +kernel
theorem d_sv_fillRow_15 : decode (mcode M_sv_fillRow) 15 = .ok (.iconst 1, 1) := by decide +kernel
theorem d_sv_fillRow_16 : decode (mcode M_sv_fillRow) 16 = .ok (.goto 4, 3) := by decide +kernel
theorem d_sv_fillRow_19 : decode (mcode M_sv_fillRow) 19 = .ok (.iconst 0, 1) := by decide +kernel
theorem d_sv_fillRow_20 : decode (mcode M_sv_fillRow) 20 = .ok (.istore 4, 2) := by decide +kernel
theorem d_sv_fillRow_22 : decode (mcode M_sv_fillRow) 22 = .ok (.aload_n 1, 1) := by decide +kernel
theorem d_sv_fillRow_23 : decode (mcode M_sv_fillRow) 23 = .ok (.iload_n 2, 1) := by decide +kernel
theorem d_sv_fillRow_24 : decode (mcode M_sv_fillRow) 24 = .ok (.iconst 1, 1) := by decide +kernel
theorem d_sv_fillRow_25 : decode (mcode M_sv_fillRow) 25 = .ok (.iadd, 1) := by decide +kernel
theorem d_sv_fillRow_26 : decode (mcode M_sv_fillRow) 26 = .ok (.invokevirtual 36, 3) := by decide +kernel
theorem d_sv_fillRow_29 : decode (mcode M_sv_fillRow) 29 = .ok (.istore 5, 2) := by decide +kernel
theorem d_sv_fillRow_31 : decode (mcode M_sv_fillRow) 31 = .ok (.iload 4, 2) := by decide +kernel
theorem d_sv_fillRow_33 : decode (mcode M_sv_fillRow) 33 = .ok (.ifCond .eq 9, 3) := by decide +kernel
theorem d_sv_fillRow_36 : decode (mcode M_sv_fillRow) 36 = .ok (.iload_n 3, 1) := by decide +kernel
theorem d_sv_fillRow_37 : decode (mcode M_sv_fillRow) 37 = .ok (.iconst 1, 1) := by decide +kernel
theorem d_sv_fillRow_38 : decode (mcode M_sv_fillRow) 38 = .ok (.iadd, 1) := by decide +kernel
theorem d_sv_fillRow_39 : decode (mcode M_sv_fillRow) 39 = .ok (.goto 6, 3) := by decide +kernel
theorem d_sv_fillRow_42 : decode (mcode M_sv_fillRow) 42 = .ok (.iload_n 2, 1) := by decide +kernel
theorem d_sv_fillRow_43 : decode (mcode M_sv_fillRow) 43 = .ok (.iconst 2, 1) := by decide +kernel
theorem d_sv_fillRow_44 : decode (mcode M_sv_fillRow) 44 = .ok (.iadd, 1) := by decide +kernel
theorem d_sv_fillRow_45 : decode (mcode M_sv_fillRow) 45 = .ok (.istore 6, 2) := by decide +kernel
theorem d_sv_fillRow_47 : decode (mcode M_sv_fillRow) 47 = .ok (.iload_n 2, 1) := by decide +kernel
theorem d_sv_fillRow_48 : decode (mcode M_sv_fillRow) 48 = .ok (.iconst 1, 1) := by decide +kernel
theorem d_sv_fillRow_49 : decode (mcode M_sv_fillRow) 49 = .ok (.iadd, 1) := by decide +kernel
theorem d_sv_fillRow_50 : decode (mcode M_sv_fillRow) 50 = .ok (.istore 7, 2) := by decide +kernel
theorem d_sv_fillRow_52 : decode (mcode M_sv_fillRow) 52 = .ok (.iload 7, 2) := by decide +kernel
theorem d_sv_fillRow_54 : decode (mcode M_sv_fillRow) 54 = .ok (.iload_n 3, 1) := by decide +kernel
theorem d_sv_fillRow_55 : decode (mcode M_sv_fillRow) 55 = .ok (.if_icmp .gt 74, 3) := by decide +kernel
theorem d_sv_fillRow_58 : decode (mcode M_sv_fillRow) 58 = .ok (.aload_n 0, 1) := by decide +kernel
theorem d_sv_fillRow_59 : decode (mcode M_sv_fillRow) 59 = .ok (.getfield 11, 3) := by decide +kernel
theorem d_sv_fillRow_62 : decode (mcode M_sv_fillRow) 62 = .ok (.iload_n 2, 1) := by decide +kernel
theorem d_sv_fillRow_63 : decode (mcode M_sv_fillRow) 63 = .ok (.iconst 1, 1) := by decide +kernel
theorem d_sv_fillRow_64 : decode (mcode M_sv_fillRow) 64 = .ok (.iadd, 1) := by decide +kernel
theorem d_sv_fillRow_65 : decode (mcode M_sv_fillRow) 65 = .ok (.aaload, 1) := by decide +kernel
theorem d_sv_fillRow_66 : decode (mcode M_sv_fillRow) 66 = .ok (.iload 7, 2) := by decide +kernel
theorem d_sv_fillRow_68 : decode (mcode M_sv_fillRow) 68 = .ok (.iload 5, 2) := by decide +kernel
theorem d_sv_fillRow_70 : decode (mcode M_sv_fillRow) 70 = .ok (.iadd, 1) := by decide +kernel
theorem d_sv_fillRow_71 : decode (mcode M_sv_fillRow) 71 = .ok (.iload 6, 2) := by decide +kernel
theorem d_sv_fillRow_73 : decode (mcode M_sv_fillRow) 73 = .ok (.iload 7, 2) := by decide +kernel
theorem d_sv_fillRow_75 : decode (mcode M_sv_fillRow) 75 = .ok (.iconst 1, 1) := by decide +kernel
theorem d_sv_fillRow_76 : decode (mcode M_sv_fillRow) 76 = .ok (.iadd, 1) := by decide +kernel
theorem d_sv_fillRow_77 : decode (mcode M_sv_fillRow) 77 = .ok (.invokestatic 40, 3) := by decide +kernel
theorem d_sv_fillRow_80 : decode (mcode M_sv_fillRow) 80 = .ok (.iload_n 3, 1) := by decide +kernel
theorem d_sv_fillRow_81 : decode (mcode M_sv_fillRow) 81 = .ok (.iconst 1, 1) := by decide +kernel
theorem d_sv_fillRow_82 : decode (mcode M_sv_fillRow) 82 = .ok (.iadd, 1) := by decide +kernel
theorem d_sv_fillRow_83 : decode (mcode M_sv_fillRow) 83 = .ok (.invokestatic 46, 3) := by decide +kernel
theorem d_sv_fillRow_86 : decode (mcode M_sv_fillRow) 86 = .ok (.istore 6, 2) := by decide +kernel
theorem d_sv_fillRow_88 : decode (mcode M_sv_fillRow) 88 = .ok (.aload_n 0, 1) := by decide +kernel
theorem d_sv_fillRow_89 : decode (mcode M_sv_fillRow) 89 = .ok (.getfield 11, 3) := by decide +kernel
theorem d_sv_fillRow_92 : decode (mcode M_sv_fillRow) 92 = .ok (.iload_n 2, 1) := by decide +kernel
theorem d_sv_fillRow_93 : decode (mcode M_sv_fillRow) 93 = .ok (.aaload, 1) := by decide +kernel
theorem d_sv_fillRow_94 : decode (mcode M_sv_fillRow) 94 = .ok (.iload 7, 2) := by decide +kernel
theorem d_sv_fillRow_96 : decode (mcode M_sv_fillRow) 96 = .ok (.aload_n 1, 1) := by decide +kernel
theorem d_sv_fillRow_97 : decode (mcode M_sv_fillRow) 97 = .ok (.iload_n 2, 1) := by decide +kernel
theorem d_sv_fillRow_98 : decode (mcode M_sv_fillRow) 98 = .ok (.iload 7, 2) := by decide +kernel
theorem d_sv_fillRow_100 : decode (mcode M_sv_fillRow) 100 = .ok (.invokevirtual 50, 3) := by decide +kernel
theorem d_sv_fillRow_103 : decode (mcode M_sv_fillRow) 103 = .ok (.aload_n 0, 1) := by decide +kernel
theorem d_sv_fillRow_104 : decode (mcode M_sv_fillRow) 104 = .ok (.getfield 11, 3) := by decide +kernel
theorem d_sv_fillRow_107 : decode (mcode M_sv_fillRow) 107 = .ok (.iload_n 2, 1) := by decide +kernel
theorem d_sv_fillRow_108 : decode (mcode M_sv_fillRow) 108 = .ok (.iconst 1, 1) := by decide +kernel
theorem d_sv_fillRow_109 : decode (mcode M_sv_fillRow) 109 = .ok (.iadd, 1) := by decide +kernel
theorem d_sv_fillRow_110 : decode (mcode M_sv_fillRow) 110 = .ok (.aaload, 1) := by decide +kernel
theorem d_sv_fillRow_111 : decode (mcode M_sv_fillRow) 111 = .ok (.iload 7, 2) := by decide +kernel
theorem d_sv_fillRow_113 : decode (mcode M_sv_fillRow) 113 = .ok (.iload 5, 2) := by decide +kernel
theorem d_sv_fillRow_115 : decode (mcode M_sv_fillRow) 115 = .ok (.iadd, 1) := by decide +kernel
theorem d_sv_fillRow_116 : decode (mcode M_sv_fillRow) 116 = .ok (.iload 6, 2) := by decide +kernel
theorem d_sv_fillRow_118 : decode (mcode M_sv_fillRow) 118 = .ok (.invokestatic 53, 3) := by decide +kernel
theorem d_sv_fillRow_121 : decode (mcode M_sv_fillRow) 121 = .ok (.iadd, 1) := by decide +kernel
theorem d_sv_fillRow_122 : decode (mcode M_sv_fillRow) 122 = .ok (.iastore, 1) := by decide +kernel
theorem d_sv_fillRow_123 : decode (mcode M_sv_fillRow) 123 = .ok (.iinc 7 1, 3) := by decide +kernel
theorem d_sv_fillRow_126 : decode (mcode M_sv_fillRow) 126 = .ok (.goto (-74), 3) := by decide +kernel
theorem d_sv_fillRow_129 : decode (mcode M_sv_fillRow) 129 = .ok (.return_, 1) := by decide +kernel
theorem d_sv_quarrelAt_0 : decode (mcode M_sv_quarrelAt) 0 = .ok (.iload_n 2, 1) := by decide +kernel
theorem d_sv_quarrelAt_1 : decode (mcode M_sv_quarrelAt) 1 = .ok (.iconst 0, 1) := by decide +kernel
theorem d_sv_quarrelAt_2 : decode (mcode M_sv_quarrelAt) 2 = .ok (.aload_n 0, 1) := by decide +kernel
theorem d_sv_quarrelAt_3 : decode (mcode M_sv_quarrelAt) 3 = .ok (.arraylength, 1) := by decide +kernel
theorem d_sv_quarrelAt_4 : decode (mcode M_sv_quarrelAt) 4 = .ok (.iconst 1, 1) := by decide +kernel
theorem d_sv_quarrelAt_5 : decode (mcode M_sv_quarrelAt) 5 = .ok (.isub, 1) := by decide +kernel
theorem d_sv_quarrelAt_6 : decode (mcode M_sv_quarrelAt) 6 = .ok (.invokestatic 28, 3) := by decide +kernel
theorem d_sv_quarrelAt_9 : decode (mcode M_sv_quarrelAt) 9 = .ok (.ifCond .eq 16, 3) := by decide +kernel
theorem d_sv_quarrelAt_12 : decode (mcode M_sv_quarrelAt) 12 = .ok (.iload_n 2, 1) := by decide +kernel
theorem d_sv_quarrelAt_13 : decode (mcode M_sv_quarrelAt) 13 = .ok (.iload_n 1, 1) := by decide +kernel
theorem d_sv_quarrelAt_14 : decode (mcode M_sv_quarrelAt) 14 = .ok (.isub, 1) := by decide +kernel
theorem d_sv_quarrelAt_15 : decode (mcode M_sv_quarrelAt) 15 = .ok (.invokestatic 57, 3) := by decide +kernel
theorem d_sv_quarrelAt_18 : decode (mcode M_sv_quarrelAt) 18 = .ok (.aload_n 0, 1) := by decide +kernel
theorem d_sv_quarrelAt_19 : decode (mcode M_sv_quarrelAt) 19 = .ok (.iload_n 2, 1) := by decide +kernel
theorem d_sv_quarrelAt_20 : decode (mcode M_sv_quarrelAt) 20 = .ok (.iaload, 1) := by decide +kernel
theorem d_sv_quarrelAt_21 : decode (mcode M_sv_quarrelAt) 21 = .ok (.iadd, 1) := by decide +kernel
theorem d_sv_quarrelAt_22 : decode (mcode M_sv_quarrelAt) 22 = .ok (.goto 4, 3) := by decide +kernel
theorem d_sv_quarrelAt_25 : decode (mcode M_sv_quarrelAt) 25 = .ok (.iconst 0, 1) := by decide +kernel
theorem d_sv_quarrelAt_26 : decode (mcode M_sv_quarrelAt) 26 = .ok (.ireturn, 1) := by decide +kernel
theorem d_sv_firstBest_0 : decode (mcode M_sv_firstBest) 0 = .ok (.iload_n 2, 1) := by decide +kernel
theorem d_sv_firstBest_1 : decode (mcode M_sv_firstBest) 1 = .ok (.istore 4, 2) := by decide +kernel
theorem d_sv_firstBest_3 : decode (mcode M_sv_firstBest) 3 = .ok (.aload_n 0, 1) := by decide +kernel
theorem d_sv_firstBest_4 : decode (mcode M_sv_firstBest) 4 = .ok (.iload_n 1, 1) := by decide +kernel
theorem d_sv_firstBest_5 : decode (mcode M_sv_firstBest) 5 = .ok (.iload 4, 2) := by decide +kernel
theorem d_sv_firstBest_7 : decode (mcode M_sv_firstBest) 7 = .ok (.invokestatic 53, 3) := by decide +kernel
theorem d_sv_firstBest_10 : decode (mcode M_sv_firstBest) 10 = .ok (.istore 5, 2) := by decide +kernel
theorem d_sv_firstBest_12 : decode (mcode M_sv_firstBest) 12 = .ok (.iload 4, 2) := by decide +kernel
theorem d_sv_firstBest_14 : decode (mcode M_sv_firstBest) 14 = .ok (.iload_n 3, 1) := by decide +kernel
theorem d_sv_firstBest_15 : decode (mcode M_sv_firstBest) 15 = .ok (.if_icmp .ge 34, 3) := by decide +kernel
theorem d_sv_firstBest_18 : decode (mcode M_sv_firstBest) 18 = .ok (.aload_n 0, 1) := by decide +kernel
theorem d_sv_firstBest_19 : decode (mcode M_sv_firstBest) 19 = .ok (.iload_n 1, 1) := by decide +kernel
theorem d_sv_firstBest_20 : decode (mcode M_sv_firstBest) 20 = .ok (.iload 4, 2) := by decide +kernel
theorem d_sv_firstBest_22 : decode (mcode M_sv_firstBest) 22 = .ok (.iconst 1, 1) := by decide +kernel
theorem d_sv_firstBest_23 : decode (mcode M_sv_firstBest) 23 = .ok (.iadd, 1) := by decide +kernel
theorem d_sv_firstBest_24 : decode (mcode M_sv_firstBest) 24 = .ok (.invokestatic 53, 3) := by decide +kernel
theorem d_sv_firstBest_27 : decode (mcode M_sv_firstBest) 27 = .ok (.istore 6, 2) := by decide +kernel
theorem d_sv_firstBest_29 : decode (mcode M_sv_firstBest) 29 = .ok (.iload 6, 2) := by decide +kernel
theorem d_sv_firstBest_31 : decode (mcode M_sv_firstBest) 31 = .ok (.iload 5, 2) := by decide +kernel
theorem d_sv_firstBest_33 : decode (mcode M_sv_firstBest) 33 = .ok (.if_icmp .lt 6, 3) := by decide +kernel
theorem d_sv_firstBest_36 : decode (mcode M_sv_firstBest) 36 = .ok (.iload 4, 2) := by decide +kernel
theorem d_sv_firstBest_38 : decode (mcode M_sv_firstBest) 38 = .ok (.ireturn, 1) := by decide +kernel
theorem d_sv_firstBest_39 : decode (mcode M_sv_firstBest) 39 = .ok (.iload 6, 2) := by decide +kernel
theorem d_sv_firstBest_41 : decode (mcode M_sv_firstBest) 41 = .ok (.istore 5, 2) := by decide +kernel
theorem d_sv_firstBest_43 : decode (mcode M_sv_firstBest) 43 = .ok (.iinc 4 1, 3) := by decide +kernel
theorem d_sv_firstBest_46 : decode (mcode M_sv_firstBest) 46 = .ok (.goto (-34), 3) := by decide +kernel
theorem d_sv_firstBest_49 : decode (mcode M_sv_firstBest) 49 = .ok (.iload 4, 2) := by decide +kernel
theorem d_sv_firstBest_51 : decode (mcode M_sv_firstBest) 51 = .ok (.ireturn, 1) := by decide +kernel
theorem d_sv_leastQuarrel_0 : decode (mcode M_sv_leastQuarrel) 0 = .ok (.aload_n 0, 1) := by decide +kernel
theorem d_sv_leastQuarrel_1 : decode (mcode M_sv_leastQuarrel) 1 = .ok (.getfield 11, 3) := by decide +kernel
theorem d_sv_leastQuarrel_4 : decode (mcode M_sv_leastQuarrel) 4 = .ok (.iconst 0, 1) := by decide +kernel
theorem d_sv_leastQuarrel_5 : decode (mcode M_sv_leastQuarrel) 5 = .ok (.aaload, 1) := by decide +kernel
theorem d_sv_leastQuarrel_6 : decode (mcode M_sv_leastQuarrel) 6 = .ok (.aload_n 1, 1) := by decide +kernel
theorem d_sv_leastQuarrel_7 : decode (mcode M_sv_leastQuarrel) 7 = .ok (.iconst 0, 1) := by decide +kernel
theorem d_sv_leastQuarrel_8 : decode (mcode M_sv_leastQuarrel) 8 = .ok (.invokevirtual 36, 3) := by decide +kernel
theorem d_sv_leastQuarrel_11 : decode (mcode M_sv_leastQuarrel) 11 = .ok (.aload_n 0, 1) := by decide +kernel
theorem d_sv_leastQuarrel_12 : decode (mcode M_sv_leastQuarrel) 12 = .ok (.aload_n 1, 1) := by decide +kernel
theorem d_sv_leastQuarrel_13 : decode (mcode M_sv_leastQuarrel) 13 = .ok (.iload_n 2, 1) := by decide +kernel
theorem d_sv_leastQuarrel_14 : decode (mcode M_sv_leastQuarrel) 14 = .ok (.iconst 0, 1) := by decide +kernel
theorem d_sv_leastQuarrel_15 : decode (mcode M_sv_leastQuarrel) 15 = .ok (.iconst 0, 1) := by decide +kernel
theorem d_sv_leastQuarrel_16 : decode (mcode M_sv_leastQuarrel) 16 = .ok (.invokevirtual 60, 3) := by decide +kernel
theorem d_sv_leastQuarrel_19 : decode (mcode M_sv_leastQuarrel) 19 = .ok (.invokestatic 53, 3) := by decide +kernel
theorem d_sv_leastQuarrel_22 : decode (mcode M_sv_leastQuarrel) 22 = .ok (.ireturn, 1) := by decide +kernel
theorem d_sv_borderBehind_0 : decode (mcode M_sv_borderBehind) 0 = .ok (.iconst 0, 1) := by decide +kernel
theorem d_sv_borderBehind_1 : decode (mcode M_sv_borderBehind) 1 = .ok (.istore 4, 2) := by decide +kernel
theorem d_sv_borderBehind_3 : decode (mcode M_sv_borderBehind) 3 = .ok (.iconst 0, 1) := by decide +kernel
theorem d_sv_borderBehind_4 : decode (mcode M_sv_borderBehind) 4 = .ok (.istore 5, 2) := by decide +kernel
theorem d_sv_borderBehind_6 : decode (mcode M_sv_borderBehind) 6 = .ok (.iload 5, 2) := by decide +kernel
theorem d_sv_borderBehind_8 : decode (mcode M_sv_borderBehind) 8 = .ok (.iload_n 3, 1) := by decide +kernel
theorem d_sv_borderBehind_9 : decode (mcode M_sv_borderBehind) 9 = .ok (.if_icmp .gt 28, 3) := by decide +kernel
theorem d_sv_borderBehind_12 : decode (mcode M_sv_borderBehind) 12 = .ok (.iload 5, 2) := by decide +kernel
theorem d_sv_borderBehind_14 : decode (mcode M_sv_borderBehind) 14 = .ok (.bipush 8, 2) := by decide +kernel
theorem d_sv_borderBehind_16 : decode (mcode M_sv_borderBehind) 16 = .ok (.if_icmp .ge 21, 3) := by decide +kernel
theorem d_sv_borderBehind_19 : decode (mcode M_sv_borderBehind) 19 = .ok (.aload_n 0, 1) := by decide +kernel
theorem d_sv_borderBehind_20 : decode (mcode M_sv_borderBehind) 20 = .ok (.aload_n 1, 1) := by decide +kernel
theorem d_sv_borderBehind_21 : decode (mcode M_sv_borderBehind) 21 = .ok (.iload_n 2, 1) := by decide +kernel
theorem d_sv_borderBehind_22 : decode (mcode M_sv_borderBehind) 22 = .ok (.iload 5, 2) := by decide +kernel
theorem d_sv_borderBehind_24 : decode (mcode M_sv_borderBehind) 24 = .ok (.iload 4, 2) := by decide +kernel
theorem d_sv_borderBehind_26 : decode (mcode M_sv_borderBehind) 26 = .ok (.invokevirtual 60, 3) := by decide +kernel
theorem d_sv_borderBehind_29 : decode (mcode M_sv_borderBehind) 29 = .ok (.istore 4, 2) := by decide +kernel
theorem d_sv_borderBehind_31 : decode (mcode M_sv_borderBehind) 31 = .ok (.iinc 5 1, 3) := by decide +kernel
theorem d_sv_borderBehind_34 : decode (mcode M_sv_borderBehind) 34 = .ok (.goto (-28), 3) := by decide +kernel
theorem d_sv_borderBehind_37 : decode (mcode M_sv_borderBehind) 37 = .ok (.iload 4, 2) := by decide +kernel
theorem d_sv_borderBehind_39 : decode (mcode M_sv_borderBehind) 39 = .ok (.ireturn, 1) := by decide +kernel
theorem d_sv_endOf_0 : decode (mcode M_sv_endOf) 0 = .ok (.aload_n 1, 1) := by decide +kernel
theorem d_sv_endOf_1 : decode (mcode M_sv_endOf) 1 = .ok (.getfield 16, 3) := by decide +kernel
theorem d_sv_endOf_4 : decode (mcode M_sv_endOf) 4 = .ok (.invokevirtual 22, 3) := by decide +kernel
theorem d_sv_endOf_7 : decode (mcode M_sv_endOf) 7 = .ok (.iconst 1, 1) := by decide +kernel
theorem d_sv_endOf_8 : decode (mcode M_sv_endOf) 8 = .ok (.isub, 1) := by decide +kernel
theorem d_sv_endOf_9 : decode (mcode M_sv_endOf) 9 = .ok (.istore 5, 2) := by decide +kernel
theorem d_sv_endOf_11 : decode (mcode M_sv_endOf) 11 = .ok (.iload_n 3, 1) := by decide +kernel
theorem d_sv_endOf_12 : decode (mcode M_sv_endOf) 12 = .ok (.iconst 0, 1) := by decide +kernel
theorem d_sv_endOf_13 : decode (mcode M_sv_endOf) 13 = .ok (.iload 5, 2) := by decide +kernel
theorem d_sv_endOf_15 : decode (mcode M_sv_endOf) 15 = .ok (.iconst 1, 1) := by decide +kernel
theorem d_sv_endOf_16 : decode (mcode M_sv_endOf) 16 = .ok (.isub, 1) := by decide +kernel
theorem d_sv_endOf_17 : decode (mcode M_sv_endOf) 17 = .ok (.invokestatic 28, 3) := by decide +kernel
theorem d_sv_endOf_20 : decode (mcode M_sv_endOf) 20 = .ok (.ifCond .ne 5, 3) := by decide +kernel
theorem d_sv_endOf_23 : decode (mcode M_sv_endOf) 23 = .ok (.iload_n 2, 1) := by decide +kernel
theorem d_sv_endOf_24 : decode (mcode M_sv_endOf) 24 = .ok (.ireturn, 1) := by decide +kernel
theorem d_sv_endOf_25 : decode (mcode M_sv_endOf) 25 = .ok (.aload_n 0, 1) := by decide +kernel
theorem d_sv_endOf_26 : decode (mcode M_sv_endOf) 26 = .ok (.getfield 11, 3) := by decide +kernel
theorem d_sv_endOf_29 : decode (mcode M_sv_endOf) 29 = .ok (.iload_n 3, 1) := by decide +kernel
theorem d_sv_endOf_30 : decode (mcode M_sv_endOf) 30 = .ok (.aaload, 1) := by decide +kernel
theorem d_sv_endOf_31 : decode (mcode M_sv_endOf) 31 = .ok (.iload 4, 2) := by decide +kernel
theorem d_sv_endOf_33 : decode (mcode M_sv_endOf) 33 = .ok (.aload_n 1, 1) := by decide +kernel
theorem d_sv_endOf_34 : decode (mcode M_sv_endOf) 34 = .ok (.iload_n 3, 1) := by decide +kernel
theorem d_sv_endOf_35 : decode (mcode M_sv_endOf) 35 = .ok (.invokevirtual 36, 3) := by decide +kernel
theorem d_sv_endOf_38 : decode (mcode M_sv_endOf) 38 = .ok (.iadd, 1) := by decide +kernel
theorem d_sv_endOf_39 : decode (mcode M_sv_endOf) 39 = .ok (.iload 4, 2) := by decide +kernel
theorem d_sv_endOf_41 : decode (mcode M_sv_endOf) 41 = .ok (.iconst 1, 1) := by decide +kernel
theorem d_sv_endOf_42 : decode (mcode M_sv_endOf) 42 = .ok (.iadd, 1) := by decide +kernel
theorem d_sv_endOf_43 : decode (mcode M_sv_endOf) 43 = .ok (.iload_n 2, 1) := by decide +kernel
theorem d_sv_endOf_44 : decode (mcode M_sv_endOf) 44 = .ok (.iload 5, 2) := by decide +kernel
theorem d_sv_endOf_46 : decode (mcode M_sv_endOf) 46 = .ok (.iload_n 3, 1) := by decide +kernel
theorem d_sv_endOf_47 : decode (mcode M_sv_endOf) 47 = .ok (.isub, 1) := by decide +kernel
theorem d_sv_endOf_48 : decode (mcode M_sv_endOf) 48 = .ok (.isub, 1) := by decide +kernel
theorem d_sv_endOf_49 : decode (mcode M_sv_endOf) 49 = .ok (.invokestatic 46, 3) := by decide +kernel
theorem d_sv_endOf_52 : decode (mcode M_sv_endOf) 52 = .ok (.ireturn, 1) := by decide +kernel
theorem d_wl_init_0 : decode (mcode M_wl_init) 0 = .ok (.aload_n 0, 1) := by decide +kernel
theorem d_wl_init_1 : decode (mcode M_wl_init) 1 = .ok (.invokespecial 3, 3) := by decide +kernel
theorem d_wl_init_4 : decode (mcode M_wl_init) 4 = .ok (.aload_n 0, 1) := by decide +kernel
theorem d_wl_init_5 : decode (mcode M_wl_init) 5 = .ok (.iconst 0, 1) := by decide +kernel
theorem d_wl_init_6 : decode (mcode M_wl_init) 6 = .ok (.putfield 9, 3) := by decide +kernel
theorem d_wl_init_9 : decode (mcode M_wl_init) 9 = .ok (.aload_n 0, 1) := by decide +kernel
theorem d_wl_init_10 : decode (mcode M_wl_init) 10 = .ok (.iconst (-1), 1) := by decide +kernel
theorem d_wl_init_11 : decode (mcode M_wl_init) 11 = .ok (.putfield 15, 3) := by decide +kernel
theorem d_wl_init_14 : decode (mcode M_wl_init) 14 = .ok (.aload_n 0, 1) := by decide +kernel
theorem d_wl_init_15 : decode (mcode M_wl_init) 15 = .ok (.aload_n 1, 1) := by decide +kernel
theorem d_wl_init_16 : decode (mcode M_wl_init) 16 = .ok (.putfield 18, 3) := by decide +kernel
theorem d_wl_init_19 : decode (mcode M_wl_init) 19 = .ok (.aload_n 0, 1) := by decide +kernel
theorem d_wl_init_20 : decode (mcode M_wl_init) 20 = .ok (.aload_n 2, 1) := by decide +kernel
theorem d_wl_init_21 : decode (mcode M_wl_init) 21 = .ok (.putfield 22, 3) := by decide +kernel
theorem d_wl_init_24 : decode (mcode M_wl_init) 24 = .ok (.return_, 1) := by decide +kernel
theorem d_wl_isPaid_0 : decode (mcode M_wl_isPaid) 0 = .ok (.aload_n 0, 1) := by decide +kernel
theorem d_wl_isPaid_1 : decode (mcode M_wl_isPaid) 1 = .ok (.getfield 15, 3) := by decide +kernel
theorem d_wl_isPaid_4 : decode (mcode M_wl_isPaid) 4 = .ok (.iconst (-1), 1) := by decide +kernel
theorem d_wl_isPaid_5 : decode (mcode M_wl_isPaid) 5 = .ok (.if_icmp .eq 7, 3) := by decide +kernel
theorem d_wl_isPaid_8 : decode (mcode M_wl_isPaid) 8 = .ok (.iconst 1, 1) := by decide +kernel
theorem d_wl_isPaid_9 : decode (mcode M_wl_isPaid) 9 = .ok (.goto 4, 3) := by decide +kernel
theorem d_wl_isPaid_12 : decode (mcode M_wl_isPaid) 12 = .ok (.iconst 0, 1) := by decide +kernel
theorem d_wl_isPaid_13 : decode (mcode M_wl_isPaid) 13 = .ok (.ireturn, 1) := by decide +kernel
theorem d_wl_hasBothSides_0 : decode (mcode M_wl_hasBothSides) 0 = .ok (.aload_n 0, 1) := by decide +kernel
theorem d_wl_hasBothSides_1 : decode (mcode M_wl_hasBothSides) 1 = .ok (.getfield 18, 3) := by decide +kernel
theorem d_wl_hasBothSides_4 : decode (mcode M_wl_hasBothSides) 4 = .ok (.invokevirtual 25, 3) := by decide +kernel
theorem d_wl_hasBothSides_7 : decode (mcode M_wl_hasBothSides) 7 = .ok (.ifCond .eq 17, 3) := by decide +kernel
theorem d_wl_hasBothSides_10 : decode (mcode M_wl_hasBothSides) 10 = .ok (.aload_n 0, 1) := by decide +kernel
theorem d_wl_hasBothSides_11 : decode (mcode M_wl_hasBothSides) 11 = .ok (.getfield 22, 3) := by decide +kernel
theorem d_wl_hasBothSides_14 : decode (mcode M_wl_hasBothSides) 14 = .ok (.invokevirtual 25, 3) := by decide +kernel
theorem d_wl_hasBothSides_17 : decode (mcode M_wl_hasBothSides) 17 = .ok (.ifCond .eq 7, 3) := by decide +kernel
theorem d_wl_hasBothSides_20 : decode (mcode M_wl_hasBothSides) 20 = .ok (.iconst 1, 1) := by decide +kernel
theorem d_wl_hasBothSides_21 : decode (mcode M_wl_hasBothSides) 21 = .ok (.goto 4, 3) := by decide +kernel
theorem d_wl_hasBothSides_24 : decode (mcode M_wl_hasBothSides) 24 = .ok (.iconst 0, 1) := by decide +kernel
theorem d_wl_hasBothSides_25 : decode (mcode M_wl_hasBothSides) 25 = .ok (.ireturn, 1) := by decide +kernel
theorem d_wl_lesserDepth_0 : decode (mcode M_wl_lesserDepth) 0 = .ok (.aload_n 0, 1) := by decide +kernel
theorem d_wl_lesserDepth_1 : decode (mcode M_wl_lesserDepth) 1 = .ok (.getfield 18, 3) := by decide +kernel
theorem d_wl_lesserDepth_4 : decode (mcode M_wl_lesserDepth) 4 = .ok (.getfield 31, 3) := by decide +kernel
theorem d_wl_lesserDepth_7 : decode (mcode M_wl_lesserDepth) 7 = .ok (.aload_n 0, 1) := by decide +kernel
theorem d_wl_lesserDepth_8 : decode (mcode M_wl_lesserDepth) 8 = .ok (.getfield 22, 3) := by decide +kernel
theorem d_wl_lesserDepth_11 : decode (mcode M_wl_lesserDepth) 11 = .ok (.getfield 31, 3) := by decide +kernel
theorem d_wl_lesserDepth_14 : decode (mcode M_wl_lesserDepth) 14 = .ok (.invokestatic 34, 3) := by decide +kernel
theorem d_wl_lesserDepth_17 : decode (mcode M_wl_lesserDepth) 17 = .ok (.ireturn, 1) := by decide +kernel
theorem d_af_init_0 : decode (mcode M_af_init) 0 = .ok (.aload_n 0, 1) := by decide +kernel
theorem d_af_init_1 : decode (mcode M_af_init) 1 = .ok (.invokespecial 1, 3) := by decide +kernel
theorem d_af_init_4 : decode (mcode M_af_init) 4 = .ok (.aload_n 0, 1) := by decide +kernel
theorem d_af_init_5 : decode (mcode M_af_init) 5 = .ok (.bipush 20, 2) := by decide +kernel
theorem d_af_init_7 : decode (mcode M_af_init) 7 = .ok (.newarray .int, 2) := by decide +kernel
theorem d_af_init_9 : decode (mcode M_af_init) 9 = .ok (.putfield 9, 3) := by decide +kernel
theorem d_af_init_12 : decode (mcode M_af_init) 12 = .ok (.aload_n 0, 1) := by decide +kernel
theorem d_af_init_13 : decode (mcode M_af_init) 13 = .ok (.new 13, 3) := by decide +kernel
theorem d_af_init_16 : decode (mcode M_af_init) 16 = .ok (.dup, 1) := by decide +kernel
theorem d_af_init_17 : decode (mcode M_af_init) 17 = .ok (.invokespecial 15, 3) := by decide +kernel
theorem d_af_init_20 : decode (mcode M_af_init) 20 = .ok (.putfield 16, 3) := by decide +kernel
theorem d_af_init_23 : decode (mcode M_af_init) 23 = .ok (.aload_n 0, 1) := by decide +kernel
theorem d_af_init_24 : decode (mcode M_af_init) 24 = .ok (.bipush 6, 2) := by decide +kernel
theorem d_af_init_26 : decode (mcode M_af_init) 26 = .ok (.anewarray 20, 3) := by decide +kernel
theorem d_af_init_29 : decode (mcode M_af_init) 29 = .ok (.putfield 22, 3) := by decide +kernel
theorem d_af_init_32 : decode (mcode M_af_init) 32 = .ok (.aload_n 0, 1) := by decide +kernel
theorem d_af_init_33 : decode (mcode M_af_init) 33 = .ok (.new 26, 3) := by decide +kernel
theorem d_af_init_36 : decode (mcode M_af_init) 36 = .ok (.dup, 1) := by decide +kernel
theorem d_af_init_37 : decode (mcode M_af_init) 37 = .ok (.invokespecial 28, 3) := by decide +kernel
theorem d_af_init_40 : decode (mcode M_af_init) 40 = .ok (.putfield 29, 3) := by decide +kernel
theorem d_af_init_43 : decode (mcode M_af_init) 43 = .ok (.aload_n 0, 1) := by decide +kernel
theorem d_af_init_44 : decode (mcode M_af_init) 44 = .ok (.new 33, 3) := by decide +kernel
theorem d_af_init_47 : decode (mcode M_af_init) 47 = .ok (.dup, 1) := by decide +kernel
