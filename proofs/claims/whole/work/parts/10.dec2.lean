theorem d_md_plot_146 : decode (mcode M_md_plot) 146 = .ok (.getfield 84, 3) := by decide +kernel
theorem d_md_plot_149 : decode (mcode M_md_plot) 149 = .ok (.iconst (-1), 1) := by decide +kernel
theorem d_md_plot_150 : decode (mcode M_md_plot) 150 = .ok (.iastore, 1) := by decide +kernel
theorem d_md_plot_151 : decode (mcode M_md_plot) 151 = .ok (.aload_n 0, 1) := by decide +kernel
theorem d_md_plot_152 : decode (mcode M_md_plot) 152 = .ok (.getfield 43, 3) := by decide +kernel
theorem d_md_plot_155 : decode (mcode M_md_plot) 155 = .ok (.aload_n 0, 1) := by decide +kernel
theorem d_md_plot_156 : decode (mcode M_md_plot) 156 = .ok (.getfield 84, 3) := by decide +kernel
theorem d_md_plot_159 : decode (mcode M_md_plot) 159 = .ok (.iconst (-1), 1) := by decide +kernel
theorem d_md_plot_160 : decode (mcode M_md_plot) 160 = .ok (.iastore, 1) := by decide +kernel
theorem d_md_plot_161 : decode (mcode M_md_plot) 161 = .ok (.aload_n 0, 1) := by decide +kernel
theorem d_md_plot_162 : decode (mcode M_md_plot) 162 = .ok (.getfield 46, 3) := by decide +kernel
theorem d_md_plot_165 : decode (mcode M_md_plot) 165 = .ok (.aload_n 0, 1) := by decide +kernel
theorem d_md_plot_166 : decode (mcode M_md_plot) 166 = .ok (.getfield 84, 3) := by decide +kernel
theorem d_md_plot_169 : decode (mcode M_md_plot) 169 = .ok (.iconst (-1), 1) := by decide +kernel
theorem d_md_plot_170 : decode (mcode M_md_plot) 170 = .ok (.iastore, 1) := by decide +kernel
theorem d_md_plot_171 : decode (mcode M_md_plot) 171 = .ok (.aload_n 0, 1) := by decide +kernel
theorem d_md_plot_172 : decode (mcode M_md_plot) 172 = .ok (.dup, 1) := by decide +kernel
theorem d_md_plot_173 : decode (mcode M_md_plot) 173 = .ok (.getfield 84, 3) := by decide +kernel
theorem d_md_plot_176 : decode (mcode M_md_plot) 176 = .ok (.iconst 1, 1) := by decide +kernel
theorem d_md_plot_177 : decode (mcode M_md_plot) 177 = .ok (.iadd, 1) := by decide +kernel
theorem d_md_plot_178 : decode (mcode M_md_plot) 178 = .ok (.putfield 84, 3) := by decide +kernel
theorem d_md_plot_181 : decode (mcode M_md_plot) 181 = .ok (.aload_n 0, 1) := by decide +kernel
theorem d_md_plot_182 : decode (mcode M_md_plot) 182 = .ok (.getfield 84, 3) := by decide +kernel
theorem d_md_plot_185 : decode (mcode M_md_plot) 185 = .ok (.iconst 1, 1) := by decide +kernel
theorem d_md_plot_186 : decode (mcode M_md_plot) 186 = .ok (.isub, 1) := by decide +kernel
theorem d_md_plot_187 : decode (mcode M_md_plot) 187 = .ok (.ireturn, 1) := by decide +kernel
theorem d_md_lease_0 : decode (mcode M_md_lease) 0 = .ok (.aload_n 0, 1) := by decide +kernel
theorem d_md_lease_1 : decode (mcode M_md_lease) 1 = .ok (.iload_n 1, 1) := by decide +kernel
theorem d_md_lease_2 : decode (mcode M_md_lease) 2 = .ok (.invokevirtual 101, 3) := by decide +kernel
theorem d_md_lease_5 : decode (mcode M_md_lease) 5 = .ok (.ifCond .eq 32, 3) := by decide +kernel
theorem d_md_lease_8 : decode (mcode M_md_lease) 8 = .ok (.aload_n 0, 1) := by decide +kernel
theorem d_md_lease_9 : decode (mcode M_md_lease) 9 = .ok (.getfield 22, 3) := by decide +kernel
theorem d_md_lease_12 : decode (mcode M_md_lease) 12 = .ok (.iload_n 1, 1) := by decide +kernel
theorem d_md_lease_13 : decode (mcode M_md_lease) 13 = .ok (.iaload, 1) := by decide +kernel
theorem d_md_lease_14 : decode (mcode M_md_lease) 14 = .ok (.ifCond .ne 23, 3) := by decide +kernel
theorem d_md_lease_17 : decode (mcode M_md_lease) 17 = .ok (.iload_n 2, 1) := by decide +kernel
theorem d_md_lease_18 : decode (mcode M_md_lease) 18 = .ok (.iconst 0, 1) := by decide +kernel
theorem d_md_lease_19 : decode (mcode M_md_lease) 19 = .ok (.bipush 19, 2) := by decide +kernel
theorem d_md_lease_21 : decode (mcode M_md_lease) 21 = .ok (.invokestatic 87, 3) := by decide +kernel
theorem d_md_lease_24 : decode (mcode M_md_lease) 24 = .ok (.ifCond .eq 13, 3) := by decide +kernel
theorem d_md_lease_27 : decode (mcode M_md_lease) 27 = .ok (.aload_n 0, 1) := by decide +kernel
theorem d_md_lease_28 : decode (mcode M_md_lease) 28 = .ok (.getfield 25, 3) := by decide +kernel
theorem d_md_lease_31 : decode (mcode M_md_lease) 31 = .ok (.iload_n 1, 1) := by decide +kernel
theorem d_md_lease_32 : decode (mcode M_md_lease) 32 = .ok (.iaload, 1) := by decide +kernel
theorem d_md_lease_33 : decode (mcode M_md_lease) 33 = .ok (.iconst 3, 1) := by decide +kernel
theorem d_md_lease_34 : decode (mcode M_md_lease) 34 = .ok (.if_icmp .ne 5, 3) := by decide +kernel
theorem d_md_lease_37 : decode (mcode M_md_lease) 37 = .ok (.iconst (-1), 1) := by decide +kernel
theorem d_md_lease_38 : decode (mcode M_md_lease) 38 = .ok (.ireturn, 1) := by decide +kernel
theorem d_md_lease_39 : decode (mcode M_md_lease) 39 = .ok (.iconst 4, 1) := by decide +kernel
theorem d_md_lease_40 : decode (mcode M_md_lease) 40 = .ok (.iload_n 1, 1) := by decide +kernel
theorem d_md_lease_41 : decode (mcode M_md_lease) 41 = .ok (.imul, 1) := by decide +kernel
theorem d_md_lease_42 : decode (mcode M_md_lease) 42 = .ok (.aload_n 0, 1) := by decide +kernel
theorem d_md_lease_43 : decode (mcode M_md_lease) 43 = .ok (.getfield 25, 3) := by decide +kernel
theorem d_md_lease_46 : decode (mcode M_md_lease) 46 = .ok (.iload_n 1, 1) := by decide +kernel
theorem d_md_lease_47 : decode (mcode M_md_lease) 47 = .ok (.iaload, 1) := by decide +kernel
theorem d_md_lease_48 : decode (mcode M_md_lease) 48 = .ok (.iadd, 1) := by decide +kernel
theorem d_md_lease_49 : decode (mcode M_md_lease) 49 = .ok (.istore 5, 2) := by decide +kernel
theorem d_md_lease_51 : decode (mcode M_md_lease) 51 = .ok (.iload_n 3, 1) := by decide +kernel
theorem d_md_lease_52 : decode (mcode M_md_lease) 52 = .ok (.iconst 1, 1) := by decide +kernel
theorem d_md_lease_53 : decode (mcode M_md_lease) 53 = .ok (.aload_n 0, 1) := by decide +kernel
theorem d_md_lease_54 : decode (mcode M_md_lease) 54 = .ok (.getfield 31, 3) := by decide +kernel
theorem d_md_lease_57 : decode (mcode M_md_lease) 57 = .ok (.iload 5, 2) := by decide +kernel
theorem d_md_lease_59 : decode (mcode M_md_lease) 59 = .ok (.iaload, 1) := by decide +kernel
theorem d_md_lease_60 : decode (mcode M_md_lease) 60 = .ok (.invokestatic 87, 3) := by decide +kernel
theorem d_md_lease_63 : decode (mcode M_md_lease) 63 = .ok (.ifCond .eq 15, 3) := by decide +kernel
theorem d_md_lease_66 : decode (mcode M_md_lease) 66 = .ok (.iload 4, 2) := by decide +kernel
theorem d_md_lease_68 : decode (mcode M_md_lease) 68 = .ok (.iconst 0, 1) := by decide +kernel
theorem d_md_lease_69 : decode (mcode M_md_lease) 69 = .ok (.sipush 999, 3) := by decide +kernel
theorem d_md_lease_72 : decode (mcode M_md_lease) 72 = .ok (.invokestatic 87, 3) := by decide +kernel
theorem d_md_lease_75 : decode (mcode M_md_lease) 75 = .ok (.ifCond .ne 5, 3) := by decide +kernel
theorem d_md_lease_78 : decode (mcode M_md_lease) 78 = .ok (.iconst (-1), 1) := by decide +kernel
theorem d_md_lease_79 : decode (mcode M_md_lease) 79 = .ok (.ireturn, 1) := by decide +kernel
theorem d_md_lease_80 : decode (mcode M_md_lease) 80 = .ok (.aload_n 0, 1) := by decide +kernel
theorem d_md_lease_81 : decode (mcode M_md_lease) 81 = .ok (.getfield 25, 3) := by decide +kernel
theorem d_md_lease_84 : decode (mcode M_md_lease) 84 = .ok (.iload_n 1, 1) := by decide +kernel
theorem d_md_lease_85 : decode (mcode M_md_lease) 85 = .ok (.dup2, 1) := by decide +kernel
theorem d_md_lease_86 : decode (mcode M_md_lease) 86 = .ok (.iaload, 1) := by decide +kernel
theorem d_md_lease_87 : decode (mcode M_md_lease) 87 = .ok (.iconst 1, 1) := by decide +kernel
theorem d_md_lease_88 : decode (mcode M_md_lease) 88 = .ok (.iadd, 1) := by decide +kernel
theorem d_md_lease_89 : decode (mcode M_md_lease) 89 = .ok (.iastore, 1) := by decide +kernel
theorem d_md_lease_90 : decode (mcode M_md_lease) 90 = .ok (.aload_n 0, 1) := by decide +kernel
theorem d_md_lease_91 : decode (mcode M_md_lease) 91 = .ok (.getfield 28, 3) := by decide +kernel
theorem d_md_lease_94 : decode (mcode M_md_lease) 94 = .ok (.iload 5, 2) := by decide +kernel
theorem d_md_lease_96 : decode (mcode M_md_lease) 96 = .ok (.iconst 1, 1) := by decide +kernel
theorem d_md_lease_97 : decode (mcode M_md_lease) 97 = .ok (.iadd, 1) := by decide +kernel
theorem d_md_lease_98 : decode (mcode M_md_lease) 98 = .ok (.iload_n 2, 1) := by decide +kernel
theorem d_md_lease_99 : decode (mcode M_md_lease) 99 = .ok (.iastore, 1) := by decide +kernel
theorem d_md_lease_100 : decode (mcode M_md_lease) 100 = .ok (.aload_n 0, 1) := by decide +kernel
theorem d_md_lease_101 : decode (mcode M_md_lease) 101 = .ok (.getfield 31, 3) := by decide +kernel
theorem d_md_lease_104 : decode (mcode M_md_lease) 104 = .ok (.iload 5, 2) := by decide +kernel
theorem d_md_lease_106 : decode (mcode M_md_lease) 106 = .ok (.iconst 1, 1) := by decide +kernel
theorem d_md_lease_107 : decode (mcode M_md_lease) 107 = .ok (.iadd, 1) := by decide +kernel
theorem d_md_lease_108 : decode (mcode M_md_lease) 108 = .ok (.iload_n 3, 1) := by decide +kernel
theorem d_md_lease_109 : decode (mcode M_md_lease) 109 = .ok (.iastore, 1) := by decide +kernel
theorem d_md_lease_110 : decode (mcode M_md_lease) 110 = .ok (.aload_n 0, 1) := by decide +kernel
theorem d_md_lease_111 : decode (mcode M_md_lease) 111 = .ok (.getfield 34, 3) := by decide +kernel
theorem d_md_lease_114 : decode (mcode M_md_lease) 114 = .ok (.iload 5, 2) := by decide +kernel
theorem d_md_lease_116 : decode (mcode M_md_lease) 116 = .ok (.iconst 1, 1) := by decide +kernel
theorem d_md_lease_117 : decode (mcode M_md_lease) 117 = .ok (.iadd, 1) := by decide +kernel
theorem d_md_lease_118 : decode (mcode M_md_lease) 118 = .ok (.iload 4, 2) := by decide +kernel
theorem d_md_lease_120 : decode (mcode M_md_lease) 120 = .ok (.iastore, 1) := by decide +kernel
theorem d_md_lease_121 : decode (mcode M_md_lease) 121 = .ok (.aload_n 0, 1) := by decide +kernel
theorem d_md_lease_122 : decode (mcode M_md_lease) 122 = .ok (.getfield 25, 3) := by decide +kernel
theorem d_md_lease_125 : decode (mcode M_md_lease) 125 = .ok (.iload_n 1, 1) := by decide +kernel
theorem d_md_lease_126 : decode (mcode M_md_lease) 126 = .ok (.iaload, 1) := by decide +kernel
theorem d_md_lease_127 : decode (mcode M_md_lease) 127 = .ok (.ireturn, 1) := by decide +kernel
theorem d_md_rates_0 : decode (mcode M_md_rates) 0 = .ok (.iload_n 1, 1) := by decide +kernel
theorem d_md_rates_1 : decode (mcode M_md_rates) 1 = .ok (.iconst 1, 1) := by decide +kernel
theorem d_md_rates_2 : decode (mcode M_md_rates) 2 = .ok (.bipush 9, 2) := by decide +kernel
theorem d_md_rates_4 : decode (mcode M_md_rates) 4 = .ok (.invokestatic 87, 3) := by decide +kernel
theorem d_md_rates_7 : decode (mcode M_md_rates) 7 = .ok (.ifCond .eq 23, 3) := by decide +kernel
theorem d_md_rates_10 : decode (mcode M_md_rates) 10 = .ok (.iload_n 2, 1) := by decide +kernel
theorem d_md_rates_11 : decode (mcode M_md_rates) 11 = .ok (.iconst 1, 1) := by decide +kernel
theorem d_md_rates_12 : decode (mcode M_md_rates) 12 = .ok (.bipush 9, 2) := by decide +kernel
theorem d_md_rates_14 : decode (mcode M_md_rates) 14 = .ok (.invokestatic 87, 3) := by decide +kernel
theorem d_md_rates_17 : decode (mcode M_md_rates) 17 = .ok (.ifCond .eq 13, 3) := by decide +kernel
theorem d_md_rates_20 : decode (mcode M_md_rates) 20 = .ok (.iload_n 3, 1) := by decide +kernel
theorem d_md_rates_21 : decode (mcode M_md_rates) 21 = .ok (.iconst 0, 1) := by decide +kernel
theorem d_md_rates_22 : decode (mcode M_md_rates) 22 = .ok (.bipush 60, 2) := by decide +kernel
theorem d_md_rates_24 : decode (mcode M_md_rates) 24 = .ok (.invokestatic 87, 3) := by decide +kernel
theorem d_md_rates_27 : decode (mcode M_md_rates) 27 = .ok (.ifCond .ne 5, 3) := by decide +kernel
theorem d_md_rates_30 : decode (mcode M_md_rates) 30 = .ok (.iconst 0, 1) := by decide +kernel
theorem d_md_rates_31 : decode (mcode M_md_rates) 31 = .ok (.ireturn, 1) := by decide +kernel
theorem d_md_rates_32 : decode (mcode M_md_rates) 32 = .ok (.aload_n 0, 1) := by decide +kernel
theorem d_md_rates_33 : decode (mcode M_md_rates) 33 = .ok (.iload_n 1, 1) := by decide +kernel
theorem d_md_rates_34 : decode (mcode M_md_rates) 34 = .ok (.putfield 52, 3) := by decide +kernel
theorem d_md_rates_37 : decode (mcode M_md_rates) 37 = .ok (.aload_n 0, 1) := by decide +kernel
theorem d_md_rates_38 : decode (mcode M_md_rates) 38 = .ok (.iload_n 2, 1) := by decide +kernel
theorem d_md_rates_39 : decode (mcode M_md_rates) 39 = .ok (.putfield 56, 3) := by decide +kernel
theorem d_md_rates_42 : decode (mcode M_md_rates) 42 = .ok (.aload_n 0, 1) := by decide +kernel
theorem d_md_rates_43 : decode (mcode M_md_rates) 43 = .ok (.iload_n 3, 1) := by decide +kernel
theorem d_md_rates_44 : decode (mcode M_md_rates) 44 = .ok (.putfield 59, 3) := by decide +kernel
theorem d_md_rates_47 : decode (mcode M_md_rates) 47 = .ok (.iconst 1, 1) := by decide +kernel
theorem d_md_rates_48 : decode (mcode M_md_rates) 48 = .ok (.ireturn, 1) := by decide +kernel
theorem d_md_worth_0 : decode (mcode M_md_worth) 0 = .ok (.aload_n 0, 1) := by decide +kernel
theorem d_md_worth_1 : decode (mcode M_md_worth) 1 = .ok (.iload_n 1, 1) := by decide +kernel
theorem d_md_worth_2 : decode (mcode M_md_worth) 2 = .ok (.invokevirtual 101, 3) := by decide +kernel
theorem d_md_worth_5 : decode (mcode M_md_worth) 5 = .ok (.ifCond .eq 22, 3) := by decide +kernel
theorem d_md_worth_8 : decode (mcode M_md_worth) 8 = .ok (.aload_n 0, 1) := by decide +kernel
theorem d_md_worth_9 : decode (mcode M_md_worth) 9 = .ok (.getfield 16, 3) := by decide +kernel
theorem d_md_worth_12 : decode (mcode M_md_worth) 12 = .ok (.iload_n 1, 1) := by decide +kernel
theorem d_md_worth_13 : decode (mcode M_md_worth) 13 = .ok (.iaload, 1) := by decide +kernel
theorem d_md_worth_14 : decode (mcode M_md_worth) 14 = .ok (.aload_n 0, 1) := by decide +kernel
theorem d_md_worth_15 : decode (mcode M_md_worth) 15 = .ok (.getfield 19, 3) := by decide +kernel
theorem d_md_worth_18 : decode (mcode M_md_worth) 18 = .ok (.iload_n 1, 1) := by decide +kernel
theorem d_md_worth_19 : decode (mcode M_md_worth) 19 = .ok (.iaload, 1) := by decide +kernel
theorem d_md_worth_20 : decode (mcode M_md_worth) 20 = .ok (.imul, 1) := by decide +kernel
theorem d_md_worth_21 : decode (mcode M_md_worth) 21 = .ok (.bipush 20, 2) := by decide +kernel
theorem d_md_worth_23 : decode (mcode M_md_worth) 23 = .ok (.idiv, 1) := by decide +kernel
theorem d_md_worth_24 : decode (mcode M_md_worth) 24 = .ok (.goto 4, 3) := by decide +kernel
theorem d_md_worth_27 : decode (mcode M_md_worth) 27 = .ok (.iconst (-1), 1) := by decide +kernel
theorem d_md_worth_28 : decode (mcode M_md_worth) 28 = .ok (.ireturn, 1) := by decide +kernel
theorem d_md_isPlace_0 : decode (mcode M_md_isPlace) 0 = .ok (.aload_n 0, 1) := by decide +kernel
theorem d_md_isPlace_1 : decode (mcode M_md_isPlace) 1 = .ok (.iload_n 1, 1) := by decide +kernel
theorem d_md_isPlace_2 : decode (mcode M_md_isPlace) 2 = .ok (.invokevirtual 101, 3) := by decide +kernel
theorem d_md_isPlace_5 : decode (mcode M_md_isPlace) 5 = .ok (.ifCond .eq 29, 3) := by decide +kernel
theorem d_md_isPlace_8 : decode (mcode M_md_isPlace) 8 = .ok (.aload_n 0, 1) := by decide +kernel
theorem d_md_isPlace_9 : decode (mcode M_md_isPlace) 9 = .ok (.iload_n 1, 1) := by decide +kernel
theorem d_md_isPlace_10 : decode (mcode M_md_isPlace) 10 = .ok (.invokevirtual 104, 3) := by decide +kernel
theorem d_md_isPlace_13 : decode (mcode M_md_isPlace) 13 = .ok (.ifCond .ne 21, 3) := by decide +kernel
theorem d_md_isPlace_16 : decode (mcode M_md_isPlace) 16 = .ok (.iload_n 2, 1) := by decide +kernel
theorem d_md_isPlace_17 : decode (mcode M_md_isPlace) 17 = .ok (.iconst 0, 1) := by decide +kernel
theorem d_md_isPlace_18 : decode (mcode M_md_isPlace) 18 = .ok (.aload_n 0, 1) := by decide +kernel
theorem d_md_isPlace_19 : decode (mcode M_md_isPlace) 19 = .ok (.getfield 25, 3) := by decide +kernel
theorem d_md_isPlace_22 : decode (mcode M_md_isPlace) 22 = .ok (.iload_n 1, 1) := by decide +kernel
theorem d_md_isPlace_23 : decode (mcode M_md_isPlace) 23 = .ok (.iaload, 1) := by decide +kernel
theorem d_md_isPlace_24 : decode (mcode M_md_isPlace) 24 = .ok (.invokestatic 87, 3) := by decide +kernel
theorem d_md_isPlace_27 : decode (mcode M_md_isPlace) 27 = .ok (.ifCond .eq 7, 3) := by decide +kernel
theorem d_md_isPlace_30 : decode (mcode M_md_isPlace) 30 = .ok (.iconst 1, 1) := by decide +kernel
theorem d_md_isPlace_31 : decode (mcode M_md_isPlace) 31 = .ok (.goto 4, 3) := by decide +kernel
theorem d_md_isPlace_34 : decode (mcode M_md_isPlace) 34 = .ok (.iconst 0, 1) := by decide +kernel
theorem d_md_isPlace_35 : decode (mcode M_md_isPlace) 35 = .ok (.ireturn, 1) := by decide +kernel
theorem d_md_interestOf_0 : decode (mcode M_md_interestOf) 0 = .ok (.iconst 4, 1) := by decide +kernel
theorem d_md_interestOf_1 : decode (mcode M_md_interestOf) 1 = .ok (.iload_n 1, 1) := by decide +kernel
theorem d_md_interestOf_2 : decode (mcode M_md_interestOf) 2 = .ok (.imul, 1) := by decide +kernel
theorem d_md_interestOf_3 : decode (mcode M_md_interestOf) 3 = .ok (.iload_n 2, 1) := by decide +kernel
theorem d_md_interestOf_4 : decode (mcode M_md_interestOf) 4 = .ok (.iadd, 1) := by decide +kernel
theorem d_md_interestOf_5 : decode (mcode M_md_interestOf) 5 = .ok (.istore_n 3, 1) := by decide +kernel
theorem d_md_interestOf_6 : decode (mcode M_md_interestOf) 6 = .ok (.iload_n 2, 1) := by decide +kernel
theorem d_md_interestOf_7 : decode (mcode M_md_interestOf) 7 = .ok (.aload_n 0, 1) := by decide +kernel
theorem d_md_interestOf_8 : decode (mcode M_md_interestOf) 8 = .ok (.getfield 25, 3) := by decide +kernel
theorem d_md_interestOf_11 : decode (mcode M_md_interestOf) 11 = .ok (.iload_n 1, 1) := by decide +kernel
theorem d_md_interestOf_12 : decode (mcode M_md_interestOf) 12 = .ok (.iaload, 1) := by decide +kernel
theorem d_md_interestOf_13 : decode (mcode M_md_interestOf) 13 = .ok (.if_icmp .ge 14, 3) := by decide +kernel
theorem d_md_interestOf_16 : decode (mcode M_md_interestOf) 16 = .ok (.aload_n 0, 1) := by decide +kernel
theorem d_md_interestOf_17 : decode (mcode M_md_interestOf) 17 = .ok (.getfield 34, 3) := by decide +kernel
theorem d_md_interestOf_20 : decode (mcode M_md_interestOf) 20 = .ok (.iload_n 3, 1) := by decide +kernel
theorem d_md_interestOf_21 : decode (mcode M_md_interestOf) 21 = .ok (.iconst 1, 1) := by decide +kernel
theorem d_md_interestOf_22 : decode (mcode M_md_interestOf) 22 = .ok (.iadd, 1) := by decide +kernel
theorem d_md_interestOf_23 : decode (mcode M_md_interestOf) 23 = .ok (.iaload, 1) := by decide +kernel
theorem d_md_interestOf_24 : decode (mcode M_md_interestOf) 24 = .ok (.goto 8, 3) := by decide +kernel
theorem d_md_interestOf_27 : decode (mcode M_md_interestOf) 27 = .ok (.aload_n 0, 1) := by decide +kernel
theorem d_md_interestOf_28 : decode (mcode M_md_interestOf) 28 = .ok (.iload_n 1, 1) := by decide +kernel
theorem d_md_interestOf_29 : decode (mcode M_md_interestOf) 29 = .ok (.invokevirtual 107, 3) := by decide +kernel
theorem d_md_interestOf_32 : decode (mcode M_md_interestOf) 32 = .ok (.iload_n 2, 1) := by decide +kernel
theorem d_md_interestOf_33 : decode (mcode M_md_interestOf) 33 = .ok (.ifCond .le 12, 3) := by decide +kernel
theorem d_md_interestOf_36 : decode (mcode M_md_interestOf) 36 = .ok (.aload_n 0, 1) := by decide +kernel
theorem d_md_interestOf_37 : decode (mcode M_md_interestOf) 37 = .ok (.getfield 34, 3) := by decide +kernel
theorem d_md_interestOf_40 : decode (mcode M_md_interestOf) 40 = .ok (.iload_n 3, 1) := by decide +kernel
theorem d_md_interestOf_41 : decode (mcode M_md_interestOf) 41 = .ok (.iaload, 1) := by decide +kernel
theorem d_md_interestOf_42 : decode (mcode M_md_interestOf) 42 = .ok (.goto 4, 3) := by decide +kernel
theorem d_md_interestOf_45 : decode (mcode M_md_interestOf) 45 = .ok (.iconst 0, 1) := by decide +kernel
theorem d_md_interestOf_46 : decode (mcode M_md_interestOf) 46 = .ok (.isub, 1) := by decide +kernel
theorem d_md_interestOf_47 : decode (mcode M_md_interestOf) 47 = .ok (.istore 4, 2) := by decide +kernel
theorem d_md_interestOf_49 : decode (mcode M_md_interestOf) 49 = .ok (.iload 4, 2) := by decide +kernel
theorem d_md_interestOf_51 : decode (mcode M_md_interestOf) 51 = .ok (.ifCond .gt 7, 3) := by decide +kernel
theorem d_md_interestOf_54 : decode (mcode M_md_interestOf) 54 = .ok (.iconst 0, 1) := by decide +kernel
theorem d_md_interestOf_55 : decode (mcode M_md_interestOf) 55 = .ok (.goto 21, 3) := by decide +kernel
theorem d_md_interestOf_58 : decode (mcode M_md_interestOf) 58 = .ok (.iload 4, 2) := by decide +kernel
theorem d_md_interestOf_60 : decode (mcode M_md_interestOf) 60 = .ok (.iload_n 2, 1) := by decide +kernel
theorem d_md_interestOf_61 : decode (mcode M_md_interestOf) 61 = .ok (.ifCond .ne 8, 3) := by decide +kernel
theorem d_md_interestOf_64 : decode (mcode M_md_interestOf) 64 = .ok (.bipush 40, 2) := by decide +kernel
theorem d_md_interestOf_66 : decode (mcode M_md_interestOf) 66 = .ok (.goto 9, 3) := by decide +kernel
theorem d_md_interestOf_69 : decode (mcode M_md_interestOf) 69 = .ok (.aload_n 0, 1) := by decide +kernel
theorem d_md_interestOf_70 : decode (mcode M_md_interestOf) 70 = .ok (.getfield 31, 3) := by decide +kernel
theorem d_md_interestOf_73 : decode (mcode M_md_interestOf) 73 = .ok (.iload_n 3, 1) := by decide +kernel
theorem d_md_interestOf_74 : decode (mcode M_md_interestOf) 74 = .ok (.iaload, 1) := by decide +kernel
theorem d_md_interestOf_75 : decode (mcode M_md_interestOf) 75 = .ok (.imul, 1) := by decide +kernel
theorem d_md_interestOf_76 : decode (mcode M_md_interestOf) 76 = .ok (.ireturn, 1) := by decide +kernel
theorem d_md_interest_0 : decode (mcode M_md_interest) 0 = .ok (.aload_n 0, 1) := by decide +kernel
theorem d_md_interest_1 : decode (mcode M_md_interest) 1 = .ok (.iload_n 1, 1) := by decide +kernel
theorem d_md_interest_2 : decode (mcode M_md_interest) 2 = .ok (.iload_n 2, 1) := by decide +kernel
theorem d_md_interest_3 : decode (mcode M_md_interest) 3 = .ok (.invokevirtual 110, 3) := by decide +kernel
theorem d_md_interest_6 : decode (mcode M_md_interest) 6 = .ok (.ifCond .eq 12, 3) := by decide +kernel
theorem d_md_interest_9 : decode (mcode M_md_interest) 9 = .ok (.aload_n 0, 1) := by decide +kernel
theorem d_md_interest_10 : decode (mcode M_md_interest) 10 = .ok (.iload_n 1, 1) := by decide +kernel
theorem d_md_interest_11 : decode (mcode M_md_interest) 11 = .ok (.iload_n 2, 1) := by decide +kernel
theorem d_md_interest_12 : decode (mcode M_md_interest) 12 = .ok (.invokevirtual 114, 3) := by decide +kernel
theorem d_md_interest_15 : decode (mcode M_md_interest) 15 = .ok (.goto 4, 3) := by decide +kernel
theorem d_md_interest_18 : decode (mcode M_md_interest) 18 = .ok (.iconst (-1), 1) := by decide +kernel
theorem d_md_interest_19 : decode (mcode M_md_interest) 19 = .ok (.ireturn, 1) := by decide +kernel
theorem d_md_costOf_0 : decode (mcode M_md_costOf) 0 = .ok (.aload_n 0, 1) := by decide +kernel
theorem d_md_costOf_1 : decode (mcode M_md_costOf) 1 = .ok (.getfield 16, 3) := by decide +kernel
theorem d_md_costOf_4 : decode (mcode M_md_costOf) 4 = .ok (.iload_n 1, 1) := by decide +kernel
theorem d_md_costOf_5 : decode (mcode M_md_costOf) 5 = .ok (.iaload, 1) := by decide +kernel
theorem d_md_costOf_6 : decode (mcode M_md_costOf) 6 = .ok (.aload_n 0, 1) := by decide +kernel
theorem d_md_costOf_7 : decode (mcode M_md_costOf) 7 = .ok (.getfield 19, 3) := by decide +kernel
theorem d_md_costOf_10 : decode (mcode M_md_costOf) 10 = .ok (.iload_n 1, 1) := by decide +kernel
theorem d_md_costOf_11 : decode (mcode M_md_costOf) 11 = .ok (.iaload, 1) := by decide +kernel
theorem d_md_costOf_12 : decode (mcode M_md_costOf) 12 = .ok (.imul, 1) := by decide +kernel
theorem d_md_costOf_13 : decode (mcode M_md_costOf) 13 = .ok (.aload_n 0, 1) := by decide +kernel
theorem d_md_costOf_14 : decode (mcode M_md_costOf) 14 = .ok (.getfield 52, 3) := by decide +kernel
theorem d_md_costOf_17 : decode (mcode M_md_costOf) 17 = .ok (.imul, 1) := by decide +kernel
theorem d_md_costOf_18 : decode (mcode M_md_costOf) 18 = .ok (.ireturn, 1) := by decide +kernel
theorem d_md_builder_0 : decode (mcode M_md_builder) 0 = .ok (.aload_n 0, 1) := by decide +kernel
theorem d_md_builder_1 : decode (mcode M_md_builder) 1 = .ok (.getfield 25, 3) := by decide +kernel
theorem d_md_builder_4 : decode (mcode M_md_builder) 4 = .ok (.iload_n 1, 1) := by decide +kernel
theorem d_md_builder_5 : decode (mcode M_md_builder) 5 = .ok (.iaload, 1) := by decide +kernel
theorem d_md_builder_6 : decode (mcode M_md_builder) 6 = .ok (.istore_n 2, 1) := by decide +kernel
theorem d_md_builder_7 : decode (mcode M_md_builder) 7 = .ok (.iload_n 2, 1) := by decide +kernel
theorem d_md_builder_8 : decode (mcode M_md_builder) 8 = .ok (.ifCond .lt 32, 3) := by decide +kernel
theorem d_md_builder_11 : decode (mcode M_md_builder) 11 = .ok (.aload_n 0, 1) := by decide +kernel
theorem d_md_builder_12 : decode (mcode M_md_builder) 12 = .ok (.getfield 9, 3) := by decide +kernel
theorem d_md_builder_15 : decode (mcode M_md_builder) 15 = .ok (.aload_n 0, 1) := by decide +kernel
theorem d_md_builder_16 : decode (mcode M_md_builder) 16 = .ok (.getfield 28, 3) := by decide +kernel
theorem d_md_builder_19 : decode (mcode M_md_builder) 19 = .ok (.iconst 4, 1) := by decide +kernel
theorem d_md_builder_20 : decode (mcode M_md_builder) 20 = .ok (.iload_n 1, 1) := by decide +kernel
theorem d_md_builder_21 : decode (mcode M_md_builder) 21 = .ok (.imul, 1) := by decide +kernel
theorem d_md_builder_22 : decode (mcode M_md_builder) 22 = .ok (.iload_n 2, 1) := by decide +kernel
theorem d_md_builder_23 : decode (mcode M_md_builder) 23 = .ok (.iadd, 1) := by decide +kernel
theorem d_md_builder_24 : decode (mcode M_md_builder) 24 = .ok (.iaload, 1) := by decide +kernel
theorem d_md_builder_25 : decode (mcode M_md_builder) 25 = .ok (.iaload, 1) := by decide +kernel
theorem d_md_builder_26 : decode (mcode M_md_builder) 26 = .ok (.aload_n 0, 1) := by decide +kernel
theorem d_md_builder_27 : decode (mcode M_md_builder) 27 = .ok (.iload_n 1, 1) := by decide +kernel
theorem d_md_builder_28 : decode (mcode M_md_builder) 28 = .ok (.invokevirtual 118, 3) := by decide +kernel
theorem d_md_builder_31 : decode (mcode M_md_builder) 31 = .ok (.if_icmp .ge 9, 3) := by decide +kernel
theorem d_md_builder_34 : decode (mcode M_md_builder) 34 = .ok (.iinc 2 (-1), 3) := by decide +kernel
theorem d_md_builder_37 : decode (mcode M_md_builder) 37 = .ok (.goto (-30), 3) := by decide +kernel
theorem d_md_builder_40 : decode (mcode M_md_builder) 40 = .ok (.iload_n 2, 1) := by decide +kernel
theorem d_md_builder_41 : decode (mcode M_md_builder) 41 = .ok (.ireturn, 1) := by decide +kernel
theorem d_md_parted_0 : decode (mcode M_md_parted) 0 = .ok (.aload_n 0, 1) := by decide +kernel
theorem d_md_parted_1 : decode (mcode M_md_parted) 1 = .ok (.iload_n 1, 1) := by decide +kernel
theorem d_md_parted_2 : decode (mcode M_md_parted) 2 = .ok (.invokevirtual 121, 3) := by decide +kernel
theorem d_md_parted_5 : decode (mcode M_md_parted) 5 = .ok (.istore_n 2, 1) := by decide +kernel
theorem d_md_parted_6 : decode (mcode M_md_parted) 6 = .ok (.iload_n 2, 1) := by decide +kernel
theorem d_md_parted_7 : decode (mcode M_md_parted) 7 = .ok (.iconst (-1), 1) := by decide +kernel
theorem d_md_parted_8 : decode (mcode M_md_parted) 8 = .ok (.if_icmp .ne 5, 3) := by decide +kernel
theorem d_md_parted_11 : decode (mcode M_md_parted) 11 = .ok (.iconst (-1), 1) := by decide +kernel
theorem d_md_parted_12 : decode (mcode M_md_parted) 12 = .ok (.ireturn, 1) := by decide +kernel
theorem d_md_parted_13 : decode (mcode M_md_parted) 13 = .ok (.lconst 0, 1) := by decide +kernel
theorem d_md_parted_14 : decode (mcode M_md_parted) 14 = .ok (.lstore_n 3, 1) := by decide +kernel
theorem d_md_parted_15 : decode (mcode M_md_parted) 15 = .ok (.aload_n 0, 1) := by decide +kernel
theorem d_md_parted_16 : decode (mcode M_md_parted) 16 = .ok (.iload_n 1, 1) := by decide +kernel
theorem d_md_parted_17 : decode (mcode M_md_parted) 17 = .ok (.invokevirtual 118, 3) := by decide +kernel
theorem d_md_parted_20 : decode (mcode M_md_parted) 20 = .ok (.istore 5, 2) := by decide +kernel
theorem d_md_parted_22 : decode (mcode M_md_parted) 22 = .ok (.iconst 0, 1) := by decide +kernel
theorem d_md_parted_23 : decode (mcode M_md_parted) 23 = .ok (.istore 6, 2) := by decide +kernel
theorem d_md_parted_25 : decode (mcode M_md_parted) 25 = .ok (.iload 6, 2) := by decide +kernel
theorem d_md_parted_27 : decode (mcode M_md_parted) 27 = .ok (.aload_n 0, 1) := by decide +kernel
theorem d_md_parted_28 : decode (mcode M_md_parted) 28 = .ok (.getfield 25, 3) := by decide +kernel
theorem d_md_parted_31 : decode (mcode M_md_parted) 31 = .ok (.iload_n 1, 1) := by decide +kernel
theorem d_md_parted_32 : decode (mcode M_md_parted) 32 = .ok (.iaload, 1) := by decide +kernel
theorem d_md_parted_33 : decode (mcode M_md_parted) 33 = .ok (.if_icmp .gt 20, 3) := by decide +kernel
theorem d_md_parted_36 : decode (mcode M_md_parted) 36 = .ok (.lload_n 3, 1) := by decide +kernel
theorem d_md_parted_37 : decode (mcode M_md_parted) 37 = .ok (.aload_n 0, 1) := by decide +kernel
theorem d_md_parted_38 : decode (mcode M_md_parted) 38 = .ok (.iload_n 1, 1) := by decide +kernel
theorem d_md_parted_39 : decode (mcode M_md_parted) 39 = .ok (.iload 6, 2) := by decide +kernel
theorem d_md_parted_41 : decode (mcode M_md_parted) 41 = .ok (.invokevirtual 114, 3) := by decide +kernel
theorem d_md_parted_44 : decode (mcode M_md_parted) 44 = .ok (.i2l, 1) := by decide +kernel
theorem d_md_parted_45 : decode (mcode M_md_parted) 45 = .ok (.ladd, 1) := by decide +kernel
theorem d_md_parted_46 : decode (mcode M_md_parted) 46 = .ok (.lstore_n 3, 1) := by decide +kernel
theorem d_md_parted_47 : decode (mcode M_md_parted) 47 = .ok (.iinc 6 1, 3) := by decide +kernel
theorem d_md_parted_50 : decode (mcode M_md_parted) 50 = .ok (.goto (-25), 3) := by decide +kernel
theorem d_md_parted_53 : decode (mcode M_md_parted) 53 = .ok (.iconst 0, 1) := by decide +kernel
theorem d_md_parted_54 : decode (mcode M_md_parted) 54 = .ok (.istore 6, 2) := by decide +kernel
theorem d_md_parted_56 : decode (mcode M_md_parted) 56 = .ok (.iload 6, 2) := by decide +kernel
theorem d_md_parted_58 : decode (mcode M_md_parted) 58 = .ok (.aload_n 0, 1) := by decide +kernel
theorem d_md_parted_59 : decode (mcode M_md_parted) 59 = .ok (.getfield 25, 3) := by decide +kernel
theorem d_md_parted_62 : decode (mcode M_md_parted) 62 = .ok (.iload_n 1, 1) := by decide +kernel
theorem d_md_parted_63 : decode (mcode M_md_parted) 63 = .ok (.iaload, 1) := by decide +kernel
theorem d_md_parted_64 : decode (mcode M_md_parted) 64 = .ok (.if_icmp .gt 80, 3) := by decide +kernel
theorem d_md_parted_67 : decode (mcode M_md_parted) 67 = .ok (.aload_n 0, 1) := by decide +kernel
theorem d_md_parted_68 : decode (mcode M_md_parted) 68 = .ok (.iload_n 1, 1) := by decide +kernel
theorem d_md_parted_69 : decode (mcode M_md_parted) 69 = .ok (.invokevirtual 118, 3) := by decide +kernel
theorem d_md_parted_72 : decode (mcode M_md_parted) 72 = .ok (.i2l, 1) := by decide +kernel
theorem d_md_parted_73 : decode (mcode M_md_parted) 73 = .ok (.aload_n 0, 1) := by decide +kernel
theorem d_md_parted_74 : decode (mcode M_md_parted) 74 = .ok (.iload_n 1, 1) := by decide +kernel
theorem d_md_parted_75 : decode (mcode M_md_parted) 75 = .ok (.iload 6, 2) := by decide +kernel
theorem d_md_parted_77 : decode (mcode M_md_parted) 77 = .ok (.invokevirtual 114, 3) := by decide +kernel
theorem d_md_parted_80 : decode (mcode M_md_parted) 80 = .ok (.i2l, 1) := by decide +kernel
theorem d_md_parted_81 : decode (mcode M_md_parted) 81 = .ok (.lmul, 1) := by decide +kernel
theorem d_md_parted_82 : decode (mcode M_md_parted) 82 = .ok (.lstore 7, 2) := by decide +kernel
theorem d_md_parted_84 : decode (mcode M_md_parted) 84 = .ok (.aload_n 0, 1) := by decide +kernel
theorem d_md_parted_85 : decode (mcode M_md_parted) 85 = .ok (.getfield 68, 3) := by decide +kernel
theorem d_md_parted_88 : decode (mcode M_md_parted) 88 = .ok (.iload 6, 2) := by decide +kernel
theorem d_md_parted_90 : decode (mcode M_md_parted) 90 = .ok (.lload_n 3, 1) := by decide +kernel
theorem d_md_parted_91 : decode (mcode M_md_parted) 91 = .ok (.lconst 0, 1) := by decide +kernel
theorem d_md_parted_92 : decode (mcode M_md_parted) 92 = .ok (.lcmp, 1) := by decide +kernel
theorem d_md_parted_93 : decode (mcode M_md_parted) 93 = .ok (.ifCond .ne 18, 3) := by decide +kernel
theorem d_md_parted_96 : decode (mcode M_md_parted) 96 = .ok (.iload 6, 2) := by decide +kernel
theorem d_md_parted_98 : decode (mcode M_md_parted) 98 = .ok (.iload_n 2, 1) := by decide +kernel
theorem d_md_parted_99 : decode (mcode M_md_parted) 99 = .ok (.if_icmp .ne 8, 3) := by decide +kernel
theorem d_md_parted_102 : decode (mcode M_md_parted) 102 = .ok (.iload 5, 2) := by decide +kernel
theorem d_md_parted_104 : decode (mcode M_md_parted) 104 = .ok (.goto 12, 3) := by decide +kernel
theorem d_md_parted_107 : decode (mcode M_md_parted) 107 = .ok (.iconst 0, 1) := by decide +kernel
theorem d_md_parted_108 : decode (mcode M_md_parted) 108 = .ok (.goto 8, 3) := by decide +kernel
theorem d_md_parted_111 : decode (mcode M_md_parted) 111 = .ok (.lload 7, 2) := by decide +kernel
theorem d_md_parted_113 : decode (mcode M_md_parted) 113 = .ok (.lload_n 3, 1) := by decide +kernel
theorem d_md_parted_114 : decode (mcode M_md_parted) 114 = .ok (.ldiv, 1) := by decide +kernel
theorem d_md_parted_115 : decode (mcode M_md_parted) 115 = .ok (.l2i, 1) := by decide +kernel
theorem d_md_parted_116 : decode (mcode M_md_parted) 116 = .ok (.iastore, 1) := by decide +kernel
theorem d_md_parted_117 : decode (mcode M_md_parted) 117 = .ok (.aload_n 0, 1) := by decide +kernel
theorem d_md_parted_118 : decode (mcode M_md_parted) 118 = .ok (.getfield 71, 3) := by decide +kernel
theorem d_md_parted_121 : decode (mcode M_md_parted) 121 = .ok (.iload 6, 2) := by decide +kernel
theorem d_md_parted_123 : decode (mcode M_md_parted) 123 = .ok (.lload_n 3, 1) := by decide +kernel
theorem d_md_parted_124 : decode (mcode M_md_parted) 124 = .ok (.lconst 0, 1) := by decide +kernel
theorem d_md_parted_125 : decode (mcode M_md_parted) 125 = .ok (.lcmp, 1) := by decide +kernel
theorem d_md_parted_126 : decode (mcode M_md_parted) 126 = .ok (.ifCond .ne 7, 3) := by decide +kernel
theorem d_md_parted_129 : decode (mcode M_md_parted) 129 = .ok (.lconst 0, 1) := by decide +kernel
theorem d_md_parted_130 : decode (mcode M_md_parted) 130 = .ok (.goto 7, 3) := by decide +kernel
theorem d_md_parted_133 : decode (mcode M_md_parted) 133 = .ok (.lload 7, 2) := by decide +kernel
theorem d_md_parted_135 : decode (mcode M_md_parted) 135 = .ok (.lload_n 3, 1) := by decide +kernel
theorem d_md_parted_136 : decode (mcode M_md_parted) 136 = .ok (.lrem, 1) := by decide +kernel
theorem d_md_parted_137 : decode (mcode M_md_parted) 137 = .ok (.lastore, 1) := by decide +kernel
theorem d_md_parted_138 : decode (mcode M_md_parted) 138 = .ok (.iinc 6 1, 3) := by decide +kernel
theorem d_md_parted_141 : decode (mcode M_md_parted) 141 = .ok (.goto (-85), 3) := by decide +kernel
theorem d_md_parted_144 : decode (mcode M_md_parted) 144 = .ok (.iconst 0, 1) := by decide +kernel
theorem d_md_parted_145 : decode (mcode M_md_parted) 145 = .ok (.istore 6, 2) := by decide +kernel
theorem d_md_parted_147 : decode (mcode M_md_parted) 147 = .ok (.iload 6, 2) := by decide +kernel
theorem d_md_parted_149 : decode (mcode M_md_parted) 149 = .ok (.aload_n 0, 1) := by decide +kernel
theorem d_md_parted_150 : decode (mcode M_md_parted) 150 = .ok (.getfield 25, 3) := by decide +kernel
theorem d_md_parted_153 : decode (mcode M_md_parted) 153 = .ok (.iload_n 1, 1) := by decide +kernel
theorem d_md_parted_154 : decode (mcode M_md_parted) 154 = .ok (.iaload, 1) := by decide +kernel
theorem d_md_parted_155 : decode (mcode M_md_parted) 155 = .ok (.if_icmp .gt 21, 3) := by decide +kernel
theorem d_md_parted_158 : decode (mcode M_md_parted) 158 = .ok (.iload 5, 2) := by decide +kernel
theorem d_md_parted_160 : decode (mcode M_md_parted) 160 = .ok (.aload_n 0, 1) := by decide +kernel
theorem d_md_parted_161 : decode (mcode M_md_parted) 161 = .ok (.getfield 68, 3) := by decide +kernel
theorem d_md_parted_164 : decode (mcode M_md_parted) 164 = .ok (.iload 6, 2) := by decide +kernel
theorem d_md_parted_166 : decode (mcode M_md_parted) 166 = .ok (.iaload, 1) := by decide +kernel
theorem d_md_parted_167 : decode (mcode M_md_parted) 167 = .ok (.isub, 1) := by decide +kernel
theorem d_md_parted_168 : decode (mcode M_md_parted) 168 = .ok (.istore 5, 2) := by decide +kernel
theorem d_md_parted_170 : decode (mcode M_md_parted) 170 = .ok (.iinc 6 1, 3) := by decide +kernel
theorem d_md_parted_173 : decode (mcode M_md_parted) 173 = .ok (.goto (-26), 3) := by decide +kernel
theorem d_md_parted_176 : decode (mcode M_md_parted) 176 = .ok (.iload 5, 2) := by decide +kernel
theorem d_md_parted_178 : decode (mcode M_md_parted) 178 = .ok (.ifCond .le 75, 3) := by decide +kernel
theorem d_md_parted_181 : decode (mcode M_md_parted) 181 = .ok (.iconst 0, 1) := by decide +kernel
theorem d_md_parted_182 : decode (mcode M_md_parted) 182 = .ok (.istore 6, 2) := by decide +kernel
theorem d_md_parted_184 : decode (mcode M_md_parted) 184 = .ok (.iconst 1, 1) := by decide +kernel
theorem d_md_parted_185 : decode (mcode M_md_parted) 185 = .ok (.istore 7, 2) := by decide +kernel
theorem d_md_parted_187 : decode (mcode M_md_parted) 187 = .ok (.iload 7, 2) := by decide +kernel
theorem d_md_parted_189 : decode (mcode M_md_parted) 189 = .ok (.aload_n 0, 1) := by decide +kernel
theorem d_md_parted_190 : decode (mcode M_md_parted) 190 = .ok (.getfield 25, 3) := by decide +kernel
theorem d_md_parted_193 : decode (mcode M_md_parted) 193 = .ok (.iload_n 1, 1) := by decide +kernel
theorem d_md_parted_194 : decode (mcode M_md_parted) 194 = .ok (.iaload, 1) := by decide +kernel
theorem d_md_parted_195 : decode (mcode M_md_parted) 195 = .ok (.if_icmp .gt 31, 3) := by decide +kernel
theorem d_md_parted_198 : decode (mcode M_md_parted) 198 = .ok (.aload_n 0, 1) := by decide +kernel
theorem d_md_parted_199 : decode (mcode M_md_parted) 199 = .ok (.getfield 71, 3) := by decide +kernel
theorem d_md_parted_202 : decode (mcode M_md_parted) 202 = .ok (.iload 7, 2) := by decide +kernel
theorem d_md_parted_204 : decode (mcode M_md_parted) 204 = .ok (.laload, 1) := by decide +kernel
theorem d_md_parted_205 : decode (mcode M_md_parted) 205 = .ok (.aload_n 0, 1) := by decide +kernel
theorem d_md_parted_206 : decode (mcode M_md_parted) 206 = .ok (.getfield 71, 3) := by decide +kernel
theorem d_md_parted_209 : decode (mcode M_md_parted) 209 = .ok (.iload 6, 2) := by decide +kernel
theorem d_md_parted_211 : decode (mcode M_md_parted) 211 = .ok (.laload, 1) := by decide +kernel
theorem d_md_parted_212 : decode (mcode M_md_parted) 212 = .ok (.lcmp, 1) := by decide +kernel
theorem d_md_parted_213 : decode (mcode M_md_parted) 213 = .ok (.ifCond .le 7, 3) := by decide +kernel
theorem d_md_parted_216 : decode (mcode M_md_parted) 216 = .ok (.iload 7, 2) := by decide +kernel
theorem d_md_parted_218 : decode (mcode M_md_parted) 218 = .ok (.istore 6, 2) := by decide +kernel
theorem d_md_parted_220 : decode (mcode M_md_parted) 220 = .ok (.iinc 7 1, 3) := by decide +kernel
theorem d_md_parted_223 : decode (mcode M_md_parted) 223 = .ok (.goto (-36), 3) := by decide +kernel
theorem d_md_parted_226 : decode (mcode M_md_parted) 226 = .ok (.aload_n 0, 1) := by decide +kernel
theorem d_md_parted_227 : decode (mcode M_md_parted) 227 = .ok (.getfield 68, 3) := by decide +kernel
theorem d_md_parted_230 : decode (mcode M_md_parted) 230 = .ok (.iload 6, 2) := by decide +kernel
theorem d_md_parted_232 : decode (mcode M_md_parted) 232 = .ok (.dup2, 1) := by decide +kernel
theorem d_md_parted_233 : decode (mcode M_md_parted) 233 = .ok (.iaload, 1) := by decide +kernel
theorem d_md_parted_234 : decode (mcode M_md_parted) 234 = .ok (.iconst 1, 1) := by decide +kernel
theorem d_md_parted_235 : decode (mcode M_md_parted) 235 = .ok (.iadd, 1) := by decide +kernel
theorem d_md_parted_236 : decode (mcode M_md_parted) 236 = .ok (.iastore, 1) := by decide +kernel
theorem d_md_parted_237 : decode (mcode M_md_parted) 237 = .ok (.aload_n 0, 1) := by decide +kernel
theorem d_md_parted_238 : decode (mcode M_md_parted) 238 = .ok (.getfield 71, 3) := by decide +kernel
theorem d_md_parted_241 : decode (mcode M_md_parted) 241 = .ok (.iload 6, 2) := by decide +kernel
theorem d_md_parted_243 : decode (mcode M_md_parted) 243 = .ok (.ldc2_w 124, 3) := by decide +kernel
theorem d_md_parted_246 : decode (mcode M_md_parted) 246 = .ok (.lastore, 1) := by decide +kernel
theorem d_md_parted_247 : decode (mcode M_md_parted) 247 = .ok (.iinc 5 (-1), 3) := by decide +kernel
theorem d_md_parted_250 : decode (mcode M_md_parted) 250 = .ok (.goto (-74), 3) := by decide +kernel
theorem d_md_parted_253 : decode (mcode M_md_parted) 253 = .ok (.iload_n 2, 1) := by decide +kernel
theorem d_md_parted_254 : decode (mcode M_md_parted) 254 = .ok (.ireturn, 1) := by decide +kernel
theorem d_md_bears_0 : decode (mcode M_md_bears) 0 = .ok (.aload_n 0, 1) := by decide +kernel
theorem d_md_bears_1 : decode (mcode M_md_bears) 1 = .ok (.iload_n 1, 1) := by decide +kernel
theorem d_md_bears_2 : decode (mcode M_md_bears) 2 = .ok (.iload_n 2, 1) := by decide +kernel
theorem d_md_bears_3 : decode (mcode M_md_bears) 3 = .ok (.invokevirtual 110, 3) := by decide +kernel
theorem d_md_bears_6 : decode (mcode M_md_bears) 6 = .ok (.ifCond .eq 21, 3) := by decide +kernel
theorem d_md_bears_9 : decode (mcode M_md_bears) 9 = .ok (.aload_n 0, 1) := by decide +kernel
theorem d_md_bears_10 : decode (mcode M_md_bears) 10 = .ok (.iload_n 1, 1) := by decide +kernel
theorem d_md_bears_11 : decode (mcode M_md_bears) 11 = .ok (.invokevirtual 126, 3) := by decide +kernel
theorem d_md_bears_14 : decode (mcode M_md_bears) 14 = .ok (.iconst (-1), 1) := by decide +kernel
theorem d_md_bears_15 : decode (mcode M_md_bears) 15 = .ok (.if_icmp .eq 12, 3) := by decide +kernel
theorem d_md_bears_18 : decode (mcode M_md_bears) 18 = .ok (.aload_n 0, 1) := by decide +kernel
theorem d_md_bears_19 : decode (mcode M_md_bears) 19 = .ok (.getfield 68, 3) := by decide +kernel
theorem d_md_bears_22 : decode (mcode M_md_bears) 22 = .ok (.iload_n 2, 1) := by decide +kernel
theorem d_md_bears_23 : decode (mcode M_md_bears) 23 = .ok (.iaload, 1) := by decide +kernel
theorem d_md_bears_24 : decode (mcode M_md_bears) 24 = .ok (.goto 4, 3) := by decide +kernel
theorem d_md_bears_27 : decode (mcode M_md_bears) 27 = .ok (.iconst (-1), 1) := by decide +kernel
theorem d_md_bears_28 : decode (mcode M_md_bears) 28 = .ok (.ireturn, 1) := by decide +kernel
theorem d_md_decree_0 : decode (mcode M_md_decree) 0 = .ok (.aload_n 0, 1) := by decide +kernel
theorem d_md_decree_1 : decode (mcode M_md_decree) 1 = .ok (.iload_n 1, 1) := by decide +kernel
theorem d_md_decree_2 : decode (mcode M_md_decree) 2 = .ok (.invokevirtual 101, 3) := by decide +kernel
theorem d_md_decree_5 : decode (mcode M_md_decree) 5 = .ok (.ifCond .eq 12, 3) := by decide +kernel
theorem d_md_decree_8 : decode (mcode M_md_decree) 8 = .ok (.aload_n 0, 1) := by decide +kernel
theorem d_md_decree_9 : decode (mcode M_md_decree) 9 = .ok (.getfield 22, 3) := by decide +kernel
theorem d_md_decree_12 : decode (mcode M_md_decree) 12 = .ok (.iload_n 1, 1) := by decide +kernel
theorem d_md_decree_13 : decode (mcode M_md_decree) 13 = .ok (.iaload, 1) := by decide +kernel
theorem d_md_decree_14 : decode (mcode M_md_decree) 14 = .ok (.ifCond .eq 5, 3) := by decide +kernel
theorem d_md_decree_17 : decode (mcode M_md_decree) 17 = .ok (.iconst (-1), 1) := by decide +kernel
theorem d_md_decree_18 : decode (mcode M_md_decree) 18 = .ok (.ireturn, 1) := by decide +kernel
theorem d_md_decree_19 : decode (mcode M_md_decree) 19 = .ok (.aload_n 0, 1) := by decide +kernel
theorem d_md_decree_20 : decode (mcode M_md_decree) 20 = .ok (.iload_n 1, 1) := by decide +kernel
theorem d_md_decree_21 : decode (mcode M_md_decree) 21 = .ok (.invokevirtual 126, 3) := by decide +kernel
theorem d_md_decree_24 : decode (mcode M_md_decree) 24 = .ok (.istore_n 2, 1) := by decide +kernel
theorem d_md_decree_25 : decode (mcode M_md_decree) 25 = .ok (.iload_n 2, 1) := by decide +kernel
theorem d_md_decree_26 : decode (mcode M_md_decree) 26 = .ok (.iconst (-1), 1) := by decide +kernel
theorem d_md_decree_27 : decode (mcode M_md_decree) 27 = .ok (.if_icmp .ne 5, 3) := by decide +kernel
theorem d_md_decree_30 : decode (mcode M_md_decree) 30 = .ok (.iconst (-1), 1) := by decide +kernel
theorem d_md_decree_31 : decode (mcode M_md_decree) 31 = .ok (.ireturn, 1) := by decide +kernel
theorem d_md_decree_32 : decode (mcode M_md_decree) 32 = .ok (.aload_n 0, 1) := by decide +kernel
theorem d_md_decree_33 : decode (mcode M_md_decree) 33 = .ok (.getfield 28, 3) := by decide +kernel
theorem d_md_decree_36 : decode (mcode M_md_decree) 36 = .ok (.iconst 4, 1) := by decide +kernel
theorem d_md_decree_37 : decode (mcode M_md_decree) 37 = .ok (.iload_n 1, 1) := by decide +kernel
theorem d_md_decree_38 : decode (mcode M_md_decree) 38 = .ok (.imul, 1) := by decide +kernel
theorem d_md_decree_39 : decode (mcode M_md_decree) 39 = .ok (.iload_n 2, 1) := by decide +kernel
theorem d_md_decree_40 : decode (mcode M_md_decree) 40 = .ok (.iadd, 1) := by decide +kernel
theorem d_md_decree_41 : decode (mcode M_md_decree) 41 = .ok (.iaload, 1) := by decide +kernel
theorem d_md_decree_42 : decode (mcode M_md_decree) 42 = .ok (.istore_n 3, 1) := by decide +kernel
theorem d_md_decree_43 : decode (mcode M_md_decree) 43 = .ok (.aload_n 0, 1) := by decide +kernel
theorem d_md_decree_44 : decode (mcode M_md_decree) 44 = .ok (.getfield 9, 3) := by decide +kernel
theorem d_md_decree_47 : decode (mcode M_md_decree) 47 = .ok (.iload_n 3, 1) := by decide +kernel
theorem d_md_decree_48 : decode (mcode M_md_decree) 48 = .ok (.dup2, 1) := by decide +kernel
theorem d_md_decree_49 : decode (mcode M_md_decree) 49 = .ok (.iaload, 1) := by decide +kernel
theorem d_md_decree_50 : decode (mcode M_md_decree) 50 = .ok (.aload_n 0, 1) := by decide +kernel
theorem d_md_decree_51 : decode (mcode M_md_decree) 51 = .ok (.iload_n 1, 1) := by decide +kernel
theorem d_md_decree_52 : decode (mcode M_md_decree) 52 = .ok (.invokevirtual 118, 3) := by decide +kernel
theorem d_md_decree_55 : decode (mcode M_md_decree) 55 = .ok (.isub, 1) := by decide +kernel
theorem d_md_decree_56 : decode (mcode M_md_decree) 56 = .ok (.iastore, 1) := by decide +kernel
theorem d_md_decree_57 : decode (mcode M_md_decree) 57 = .ok (.iconst 0, 1) := by decide +kernel
theorem d_md_decree_58 : decode (mcode M_md_decree) 58 = .ok (.istore 4, 2) := by decide +kernel
theorem d_md_decree_60 : decode (mcode M_md_decree) 60 = .ok (.iload 4, 2) := by decide +kernel
theorem d_md_decree_62 : decode (mcode M_md_decree) 62 = .ok (.aload_n 0, 1) := by decide +kernel
theorem d_md_decree_63 : decode (mcode M_md_decree) 63 = .ok (.getfield 25, 3) := by decide +kernel
theorem d_md_decree_66 : decode (mcode M_md_decree) 66 = .ok (.iload_n 1, 1) := by decide +kernel
theorem d_md_decree_67 : decode (mcode M_md_decree) 67 = .ok (.iaload, 1) := by decide +kernel
theorem d_md_decree_68 : decode (mcode M_md_decree) 68 = .ok (.if_icmp .gt 60, 3) := by decide +kernel
theorem d_md_decree_71 : decode (mcode M_md_decree) 71 = .ok (.iload 4, 2) := by decide +kernel
theorem d_md_decree_73 : decode (mcode M_md_decree) 73 = .ok (.iload_n 2, 1) := by decide +kernel
theorem d_md_decree_74 : decode (mcode M_md_decree) 74 = .ok (.if_icmp .ne 6, 3) := by decide +kernel
theorem d_md_decree_77 : decode (mcode M_md_decree) 77 = .ok (.goto 45, 3) := by decide +kernel
theorem d_md_decree_80 : decode (mcode M_md_decree) 80 = .ok (.aload_n 0, 1) := by decide +kernel
theorem d_md_decree_81 : decode (mcode M_md_decree) 81 = .ok (.getfield 9, 3) := by decide +kernel
theorem d_md_decree_84 : decode (mcode M_md_decree) 84 = .ok (.aload_n 0, 1) := by decide +kernel
theorem d_md_decree_85 : decode (mcode M_md_decree) 85 = .ok (.getfield 28, 3) := by decide +kernel
theorem d_md_decree_88 : decode (mcode M_md_decree) 88 = .ok (.iconst 4, 1) := by decide +kernel
theorem d_md_decree_89 : decode (mcode M_md_decree) 89 = .ok (.iload_n 1, 1) := by decide +kernel
theorem d_md_decree_90 : decode (mcode M_md_decree) 90 = .ok (.imul, 1) := by decide +kernel
theorem d_md_decree_91 : decode (mcode M_md_decree) 91 = .ok (.iload 4, 2) := by decide +kernel
theorem d_md_decree_93 : decode (mcode M_md_decree) 93 = .ok (.iadd, 1) := by decide +kernel
theorem d_md_decree_94 : decode (mcode M_md_decree) 94 = .ok (.iaload, 1) := by decide +kernel
theorem d_md_decree_95 : decode (mcode M_md_decree) 95 = .ok (.dup2, 1) := by decide +kernel
theorem d_md_decree_96 : decode (mcode M_md_decree) 96 = .ok (.iaload, 1) := by decide +kernel
theorem d_md_decree_97 : decode (mcode M_md_decree) 97 = .ok (.aload_n 0, 1) := by decide +kernel
theorem d_md_decree_98 : decode (mcode M_md_decree) 98 = .ok (.getfield 68, 3) := by decide +kernel
theorem d_md_decree_101 : decode (mcode M_md_decree) 101 = .ok (.iload 4, 2) := by decide +kernel
theorem d_md_decree_103 : decode (mcode M_md_decree) 103 = .ok (.iaload, 1) := by decide +kernel
theorem d_md_decree_104 : decode (mcode M_md_decree) 104 = .ok (.isub, 1) := by decide +kernel
theorem d_md_decree_105 : decode (mcode M_md_decree) 105 = .ok (.iastore, 1) := by decide +kernel
theorem d_md_decree_106 : decode (mcode M_md_decree) 106 = .ok (.aload_n 0, 1) := by decide +kernel
theorem d_md_decree_107 : decode (mcode M_md_decree) 107 = .ok (.getfield 9, 3) := by decide +kernel
theorem d_md_decree_110 : decode (mcode M_md_decree) 110 = .ok (.iload_n 3, 1) := by decide +kernel
theorem d_md_decree_111 : decode (mcode M_md_decree) 111 = .ok (.dup2, 1) := by decide +kernel
theorem d_md_decree_112 : decode (mcode M_md_decree) 112 = .ok (.iaload, 1) := by decide +kernel
theorem d_md_decree_113 : decode (mcode M_md_decree) 113 = .ok (.aload_n 0, 1) := by decide +kernel
theorem d_md_decree_114 : decode (mcode M_md_decree) 114 = .ok (.getfield 68, 3) := by decide +kernel
theorem d_md_decree_117 : decode (mcode M_md_decree) 117 = .ok (.iload 4, 2) := by decide +kernel
theorem d_md_decree_119 : decode (mcode M_md_decree) 119 = .ok (.iaload, 1) := by decide +kernel
theorem d_md_decree_120 : decode (mcode M_md_decree) 120 = .ok (.iadd, 1) := by decide +kernel
theorem d_md_decree_121 : decode (mcode M_md_decree) 121 = .ok (.iastore, 1) := by decide +kernel
theorem d_md_decree_122 : decode (mcode M_md_decree) 122 = .ok (.iinc 4 1, 3) := by decide +kernel
theorem d_md_decree_125 : decode (mcode M_md_decree) 125 = .ok (.goto (-65), 3) := by decide +kernel
theorem d_md_decree_128 : decode (mcode M_md_decree) 128 = .ok (.iload_n 2, 1) := by decide +kernel
theorem d_md_decree_129 : decode (mcode M_md_decree) 129 = .ok (.istore 4, 2) := by decide +kernel
theorem d_md_decree_131 : decode (mcode M_md_decree) 131 = .ok (.iload 4, 2) := by decide +kernel
theorem d_md_decree_133 : decode (mcode M_md_decree) 133 = .ok (.ifCond .le 64, 3) := by decide +kernel
theorem d_md_decree_136 : decode (mcode M_md_decree) 136 = .ok (.iload 4, 2) := by decide +kernel
theorem d_md_decree_138 : decode (mcode M_md_decree) 138 = .ok (.iload_n 2, 1) := by decide +kernel
theorem d_md_decree_139 : decode (mcode M_md_decree) 139 = .ok (.if_icmp .ne 8, 3) := by decide +kernel
theorem d_md_decree_142 : decode (mcode M_md_decree) 142 = .ok (.bipush 40, 2) := by decide +kernel
theorem d_md_decree_144 : decode (mcode M_md_decree) 144 = .ok (.goto 16, 3) := by decide +kernel
theorem d_md_decree_147 : decode (mcode M_md_decree) 147 = .ok (.aload_n 0, 1) := by decide +kernel
theorem d_md_decree_148 : decode (mcode M_md_decree) 148 = .ok (.getfield 31, 3) := by decide +kernel
theorem d_md_decree_151 : decode (mcode M_md_decree) 151 = .ok (.iconst 4, 1) := by decide +kernel
theorem d_md_decree_152 : decode (mcode M_md_decree) 152 = .ok (.iload_n 1, 1) := by decide +kernel
theorem d_md_decree_153 : decode (mcode M_md_decree) 153 = .ok (.imul, 1) := by decide +kernel
theorem d_md_decree_154 : decode (mcode M_md_decree) 154 = .ok (.iload 4, 2) := by decide +kernel
theorem d_md_decree_156 : decode (mcode M_md_decree) 156 = .ok (.iadd, 1) := by decide +kernel
theorem d_md_decree_157 : decode (mcode M_md_decree) 157 = .ok (.iconst 1, 1) := by decide +kernel
theorem d_md_decree_158 : decode (mcode M_md_decree) 158 = .ok (.iadd, 1) := by decide +kernel
theorem d_md_decree_159 : decode (mcode M_md_decree) 159 = .ok (.iaload, 1) := by decide +kernel
theorem d_md_decree_160 : decode (mcode M_md_decree) 160 = .ok (.istore 5, 2) := by decide +kernel
theorem d_md_decree_162 : decode (mcode M_md_decree) 162 = .ok (.aload_n 0, 1) := by decide +kernel
theorem d_md_decree_163 : decode (mcode M_md_decree) 163 = .ok (.getfield 31, 3) := by decide +kernel
theorem d_md_decree_166 : decode (mcode M_md_decree) 166 = .ok (.iconst 4, 1) := by decide +kernel
theorem d_md_decree_167 : decode (mcode M_md_decree) 167 = .ok (.iload_n 1, 1) := by decide +kernel
theorem d_md_decree_168 : decode (mcode M_md_decree) 168 = .ok (.imul, 1) := by decide +kernel
theorem d_md_decree_169 : decode (mcode M_md_decree) 169 = .ok (.iload 4, 2) := by decide +kernel
theorem d_md_decree_171 : decode (mcode M_md_decree) 171 = .ok (.iadd, 1) := by decide +kernel
theorem d_md_decree_172 : decode (mcode M_md_decree) 172 = .ok (.iaload, 1) := by decide +kernel
theorem d_md_decree_173 : decode (mcode M_md_decree) 173 = .ok (.iload 5, 2) := by decide +kernel
theorem d_md_decree_175 : decode (mcode M_md_decree) 175 = .ok (.if_icmp .ge 16, 3) := by decide +kernel
theorem d_md_decree_178 : decode (mcode M_md_decree) 178 = .ok (.aload_n 0, 1) := by decide +kernel
theorem d_md_decree_179 : decode (mcode M_md_decree) 179 = .ok (.getfield 31, 3) := by decide +kernel
theorem d_md_decree_182 : decode (mcode M_md_decree) 182 = .ok (.iconst 4, 1) := by decide +kernel
theorem d_md_decree_183 : decode (mcode M_md_decree) 183 = .ok (.iload_n 1, 1) := by decide +kernel
theorem d_md_decree_184 : decode (mcode M_md_decree) 184 = .ok (.imul, 1) := by decide +kernel
theorem d_md_decree_185 : decode (mcode M_md_decree) 185 = .ok (.iload 4, 2) := by decide +kernel
theorem d_md_decree_187 : decode (mcode M_md_decree) 187 = .ok (.iadd, 1) := by decide +kernel
theorem d_md_decree_188 : decode (mcode M_md_decree) 188 = .ok (.iload 5, 2) := by decide +kernel
theorem d_md_decree_190 : decode (mcode M_md_decree) 190 = .ok (.iastore, 1) := by decide +kernel
theorem d_md_decree_191 : decode (mcode M_md_decree) 191 = .ok (.iinc 4 (-1), 3) := by decide +kernel
theorem d_md_decree_194 : decode (mcode M_md_decree) 194 = .ok (.goto (-63), 3) := by decide +kernel
theorem d_md_decree_197 : decode (mcode M_md_decree) 197 = .ok (.aload_n 0, 1) := by decide +kernel
theorem d_md_decree_198 : decode (mcode M_md_decree) 198 = .ok (.getfield 22, 3) := by decide +kernel
theorem d_md_decree_201 : decode (mcode M_md_decree) 201 = .ok (.iload_n 1, 1) := by decide +kernel
theorem d_md_decree_202 : decode (mcode M_md_decree) 202 = .ok (.iconst 1, 1) := by decide +kernel
theorem d_md_decree_203 : decode (mcode M_md_decree) 203 = .ok (.iastore, 1) := by decide +kernel
theorem d_md_decree_204 : decode (mcode M_md_decree) 204 = .ok (.aload_n 0, 1) := by decide +kernel
theorem d_md_decree_205 : decode (mcode M_md_decree) 205 = .ok (.getfield 37, 3) := by decide +kernel
theorem d_md_decree_208 : decode (mcode M_md_decree) 208 = .ok (.iload_n 1, 1) := by decide +kernel
theorem d_md_decree_209 : decode (mcode M_md_decree) 209 = .ok (.iload_n 3, 1) := by decide +kernel
theorem d_md_decree_210 : decode (mcode M_md_decree) 210 = .ok (.iastore, 1) := by decide +kernel
theorem d_md_decree_211 : decode (mcode M_md_decree) 211 = .ok (.aload_n 0, 1) := by decide +kernel
theorem d_md_decree_212 : decode (mcode M_md_decree) 212 = .ok (.getfield 40, 3) := by decide +kernel
theorem d_md_decree_215 : decode (mcode M_md_decree) 215 = .ok (.iload_n 1, 1) := by decide +kernel
theorem d_md_decree_216 : decode (mcode M_md_decree) 216 = .ok (.aload_n 0, 1) := by decide +kernel
theorem d_md_decree_217 : decode (mcode M_md_decree) 217 = .ok (.getfield 129, 3) := by decide +kernel
theorem d_md_decree_220 : decode (mcode M_md_decree) 220 = .ok (.iastore, 1) := by decide +kernel
theorem d_md_decree_221 : decode (mcode M_md_decree) 221 = .ok (.aload_n 0, 1) := by decide +kernel
theorem d_md_decree_222 : decode (mcode M_md_decree) 222 = .ok (.aload_n 0, 1) := by decide +kernel
theorem d_md_decree_223 : decode (mcode M_md_decree) 223 = .ok (.iload_n 1, 1) := by decide +kernel
theorem d_md_decree_224 : decode (mcode M_md_decree) 224 = .ok (.invokevirtual 132, 3) := by decide +kernel
theorem d_md_decree_227 : decode (mcode M_md_decree) 227 = .ok (.iload_n 1, 1) := by decide +kernel
theorem d_md_decree_228 : decode (mcode M_md_decree) 228 = .ok (.iload_n 3, 1) := by decide +kernel
theorem d_md_decree_229 : decode (mcode M_md_decree) 229 = .ok (.invokevirtual 135, 3) := by decide +kernel
theorem d_md_decree_232 : decode (mcode M_md_decree) 232 = .ok (.aload_n 0, 1) := by decide +kernel
theorem d_md_decree_233 : decode (mcode M_md_decree) 233 = .ok (.iload_n 1, 1) := by decide +kernel
theorem d_md_decree_234 : decode (mcode M_md_decree) 234 = .ok (.aload_n 0, 1) := by decide +kernel
theorem d_md_decree_235 : decode (mcode M_md_decree) 235 = .ok (.iload_n 1, 1) := by decide +kernel
theorem d_md_decree_236 : decode (mcode M_md_decree) 236 = .ok (.invokevirtual 139, 3) := by decide +kernel
theorem d_md_decree_239 : decode (mcode M_md_decree) 239 = .ok (.iload_n 3, 1) := by decide +kernel
theorem d_md_decree_240 : decode (mcode M_md_decree) 240 = .ok (.invokevirtual 135, 3) := by decide +kernel
theorem d_md_decree_243 : decode (mcode M_md_decree) 243 = .ok (.iload_n 2, 1) := by decide +kernel
theorem d_md_decree_244 : decode (mcode M_md_decree) 244 = .ok (.ireturn, 1) := by decide +kernel
theorem d_md_before_0 : decode (mcode M_md_before) 0 = .ok (.iconst (-1), 1) := by decide +kernel
theorem d_md_before_1 : decode (mcode M_md_before) 1 = .ok (.istore_n 2, 1) := by decide +kernel
theorem d_md_before_2 : decode (mcode M_md_before) 2 = .ok (.iconst 0, 1) := by decide +kernel
theorem d_md_before_3 : decode (mcode M_md_before) 3 = .ok (.istore_n 3, 1) := by decide +kernel
theorem d_md_before_4 : decode (mcode M_md_before) 4 = .ok (.iload_n 3, 1) := by decide +kernel
theorem d_md_before_5 : decode (mcode M_md_before) 5 = .ok (.iload_n 1, 1) := by decide +kernel
theorem d_md_before_6 : decode (mcode M_md_before) 6 = .ok (.if_icmp .ge 26, 3) := by decide +kernel
theorem d_md_before_9 : decode (mcode M_md_before) 9 = .ok (.aload_n 0, 1) := by decide +kernel
theorem d_md_before_10 : decode (mcode M_md_before) 10 = .ok (.getfield 13, 3) := by decide +kernel
theorem d_md_before_13 : decode (mcode M_md_before) 13 = .ok (.iload_n 3, 1) := by decide +kernel
theorem d_md_before_14 : decode (mcode M_md_before) 14 = .ok (.iaload, 1) := by decide +kernel
theorem d_md_before_15 : decode (mcode M_md_before) 15 = .ok (.aload_n 0, 1) := by decide +kernel
theorem d_md_before_16 : decode (mcode M_md_before) 16 = .ok (.getfield 13, 3) := by decide +kernel
theorem d_md_before_19 : decode (mcode M_md_before) 19 = .ok (.iload_n 1, 1) := by decide +kernel
theorem d_md_before_20 : decode (mcode M_md_before) 20 = .ok (.iaload, 1) := by decide +kernel
theorem d_md_before_21 : decode (mcode M_md_before) 21 = .ok (.if_icmp .ne 5, 3) := by decide +kernel
theorem d_md_before_24 : decode (mcode M_md_before) 24 = .ok (.iload_n 3, 1) := by decide +kernel
theorem d_md_before_25 : decode (mcode M_md_before) 25 = .ok (.istore_n 2, 1) := by decide +kernel
theorem d_md_before_26 : decode (mcode M_md_before) 26 = .ok (.iinc 3 1, 3) := by decide +kernel
theorem d_md_before_29 : decode (mcode M_md_before) 29 = .ok (.goto (-25), 3) := by decide +kernel
theorem d_md_before_32 : decode (mcode M_md_before) 32 = .ok (.iload_n 2, 1) := by decide +kernel
theorem d_md_before_33 : decode (mcode M_md_before) 33 = .ok (.ireturn, 1) := by decide +kernel
theorem d_md_behind_0 : decode (mcode M_md_behind) 0 = .ok (.iload_n 1, 1) := by decide +kernel
theorem d_md_behind_1 : decode (mcode M_md_behind) 1 = .ok (.iconst 1, 1) := by decide +kernel
theorem d_md_behind_2 : decode (mcode M_md_behind) 2 = .ok (.iadd, 1) := by decide +kernel
theorem d_md_behind_3 : decode (mcode M_md_behind) 3 = .ok (.istore_n 2, 1) := by decide +kernel
theorem d_md_behind_4 : decode (mcode M_md_behind) 4 = .ok (.iload_n 2, 1) := by decide +kernel
theorem d_md_behind_5 : decode (mcode M_md_behind) 5 = .ok (.aload_n 0, 1) := by decide +kernel
theorem d_md_behind_6 : decode (mcode M_md_behind) 6 = .ok (.getfield 84, 3) := by decide +kernel
theorem d_md_behind_9 : decode (mcode M_md_behind) 9 = .ok (.if_icmp .ge 26, 3) := by decide +kernel
theorem d_md_behind_12 : decode (mcode M_md_behind) 12 = .ok (.aload_n 0, 1) := by decide +kernel
theorem d_md_behind_13 : decode (mcode M_md_behind) 13 = .ok (.getfield 13, 3) := by decide +kernel
theorem d_md_behind_16 : decode (mcode M_md_behind) 16 = .ok (.iload_n 2, 1) := by decide +kernel
theorem d_md_behind_17 : decode (mcode M_md_behind) 17 = .ok (.iaload, 1) := by decide +kernel
theorem d_md_behind_18 : decode (mcode M_md_behind) 18 = .ok (.aload_n 0, 1) := by decide +kernel
theorem d_md_behind_19 : decode (mcode M_md_behind) 19 = .ok (.getfield 13, 3) := by decide +kernel
theorem d_md_behind_22 : decode (mcode M_md_behind) 22 = .ok (.iload_n 1, 1) := by decide +kernel
theorem d_md_behind_23 : decode (mcode M_md_behind) 23 = .ok (.iaload, 1) := by decide +kernel
theorem d_md_behind_24 : decode (mcode M_md_behind) 24 = .ok (.if_icmp .ne 5, 3) := by decide +kernel
theorem d_md_behind_27 : decode (mcode M_md_behind) 27 = .ok (.iload_n 2, 1) := by decide +kernel
theorem d_md_behind_28 : decode (mcode M_md_behind) 28 = .ok (.ireturn, 1) := by decide +kernel
theorem d_md_behind_29 : decode (mcode M_md_behind) 29 = .ok (.iinc 2 1, 3) := by decide +kernel
theorem d_md_behind_32 : decode (mcode M_md_behind) 32 = .ok (.goto (-28), 3) := by decide +kernel
theorem d_md_behind_35 : decode (mcode M_md_behind) 35 = .ok (.iconst (-1), 1) := by decide +kernel
theorem d_md_behind_36 : decode (mcode M_md_behind) 36 = .ok (.ireturn, 1) := by decide +kernel
theorem d_md_wall_0 : decode (mcode M_md_wall) 0 = .ok (.iload_n 1, 1) := by decide +kernel
theorem d_md_wall_1 : decode (mcode M_md_wall) 1 = .ok (.iconst (-1), 1) := by decide +kernel
theorem d_md_wall_2 : decode (mcode M_md_wall) 2 = .ok (.if_icmp .eq 24, 3) := by decide +kernel
theorem d_md_wall_5 : decode (mcode M_md_wall) 5 = .ok (.iload_n 2, 1) := by decide +kernel
theorem d_md_wall_6 : decode (mcode M_md_wall) 6 = .ok (.iconst (-1), 1) := by decide +kernel
theorem d_md_wall_7 : decode (mcode M_md_wall) 7 = .ok (.if_icmp .eq 19, 3) := by decide +kernel
theorem d_md_wall_10 : decode (mcode M_md_wall) 10 = .ok (.aload_n 0, 1) := by decide +kernel
theorem d_md_wall_11 : decode (mcode M_md_wall) 11 = .ok (.iload_n 1, 1) := by decide +kernel
theorem d_md_wall_12 : decode (mcode M_md_wall) 12 = .ok (.invokevirtual 104, 3) := by decide +kernel
theorem d_md_wall_15 : decode (mcode M_md_wall) 15 = .ok (.ifCond .ne 11, 3) := by decide +kernel
theorem d_md_wall_18 : decode (mcode M_md_wall) 18 = .ok (.aload_n 0, 1) := by decide +kernel
theorem d_md_wall_19 : decode (mcode M_md_wall) 19 = .ok (.iload_n 2, 1) := by decide +kernel
theorem d_md_wall_20 : decode (mcode M_md_wall) 20 = .ok (.invokevirtual 104, 3) := by decide +kernel
theorem d_md_wall_23 : decode (mcode M_md_wall) 23 = .ok (.ifCond .eq 4, 3) := by decide +kernel
theorem d_md_wall_26 : decode (mcode M_md_wall) 26 = .ok (.return_, 1) := by decide +kernel
theorem d_md_wall_27 : decode (mcode M_md_wall) 27 = .ok (.aload_n 0, 1) := by decide +kernel
theorem d_md_wall_28 : decode (mcode M_md_wall) 28 = .ok (.getfield 46, 3) := by decide +kernel
theorem d_md_wall_31 : decode (mcode M_md_wall) 31 = .ok (.iload_n 1, 1) := by decide +kernel
theorem d_md_wall_32 : decode (mcode M_md_wall) 32 = .ok (.iaload, 1) := by decide +kernel
theorem d_md_wall_33 : decode (mcode M_md_wall) 33 = .ok (.iconst (-1), 1) := by decide +kernel
theorem d_md_wall_34 : decode (mcode M_md_wall) 34 = .ok (.if_icmp .ne 66, 3) := by decide +kernel
theorem d_md_wall_37 : decode (mcode M_md_wall) 37 = .ok (.aload_n 0, 1) := by decide +kernel
theorem d_md_wall_38 : decode (mcode M_md_wall) 38 = .ok (.getfield 46, 3) := by decide +kernel
theorem d_md_wall_41 : decode (mcode M_md_wall) 41 = .ok (.iload_n 1, 1) := by decide +kernel
theorem d_md_wall_42 : decode (mcode M_md_wall) 42 = .ok (.iload_n 3, 1) := by decide +kernel
theorem d_md_wall_43 : decode (mcode M_md_wall) 43 = .ok (.iastore, 1) := by decide +kernel
theorem d_md_wall_44 : decode (mcode M_md_wall) 44 = .ok (.aload_n 0, 1) := by decide +kernel
theorem d_md_wall_45 : decode (mcode M_md_wall) 45 = .ok (.getfield 49, 3) := by decide +kernel
theorem d_md_wall_48 : decode (mcode M_md_wall) 48 = .ok (.iload_n 1, 1) := by decide +kernel
theorem d_md_wall_49 : decode (mcode M_md_wall) 49 = .ok (.iconst 3, 1) := by decide +kernel
theorem d_md_wall_50 : decode (mcode M_md_wall) 50 = .ok (.aload_n 0, 1) := by decide +kernel
theorem d_md_wall_51 : decode (mcode M_md_wall) 51 = .ok (.getfield 19, 3) := by decide +kernel
theorem d_md_wall_54 : decode (mcode M_md_wall) 54 = .ok (.iload_n 1, 1) := by decide +kernel
theorem d_md_wall_55 : decode (mcode M_md_wall) 55 = .ok (.iaload, 1) := by decide +kernel
theorem d_md_wall_56 : decode (mcode M_md_wall) 56 = .ok (.aload_n 0, 1) := by decide +kernel
theorem d_md_wall_57 : decode (mcode M_md_wall) 57 = .ok (.getfield 19, 3) := by decide +kernel
theorem d_md_wall_60 : decode (mcode M_md_wall) 60 = .ok (.iload_n 2, 1) := by decide +kernel
theorem d_md_wall_61 : decode (mcode M_md_wall) 61 = .ok (.iaload, 1) := by decide +kernel
theorem d_md_wall_62 : decode (mcode M_md_wall) 62 = .ok (.if_icmp .ge 12, 3) := by decide +kernel
theorem d_md_wall_65 : decode (mcode M_md_wall) 65 = .ok (.aload_n 0, 1) := by decide +kernel
theorem d_md_wall_66 : decode (mcode M_md_wall) 66 = .ok (.getfield 19, 3) := by decide +kernel
theorem d_md_wall_69 : decode (mcode M_md_wall) 69 = .ok (.iload_n 1, 1) := by decide +kernel
theorem d_md_wall_70 : decode (mcode M_md_wall) 70 = .ok (.iaload, 1) := by decide +kernel
theorem d_md_wall_71 : decode (mcode M_md_wall) 71 = .ok (.goto 9, 3) := by decide +kernel
theorem d_md_wall_74 : decode (mcode M_md_wall) 74 = .ok (.aload_n 0, 1) := by decide +kernel
theorem d_md_wall_75 : decode (mcode M_md_wall) 75 = .ok (.getfield 19, 3) := by decide +kernel
theorem d_md_wall_78 : decode (mcode M_md_wall) 78 = .ok (.iload_n 2, 1) := by decide +kernel
theorem d_md_wall_79 : decode (mcode M_md_wall) 79 = .ok (.iaload, 1) := by decide +kernel
theorem d_md_wall_80 : decode (mcode M_md_wall) 80 = .ok (.imul, 1) := by decide +kernel
theorem d_md_wall_81 : decode (mcode M_md_wall) 81 = .ok (.iastore, 1) := by decide +kernel
theorem d_md_wall_82 : decode (mcode M_md_wall) 82 = .ok (.aload_n 0, 1) := by decide +kernel
theorem d_md_wall_83 : decode (mcode M_md_wall) 83 = .ok (.getfield 9, 3) := by decide +kernel
theorem d_md_wall_86 : decode (mcode M_md_wall) 86 = .ok (.iload_n 3, 1) := by decide +kernel
theorem d_md_wall_87 : decode (mcode M_md_wall) 87 = .ok (.dup2, 1) := by decide +kernel
theorem d_md_wall_88 : decode (mcode M_md_wall) 88 = .ok (.iaload, 1) := by decide +kernel
theorem d_md_wall_89 : decode (mcode M_md_wall) 89 = .ok (.aload_n 0, 1) := by decide +kernel
theorem d_md_wall_90 : decode (mcode M_md_wall) 90 = .ok (.getfield 49, 3) := by decide +kernel
theorem d_md_wall_93 : decode (mcode M_md_wall) 93 = .ok (.iload_n 1, 1) := by decide +kernel
theorem d_md_wall_94 : decode (mcode M_md_wall) 94 = .ok (.iaload, 1) := by decide +kernel
theorem d_md_wall_95 : decode (mcode M_md_wall) 95 = .ok (.isub, 1) := by decide +kernel
theorem d_md_wall_96 : decode (mcode M_md_wall) 96 = .ok (.iastore, 1) := by decide +kernel
theorem d_md_wall_97 : decode (mcode M_md_wall) 97 = .ok (.goto 42, 3) := by decide +kernel
theorem d_md_wall_100 : decode (mcode M_md_wall) 100 = .ok (.aload_n 0, 1) := by decide +kernel
theorem d_md_wall_101 : decode (mcode M_md_wall) 101 = .ok (.getfield 9, 3) := by decide +kernel
theorem d_md_wall_104 : decode (mcode M_md_wall) 104 = .ok (.iload_n 3, 1) := by decide +kernel
theorem d_md_wall_105 : decode (mcode M_md_wall) 105 = .ok (.dup2, 1) := by decide +kernel
theorem d_md_wall_106 : decode (mcode M_md_wall) 106 = .ok (.iaload, 1) := by decide +kernel
theorem d_md_wall_107 : decode (mcode M_md_wall) 107 = .ok (.aload_n 0, 1) := by decide +kernel
theorem d_md_wall_108 : decode (mcode M_md_wall) 108 = .ok (.getfield 49, 3) := by decide +kernel
theorem d_md_wall_111 : decode (mcode M_md_wall) 111 = .ok (.iload_n 1, 1) := by decide +kernel
theorem d_md_wall_112 : decode (mcode M_md_wall) 112 = .ok (.iaload, 1) := by decide +kernel
theorem d_md_wall_113 : decode (mcode M_md_wall) 113 = .ok (.iconst 2, 1) := by decide +kernel
theorem d_md_wall_114 : decode (mcode M_md_wall) 114 = .ok (.idiv, 1) := by decide +kernel
theorem d_md_wall_115 : decode (mcode M_md_wall) 115 = .ok (.isub, 1) := by decide +kernel
theorem d_md_wall_116 : decode (mcode M_md_wall) 116 = .ok (.iastore, 1) := by decide +kernel
theorem d_md_wall_117 : decode (mcode M_md_wall) 117 = .ok (.aload_n 0, 1) := by decide +kernel
theorem d_md_wall_118 : decode (mcode M_md_wall) 118 = .ok (.getfield 9, 3) := by decide +kernel
theorem d_md_wall_121 : decode (mcode M_md_wall) 121 = .ok (.aload_n 0, 1) := by decide +kernel
theorem d_md_wall_122 : decode (mcode M_md_wall) 122 = .ok (.getfield 46, 3) := by decide +kernel
theorem d_md_wall_125 : decode (mcode M_md_wall) 125 = .ok (.iload_n 1, 1) := by decide +kernel
theorem d_md_wall_126 : decode (mcode M_md_wall) 126 = .ok (.iaload, 1) := by decide +kernel
theorem d_md_wall_127 : decode (mcode M_md_wall) 127 = .ok (.dup2, 1) := by decide +kernel
theorem d_md_wall_128 : decode (mcode M_md_wall) 128 = .ok (.iaload, 1) := by decide +kernel
theorem d_md_wall_129 : decode (mcode M_md_wall) 129 = .ok (.aload_n 0, 1) := by decide +kernel
theorem d_md_wall_130 : decode (mcode M_md_wall) 130 = .ok (.getfield 49, 3) := by decide +kernel
theorem d_md_wall_133 : decode (mcode M_md_wall) 133 = .ok (.iload_n 1, 1) := by decide +kernel
theorem d_md_wall_134 : decode (mcode M_md_wall) 134 = .ok (.iaload, 1) := by decide +kernel
theorem d_md_wall_135 : decode (mcode M_md_wall) 135 = .ok (.iconst 2, 1) := by decide +kernel
theorem d_md_wall_136 : decode (mcode M_md_wall) 136 = .ok (.idiv, 1) := by decide +kernel
theorem d_md_wall_137 : decode (mcode M_md_wall) 137 = .ok (.iadd, 1) := by decide +kernel
theorem d_md_wall_138 : decode (mcode M_md_wall) 138 = .ok (.iastore, 1) := by decide +kernel
theorem d_md_wall_139 : decode (mcode M_md_wall) 139 = .ok (.return_, 1) := by decide +kernel
theorem d_md_act_0 : decode (mcode M_md_act) 0 = .ok (.iload_n 1, 1) := by decide +kernel
theorem d_md_act_1 : decode (mcode M_md_act) 1 = .ok (.invokestatic 93, 3) := by decide +kernel
theorem d_md_act_4 : decode (mcode M_md_act) 4 = .ok (.ifCond .eq 13, 3) := by decide +kernel
theorem d_md_act_7 : decode (mcode M_md_act) 7 = .ok (.iload_n 2, 1) := by decide +kernel
theorem d_md_act_8 : decode (mcode M_md_act) 8 = .ok (.iconst 1, 1) := by decide +kernel
theorem d_md_act_9 : decode (mcode M_md_act) 9 = .ok (.bipush 40, 2) := by decide +kernel
theorem d_md_act_11 : decode (mcode M_md_act) 11 = .ok (.invokestatic 87, 3) := by decide +kernel
theorem d_md_act_14 : decode (mcode M_md_act) 14 = .ok (.ifCond .ne 5, 3) := by decide +kernel
theorem d_md_act_17 : decode (mcode M_md_act) 17 = .ok (.iconst (-1), 1) := by decide +kernel
theorem d_md_act_18 : decode (mcode M_md_act) 18 = .ok (.ireturn, 1) := by decide +kernel
theorem d_md_act_19 : decode (mcode M_md_act) 19 = .ok (.iconst 0, 1) := by decide +kernel
theorem d_md_act_20 : decode (mcode M_md_act) 20 = .ok (.istore_n 3, 1) := by decide +kernel
theorem d_md_act_21 : decode (mcode M_md_act) 21 = .ok (.iconst 0, 1) := by decide +kernel
theorem d_md_act_22 : decode (mcode M_md_act) 22 = .ok (.istore 4, 2) := by decide +kernel
theorem d_md_act_24 : decode (mcode M_md_act) 24 = .ok (.iload 4, 2) := by decide +kernel
theorem d_md_act_26 : decode (mcode M_md_act) 26 = .ok (.aload_n 0, 1) := by decide +kernel
theorem d_md_act_27 : decode (mcode M_md_act) 27 = .ok (.getfield 84, 3) := by decide +kernel
theorem d_md_act_30 : decode (mcode M_md_act) 30 = .ok (.if_icmp .ge 151, 3) := by decide +kernel
theorem d_md_act_33 : decode (mcode M_md_act) 33 = .ok (.aload_n 0, 1) := by decide +kernel
theorem d_md_act_34 : decode (mcode M_md_act) 34 = .ok (.getfield 13, 3) := by decide +kernel
theorem d_md_act_37 : decode (mcode M_md_act) 37 = .ok (.iload 4, 2) := by decide +kernel
theorem d_md_act_39 : decode (mcode M_md_act) 39 = .ok (.iaload, 1) := by decide +kernel
theorem d_md_act_40 : decode (mcode M_md_act) 40 = .ok (.iload_n 1, 1) := by decide +kernel
theorem d_md_act_41 : decode (mcode M_md_act) 41 = .ok (.if_icmp .ne 134, 3) := by decide +kernel
theorem d_md_act_44 : decode (mcode M_md_act) 44 = .ok (.aload_n 0, 1) := by decide +kernel
theorem d_md_act_45 : decode (mcode M_md_act) 45 = .ok (.getfield 22, 3) := by decide +kernel
theorem d_md_act_48 : decode (mcode M_md_act) 48 = .ok (.iload 4, 2) := by decide +kernel
theorem d_md_act_50 : decode (mcode M_md_act) 50 = .ok (.iaload, 1) := by decide +kernel
theorem d_md_act_51 : decode (mcode M_md_act) 51 = .ok (.ifCond .eq 6, 3) := by decide +kernel
theorem d_md_act_54 : decode (mcode M_md_act) 54 = .ok (.goto 121, 3) := by decide +kernel
theorem d_md_act_57 : decode (mcode M_md_act) 57 = .ok (.aload_n 0, 1) := by decide +kernel
theorem d_md_act_58 : decode (mcode M_md_act) 58 = .ok (.getfield 19, 3) := by decide +kernel
theorem d_md_act_61 : decode (mcode M_md_act) 61 = .ok (.iload 4, 2) := by decide +kernel
theorem d_md_act_63 : decode (mcode M_md_act) 63 = .ok (.iaload, 1) := by decide +kernel
theorem d_md_act_64 : decode (mcode M_md_act) 64 = .ok (.iload_n 2, 1) := by decide +kernel
theorem d_md_act_65 : decode (mcode M_md_act) 65 = .ok (.isub, 1) := by decide +kernel
theorem d_md_act_66 : decode (mcode M_md_act) 66 = .ok (.bipush 20, 2) := by decide +kernel
theorem d_md_act_68 : decode (mcode M_md_act) 68 = .ok (.if_icmp .ge 7, 3) := by decide +kernel
theorem d_md_act_71 : decode (mcode M_md_act) 71 = .ok (.iconst 1, 1) := by decide +kernel
theorem d_md_act_72 : decode (mcode M_md_act) 72 = .ok (.goto 4, 3) := by decide +kernel
theorem d_md_act_75 : decode (mcode M_md_act) 75 = .ok (.iconst 0, 1) := by decide +kernel
theorem d_md_act_76 : decode (mcode M_md_act) 76 = .ok (.istore 5, 2) := by decide +kernel
theorem d_md_act_78 : decode (mcode M_md_act) 78 = .ok (.aload_n 0, 1) := by decide +kernel
theorem d_md_act_79 : decode (mcode M_md_act) 79 = .ok (.getfield 16, 3) := by decide +kernel
theorem d_md_act_82 : decode (mcode M_md_act) 82 = .ok (.iload 4, 2) := by decide +kernel
theorem d_md_act_84 : decode (mcode M_md_act) 84 = .ok (.iaload, 1) := by decide +kernel
theorem d_md_act_85 : decode (mcode M_md_act) 85 = .ok (.iload 5, 2) := by decide +kernel
theorem d_md_act_87 : decode (mcode M_md_act) 87 = .ok (.ifCond .eq 13, 3) := by decide +kernel
theorem d_md_act_90 : decode (mcode M_md_act) 90 = .ok (.aload_n 0, 1) := by decide +kernel
theorem d_md_act_91 : decode (mcode M_md_act) 91 = .ok (.getfield 19, 3) := by decide +kernel
theorem d_md_act_94 : decode (mcode M_md_act) 94 = .ok (.iload 4, 2) := by decide +kernel
theorem d_md_act_96 : decode (mcode M_md_act) 96 = .ok (.iaload, 1) := by decide +kernel
theorem d_md_act_97 : decode (mcode M_md_act) 97 = .ok (.goto 4, 3) := by decide +kernel
theorem d_md_act_100 : decode (mcode M_md_act) 100 = .ok (.iload_n 2, 1) := by decide +kernel
theorem d_md_act_101 : decode (mcode M_md_act) 101 = .ok (.imul, 1) := by decide +kernel
theorem d_md_act_102 : decode (mcode M_md_act) 102 = .ok (.istore 6, 2) := by decide +kernel
theorem d_md_act_104 : decode (mcode M_md_act) 104 = .ok (.iload_n 3, 1) := by decide +kernel
theorem d_md_act_105 : decode (mcode M_md_act) 105 = .ok (.iload 6, 2) := by decide +kernel
theorem d_md_act_107 : decode (mcode M_md_act) 107 = .ok (.iadd, 1) := by decide +kernel
theorem d_md_act_108 : decode (mcode M_md_act) 108 = .ok (.istore_n 3, 1) := by decide +kernel
theorem d_md_act_109 : decode (mcode M_md_act) 109 = .ok (.aload_n 0, 1) := by decide +kernel
theorem d_md_act_110 : decode (mcode M_md_act) 110 = .ok (.getfield 9, 3) := by decide +kernel
theorem d_md_act_113 : decode (mcode M_md_act) 113 = .ok (.aload_n 0, 1) := by decide +kernel
theorem d_md_act_114 : decode (mcode M_md_act) 114 = .ok (.getfield 28, 3) := by decide +kernel
theorem d_md_act_117 : decode (mcode M_md_act) 117 = .ok (.iconst 4, 1) := by decide +kernel
theorem d_md_act_118 : decode (mcode M_md_act) 118 = .ok (.iload 4, 2) := by decide +kernel
theorem d_md_act_120 : decode (mcode M_md_act) 120 = .ok (.imul, 1) := by decide +kernel
theorem d_md_act_121 : decode (mcode M_md_act) 121 = .ok (.iaload, 1) := by decide +kernel
theorem d_md_act_122 : decode (mcode M_md_act) 122 = .ok (.dup2, 1) := by decide +kernel
theorem d_md_act_123 : decode (mcode M_md_act) 123 = .ok (.iaload, 1) := by decide +kernel
theorem d_md_act_124 : decode (mcode M_md_act) 124 = .ok (.iload 6, 2) := by decide +kernel
theorem d_md_act_126 : decode (mcode M_md_act) 126 = .ok (.aload_n 0, 1) := by decide +kernel
theorem d_md_act_127 : decode (mcode M_md_act) 127 = .ok (.getfield 56, 3) := by decide +kernel
theorem d_md_act_130 : decode (mcode M_md_act) 130 = .ok (.imul, 1) := by decide +kernel
theorem d_md_act_131 : decode (mcode M_md_act) 131 = .ok (.iadd, 1) := by decide +kernel
theorem d_md_act_132 : decode (mcode M_md_act) 132 = .ok (.iastore, 1) := by decide +kernel
theorem d_md_act_133 : decode (mcode M_md_act) 133 = .ok (.aload_n 0, 1) := by decide +kernel
theorem d_md_act_134 : decode (mcode M_md_act) 134 = .ok (.dup, 1) := by decide +kernel
theorem d_md_act_135 : decode (mcode M_md_act) 135 = .ok (.getfield 142, 3) := by decide +kernel
theorem d_md_act_138 : decode (mcode M_md_act) 138 = .ok (.iload 6, 2) := by decide +kernel
theorem d_md_act_140 : decode (mcode M_md_act) 140 = .ok (.aload_n 0, 1) := by decide +kernel
theorem d_md_act_141 : decode (mcode M_md_act) 141 = .ok (.getfield 56, 3) := by decide +kernel
theorem d_md_act_144 : decode (mcode M_md_act) 144 = .ok (.imul, 1) := by decide +kernel
theorem d_md_act_145 : decode (mcode M_md_act) 145 = .ok (.iadd, 1) := by decide +kernel
theorem d_md_act_146 : decode (mcode M_md_act) 146 = .ok (.putfield 142, 3) := by decide +kernel
theorem d_md_act_149 : decode (mcode M_md_act) 149 = .ok (.iload 5, 2) := by decide +kernel
theorem d_md_act_151 : decode (mcode M_md_act) 151 = .ok (.ifCond .eq 13, 3) := by decide +kernel
theorem d_md_act_154 : decode (mcode M_md_act) 154 = .ok (.aload_n 0, 1) := by decide +kernel
theorem d_md_act_155 : decode (mcode M_md_act) 155 = .ok (.iload 4, 2) := by decide +kernel
theorem d_md_act_157 : decode (mcode M_md_act) 157 = .ok (.iconst 3, 1) := by decide +kernel
theorem d_md_act_158 : decode (mcode M_md_act) 158 = .ok (.invokevirtual 145, 3) := by decide +kernel
theorem d_md_act_161 : decode (mcode M_md_act) 161 = .ok (.goto 14, 3) := by decide +kernel
theorem d_md_act_164 : decode (mcode M_md_act) 164 = .ok (.aload_n 0, 1) := by decide +kernel
theorem d_md_act_165 : decode (mcode M_md_act) 165 = .ok (.getfield 19, 3) := by decide +kernel
theorem d_md_act_168 : decode (mcode M_md_act) 168 = .ok (.iload 4, 2) := by decide +kernel
theorem d_md_act_170 : decode (mcode M_md_act) 170 = .ok (.dup2, 1) := by decide +kernel
theorem d_md_act_171 : decode (mcode M_md_act) 171 = .ok (.iaload, 1) := by decide +kernel
theorem d_md_act_172 : decode (mcode M_md_act) 172 = .ok (.iload_n 2, 1) := by decide +kernel
theorem d_md_act_173 : decode (mcode M_md_act) 173 = .ok (.isub, 1) := by decide +kernel
theorem d_md_act_174 : decode (mcode M_md_act) 174 = .ok (.iastore, 1) := by decide +kernel
theorem d_md_act_175 : decode (mcode M_md_act) 175 = .ok (.iinc 4 1, 3) := by decide +kernel
theorem d_md_act_178 : decode (mcode M_md_act) 178 = .ok (.goto (-154), 3) := by decide +kernel
theorem d_md_act_181 : decode (mcode M_md_act) 181 = .ok (.iload_n 3, 1) := by decide +kernel
theorem d_md_act_182 : decode (mcode M_md_act) 182 = .ok (.ireturn, 1) := by decide +kernel
theorem d_md_ends_0 : decode (mcode M_md_ends) 0 = .ok (.aload_n 0, 1) := by decide +kernel
theorem d_md_ends_1 : decode (mcode M_md_ends) 1 = .ok (.getfield 22, 3) := by decide +kernel
theorem d_md_ends_4 : decode (mcode M_md_ends) 4 = .ok (.iload_n 1, 1) := by decide +kernel
theorem d_md_ends_5 : decode (mcode M_md_ends) 5 = .ok (.iload_n 2, 1) := by decide +kernel
theorem d_md_ends_6 : decode (mcode M_md_ends) 6 = .ok (.iastore, 1) := by decide +kernel
theorem d_md_ends_7 : decode (mcode M_md_ends) 7 = .ok (.aload_n 0, 1) := by decide +kernel
theorem d_md_ends_8 : decode (mcode M_md_ends) 8 = .ok (.getfield 25, 3) := by decide +kernel
theorem d_md_ends_11 : decode (mcode M_md_ends) 11 = .ok (.iload_n 1, 1) := by decide +kernel
theorem d_md_ends_12 : decode (mcode M_md_ends) 12 = .ok (.iconst 0, 1) := by decide +kernel
theorem d_md_ends_13 : decode (mcode M_md_ends) 13 = .ok (.iastore, 1) := by decide +kernel
theorem d_md_ends_14 : decode (mcode M_md_ends) 14 = .ok (.return_, 1) := by decide +kernel
theorem d_md_year_0 : decode (mcode M_md_year) 0 = .ok (.aload_n 0, 1) := by decide +kernel
theorem d_md_year_1 : decode (mcode M_md_year) 1 = .ok (.getfield 129, 3) := by decide +kernel
theorem d_md_year_4 : decode (mcode M_md_year) 4 = .ok (.bipush 60, 2) := by decide +kernel
theorem d_md_year_6 : decode (mcode M_md_year) 6 = .ok (.if_icmp .ne 5, 3) := by decide +kernel
theorem d_md_year_9 : decode (mcode M_md_year) 9 = .ok (.iconst (-1), 1) := by decide +kernel
theorem d_md_year_10 : decode (mcode M_md_year) 10 = .ok (.ireturn, 1) := by decide +kernel
theorem d_md_year_11 : decode (mcode M_md_year) 11 = .ok (.iconst 0, 1) := by decide +kernel
theorem d_md_year_12 : decode (mcode M_md_year) 12 = .ok (.istore_n 1, 1) := by decide +kernel
theorem d_md_year_13 : decode (mcode M_md_year) 13 = .ok (.iconst 0, 1) := by decide +kernel
theorem d_md_year_14 : decode (mcode M_md_year) 14 = .ok (.istore_n 2, 1) := by decide +kernel
theorem d_md_year_15 : decode (mcode M_md_year) 15 = .ok (.iload_n 2, 1) := by decide +kernel
theorem d_md_year_16 : decode (mcode M_md_year) 16 = .ok (.aload_n 0, 1) := by decide +kernel
theorem d_md_year_17 : decode (mcode M_md_year) 17 = .ok (.getfield 84, 3) := by decide +kernel
theorem d_md_year_20 : decode (mcode M_md_year) 20 = .ok (.if_icmp .ge 41, 3) := by decide +kernel
theorem d_md_year_23 : decode (mcode M_md_year) 23 = .ok (.aload_n 0, 1) := by decide +kernel
theorem d_md_year_24 : decode (mcode M_md_year) 24 = .ok (.getfield 129, 3) := by decide +kernel
theorem d_md_year_27 : decode (mcode M_md_year) 27 = .ok (.aload_n 0, 1) := by decide +kernel
theorem d_md_year_28 : decode (mcode M_md_year) 28 = .ok (.getfield 59, 3) := by decide +kernel
theorem d_md_year_31 : decode (mcode M_md_year) 31 = .ok (.if_icmp .lt 30, 3) := by decide +kernel
theorem d_md_year_34 : decode (mcode M_md_year) 34 = .ok (.aload_n 0, 1) := by decide +kernel
theorem d_md_year_35 : decode (mcode M_md_year) 35 = .ok (.getfield 22, 3) := by decide +kernel
theorem d_md_year_38 : decode (mcode M_md_year) 38 = .ok (.iload_n 2, 1) := by decide +kernel
theorem d_md_year_39 : decode (mcode M_md_year) 39 = .ok (.iaload, 1) := by decide +kernel
theorem d_md_year_40 : decode (mcode M_md_year) 40 = .ok (.ifCond .eq 6, 3) := by decide +kernel
theorem d_md_year_43 : decode (mcode M_md_year) 43 = .ok (.goto 12, 3) := by decide +kernel
theorem d_md_year_46 : decode (mcode M_md_year) 46 = .ok (.aload_n 0, 1) := by decide +kernel
theorem d_md_year_47 : decode (mcode M_md_year) 47 = .ok (.iload_n 2, 1) := by decide +kernel
theorem d_md_year_48 : decode (mcode M_md_year) 48 = .ok (.iconst 2, 1) := by decide +kernel
theorem d_md_year_49 : decode (mcode M_md_year) 49 = .ok (.invokevirtual 145, 3) := by decide +kernel
theorem d_md_year_52 : decode (mcode M_md_year) 52 = .ok (.iinc 1 1, 3) := by decide +kernel
theorem d_md_year_55 : decode (mcode M_md_year) 55 = .ok (.iinc 2 1, 3) := by decide +kernel
theorem d_md_year_58 : decode (mcode M_md_year) 58 = .ok (.goto (-43), 3) := by decide +kernel
theorem d_md_year_61 : decode (mcode M_md_year) 61 = .ok (.aload_n 0, 1) := by decide +kernel
theorem d_md_year_62 : decode (mcode M_md_year) 62 = .ok (.dup, 1) := by decide +kernel
theorem d_md_year_63 : decode (mcode M_md_year) 63 = .ok (.getfield 149, 3) := by decide +kernel
theorem d_md_year_66 : decode (mcode M_md_year) 66 = .ok (.aload_n 0, 1) := by decide +kernel
theorem d_md_year_67 : decode (mcode M_md_year) 67 = .ok (.getfield 152, 3) := by decide +kernel
theorem d_md_year_70 : decode (mcode M_md_year) 70 = .ok (.iadd, 1) := by decide +kernel
theorem d_md_year_71 : decode (mcode M_md_year) 71 = .ok (.putfield 149, 3) := by decide +kernel
theorem d_md_year_74 : decode (mcode M_md_year) 74 = .ok (.iconst 0, 1) := by decide +kernel
theorem d_md_year_75 : decode (mcode M_md_year) 75 = .ok (.istore_n 2, 1) := by decide +kernel
theorem d_md_year_76 : decode (mcode M_md_year) 76 = .ok (.iload_n 2, 1) := by decide +kernel
theorem d_md_year_77 : decode (mcode M_md_year) 77 = .ok (.aload_n 0, 1) := by decide +kernel
theorem d_md_year_78 : decode (mcode M_md_year) 78 = .ok (.getfield 155, 3) := by decide +kernel
theorem d_md_year_81 : decode (mcode M_md_year) 81 = .ok (.if_icmp .ge 56, 3) := by decide +kernel
theorem d_md_year_84 : decode (mcode M_md_year) 84 = .ok (.aload_n 0, 1) := by decide +kernel
theorem d_md_year_85 : decode (mcode M_md_year) 85 = .ok (.getfield 62, 3) := by decide +kernel
theorem d_md_year_88 : decode (mcode M_md_year) 88 = .ok (.iload_n 2, 1) := by decide +kernel
theorem d_md_year_89 : decode (mcode M_md_year) 89 = .ok (.iaload, 1) := by decide +kernel
theorem d_md_year_90 : decode (mcode M_md_year) 90 = .ok (.aload_n 0, 1) := by decide +kernel
theorem d_md_year_91 : decode (mcode M_md_year) 91 = .ok (.getfield 149, 3) := by decide +kernel
theorem d_md_year_94 : decode (mcode M_md_year) 94 = .ok (.if_icmp .ge 12, 3) := by decide +kernel
theorem d_md_year_97 : decode (mcode M_md_year) 97 = .ok (.aload_n 0, 1) := by decide +kernel
theorem d_md_year_98 : decode (mcode M_md_year) 98 = .ok (.getfield 62, 3) := by decide +kernel
theorem d_md_year_101 : decode (mcode M_md_year) 101 = .ok (.iload_n 2, 1) := by decide +kernel
theorem d_md_year_102 : decode (mcode M_md_year) 102 = .ok (.iaload, 1) := by decide +kernel
theorem d_md_year_103 : decode (mcode M_md_year) 103 = .ok (.goto 7, 3) := by decide +kernel
theorem d_md_year_106 : decode (mcode M_md_year) 106 = .ok (.aload_n 0, 1) := by decide +kernel
theorem d_md_year_107 : decode (mcode M_md_year) 107 = .ok (.getfield 149, 3) := by decide +kernel
theorem d_md_year_110 : decode (mcode M_md_year) 110 = .ok (.istore_n 3, 1) := by decide +kernel
theorem d_md_year_111 : decode (mcode M_md_year) 111 = .ok (.aload_n 0, 1) := by decide +kernel
theorem d_md_year_112 : decode (mcode M_md_year) 112 = .ok (.getfield 62, 3) := by decide +kernel
theorem d_md_year_115 : decode (mcode M_md_year) 115 = .ok (.iload_n 2, 1) := by decide +kernel
theorem d_md_year_116 : decode (mcode M_md_year) 116 = .ok (.dup2, 1) := by decide +kernel
theorem d_md_year_117 : decode (mcode M_md_year) 117 = .ok (.iaload, 1) := by decide +kernel
theorem d_md_year_118 : decode (mcode M_md_year) 118 = .ok (.iload_n 3, 1) := by decide +kernel
theorem d_md_year_119 : decode (mcode M_md_year) 119 = .ok (.isub, 1) := by decide +kernel
theorem d_md_year_120 : decode (mcode M_md_year) 120 = .ok (.iastore, 1) := by decide +kernel
theorem d_md_year_121 : decode (mcode M_md_year) 121 = .ok (.aload_n 0, 1) := by decide +kernel
theorem d_md_year_122 : decode (mcode M_md_year) 122 = .ok (.dup, 1) := by decide +kernel
theorem d_md_year_123 : decode (mcode M_md_year) 123 = .ok (.getfield 149, 3) := by decide +kernel
theorem d_md_year_126 : decode (mcode M_md_year) 126 = .ok (.iload_n 3, 1) := by decide +kernel
theorem d_md_year_127 : decode (mcode M_md_year) 127 = .ok (.isub, 1) := by decide +kernel
theorem d_md_year_128 : decode (mcode M_md_year) 128 = .ok (.putfield 149, 3) := by decide +kernel
theorem d_md_year_131 : decode (mcode M_md_year) 131 = .ok (.iinc 2 1, 3) := by decide +kernel
theorem d_md_year_134 : decode (mcode M_md_year) 134 = .ok (.goto (-58), 3) := by decide +kernel
theorem d_md_year_137 : decode (mcode M_md_year) 137 = .ok (.iconst 0, 1) := by decide +kernel
theorem d_md_year_138 : decode (mcode M_md_year) 138 = .ok (.istore_n 2, 1) := by decide +kernel
theorem d_md_year_139 : decode (mcode M_md_year) 139 = .ok (.iload_n 2, 1) := by decide +kernel
theorem d_md_year_140 : decode (mcode M_md_year) 140 = .ok (.aload_n 0, 1) := by decide +kernel
theorem d_md_year_141 : decode (mcode M_md_year) 141 = .ok (.getfield 84, 3) := by decide +kernel
theorem d_md_year_144 : decode (mcode M_md_year) 144 = .ok (.if_icmp .ge 14, 3) := by decide +kernel
theorem d_md_year_147 : decode (mcode M_md_year) 147 = .ok (.aload_n 0, 1) := by decide +kernel
theorem d_md_year_148 : decode (mcode M_md_year) 148 = .ok (.iload_n 2, 1) := by decide +kernel
theorem d_md_year_149 : decode (mcode M_md_year) 149 = .ok (.invokevirtual 158, 3) := by decide +kernel
theorem d_md_year_152 : decode (mcode M_md_year) 152 = .ok (.iinc 2 1, 3) := by decide +kernel
theorem d_md_year_155 : decode (mcode M_md_year) 155 = .ok (.goto (-16), 3) := by decide +kernel
theorem d_md_year_158 : decode (mcode M_md_year) 158 = .ok (.aload_n 0, 1) := by decide +kernel
theorem d_md_year_159 : decode (mcode M_md_year) 159 = .ok (.dup, 1) := by decide +kernel
theorem d_md_year_160 : decode (mcode M_md_year) 160 = .ok (.getfield 129, 3) := by decide +kernel
theorem d_md_year_163 : decode (mcode M_md_year) 163 = .ok (.iconst 1, 1) := by decide +kernel
theorem d_md_year_164 : decode (mcode M_md_year) 164 = .ok (.iadd, 1) := by decide +kernel
theorem d_md_year_165 : decode (mcode M_md_year) 165 = .ok (.putfield 129, 3) := by decide +kernel
theorem d_md_year_168 : decode (mcode M_md_year) 168 = .ok (.iload_n 1, 1) := by decide +kernel
theorem d_md_year_169 : decode (mcode M_md_year) 169 = .ok (.ireturn, 1) := by decide +kernel
theorem d_md_older_0 : decode (mcode M_md_older) 0 = .ok (.aload_n 0, 1) := by decide +kernel
theorem d_md_older_1 : decode (mcode M_md_older) 1 = .ok (.getfield 25, 3) := by decide +kernel
theorem d_md_older_4 : decode (mcode M_md_older) 4 = .ok (.iload_n 1, 1) := by decide +kernel
theorem d_md_older_5 : decode (mcode M_md_older) 5 = .ok (.iaload, 1) := by decide +kernel
theorem d_md_older_6 : decode (mcode M_md_older) 6 = .ok (.istore_n 2, 1) := by decide +kernel
theorem d_md_older_7 : decode (mcode M_md_older) 7 = .ok (.aload_n 0, 1) := by decide +kernel
theorem d_md_older_8 : decode (mcode M_md_older) 8 = .ok (.getfield 25, 3) := by decide +kernel
theorem d_md_older_11 : decode (mcode M_md_older) 11 = .ok (.iload_n 1, 1) := by decide +kernel
theorem d_md_older_12 : decode (mcode M_md_older) 12 = .ok (.iaload, 1) := by decide +kernel
theorem d_md_older_13 : decode (mcode M_md_older) 13 = .ok (.istore_n 3, 1) := by decide +kernel
theorem d_md_older_14 : decode (mcode M_md_older) 14 = .ok (.iload_n 3, 1) := by decide +kernel
theorem d_md_older_15 : decode (mcode M_md_older) 15 = .ok (.ifCond .le 40, 3) := by decide +kernel
theorem d_md_older_18 : decode (mcode M_md_older) 18 = .ok (.aload_n 0, 1) := by decide +kernel
theorem d_md_older_19 : decode (mcode M_md_older) 19 = .ok (.getfield 31, 3) := by decide +kernel
theorem d_md_older_22 : decode (mcode M_md_older) 22 = .ok (.iconst 4, 1) := by decide +kernel
theorem d_md_older_23 : decode (mcode M_md_older) 23 = .ok (.iload_n 1, 1) := by decide +kernel
theorem d_md_older_24 : decode (mcode M_md_older) 24 = .ok (.imul, 1) := by decide +kernel
theorem d_md_older_25 : decode (mcode M_md_older) 25 = .ok (.iload_n 3, 1) := by decide +kernel
theorem d_md_older_26 : decode (mcode M_md_older) 26 = .ok (.iadd, 1) := by decide +kernel
theorem d_md_older_27 : decode (mcode M_md_older) 27 = .ok (.dup2, 1) := by decide +kernel
theorem d_md_older_28 : decode (mcode M_md_older) 28 = .ok (.iaload, 1) := by decide +kernel
theorem d_md_older_29 : decode (mcode M_md_older) 29 = .ok (.iconst 1, 1) := by decide +kernel
theorem d_md_older_30 : decode (mcode M_md_older) 30 = .ok (.isub, 1) := by decide +kernel
theorem d_md_older_31 : decode (mcode M_md_older) 31 = .ok (.iastore, 1) := by decide +kernel
theorem d_md_older_32 : decode (mcode M_md_older) 32 = .ok (.aload_n 0, 1) := by decide +kernel
theorem d_md_older_33 : decode (mcode M_md_older) 33 = .ok (.getfield 31, 3) := by decide +kernel
theorem d_md_older_36 : decode (mcode M_md_older) 36 = .ok (.iconst 4, 1) := by decide +kernel
theorem d_md_older_37 : decode (mcode M_md_older) 37 = .ok (.iload_n 1, 1) := by decide +kernel
theorem d_md_older_38 : decode (mcode M_md_older) 38 = .ok (.imul, 1) := by decide +kernel
theorem d_md_older_39 : decode (mcode M_md_older) 39 = .ok (.iload_n 3, 1) := by decide +kernel
theorem d_md_older_40 : decode (mcode M_md_older) 40 = .ok (.iadd, 1) := by decide +kernel
theorem d_md_older_41 : decode (mcode M_md_older) 41 = .ok (.iaload, 1) := by decide +kernel
theorem d_md_older_42 : decode (mcode M_md_older) 42 = .ok (.ifCond .ne 7, 3) := by decide +kernel
theorem d_md_older_45 : decode (mcode M_md_older) 45 = .ok (.iload_n 3, 1) := by decide +kernel
theorem d_md_older_46 : decode (mcode M_md_older) 46 = .ok (.iconst 1, 1) := by decide +kernel
theorem d_md_older_47 : decode (mcode M_md_older) 47 = .ok (.isub, 1) := by decide +kernel
theorem d_md_older_48 : decode (mcode M_md_older) 48 = .ok (.istore_n 2, 1) := by decide +kernel
theorem d_md_older_49 : decode (mcode M_md_older) 49 = .ok (.iinc 3 (-1), 3) := by decide +kernel
theorem d_md_older_52 : decode (mcode M_md_older) 52 = .ok (.goto (-38), 3) := by decide +kernel
theorem d_md_older_55 : decode (mcode M_md_older) 55 = .ok (.aload_n 0, 1) := by decide +kernel
theorem d_md_older_56 : decode (mcode M_md_older) 56 = .ok (.getfield 25, 3) := by decide +kernel
theorem d_md_older_59 : decode (mcode M_md_older) 59 = .ok (.iload_n 1, 1) := by decide +kernel
theorem d_md_older_60 : decode (mcode M_md_older) 60 = .ok (.iload_n 2, 1) := by decide +kernel
theorem d_md_older_61 : decode (mcode M_md_older) 61 = .ok (.iastore, 1) := by decide +kernel
theorem d_md_older_62 : decode (mcode M_md_older) 62 = .ok (.return_, 1) := by decide +kernel
theorem d_md_due_0 : decode (mcode M_md_due) 0 = .ok (.aload_n 0, 1) := by decide +kernel
theorem d_md_due_1 : decode (mcode M_md_due) 1 = .ok (.iload_n 1, 1) := by decide +kernel
theorem d_md_due_2 : decode (mcode M_md_due) 2 = .ok (.invokevirtual 101, 3) := by decide +kernel
theorem d_md_due_5 : decode (mcode M_md_due) 5 = .ok (.ifCond .eq 13, 3) := by decide +kernel
theorem d_md_due_8 : decode (mcode M_md_due) 8 = .ok (.iload_n 2, 1) := by decide +kernel
theorem d_md_due_9 : decode (mcode M_md_due) 9 = .ok (.iconst 0, 1) := by decide +kernel
theorem d_md_due_10 : decode (mcode M_md_due) 10 = .ok (.bipush 60, 2) := by decide +kernel
theorem d_md_due_12 : decode (mcode M_md_due) 12 = .ok (.invokestatic 87, 3) := by decide +kernel
theorem d_md_due_15 : decode (mcode M_md_due) 15 = .ok (.ifCond .ne 5, 3) := by decide +kernel
theorem d_md_due_18 : decode (mcode M_md_due) 18 = .ok (.iconst 0, 1) := by decide +kernel
theorem d_md_due_19 : decode (mcode M_md_due) 19 = .ok (.ireturn, 1) := by decide +kernel
theorem d_md_due_20 : decode (mcode M_md_due) 20 = .ok (.aload_n 0, 1) := by decide +kernel
theorem d_md_due_21 : decode (mcode M_md_due) 21 = .ok (.getfield 43, 3) := by decide +kernel
theorem d_md_due_24 : decode (mcode M_md_due) 24 = .ok (.iload_n 1, 1) := by decide +kernel
theorem d_md_due_25 : decode (mcode M_md_due) 25 = .ok (.iload_n 2, 1) := by decide +kernel
theorem d_md_due_26 : decode (mcode M_md_due) 26 = .ok (.iastore, 1) := by decide +kernel
theorem d_md_due_27 : decode (mcode M_md_due) 27 = .ok (.iconst 1, 1) := by decide +kernel
theorem d_md_due_28 : decode (mcode M_md_due) 28 = .ok (.ireturn, 1) := by decide +kernel
theorem d_md_dueOf_0 : decode (mcode M_md_dueOf) 0 = .ok (.aload_n 0, 1) := by decide +kernel
theorem d_md_dueOf_1 : decode (mcode M_md_dueOf) 1 = .ok (.getfield 43, 3) := by decide +kernel
theorem d_md_dueOf_4 : decode (mcode M_md_dueOf) 4 = .ok (.iload_n 1, 1) := by decide +kernel
theorem d_md_dueOf_5 : decode (mcode M_md_dueOf) 5 = .ok (.iaload, 1) := by decide +kernel
theorem d_md_dueOf_6 : decode (mcode M_md_dueOf) 6 = .ok (.iconst (-1), 1) := by decide +kernel
theorem d_md_dueOf_7 : decode (mcode M_md_dueOf) 7 = .ok (.if_icmp .ne 10, 3) := by decide +kernel
theorem d_md_dueOf_10 : decode (mcode M_md_dueOf) 10 = .ok (.aload_n 0, 1) := by decide +kernel
theorem d_md_dueOf_11 : decode (mcode M_md_dueOf) 11 = .ok (.getfield 59, 3) := by decide +kernel
theorem d_md_dueOf_14 : decode (mcode M_md_dueOf) 14 = .ok (.goto 9, 3) := by decide +kernel
theorem d_md_dueOf_17 : decode (mcode M_md_dueOf) 17 = .ok (.aload_n 0, 1) := by decide +kernel
theorem d_md_dueOf_18 : decode (mcode M_md_dueOf) 18 = .ok (.getfield 43, 3) := by decide +kernel
theorem d_md_dueOf_21 : decode (mcode M_md_dueOf) 21 = .ok (.iload_n 1, 1) := by decide +kernel
theorem d_md_dueOf_22 : decode (mcode M_md_dueOf) 22 = .ok (.iaload, 1) := by decide +kernel
theorem d_md_dueOf_23 : decode (mcode M_md_dueOf) 23 = .ok (.ireturn, 1) := by decide +kernel
theorem d_md_canBe_0 : decode (mcode M_md_canBe) 0 = .ok (.iconst 0, 1) := by decide +kernel
theorem d_md_canBe_1 : decode (mcode M_md_canBe) 1 = .ok (.istore 4, 2) := by decide +kernel
theorem d_md_canBe_3 : decode (mcode M_md_canBe) 3 = .ok (.iload 4, 2) := by decide +kernel
theorem d_md_canBe_5 : decode (mcode M_md_canBe) 5 = .ok (.bipush 60, 2) := by decide +kernel
theorem d_md_canBe_7 : decode (mcode M_md_canBe) 7 = .ok (.if_icmp .gt 123, 3) := by decide +kernel
theorem d_md_canBe_10 : decode (mcode M_md_canBe) 10 = .ok (.iconst 0, 1) := by decide +kernel
theorem d_md_canBe_11 : decode (mcode M_md_canBe) 11 = .ok (.istore 5, 2) := by decide +kernel
theorem d_md_canBe_13 : decode (mcode M_md_canBe) 13 = .ok (.iconst 0, 1) := by decide +kernel
theorem d_md_canBe_14 : decode (mcode M_md_canBe) 14 = .ok (.istore 6, 2) := by decide +kernel
theorem d_md_canBe_16 : decode (mcode M_md_canBe) 16 = .ok (.iconst 0, 1) := by decide +kernel
theorem d_md_canBe_17 : decode (mcode M_md_canBe) 17 = .ok (.istore 7, 2) := by decide +kernel
theorem d_md_canBe_19 : decode (mcode M_md_canBe) 19 = .ok (.iload 7, 2) := by decide +kernel
theorem d_md_canBe_21 : decode (mcode M_md_canBe) 21 = .ok (.iload_n 2, 1) := by decide +kernel
theorem d_md_canBe_22 : decode (mcode M_md_canBe) 22 = .ok (.if_icmp .ge 70, 3) := by decide +kernel
theorem d_md_canBe_25 : decode (mcode M_md_canBe) 25 = .ok (.iload_n 1, 1) := by decide +kernel
theorem d_md_canBe_26 : decode (mcode M_md_canBe) 26 = .ok (.iload 7, 2) := by decide +kernel
theorem d_md_canBe_28 : decode (mcode M_md_canBe) 28 = .ok (.ishr, 1) := by decide +kernel
theorem d_md_canBe_29 : decode (mcode M_md_canBe) 29 = .ok (.iconst 1, 1) := by decide +kernel
theorem d_md_canBe_30 : decode (mcode M_md_canBe) 30 = .ok (.iand, 1) := by decide +kernel
theorem d_md_canBe_31 : decode (mcode M_md_canBe) 31 = .ok (.ifCond .eq 55, 3) := by decide +kernel
theorem d_md_canBe_34 : decode (mcode M_md_canBe) 34 = .ok (.aload_n 0, 1) := by decide +kernel
theorem d_md_canBe_35 : decode (mcode M_md_canBe) 35 = .ok (.aload_n 0, 1) := by decide +kernel
theorem d_md_canBe_36 : decode (mcode M_md_canBe) 36 = .ok (.getfield 75, 3) := by decide +kernel
theorem d_md_canBe_39 : decode (mcode M_md_canBe) 39 = .ok (.iload 7, 2) := by decide +kernel
theorem d_md_canBe_41 : decode (mcode M_md_canBe) 41 = .ok (.iaload, 1) := by decide +kernel
theorem d_md_canBe_42 : decode (mcode M_md_canBe) 42 = .ok (.invokevirtual 162, 3) := by decide +kernel
theorem d_md_canBe_45 : decode (mcode M_md_canBe) 45 = .ok (.iload 4, 2) := by decide +kernel
theorem d_md_canBe_47 : decode (mcode M_md_canBe) 47 = .ok (.if_icmp .le 6, 3) := by decide +kernel
theorem d_md_canBe_50 : decode (mcode M_md_canBe) 50 = .ok (.goto 36, 3) := by decide +kernel
theorem d_md_canBe_53 : decode (mcode M_md_canBe) 53 = .ok (.iload 5, 2) := by decide +kernel
theorem d_md_canBe_55 : decode (mcode M_md_canBe) 55 = .ok (.aload_n 0, 1) := by decide +kernel
theorem d_md_canBe_56 : decode (mcode M_md_canBe) 56 = .ok (.getfield 16, 3) := by decide +kernel
theorem d_md_canBe_59 : decode (mcode M_md_canBe) 59 = .ok (.aload_n 0, 1) := by decide +kernel
theorem d_md_canBe_60 : decode (mcode M_md_canBe) 60 = .ok (.getfield 75, 3) := by decide +kernel
theorem d_md_canBe_63 : decode (mcode M_md_canBe) 63 = .ok (.iload 7, 2) := by decide +kernel
theorem d_md_canBe_65 : decode (mcode M_md_canBe) 65 = .ok (.iaload, 1) := by decide +kernel
theorem d_md_canBe_66 : decode (mcode M_md_canBe) 66 = .ok (.iaload, 1) := by decide +kernel
theorem d_md_canBe_67 : decode (mcode M_md_canBe) 67 = .ok (.aload_n 0, 1) := by decide +kernel
theorem d_md_canBe_68 : decode (mcode M_md_canBe) 68 = .ok (.getfield 19, 3) := by decide +kernel
theorem d_md_canBe_71 : decode (mcode M_md_canBe) 71 = .ok (.aload_n 0, 1) := by decide +kernel
theorem d_md_canBe_72 : decode (mcode M_md_canBe) 72 = .ok (.getfield 75, 3) := by decide +kernel
theorem d_md_canBe_75 : decode (mcode M_md_canBe) 75 = .ok (.iload 7, 2) := by decide +kernel
theorem d_md_canBe_77 : decode (mcode M_md_canBe) 77 = .ok (.iaload, 1) := by decide +kernel
theorem d_md_canBe_78 : decode (mcode M_md_canBe) 78 = .ok (.iaload, 1) := by decide +kernel
theorem d_md_canBe_79 : decode (mcode M_md_canBe) 79 = .ok (.iadd, 1) := by decide +kernel
theorem d_md_canBe_80 : decode (mcode M_md_canBe) 80 = .ok (.iadd, 1) := by decide +kernel
theorem d_md_canBe_81 : decode (mcode M_md_canBe) 81 = .ok (.istore 5, 2) := by decide +kernel
theorem d_md_canBe_83 : decode (mcode M_md_canBe) 83 = .ok (.iconst 1, 1) := by decide +kernel
theorem d_md_canBe_84 : decode (mcode M_md_canBe) 84 = .ok (.istore 6, 2) := by decide +kernel
theorem d_md_canBe_86 : decode (mcode M_md_canBe) 86 = .ok (.iinc 7 1, 3) := by decide +kernel
theorem d_md_canBe_89 : decode (mcode M_md_canBe) 89 = .ok (.goto (-70), 3) := by decide +kernel
theorem d_md_canBe_92 : decode (mcode M_md_canBe) 92 = .ok (.iload 6, 2) := by decide +kernel
theorem d_md_canBe_94 : decode (mcode M_md_canBe) 94 = .ok (.ifCond .eq 30, 3) := by decide +kernel
theorem d_md_canBe_97 : decode (mcode M_md_canBe) 97 = .ok (.iload 4, 2) := by decide +kernel
theorem d_md_canBe_99 : decode (mcode M_md_canBe) 99 = .ok (.aload_n 0, 1) := by decide +kernel
theorem d_md_canBe_100 : decode (mcode M_md_canBe) 100 = .ok (.getfield 129, 3) := by decide +kernel
theorem d_md_canBe_103 : decode (mcode M_md_canBe) 103 = .ok (.if_icmp .lt 19, 3) := by decide +kernel
theorem d_md_canBe_106 : decode (mcode M_md_canBe) 106 = .ok (.iload 5, 2) := by decide +kernel
theorem d_md_canBe_108 : decode (mcode M_md_canBe) 108 = .ok (.iload_n 3, 1) := by decide +kernel
theorem d_md_canBe_109 : decode (mcode M_md_canBe) 109 = .ok (.iload 4, 2) := by decide +kernel
theorem d_md_canBe_111 : decode (mcode M_md_canBe) 111 = .ok (.aload_n 0, 1) := by decide +kernel
theorem d_md_canBe_112 : decode (mcode M_md_canBe) 112 = .ok (.getfield 129, 3) := by decide +kernel
theorem d_md_canBe_115 : decode (mcode M_md_canBe) 115 = .ok (.isub, 1) := by decide +kernel
theorem d_md_canBe_116 : decode (mcode M_md_canBe) 116 = .ok (.iconst 1, 1) := by decide +kernel
theorem d_md_canBe_117 : decode (mcode M_md_canBe) 117 = .ok (.iadd, 1) := by decide +kernel
theorem d_md_canBe_118 : decode (mcode M_md_canBe) 118 = .ok (.imul, 1) := by decide +kernel
theorem d_md_canBe_119 : decode (mcode M_md_canBe) 119 = .ok (.if_icmp .le 5, 3) := by decide +kernel
theorem d_md_canBe_122 : decode (mcode M_md_canBe) 122 = .ok (.iconst 0, 1) := by decide +kernel
theorem d_md_canBe_123 : decode (mcode M_md_canBe) 123 = .ok (.ireturn, 1) := by decide +kernel
theorem d_md_canBe_124 : decode (mcode M_md_canBe) 124 = .ok (.iinc 4 1, 3) := by decide +kernel
theorem d_md_canBe_127 : decode (mcode M_md_canBe) 127 = .ok (.goto (-124), 3) := by decide +kernel
theorem d_md_canBe_130 : decode (mcode M_md_canBe) 130 = .ok (.iconst 1, 1) := by decide +kernel
theorem d_md_canBe_131 : decode (mcode M_md_canBe) 131 = .ok (.ireturn, 1) := by decide +kernel
theorem d_md_saves_0 : decode (mcode M_md_saves) 0 = .ok (.iload_n 1, 1) := by decide +kernel
theorem d_md_saves_1 : decode (mcode M_md_saves) 1 = .ok (.iconst 1, 1) := by decide +kernel
theorem d_md_saves_2 : decode (mcode M_md_saves) 2 = .ok (.sipush 2000, 3) := by decide +kernel
theorem d_md_saves_5 : decode (mcode M_md_saves) 5 = .ok (.invokestatic 87, 3) := by decide +kernel
theorem d_md_saves_8 : decode (mcode M_md_saves) 8 = .ok (.ifCond .ne 5, 3) := by decide +kernel
theorem d_md_saves_11 : decode (mcode M_md_saves) 11 = .ok (.iconst 0, 1) := by decide +kernel
theorem d_md_saves_12 : decode (mcode M_md_saves) 12 = .ok (.ireturn, 1) := by decide +kernel
theorem d_md_saves_13 : decode (mcode M_md_saves) 13 = .ok (.iconst 0, 1) := by decide +kernel
theorem d_md_saves_14 : decode (mcode M_md_saves) 14 = .ok (.istore_n 2, 1) := by decide +kernel
theorem d_md_saves_15 : decode (mcode M_md_saves) 15 = .ok (.iconst 0, 1) := by decide +kernel
theorem d_md_saves_16 : decode (mcode M_md_saves) 16 = .ok (.istore_n 3, 1) := by decide +kernel
theorem d_md_saves_17 : decode (mcode M_md_saves) 17 = .ok (.iload_n 3, 1) := by decide +kernel
theorem d_md_saves_18 : decode (mcode M_md_saves) 18 = .ok (.aload_n 0, 1) := by decide +kernel
theorem d_md_saves_19 : decode (mcode M_md_saves) 19 = .ok (.getfield 84, 3) := by decide +kernel
theorem d_md_saves_22 : decode (mcode M_md_saves) 22 = .ok (.if_icmp .ge 39, 3) := by decide +kernel
theorem d_md_saves_25 : decode (mcode M_md_saves) 25 = .ok (.aload_n 0, 1) := by decide +kernel
theorem d_md_saves_26 : decode (mcode M_md_saves) 26 = .ok (.getfield 22, 3) := by decide +kernel
theorem d_md_saves_29 : decode (mcode M_md_saves) 29 = .ok (.iload_n 3, 1) := by decide +kernel
theorem d_md_saves_30 : decode (mcode M_md_saves) 30 = .ok (.iaload, 1) := by decide +kernel
theorem d_md_saves_31 : decode (mcode M_md_saves) 31 = .ok (.ifCond .eq 6, 3) := by decide +kernel
theorem d_md_saves_34 : decode (mcode M_md_saves) 34 = .ok (.goto 21, 3) := by decide +kernel
theorem d_md_saves_37 : decode (mcode M_md_saves) 37 = .ok (.iload_n 2, 1) := by decide +kernel
theorem d_md_saves_38 : decode (mcode M_md_saves) 38 = .ok (.bipush 12, 2) := by decide +kernel
theorem d_md_saves_40 : decode (mcode M_md_saves) 40 = .ok (.if_icmp .ne 5, 3) := by decide +kernel
theorem d_md_saves_43 : decode (mcode M_md_saves) 43 = .ok (.iconst 0, 1) := by decide +kernel
theorem d_md_saves_44 : decode (mcode M_md_saves) 44 = .ok (.ireturn, 1) := by decide +kernel
theorem d_md_saves_45 : decode (mcode M_md_saves) 45 = .ok (.aload_n 0, 1) := by decide +kernel
theorem d_md_saves_46 : decode (mcode M_md_saves) 46 = .ok (.getfield 75, 3) := by decide +kernel
theorem d_md_saves_49 : decode (mcode M_md_saves) 49 = .ok (.iload_n 2, 1) := by decide +kernel
theorem d_md_saves_50 : decode (mcode M_md_saves) 50 = .ok (.iload_n 3, 1) := by decide +kernel
theorem d_md_saves_51 : decode (mcode M_md_saves) 51 = .ok (.iastore, 1) := by decide +kernel
theorem d_md_saves_52 : decode (mcode M_md_saves) 52 = .ok (.iinc 2 1, 3) := by decide +kernel
theorem d_md_saves_55 : decode (mcode M_md_saves) 55 = .ok (.iinc 3 1, 3) := by decide +kernel
theorem d_md_saves_58 : decode (mcode M_md_saves) 58 = .ok (.goto (-41), 3) := by decide +kernel
theorem d_md_saves_61 : decode (mcode M_md_saves) 61 = .ok (.aload_n 0, 1) := by decide +kernel
theorem d_md_saves_62 : decode (mcode M_md_saves) 62 = .ok (.iconst (-1), 1) := by decide +kernel
theorem d_md_saves_63 : decode (mcode M_md_saves) 63 = .ok (.putfield 165, 3) := by decide +kernel
theorem d_md_saves_66 : decode (mcode M_md_saves) 66 = .ok (.iconst 0, 1) := by decide +kernel
theorem d_md_saves_67 : decode (mcode M_md_saves) 67 = .ok (.istore_n 3, 1) := by decide +kernel
theorem d_md_saves_68 : decode (mcode M_md_saves) 68 = .ok (.iload_n 3, 1) := by decide +kernel
theorem d_md_saves_69 : decode (mcode M_md_saves) 69 = .ok (.iconst 1, 1) := by decide +kernel
theorem d_md_saves_70 : decode (mcode M_md_saves) 70 = .ok (.iload_n 2, 1) := by decide +kernel
theorem d_md_saves_71 : decode (mcode M_md_saves) 71 = .ok (.ishl, 1) := by decide +kernel
theorem d_md_saves_72 : decode (mcode M_md_saves) 72 = .ok (.if_icmp .ge 128, 3) := by decide +kernel
theorem d_md_saves_75 : decode (mcode M_md_saves) 75 = .ok (.iconst 0, 1) := by decide +kernel
theorem d_md_saves_76 : decode (mcode M_md_saves) 76 = .ok (.istore 4, 2) := by decide +kernel
theorem d_md_saves_78 : decode (mcode M_md_saves) 78 = .ok (.iconst 0, 1) := by decide +kernel
theorem d_md_saves_79 : decode (mcode M_md_saves) 79 = .ok (.istore 5, 2) := by decide +kernel
theorem d_md_saves_81 : decode (mcode M_md_saves) 81 = .ok (.iload 5, 2) := by decide +kernel
theorem d_md_saves_83 : decode (mcode M_md_saves) 83 = .ok (.iload_n 2, 1) := by decide +kernel
theorem d_md_saves_84 : decode (mcode M_md_saves) 84 = .ok (.if_icmp .ge 39, 3) := by decide +kernel
theorem d_md_saves_87 : decode (mcode M_md_saves) 87 = .ok (.iload 4, 2) := by decide +kernel
theorem d_md_saves_89 : decode (mcode M_md_saves) 89 = .ok (.iload_n 3, 1) := by decide +kernel
theorem d_md_saves_90 : decode (mcode M_md_saves) 90 = .ok (.iload 5, 2) := by decide +kernel
theorem d_md_saves_92 : decode (mcode M_md_saves) 92 = .ok (.ishr, 1) := by decide +kernel
theorem d_md_saves_93 : decode (mcode M_md_saves) 93 = .ok (.iconst 1, 1) := by decide +kernel
theorem d_md_saves_94 : decode (mcode M_md_saves) 94 = .ok (.iand, 1) := by decide +kernel
theorem d_md_saves_95 : decode (mcode M_md_saves) 95 = .ok (.iconst 1, 1) := by decide +kernel
theorem d_md_saves_96 : decode (mcode M_md_saves) 96 = .ok (.if_icmp .ne 17, 3) := by decide +kernel
theorem d_md_saves_99 : decode (mcode M_md_saves) 99 = .ok (.aload_n 0, 1) := by decide +kernel
theorem d_md_saves_100 : decode (mcode M_md_saves) 100 = .ok (.aload_n 0, 1) := by decide +kernel
theorem d_md_saves_101 : decode (mcode M_md_saves) 101 = .ok (.getfield 75, 3) := by decide +kernel
theorem d_md_saves_104 : decode (mcode M_md_saves) 104 = .ok (.iload 5, 2) := by decide +kernel
theorem d_md_saves_106 : decode (mcode M_md_saves) 106 = .ok (.iaload, 1) := by decide +kernel
theorem d_md_saves_107 : decode (mcode M_md_saves) 107 = .ok (.invokevirtual 107, 3) := by decide +kernel
theorem d_md_saves_110 : decode (mcode M_md_saves) 110 = .ok (.goto 4, 3) := by decide +kernel
theorem d_md_saves_113 : decode (mcode M_md_saves) 113 = .ok (.iconst 0, 1) := by decide +kernel
theorem d_md_saves_114 : decode (mcode M_md_saves) 114 = .ok (.iadd, 1) := by decide +kernel
theorem d_md_saves_115 : decode (mcode M_md_saves) 115 = .ok (.istore 4, 2) := by decide +kernel
theorem d_md_saves_117 : decode (mcode M_md_saves) 117 = .ok (.iinc 5 1, 3) := by decide +kernel
theorem d_md_saves_120 : decode (mcode M_md_saves) 120 = .ok (.goto (-39), 3) := by decide +kernel
theorem d_md_saves_123 : decode (mcode M_md_saves) 123 = .ok (.iload 4, 2) := by decide +kernel
theorem d_md_saves_125 : decode (mcode M_md_saves) 125 = .ok (.aload_n 0, 1) := by decide +kernel
theorem d_md_saves_126 : decode (mcode M_md_saves) 126 = .ok (.getfield 165, 3) := by decide +kernel
theorem d_md_saves_129 : decode (mcode M_md_saves) 129 = .ok (.if_icmp .le 65, 3) := by decide +kernel
theorem d_md_saves_132 : decode (mcode M_md_saves) 132 = .ok (.aload_n 0, 1) := by decide +kernel
theorem d_md_saves_133 : decode (mcode M_md_saves) 133 = .ok (.iload_n 3, 1) := by decide +kernel
theorem d_md_saves_134 : decode (mcode M_md_saves) 134 = .ok (.iload_n 2, 1) := by decide +kernel
theorem d_md_saves_135 : decode (mcode M_md_saves) 135 = .ok (.iload_n 1, 1) := by decide +kernel
theorem d_md_saves_136 : decode (mcode M_md_saves) 136 = .ok (.invokevirtual 168, 3) := by decide +kernel
theorem d_md_saves_139 : decode (mcode M_md_saves) 139 = .ok (.ifCond .ne 6, 3) := by decide +kernel
theorem d_md_saves_142 : decode (mcode M_md_saves) 142 = .ok (.goto 52, 3) := by decide +kernel
theorem d_md_saves_145 : decode (mcode M_md_saves) 145 = .ok (.aload_n 0, 1) := by decide +kernel
theorem d_md_saves_146 : decode (mcode M_md_saves) 146 = .ok (.iload 4, 2) := by decide +kernel
theorem d_md_saves_148 : decode (mcode M_md_saves) 148 = .ok (.putfield 165, 3) := by decide +kernel
theorem d_md_saves_151 : decode (mcode M_md_saves) 151 = .ok (.aload_n 0, 1) := by decide +kernel
theorem d_md_saves_152 : decode (mcode M_md_saves) 152 = .ok (.iconst 0, 1) := by decide +kernel
theorem d_md_saves_153 : decode (mcode M_md_saves) 153 = .ok (.putfield 171, 3) := by decide +kernel
theorem d_md_saves_156 : decode (mcode M_md_saves) 156 = .ok (.iconst 0, 1) := by decide +kernel
theorem d_md_saves_157 : decode (mcode M_md_saves) 157 = .ok (.istore 5, 2) := by decide +kernel
theorem d_md_saves_159 : decode (mcode M_md_saves) 159 = .ok (.iload 5, 2) := by decide +kernel
theorem d_md_saves_161 : decode (mcode M_md_saves) 161 = .ok (.iload_n 2, 1) := by decide +kernel
theorem d_md_saves_162 : decode (mcode M_md_saves) 162 = .ok (.if_icmp .ge 32, 3) := by decide +kernel
theorem d_md_saves_165 : decode (mcode M_md_saves) 165 = .ok (.aload_n 0, 1) := by decide +kernel
theorem d_md_saves_166 : decode (mcode M_md_saves) 166 = .ok (.dup, 1) := by decide +kernel
theorem d_md_saves_167 : decode (mcode M_md_saves) 167 = .ok (.getfield 171, 3) := by decide +kernel
theorem d_md_saves_170 : decode (mcode M_md_saves) 170 = .ok (.iload_n 3, 1) := by decide +kernel
theorem d_md_saves_171 : decode (mcode M_md_saves) 171 = .ok (.iload 5, 2) := by decide +kernel
theorem d_md_saves_173 : decode (mcode M_md_saves) 173 = .ok (.ishr, 1) := by decide +kernel
theorem d_md_saves_174 : decode (mcode M_md_saves) 174 = .ok (.iconst 1, 1) := by decide +kernel
theorem d_md_saves_175 : decode (mcode M_md_saves) 175 = .ok (.iand, 1) := by decide +kernel
theorem d_md_saves_176 : decode (mcode M_md_saves) 176 = .ok (.aload_n 0, 1) := by decide +kernel
theorem d_md_saves_177 : decode (mcode M_md_saves) 177 = .ok (.getfield 75, 3) := by decide +kernel
theorem d_md_saves_180 : decode (mcode M_md_saves) 180 = .ok (.iload 5, 2) := by decide +kernel
theorem d_md_saves_182 : decode (mcode M_md_saves) 182 = .ok (.iaload, 1) := by decide +kernel
theorem d_md_saves_183 : decode (mcode M_md_saves) 183 = .ok (.ishl, 1) := by decide +kernel
theorem d_md_saves_184 : decode (mcode M_md_saves) 184 = .ok (.ior, 1) := by decide +kernel
theorem d_md_saves_185 : decode (mcode M_md_saves) 185 = .ok (.putfield 171, 3) := by decide +kernel
theorem d_md_saves_188 : decode (mcode M_md_saves) 188 = .ok (.iinc 5 1, 3) := by decide +kernel
theorem d_md_saves_191 : decode (mcode M_md_saves) 191 = .ok (.goto (-32), 3) := by decide +kernel
theorem d_md_saves_194 : decode (mcode M_md_saves) 194 = .ok (.iinc 3 1, 3) := by decide +kernel
theorem d_md_saves_197 : decode (mcode M_md_saves) 197 = .ok (.goto (-129), 3) := by decide +kernel
theorem d_md_saves_200 : decode (mcode M_md_saves) 200 = .ok (.iconst 1, 1) := by decide +kernel
theorem d_md_saves_201 : decode (mcode M_md_saves) 201 = .ok (.ireturn, 1) := by decide +kernel
theorem d_md_saved_0 : decode (mcode M_md_saved) 0 = .ok (.aload_n 0, 1) := by decide +kernel
theorem d_md_saved_1 : decode (mcode M_md_saved) 1 = .ok (.iload_n 1, 1) := by decide +kernel
theorem d_md_saved_2 : decode (mcode M_md_saved) 2 = .ok (.invokevirtual 174, 3) := by decide +kernel
theorem d_md_saved_5 : decode (mcode M_md_saved) 5 = .ok (.ifCond .eq 10, 3) := by decide +kernel
theorem d_md_saved_8 : decode (mcode M_md_saved) 8 = .ok (.aload_n 0, 1) := by decide +kernel
theorem d_md_saved_9 : decode (mcode M_md_saved) 9 = .ok (.getfield 165, 3) := by decide +kernel
theorem d_md_saved_12 : decode (mcode M_md_saved) 12 = .ok (.goto 4, 3) := by decide +kernel
theorem d_md_saved_15 : decode (mcode M_md_saved) 15 = .ok (.iconst (-1), 1) := by decide +kernel
theorem d_md_saved_16 : decode (mcode M_md_saved) 16 = .ok (.ireturn, 1) := by decide +kernel
theorem d_md_heap_0 : decode (mcode M_md_heap) 0 = .ok (.aload_n 0, 1) := by decide +kernel
theorem d_md_heap_1 : decode (mcode M_md_heap) 1 = .ok (.iload_n 1, 1) := by decide +kernel
theorem d_md_heap_2 : decode (mcode M_md_heap) 2 = .ok (.invokevirtual 174, 3) := by decide +kernel
theorem d_md_heap_5 : decode (mcode M_md_heap) 5 = .ok (.ifCond .eq 10, 3) := by decide +kernel
theorem d_md_heap_8 : decode (mcode M_md_heap) 8 = .ok (.aload_n 0, 1) := by decide +kernel
theorem d_md_heap_9 : decode (mcode M_md_heap) 9 = .ok (.getfield 171, 3) := by decide +kernel
theorem d_md_heap_12 : decode (mcode M_md_heap) 12 = .ok (.goto 4, 3) := by decide +kernel
theorem d_md_heap_15 : decode (mcode M_md_heap) 15 = .ok (.iconst (-1), 1) := by decide +kernel
theorem d_md_heap_16 : decode (mcode M_md_heap) 16 = .ok (.ireturn, 1) := by decide +kernel
theorem d_md_works_0 : decode (mcode M_md_works) 0 = .ok (.iload_n 1, 1) := by decide +kernel
theorem d_md_works_1 : decode (mcode M_md_works) 1 = .ok (.iconst 1, 1) := by decide +kernel
theorem d_md_works_2 : decode (mcode M_md_works) 2 = .ok (.sipush 10000, 3) := by decide +kernel
theorem d_md_works_5 : decode (mcode M_md_works) 5 = .ok (.invokestatic 87, 3) := by decide +kernel
theorem d_md_works_8 : decode (mcode M_md_works) 8 = .ok (.ifCond .eq 12, 3) := by decide +kernel
theorem d_md_works_11 : decode (mcode M_md_works) 11 = .ok (.aload_n 0, 1) := by decide +kernel
theorem d_md_works_12 : decode (mcode M_md_works) 12 = .ok (.getfield 155, 3) := by decide +kernel
theorem d_md_works_15 : decode (mcode M_md_works) 15 = .ok (.bipush 20, 2) := by decide +kernel
theorem d_md_works_17 : decode (mcode M_md_works) 17 = .ok (.if_icmp .ne 5, 3) := by decide +kernel
theorem d_md_works_20 : decode (mcode M_md_works) 20 = .ok (.iconst (-1), 1) := by decide +kernel
theorem d_md_works_21 : decode (mcode M_md_works) 21 = .ok (.ireturn, 1) := by decide +kernel
theorem d_md_works_22 : decode (mcode M_md_works) 22 = .ok (.aload_n 0, 1) := by decide +kernel
theorem d_md_works_23 : decode (mcode M_md_works) 23 = .ok (.getfield 62, 3) := by decide +kernel
theorem d_md_works_26 : decode (mcode M_md_works) 26 = .ok (.aload_n 0, 1) := by decide +kernel
theorem d_md_works_27 : decode (mcode M_md_works) 27 = .ok (.getfield 155, 3) := by decide +kernel
theorem d_md_works_30 : decode (mcode M_md_works) 30 = .ok (.iload_n 1, 1) := by decide +kernel
theorem d_md_works_31 : decode (mcode M_md_works) 31 = .ok (.iastore, 1) := by decide +kernel
theorem d_md_works_32 : decode (mcode M_md_works) 32 = .ok (.aload_n 0, 1) := by decide +kernel
theorem d_md_works_33 : decode (mcode M_md_works) 33 = .ok (.dup, 1) := by decide +kernel
theorem d_md_works_34 : decode (mcode M_md_works) 34 = .ok (.getfield 155, 3) := by decide +kernel
theorem d_md_works_37 : decode (mcode M_md_works) 37 = .ok (.iconst 1, 1) := by decide +kernel
theorem d_md_works_38 : decode (mcode M_md_works) 38 = .ok (.iadd, 1) := by decide +kernel
theorem d_md_works_39 : decode (mcode M_md_works) 39 = .ok (.putfield 155, 3) := by decide +kernel
theorem d_md_works_42 : decode (mcode M_md_works) 42 = .ok (.aload_n 0, 1) := by decide +kernel
theorem d_md_works_43 : decode (mcode M_md_works) 43 = .ok (.getfield 155, 3) := by decide +kernel
theorem d_md_works_46 : decode (mcode M_md_works) 46 = .ok (.iconst 1, 1) := by decide +kernel
theorem d_md_works_47 : decode (mcode M_md_works) 47 = .ok (.isub, 1) := by decide +kernel
theorem d_md_works_48 : decode (mcode M_md_works) 48 = .ok (.ireturn, 1) := by decide +kernel
theorem d_md_tax_0 : decode (mcode M_md_tax) 0 = .ok (.iload_n 1, 1) := by decide +kernel
theorem d_md_tax_1 : decode (mcode M_md_tax) 1 = .ok (.iconst 0, 1) := by decide +kernel
theorem d_md_tax_2 : decode (mcode M_md_tax) 2 = .ok (.sipush 5000, 3) := by decide +kernel
theorem d_md_tax_5 : decode (mcode M_md_tax) 5 = .ok (.invokestatic 87, 3) := by decide +kernel
theorem d_md_tax_8 : decode (mcode M_md_tax) 8 = .ok (.ifCond .ne 5, 3) := by decide +kernel
theorem d_md_tax_11 : decode (mcode M_md_tax) 11 = .ok (.iconst 0, 1) := by decide +kernel
theorem d_md_tax_12 : decode (mcode M_md_tax) 12 = .ok (.ireturn, 1) := by decide +kernel
theorem d_md_tax_13 : decode (mcode M_md_tax) 13 = .ok (.aload_n 0, 1) := by decide +kernel
theorem d_md_tax_14 : decode (mcode M_md_tax) 14 = .ok (.iload_n 1, 1) := by decide +kernel
theorem d_md_tax_15 : decode (mcode M_md_tax) 15 = .ok (.putfield 152, 3) := by decide +kernel
theorem d_md_tax_18 : decode (mcode M_md_tax) 18 = .ok (.iconst 1, 1) := by decide +kernel
theorem d_md_tax_19 : decode (mcode M_md_tax) 19 = .ok (.ireturn, 1) := by decide +kernel
theorem d_md_stake_0 : decode (mcode M_md_stake) 0 = .ok (.iload_n 1, 1) := by decide +kernel
