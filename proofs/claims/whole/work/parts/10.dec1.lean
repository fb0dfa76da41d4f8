theorem d_af_init_48 : decode (mcode M_af_init) 48 = .ok (.invokespecial 35, 3) := by decide +kernel
theorem d_af_init_51 : decode (mcode M_af_init) 51 = .ok (.putfield 36, 3) := by decide +kernel
theorem d_af_init_54 : decode (mcode M_af_init) 54 = .ok (.aload_n 0, 1) := by decide +kernel
theorem d_af_init_55 : decode (mcode M_af_init) 55 = .ok (.new 40, 3) := by decide +kernel
theorem d_af_init_58 : decode (mcode M_af_init) 58 = .ok (.dup, 1) := by decide +kernel
theorem d_af_init_59 : decode (mcode M_af_init) 59 = .ok (.invokespecial 42, 3) := by decide +kernel
theorem d_af_init_62 : decode (mcode M_af_init) 62 = .ok (.putfield 43, 3) := by decide +kernel
theorem d_af_init_65 : decode (mcode M_af_init) 65 = .ok (.aload_n 0, 1) := by decide +kernel
theorem d_af_init_66 : decode (mcode M_af_init) 66 = .ok (.new 47, 3) := by decide +kernel
theorem d_af_init_69 : decode (mcode M_af_init) 69 = .ok (.dup, 1) := by decide +kernel
theorem d_af_init_70 : decode (mcode M_af_init) 70 = .ok (.invokespecial 49, 3) := by decide +kernel
theorem d_af_init_73 : decode (mcode M_af_init) 73 = .ok (.putfield 50, 3) := by decide +kernel
theorem d_af_init_76 : decode (mcode M_af_init) 76 = .ok (.aload_n 0, 1) := by decide +kernel
theorem d_af_init_77 : decode (mcode M_af_init) 77 = .ok (.iconst 0, 1) := by decide +kernel
theorem d_af_init_78 : decode (mcode M_af_init) 78 = .ok (.putfield 54, 3) := by decide +kernel
theorem d_af_init_81 : decode (mcode M_af_init) 81 = .ok (.aload_n 0, 1) := by decide +kernel
theorem d_af_init_82 : decode (mcode M_af_init) 82 = .ok (.iconst 2, 1) := by decide +kernel
theorem d_af_init_83 : decode (mcode M_af_init) 83 = .ok (.putfield 58, 3) := by decide +kernel
theorem d_af_init_86 : decode (mcode M_af_init) 86 = .ok (.aload_n 0, 1) := by decide +kernel
theorem d_af_init_87 : decode (mcode M_af_init) 87 = .ok (.iconst 3, 1) := by decide +kernel
theorem d_af_init_88 : decode (mcode M_af_init) 88 = .ok (.putfield 61, 3) := by decide +kernel
theorem d_af_init_91 : decode (mcode M_af_init) 91 = .ok (.aload_n 0, 1) := by decide +kernel
theorem d_af_init_92 : decode (mcode M_af_init) 92 = .ok (.bipush 10, 2) := by decide +kernel
theorem d_af_init_94 : decode (mcode M_af_init) 94 = .ok (.putfield 64, 3) := by decide +kernel
theorem d_af_init_97 : decode (mcode M_af_init) 97 = .ok (.aload_n 0, 1) := by decide +kernel
theorem d_af_init_98 : decode (mcode M_af_init) 98 = .ok (.iconst 0, 1) := by decide +kernel
theorem d_af_init_99 : decode (mcode M_af_init) 99 = .ok (.putfield 67, 3) := by decide +kernel
theorem d_af_init_102 : decode (mcode M_af_init) 102 = .ok (.iconst 0, 1) := by decide +kernel
theorem d_af_init_103 : decode (mcode M_af_init) 103 = .ok (.istore_n 1, 1) := by decide +kernel
theorem d_af_init_104 : decode (mcode M_af_init) 104 = .ok (.iload_n 1, 1) := by decide +kernel
theorem d_af_init_105 : decode (mcode M_af_init) 105 = .ok (.bipush 6, 2) := by decide +kernel
theorem d_af_init_107 : decode (mcode M_af_init) 107 = .ok (.if_icmp .ge 22, 3) := by decide +kernel
theorem d_af_init_110 : decode (mcode M_af_init) 110 = .ok (.aload_n 0, 1) := by decide +kernel
theorem d_af_init_111 : decode (mcode M_af_init) 111 = .ok (.getfield 22, 3) := by decide +kernel
theorem d_af_init_114 : decode (mcode M_af_init) 114 = .ok (.iload_n 1, 1) := by decide +kernel
theorem d_af_init_115 : decode (mcode M_af_init) 115 = .ok (.new 20, 3) := by decide +kernel
theorem d_af_init_118 : decode (mcode M_af_init) 118 = .ok (.dup, 1) := by decide +kernel
theorem d_af_init_119 : decode (mcode M_af_init) 119 = .ok (.invokespecial 70, 3) := by decide +kernel
theorem d_af_init_122 : decode (mcode M_af_init) 122 = .ok (.aastore, 1) := by decide +kernel
theorem d_af_init_123 : decode (mcode M_af_init) 123 = .ok (.iinc 1 1, 3) := by decide +kernel
theorem d_af_init_126 : decode (mcode M_af_init) 126 = .ok (.goto (-22), 3) := by decide +kernel
theorem d_af_init_129 : decode (mcode M_af_init) 129 = .ok (.return_, 1) := by decide +kernel
theorem d_af_coins_0 : decode (mcode M_af_coins) 0 = .ok (.iload_n 1, 1) := by decide +kernel
theorem d_af_coins_1 : decode (mcode M_af_coins) 1 = .ok (.invokestatic 71, 3) := by decide +kernel
theorem d_af_coins_4 : decode (mcode M_af_coins) 4 = .ok (.ifCond .eq 13, 3) := by decide +kernel
theorem d_af_coins_7 : decode (mcode M_af_coins) 7 = .ok (.iload_n 2, 1) := by decide +kernel
theorem d_af_coins_8 : decode (mcode M_af_coins) 8 = .ok (.iconst 1, 1) := by decide +kernel
theorem d_af_coins_9 : decode (mcode M_af_coins) 9 = .ok (.ldc 75, 2) := by decide +kernel
theorem d_af_coins_11 : decode (mcode M_af_coins) 11 = .ok (.invokestatic 76, 3) := by decide +kernel
theorem d_af_coins_14 : decode (mcode M_af_coins) 14 = .ok (.ifCond .ne 6, 3) := by decide +kernel
theorem d_af_coins_17 : decode (mcode M_af_coins) 17 = .ok (.ldc 80, 2) := by decide +kernel
theorem d_af_coins_19 : decode (mcode M_af_coins) 19 = .ok (.ireturn, 1) := by decide +kernel
theorem d_af_coins_20 : decode (mcode M_af_coins) 20 = .ok (.aload_n 0, 1) := by decide +kernel
theorem d_af_coins_21 : decode (mcode M_af_coins) 21 = .ok (.iload_n 1, 1) := by decide +kernel
theorem d_af_coins_22 : decode (mcode M_af_coins) 22 = .ok (.iload_n 2, 1) := by decide +kernel
theorem d_af_coins_23 : decode (mcode M_af_coins) 23 = .ok (.invokevirtual 81, 3) := by decide +kernel
theorem d_af_coins_26 : decode (mcode M_af_coins) 26 = .ok (.aload_n 0, 1) := by decide +kernel
theorem d_af_coins_27 : decode (mcode M_af_coins) 27 = .ok (.getfield 9, 3) := by decide +kernel
theorem d_af_coins_30 : decode (mcode M_af_coins) 30 = .ok (.iload_n 1, 1) := by decide +kernel
theorem d_af_coins_31 : decode (mcode M_af_coins) 31 = .ok (.iaload, 1) := by decide +kernel
theorem d_af_coins_32 : decode (mcode M_af_coins) 32 = .ok (.ireturn, 1) := by decide +kernel
theorem d_af_plot_0 : decode (mcode M_af_plot) 0 = .ok (.aload_n 0, 1) := by decide +kernel
theorem d_af_plot_1 : decode (mcode M_af_plot) 1 = .ok (.iload_n 1, 1) := by decide +kernel
theorem d_af_plot_2 : decode (mcode M_af_plot) 2 = .ok (.invokevirtual 85, 3) := by decide +kernel
theorem d_af_plot_5 : decode (mcode M_af_plot) 5 = .ok (.astore 4, 2) := by decide +kernel
theorem d_af_plot_7 : decode (mcode M_af_plot) 7 = .ok (.iload_n 2, 1) := by decide +kernel
theorem d_af_plot_8 : decode (mcode M_af_plot) 8 = .ok (.sipush 1000, 3) := by decide +kernel
theorem d_af_plot_11 : decode (mcode M_af_plot) 11 = .ok (.idiv, 1) := by decide +kernel
theorem d_af_plot_12 : decode (mcode M_af_plot) 12 = .ok (.istore 5, 2) := by decide +kernel
theorem d_af_plot_14 : decode (mcode M_af_plot) 14 = .ok (.iload_n 2, 1) := by decide +kernel
theorem d_af_plot_15 : decode (mcode M_af_plot) 15 = .ok (.sipush 1000, 3) := by decide +kernel
theorem d_af_plot_18 : decode (mcode M_af_plot) 18 = .ok (.irem, 1) := by decide +kernel
theorem d_af_plot_19 : decode (mcode M_af_plot) 19 = .ok (.istore 6, 2) := by decide +kernel
theorem d_af_plot_21 : decode (mcode M_af_plot) 21 = .ok (.aload 4, 2) := by decide +kernel
theorem d_af_plot_23 : decode (mcode M_af_plot) 23 = .ok (.ifnull 46, 3) := by decide +kernel
theorem d_af_plot_26 : decode (mcode M_af_plot) 26 = .ok (.iload_n 3, 1) := by decide +kernel
theorem d_af_plot_27 : decode (mcode M_af_plot) 27 = .ok (.invokestatic 71, 3) := by decide +kernel
theorem d_af_plot_30 : decode (mcode M_af_plot) 30 = .ok (.ifCond .eq 39, 3) := by decide +kernel
theorem d_af_plot_33 : decode (mcode M_af_plot) 33 = .ok (.aload_n 0, 1) := by decide +kernel
theorem d_af_plot_34 : decode (mcode M_af_plot) 34 = .ok (.getfield 16, 3) := by decide +kernel
theorem d_af_plot_37 : decode (mcode M_af_plot) 37 = .ok (.invokevirtual 89, 3) := by decide +kernel
theorem d_af_plot_40 : decode (mcode M_af_plot) 40 = .ok (.bipush 24, 2) := by decide +kernel
theorem d_af_plot_42 : decode (mcode M_af_plot) 42 = .ok (.if_icmp .ge 27, 3) := by decide +kernel
theorem d_af_plot_45 : decode (mcode M_af_plot) 45 = .ok (.iload 5, 2) := by decide +kernel
theorem d_af_plot_47 : decode (mcode M_af_plot) 47 = .ok (.bipush 10, 2) := by decide +kernel
theorem d_af_plot_49 : decode (mcode M_af_plot) 49 = .ok (.bipush 60, 2) := by decide +kernel
theorem d_af_plot_51 : decode (mcode M_af_plot) 51 = .ok (.invokestatic 76, 3) := by decide +kernel
theorem d_af_plot_54 : decode (mcode M_af_plot) 54 = .ok (.ifCond .eq 15, 3) := by decide +kernel
theorem d_af_plot_57 : decode (mcode M_af_plot) 57 = .ok (.iload 6, 2) := by decide +kernel
theorem d_af_plot_59 : decode (mcode M_af_plot) 59 = .ok (.bipush 20, 2) := by decide +kernel
theorem d_af_plot_61 : decode (mcode M_af_plot) 61 = .ok (.bipush 100, 2) := by decide +kernel
theorem d_af_plot_63 : decode (mcode M_af_plot) 63 = .ok (.invokestatic 76, 3) := by decide +kernel
theorem d_af_plot_66 : decode (mcode M_af_plot) 66 = .ok (.ifCond .ne 5, 3) := by decide +kernel
theorem d_af_plot_69 : decode (mcode M_af_plot) 69 = .ok (.iconst (-1), 1) := by decide +kernel
theorem d_af_plot_70 : decode (mcode M_af_plot) 70 = .ok (.ireturn, 1) := by decide +kernel
theorem d_af_plot_71 : decode (mcode M_af_plot) 71 = .ok (.new 93, 3) := by decide +kernel
theorem d_af_plot_74 : decode (mcode M_af_plot) 74 = .ok (.dup, 1) := by decide +kernel
theorem d_af_plot_75 : decode (mcode M_af_plot) 75 = .ok (.iload 5, 2) := by decide +kernel
theorem d_af_plot_77 : decode (mcode M_af_plot) 77 = .ok (.iload 6, 2) := by decide +kernel
theorem d_af_plot_79 : decode (mcode M_af_plot) 79 = .ok (.iload_n 3, 1) := by decide +kernel
theorem d_af_plot_80 : decode (mcode M_af_plot) 80 = .ok (.invokespecial 95, 3) := by decide +kernel
theorem d_af_plot_83 : decode (mcode M_af_plot) 83 = .ok (.astore 7, 2) := by decide +kernel
theorem d_af_plot_85 : decode (mcode M_af_plot) 85 = .ok (.aload 4, 2) := by decide +kernel
theorem d_af_plot_87 : decode (mcode M_af_plot) 87 = .ok (.aload 7, 2) := by decide +kernel
theorem d_af_plot_89 : decode (mcode M_af_plot) 89 = .ok (.invokevirtual 98, 3) := by decide +kernel
theorem d_af_plot_92 : decode (mcode M_af_plot) 92 = .ok (.ifCond .ne 5, 3) := by decide +kernel
theorem d_af_plot_95 : decode (mcode M_af_plot) 95 = .ok (.iconst (-1), 1) := by decide +kernel
theorem d_af_plot_96 : decode (mcode M_af_plot) 96 = .ok (.ireturn, 1) := by decide +kernel
theorem d_af_plot_97 : decode (mcode M_af_plot) 97 = .ok (.aload_n 0, 1) := by decide +kernel
theorem d_af_plot_98 : decode (mcode M_af_plot) 98 = .ok (.getfield 16, 3) := by decide +kernel
theorem d_af_plot_101 : decode (mcode M_af_plot) 101 = .ok (.aload 7, 2) := by decide +kernel
theorem d_af_plot_103 : decode (mcode M_af_plot) 103 = .ok (.invokevirtual 102, 3) := by decide +kernel
theorem d_af_plot_106 : decode (mcode M_af_plot) 106 = .ok (.pop, 1) := by decide +kernel
theorem d_af_plot_107 : decode (mcode M_af_plot) 107 = .ok (.aload_n 0, 1) := by decide +kernel
theorem d_af_plot_108 : decode (mcode M_af_plot) 108 = .ok (.getfield 16, 3) := by decide +kernel
theorem d_af_plot_111 : decode (mcode M_af_plot) 111 = .ok (.invokevirtual 89, 3) := by decide +kernel
theorem d_af_plot_114 : decode (mcode M_af_plot) 114 = .ok (.iconst 1, 1) := by decide +kernel
theorem d_af_plot_115 : decode (mcode M_af_plot) 115 = .ok (.isub, 1) := by decide +kernel
theorem d_af_plot_116 : decode (mcode M_af_plot) 116 = .ok (.ireturn, 1) := by decide +kernel
theorem d_af_lease_0 : decode (mcode M_af_lease) 0 = .ok (.aload_n 0, 1) := by decide +kernel
theorem d_af_lease_1 : decode (mcode M_af_lease) 1 = .ok (.iload_n 1, 1) := by decide +kernel
theorem d_af_lease_2 : decode (mcode M_af_lease) 2 = .ok (.invokevirtual 106, 3) := by decide +kernel
theorem d_af_lease_5 : decode (mcode M_af_lease) 5 = .ok (.astore 5, 2) := by decide +kernel
theorem d_af_lease_7 : decode (mcode M_af_lease) 7 = .ok (.aload 5, 2) := by decide +kernel
theorem d_af_lease_9 : decode (mcode M_af_lease) 9 = .ok (.ifnull 30, 3) := by decide +kernel
theorem d_af_lease_12 : decode (mcode M_af_lease) 12 = .ok (.aload 5, 2) := by decide +kernel
theorem d_af_lease_14 : decode (mcode M_af_lease) 14 = .ok (.getfield 110, 3) := by decide +kernel
theorem d_af_lease_17 : decode (mcode M_af_lease) 17 = .ok (.ifCond .ne 22, 3) := by decide +kernel
theorem d_af_lease_20 : decode (mcode M_af_lease) 20 = .ok (.iload_n 2, 1) := by decide +kernel
theorem d_af_lease_21 : decode (mcode M_af_lease) 21 = .ok (.invokestatic 71, 3) := by decide +kernel
theorem d_af_lease_24 : decode (mcode M_af_lease) 24 = .ok (.ifCond .eq 15, 3) := by decide +kernel
theorem d_af_lease_27 : decode (mcode M_af_lease) 27 = .ok (.iload 4, 2) := by decide +kernel
theorem d_af_lease_29 : decode (mcode M_af_lease) 29 = .ok (.iconst 0, 1) := by decide +kernel
theorem d_af_lease_30 : decode (mcode M_af_lease) 30 = .ok (.sipush 999, 3) := by decide +kernel
theorem d_af_lease_33 : decode (mcode M_af_lease) 33 = .ok (.invokestatic 76, 3) := by decide +kernel
theorem d_af_lease_36 : decode (mcode M_af_lease) 36 = .ok (.ifCond .ne 5, 3) := by decide +kernel
theorem d_af_lease_39 : decode (mcode M_af_lease) 39 = .ok (.iconst (-1), 1) := by decide +kernel
theorem d_af_lease_40 : decode (mcode M_af_lease) 40 = .ok (.ireturn, 1) := by decide +kernel
theorem d_af_lease_41 : decode (mcode M_af_lease) 41 = .ok (.aload 5, 2) := by decide +kernel
theorem d_af_lease_43 : decode (mcode M_af_lease) 43 = .ok (.getfield 113, 3) := by decide +kernel
theorem d_af_lease_46 : decode (mcode M_af_lease) 46 = .ok (.iload_n 2, 1) := by decide +kernel
theorem d_af_lease_47 : decode (mcode M_af_lease) 47 = .ok (.iload_n 3, 1) := by decide +kernel
theorem d_af_lease_48 : decode (mcode M_af_lease) 48 = .ok (.iload 4, 2) := by decide +kernel
theorem d_af_lease_50 : decode (mcode M_af_lease) 50 = .ok (.invokevirtual 117, 3) := by decide +kernel
theorem d_af_lease_53 : decode (mcode M_af_lease) 53 = .ok (.ifCond .eq 14, 3) := by decide +kernel
theorem d_af_lease_56 : decode (mcode M_af_lease) 56 = .ok (.aload 5, 2) := by decide +kernel
theorem d_af_lease_58 : decode (mcode M_af_lease) 58 = .ok (.getfield 113, 3) := by decide +kernel
theorem d_af_lease_61 : decode (mcode M_af_lease) 61 = .ok (.invokevirtual 121, 3) := by decide +kernel
theorem d_af_lease_64 : decode (mcode M_af_lease) 64 = .ok (.goto 4, 3) := by decide +kernel
theorem d_af_lease_67 : decode (mcode M_af_lease) 67 = .ok (.iconst (-1), 1) := by decide +kernel
theorem d_af_lease_68 : decode (mcode M_af_lease) 68 = .ok (.ireturn, 1) := by decide +kernel
theorem d_af_rates_0 : decode (mcode M_af_rates) 0 = .ok (.iload_n 1, 1) := by decide +kernel
theorem d_af_rates_1 : decode (mcode M_af_rates) 1 = .ok (.iconst 1, 1) := by decide +kernel
theorem d_af_rates_2 : decode (mcode M_af_rates) 2 = .ok (.bipush 9, 2) := by decide +kernel
theorem d_af_rates_4 : decode (mcode M_af_rates) 4 = .ok (.invokestatic 76, 3) := by decide +kernel
theorem d_af_rates_7 : decode (mcode M_af_rates) 7 = .ok (.ifCond .eq 20, 3) := by decide +kernel
theorem d_af_rates_10 : decode (mcode M_af_rates) 10 = .ok (.iload_n 2, 1) := by decide +kernel
theorem d_af_rates_11 : decode (mcode M_af_rates) 11 = .ok (.iconst 1, 1) := by decide +kernel
theorem d_af_rates_12 : decode (mcode M_af_rates) 12 = .ok (.bipush 9, 2) := by decide +kernel
theorem d_af_rates_14 : decode (mcode M_af_rates) 14 = .ok (.invokestatic 76, 3) := by decide +kernel
theorem d_af_rates_17 : decode (mcode M_af_rates) 17 = .ok (.ifCond .eq 10, 3) := by decide +kernel
theorem d_af_rates_20 : decode (mcode M_af_rates) 20 = .ok (.iload_n 3, 1) := by decide +kernel
theorem d_af_rates_21 : decode (mcode M_af_rates) 21 = .ok (.invokestatic 124, 3) := by decide +kernel
theorem d_af_rates_24 : decode (mcode M_af_rates) 24 = .ok (.ifCond .ne 5, 3) := by decide +kernel
theorem d_af_rates_27 : decode (mcode M_af_rates) 27 = .ok (.iconst 0, 1) := by decide +kernel
theorem d_af_rates_28 : decode (mcode M_af_rates) 28 = .ok (.ireturn, 1) := by decide +kernel
theorem d_af_rates_29 : decode (mcode M_af_rates) 29 = .ok (.aload_n 0, 1) := by decide +kernel
theorem d_af_rates_30 : decode (mcode M_af_rates) 30 = .ok (.iload_n 1, 1) := by decide +kernel
theorem d_af_rates_31 : decode (mcode M_af_rates) 31 = .ok (.putfield 58, 3) := by decide +kernel
theorem d_af_rates_34 : decode (mcode M_af_rates) 34 = .ok (.aload_n 0, 1) := by decide +kernel
theorem d_af_rates_35 : decode (mcode M_af_rates) 35 = .ok (.iload_n 2, 1) := by decide +kernel
theorem d_af_rates_36 : decode (mcode M_af_rates) 36 = .ok (.putfield 61, 3) := by decide +kernel
theorem d_af_rates_39 : decode (mcode M_af_rates) 39 = .ok (.aload_n 0, 1) := by decide +kernel
theorem d_af_rates_40 : decode (mcode M_af_rates) 40 = .ok (.iload_n 3, 1) := by decide +kernel
theorem d_af_rates_41 : decode (mcode M_af_rates) 41 = .ok (.putfield 64, 3) := by decide +kernel
theorem d_af_rates_44 : decode (mcode M_af_rates) 44 = .ok (.iconst 1, 1) := by decide +kernel
theorem d_af_rates_45 : decode (mcode M_af_rates) 45 = .ok (.ireturn, 1) := by decide +kernel
theorem d_af_worth_0 : decode (mcode M_af_worth) 0 = .ok (.aload_n 0, 1) := by decide +kernel
theorem d_af_worth_1 : decode (mcode M_af_worth) 1 = .ok (.iload_n 1, 1) := by decide +kernel
theorem d_af_worth_2 : decode (mcode M_af_worth) 2 = .ok (.invokevirtual 106, 3) := by decide +kernel
theorem d_af_worth_5 : decode (mcode M_af_worth) 5 = .ok (.astore_n 2, 1) := by decide +kernel
theorem d_af_worth_6 : decode (mcode M_af_worth) 6 = .ok (.aload_n 2, 1) := by decide +kernel
theorem d_af_worth_7 : decode (mcode M_af_worth) 7 = .ok (.ifnonnull 7, 3) := by decide +kernel
theorem d_af_worth_10 : decode (mcode M_af_worth) 10 = .ok (.iconst (-1), 1) := by decide +kernel
theorem d_af_worth_11 : decode (mcode M_af_worth) 11 = .ok (.goto 7, 3) := by decide +kernel
theorem d_af_worth_14 : decode (mcode M_af_worth) 14 = .ok (.aload_n 2, 1) := by decide +kernel
theorem d_af_worth_15 : decode (mcode M_af_worth) 15 = .ok (.invokevirtual 127, 3) := by decide +kernel
theorem d_af_worth_18 : decode (mcode M_af_worth) 18 = .ok (.ireturn, 1) := by decide +kernel
theorem d_af_interest_0 : decode (mcode M_af_interest) 0 = .ok (.aload_n 0, 1) := by decide +kernel
theorem d_af_interest_1 : decode (mcode M_af_interest) 1 = .ok (.iload_n 1, 1) := by decide +kernel
theorem d_af_interest_2 : decode (mcode M_af_interest) 2 = .ok (.invokevirtual 106, 3) := by decide +kernel
theorem d_af_interest_5 : decode (mcode M_af_interest) 5 = .ok (.astore_n 3, 1) := by decide +kernel
theorem d_af_interest_6 : decode (mcode M_af_interest) 6 = .ok (.aload_n 3, 1) := by decide +kernel
theorem d_af_interest_7 : decode (mcode M_af_interest) 7 = .ok (.ifnull 14, 3) := by decide +kernel
theorem d_af_interest_10 : decode (mcode M_af_interest) 10 = .ok (.aload_n 3, 1) := by decide +kernel
theorem d_af_interest_11 : decode (mcode M_af_interest) 11 = .ok (.getfield 113, 3) := by decide +kernel
theorem d_af_interest_14 : decode (mcode M_af_interest) 14 = .ok (.iload_n 2, 1) := by decide +kernel
theorem d_af_interest_15 : decode (mcode M_af_interest) 15 = .ok (.invokevirtual 130, 3) := by decide +kernel
theorem d_af_interest_18 : decode (mcode M_af_interest) 18 = .ok (.ifCond .ne 5, 3) := by decide +kernel
theorem d_af_interest_21 : decode (mcode M_af_interest) 21 = .ok (.iconst (-1), 1) := by decide +kernel
theorem d_af_interest_22 : decode (mcode M_af_interest) 22 = .ok (.ireturn, 1) := by decide +kernel
theorem d_af_interest_23 : decode (mcode M_af_interest) 23 = .ok (.aload_n 3, 1) := by decide +kernel
theorem d_af_interest_24 : decode (mcode M_af_interest) 24 = .ok (.getfield 113, 3) := by decide +kernel
theorem d_af_interest_27 : decode (mcode M_af_interest) 27 = .ok (.iload_n 2, 1) := by decide +kernel
theorem d_af_interest_28 : decode (mcode M_af_interest) 28 = .ok (.aload_n 3, 1) := by decide +kernel
theorem d_af_interest_29 : decode (mcode M_af_interest) 29 = .ok (.invokevirtual 127, 3) := by decide +kernel
theorem d_af_interest_32 : decode (mcode M_af_interest) 32 = .ok (.invokevirtual 133, 3) := by decide +kernel
theorem d_af_interest_35 : decode (mcode M_af_interest) 35 = .ok (.ireturn, 1) := by decide +kernel
theorem d_af_bears_0 : decode (mcode M_af_bears) 0 = .ok (.aload_n 0, 1) := by decide +kernel
theorem d_af_bears_1 : decode (mcode M_af_bears) 1 = .ok (.iload_n 1, 1) := by decide +kernel
theorem d_af_bears_2 : decode (mcode M_af_bears) 2 = .ok (.invokevirtual 106, 3) := by decide +kernel
theorem d_af_bears_5 : decode (mcode M_af_bears) 5 = .ok (.astore_n 3, 1) := by decide +kernel
theorem d_af_bears_6 : decode (mcode M_af_bears) 6 = .ok (.aload_n 3, 1) := by decide +kernel
theorem d_af_bears_7 : decode (mcode M_af_bears) 7 = .ok (.ifnull 14, 3) := by decide +kernel
theorem d_af_bears_10 : decode (mcode M_af_bears) 10 = .ok (.aload_n 3, 1) := by decide +kernel
theorem d_af_bears_11 : decode (mcode M_af_bears) 11 = .ok (.getfield 113, 3) := by decide +kernel
theorem d_af_bears_14 : decode (mcode M_af_bears) 14 = .ok (.iload_n 2, 1) := by decide +kernel
theorem d_af_bears_15 : decode (mcode M_af_bears) 15 = .ok (.invokevirtual 130, 3) := by decide +kernel
theorem d_af_bears_18 : decode (mcode M_af_bears) 18 = .ok (.ifCond .ne 5, 3) := by decide +kernel
theorem d_af_bears_21 : decode (mcode M_af_bears) 21 = .ok (.iconst (-1), 1) := by decide +kernel
theorem d_af_bears_22 : decode (mcode M_af_bears) 22 = .ok (.ireturn, 1) := by decide +kernel
theorem d_af_bears_23 : decode (mcode M_af_bears) 23 = .ok (.aload_n 0, 1) := by decide +kernel
theorem d_af_bears_24 : decode (mcode M_af_bears) 24 = .ok (.aload_n 3, 1) := by decide +kernel
theorem d_af_bears_25 : decode (mcode M_af_bears) 25 = .ok (.invokevirtual 137, 3) := by decide +kernel
theorem d_af_bears_28 : decode (mcode M_af_bears) 28 = .ok (.istore 4, 2) := by decide +kernel
theorem d_af_bears_30 : decode (mcode M_af_bears) 30 = .ok (.iload 4, 2) := by decide +kernel
theorem d_af_bears_32 : decode (mcode M_af_bears) 32 = .ok (.iconst (-1), 1) := by decide +kernel
theorem d_af_bears_33 : decode (mcode M_af_bears) 33 = .ok (.if_icmp .ne 5, 3) := by decide +kernel
theorem d_af_bears_36 : decode (mcode M_af_bears) 36 = .ok (.iconst (-1), 1) := by decide +kernel
theorem d_af_bears_37 : decode (mcode M_af_bears) 37 = .ok (.ireturn, 1) := by decide +kernel
theorem d_af_bears_38 : decode (mcode M_af_bears) 38 = .ok (.aload_n 0, 1) := by decide +kernel
theorem d_af_bears_39 : decode (mcode M_af_bears) 39 = .ok (.getfield 29, 3) := by decide +kernel
theorem d_af_bears_42 : decode (mcode M_af_bears) 42 = .ok (.aload_n 3, 1) := by decide +kernel
theorem d_af_bears_43 : decode (mcode M_af_bears) 43 = .ok (.aload_n 0, 1) := by decide +kernel
theorem d_af_bears_44 : decode (mcode M_af_bears) 44 = .ok (.aload_n 3, 1) := by decide +kernel
theorem d_af_bears_45 : decode (mcode M_af_bears) 45 = .ok (.invokevirtual 141, 3) := by decide +kernel
theorem d_af_bears_48 : decode (mcode M_af_bears) 48 = .ok (.iload 4, 2) := by decide +kernel
theorem d_af_bears_50 : decode (mcode M_af_bears) 50 = .ok (.invokevirtual 144, 3) := by decide +kernel
theorem d_af_bears_53 : decode (mcode M_af_bears) 53 = .ok (.aload_n 0, 1) := by decide +kernel
theorem d_af_bears_54 : decode (mcode M_af_bears) 54 = .ok (.getfield 29, 3) := by decide +kernel
theorem d_af_bears_57 : decode (mcode M_af_bears) 57 = .ok (.iload_n 2, 1) := by decide +kernel
theorem d_af_bears_58 : decode (mcode M_af_bears) 58 = .ok (.invokevirtual 148, 3) := by decide +kernel
theorem d_af_bears_61 : decode (mcode M_af_bears) 61 = .ok (.ireturn, 1) := by decide +kernel
theorem d_af_decree_0 : decode (mcode M_af_decree) 0 = .ok (.aload_n 0, 1) := by decide +kernel
theorem d_af_decree_1 : decode (mcode M_af_decree) 1 = .ok (.iload_n 1, 1) := by decide +kernel
theorem d_af_decree_2 : decode (mcode M_af_decree) 2 = .ok (.invokevirtual 106, 3) := by decide +kernel
theorem d_af_decree_5 : decode (mcode M_af_decree) 5 = .ok (.astore_n 2, 1) := by decide +kernel
theorem d_af_decree_6 : decode (mcode M_af_decree) 6 = .ok (.aload_n 2, 1) := by decide +kernel
theorem d_af_decree_7 : decode (mcode M_af_decree) 7 = .ok (.ifnull 10, 3) := by decide +kernel
theorem d_af_decree_10 : decode (mcode M_af_decree) 10 = .ok (.aload_n 2, 1) := by decide +kernel
theorem d_af_decree_11 : decode (mcode M_af_decree) 11 = .ok (.getfield 110, 3) := by decide +kernel
theorem d_af_decree_14 : decode (mcode M_af_decree) 14 = .ok (.ifCond .eq 5, 3) := by decide +kernel
theorem d_af_decree_17 : decode (mcode M_af_decree) 17 = .ok (.iconst (-1), 1) := by decide +kernel
theorem d_af_decree_18 : decode (mcode M_af_decree) 18 = .ok (.ireturn, 1) := by decide +kernel
theorem d_af_decree_19 : decode (mcode M_af_decree) 19 = .ok (.aload_n 0, 1) := by decide +kernel
theorem d_af_decree_20 : decode (mcode M_af_decree) 20 = .ok (.aload_n 2, 1) := by decide +kernel
theorem d_af_decree_21 : decode (mcode M_af_decree) 21 = .ok (.invokevirtual 137, 3) := by decide +kernel
theorem d_af_decree_24 : decode (mcode M_af_decree) 24 = .ok (.istore_n 3, 1) := by decide +kernel
theorem d_af_decree_25 : decode (mcode M_af_decree) 25 = .ok (.iload_n 3, 1) := by decide +kernel
theorem d_af_decree_26 : decode (mcode M_af_decree) 26 = .ok (.iconst (-1), 1) := by decide +kernel
theorem d_af_decree_27 : decode (mcode M_af_decree) 27 = .ok (.if_icmp .ne 5, 3) := by decide +kernel
theorem d_af_decree_30 : decode (mcode M_af_decree) 30 = .ok (.iconst (-1), 1) := by decide +kernel
theorem d_af_decree_31 : decode (mcode M_af_decree) 31 = .ok (.ireturn, 1) := by decide +kernel
theorem d_af_decree_32 : decode (mcode M_af_decree) 32 = .ok (.aload_n 2, 1) := by decide +kernel
theorem d_af_decree_33 : decode (mcode M_af_decree) 33 = .ok (.getfield 113, 3) := by decide +kernel
theorem d_af_decree_36 : decode (mcode M_af_decree) 36 = .ok (.iload_n 3, 1) := by decide +kernel
theorem d_af_decree_37 : decode (mcode M_af_decree) 37 = .ok (.invokevirtual 152, 3) := by decide +kernel
theorem d_af_decree_40 : decode (mcode M_af_decree) 40 = .ok (.istore 4, 2) := by decide +kernel
theorem d_af_decree_42 : decode (mcode M_af_decree) 42 = .ok (.aload_n 0, 1) := by decide +kernel
theorem d_af_decree_43 : decode (mcode M_af_decree) 43 = .ok (.aload_n 2, 1) := by decide +kernel
theorem d_af_decree_44 : decode (mcode M_af_decree) 44 = .ok (.iload_n 3, 1) := by decide +kernel
theorem d_af_decree_45 : decode (mcode M_af_decree) 45 = .ok (.invokevirtual 155, 3) := by decide +kernel
theorem d_af_decree_48 : decode (mcode M_af_decree) 48 = .ok (.aload_n 2, 1) := by decide +kernel
theorem d_af_decree_49 : decode (mcode M_af_decree) 49 = .ok (.getfield 113, 3) := by decide +kernel
theorem d_af_decree_52 : decode (mcode M_af_decree) 52 = .ok (.iload_n 3, 1) := by decide +kernel
theorem d_af_decree_53 : decode (mcode M_af_decree) 53 = .ok (.bipush 40, 2) := by decide +kernel
theorem d_af_decree_55 : decode (mcode M_af_decree) 55 = .ok (.invokevirtual 159, 3) := by decide +kernel
theorem d_af_decree_58 : decode (mcode M_af_decree) 58 = .ok (.aload_n 2, 1) := by decide +kernel
theorem d_af_decree_59 : decode (mcode M_af_decree) 59 = .ok (.iload 4, 2) := by decide +kernel
theorem d_af_decree_61 : decode (mcode M_af_decree) 61 = .ok (.aload_n 0, 1) := by decide +kernel
theorem d_af_decree_62 : decode (mcode M_af_decree) 62 = .ok (.getfield 54, 3) := by decide +kernel
theorem d_af_decree_65 : decode (mcode M_af_decree) 65 = .ok (.invokevirtual 162, 3) := by decide +kernel
theorem d_af_decree_68 : decode (mcode M_af_decree) 68 = .ok (.aload_n 0, 1) := by decide +kernel
theorem d_af_decree_69 : decode (mcode M_af_decree) 69 = .ok (.aload_n 2, 1) := by decide +kernel
theorem d_af_decree_70 : decode (mcode M_af_decree) 70 = .ok (.getfield 165, 3) := by decide +kernel
theorem d_af_decree_73 : decode (mcode M_af_decree) 73 = .ok (.iload 4, 2) := by decide +kernel
theorem d_af_decree_75 : decode (mcode M_af_decree) 75 = .ok (.invokevirtual 169, 3) := by decide +kernel
theorem d_af_decree_78 : decode (mcode M_af_decree) 78 = .ok (.aload_n 0, 1) := by decide +kernel
theorem d_af_decree_79 : decode (mcode M_af_decree) 79 = .ok (.aload_n 2, 1) := by decide +kernel
theorem d_af_decree_80 : decode (mcode M_af_decree) 80 = .ok (.getfield 173, 3) := by decide +kernel
theorem d_af_decree_83 : decode (mcode M_af_decree) 83 = .ok (.iload 4, 2) := by decide +kernel
theorem d_af_decree_85 : decode (mcode M_af_decree) 85 = .ok (.invokevirtual 169, 3) := by decide +kernel
theorem d_af_decree_88 : decode (mcode M_af_decree) 88 = .ok (.iload_n 3, 1) := by decide +kernel
theorem d_af_decree_89 : decode (mcode M_af_decree) 89 = .ok (.ireturn, 1) := by decide +kernel
theorem d_af_act_0 : decode (mcode M_af_act) 0 = .ok (.aload_n 0, 1) := by decide +kernel
theorem d_af_act_1 : decode (mcode M_af_act) 1 = .ok (.iload_n 1, 1) := by decide +kernel
theorem d_af_act_2 : decode (mcode M_af_act) 2 = .ok (.invokevirtual 85, 3) := by decide +kernel
theorem d_af_act_5 : decode (mcode M_af_act) 5 = .ok (.astore_n 3, 1) := by decide +kernel
theorem d_af_act_6 : decode (mcode M_af_act) 6 = .ok (.aload_n 3, 1) := by decide +kernel
theorem d_af_act_7 : decode (mcode M_af_act) 7 = .ok (.ifnull 13, 3) := by decide +kernel
theorem d_af_act_10 : decode (mcode M_af_act) 10 = .ok (.iload_n 2, 1) := by decide +kernel
theorem d_af_act_11 : decode (mcode M_af_act) 11 = .ok (.iconst 1, 1) := by decide +kernel
theorem d_af_act_12 : decode (mcode M_af_act) 12 = .ok (.bipush 40, 2) := by decide +kernel
theorem d_af_act_14 : decode (mcode M_af_act) 14 = .ok (.invokestatic 76, 3) := by decide +kernel
theorem d_af_act_17 : decode (mcode M_af_act) 17 = .ok (.ifCond .ne 5, 3) := by decide +kernel
theorem d_af_act_20 : decode (mcode M_af_act) 20 = .ok (.iconst (-1), 1) := by decide +kernel
theorem d_af_act_21 : decode (mcode M_af_act) 21 = .ok (.ireturn, 1) := by decide +kernel
theorem d_af_act_22 : decode (mcode M_af_act) 22 = .ok (.iconst 0, 1) := by decide +kernel
theorem d_af_act_23 : decode (mcode M_af_act) 23 = .ok (.istore 4, 2) := by decide +kernel
theorem d_af_act_25 : decode (mcode M_af_act) 25 = .ok (.iconst 0, 1) := by decide +kernel
theorem d_af_act_26 : decode (mcode M_af_act) 26 = .ok (.istore 5, 2) := by decide +kernel
theorem d_af_act_28 : decode (mcode M_af_act) 28 = .ok (.iload 5, 2) := by decide +kernel
theorem d_af_act_30 : decode (mcode M_af_act) 30 = .ok (.aload_n 3, 1) := by decide +kernel
theorem d_af_act_31 : decode (mcode M_af_act) 31 = .ok (.getfield 176, 3) := by decide +kernel
theorem d_af_act_34 : decode (mcode M_af_act) 34 = .ok (.invokevirtual 89, 3) := by decide +kernel
theorem d_af_act_37 : decode (mcode M_af_act) 37 = .ok (.if_icmp .ge 31, 3) := by decide +kernel
theorem d_af_act_40 : decode (mcode M_af_act) 40 = .ok (.iload 4, 2) := by decide +kernel
theorem d_af_act_42 : decode (mcode M_af_act) 42 = .ok (.aload_n 0, 1) := by decide +kernel
theorem d_af_act_43 : decode (mcode M_af_act) 43 = .ok (.aload_n 3, 1) := by decide +kernel
theorem d_af_act_44 : decode (mcode M_af_act) 44 = .ok (.getfield 176, 3) := by decide +kernel
theorem d_af_act_47 : decode (mcode M_af_act) 47 = .ok (.iload 5, 2) := by decide +kernel
theorem d_af_act_49 : decode (mcode M_af_act) 49 = .ok (.invokevirtual 179, 3) := by decide +kernel
theorem d_af_act_52 : decode (mcode M_af_act) 52 = .ok (.checkcast 93, 3) := by decide +kernel
theorem d_af_act_55 : decode (mcode M_af_act) 55 = .ok (.iload_n 2, 1) := by decide +kernel
theorem d_af_act_56 : decode (mcode M_af_act) 56 = .ok (.invokevirtual 183, 3) := by decide +kernel
theorem d_af_act_59 : decode (mcode M_af_act) 59 = .ok (.iadd, 1) := by decide +kernel
theorem d_af_act_60 : decode (mcode M_af_act) 60 = .ok (.istore 4, 2) := by decide +kernel
theorem d_af_act_62 : decode (mcode M_af_act) 62 = .ok (.iinc 5 1, 3) := by decide +kernel
theorem d_af_act_65 : decode (mcode M_af_act) 65 = .ok (.goto (-37), 3) := by decide +kernel
theorem d_af_act_68 : decode (mcode M_af_act) 68 = .ok (.iload 4, 2) := by decide +kernel
theorem d_af_act_70 : decode (mcode M_af_act) 70 = .ok (.ireturn, 1) := by decide +kernel
theorem d_af_year_0 : decode (mcode M_af_year) 0 = .ok (.aload_n 0, 1) := by decide +kernel
theorem d_af_year_1 : decode (mcode M_af_year) 1 = .ok (.getfield 54, 3) := by decide +kernel
theorem d_af_year_4 : decode (mcode M_af_year) 4 = .ok (.bipush 60, 2) := by decide +kernel
theorem d_af_year_6 : decode (mcode M_af_year) 6 = .ok (.if_icmp .lt 5, 3) := by decide +kernel
theorem d_af_year_9 : decode (mcode M_af_year) 9 = .ok (.iconst (-1), 1) := by decide +kernel
theorem d_af_year_10 : decode (mcode M_af_year) 10 = .ok (.ireturn, 1) := by decide +kernel
theorem d_af_year_11 : decode (mcode M_af_year) 11 = .ok (.aload_n 0, 1) := by decide +kernel
theorem d_af_year_12 : decode (mcode M_af_year) 12 = .ok (.getfield 54, 3) := by decide +kernel
theorem d_af_year_15 : decode (mcode M_af_year) 15 = .ok (.aload_n 0, 1) := by decide +kernel
theorem d_af_year_16 : decode (mcode M_af_year) 16 = .ok (.getfield 64, 3) := by decide +kernel
theorem d_af_year_19 : decode (mcode M_af_year) 19 = .ok (.if_icmp .lt 10, 3) := by decide +kernel
theorem d_af_year_22 : decode (mcode M_af_year) 22 = .ok (.aload_n 0, 1) := by decide +kernel
theorem d_af_year_23 : decode (mcode M_af_year) 23 = .ok (.invokevirtual 187, 3) := by decide +kernel
theorem d_af_year_26 : decode (mcode M_af_year) 26 = .ok (.goto 4, 3) := by decide +kernel
theorem d_af_year_29 : decode (mcode M_af_year) 29 = .ok (.iconst 0, 1) := by decide +kernel
theorem d_af_year_30 : decode (mcode M_af_year) 30 = .ok (.istore_n 1, 1) := by decide +kernel
theorem d_af_year_31 : decode (mcode M_af_year) 31 = .ok (.iconst 0, 1) := by decide +kernel
theorem d_af_year_32 : decode (mcode M_af_year) 32 = .ok (.istore_n 2, 1) := by decide +kernel
theorem d_af_year_33 : decode (mcode M_af_year) 33 = .ok (.iload_n 2, 1) := by decide +kernel
theorem d_af_year_34 : decode (mcode M_af_year) 34 = .ok (.aload_n 0, 1) := by decide +kernel
theorem d_af_year_35 : decode (mcode M_af_year) 35 = .ok (.getfield 16, 3) := by decide +kernel
theorem d_af_year_38 : decode (mcode M_af_year) 38 = .ok (.invokevirtual 89, 3) := by decide +kernel
theorem d_af_year_41 : decode (mcode M_af_year) 41 = .ok (.if_icmp .ge 26, 3) := by decide +kernel
theorem d_af_year_44 : decode (mcode M_af_year) 44 = .ok (.aload_n 0, 1) := by decide +kernel
theorem d_af_year_45 : decode (mcode M_af_year) 45 = .ok (.getfield 16, 3) := by decide +kernel
theorem d_af_year_48 : decode (mcode M_af_year) 48 = .ok (.iload_n 2, 1) := by decide +kernel
theorem d_af_year_49 : decode (mcode M_af_year) 49 = .ok (.invokevirtual 179, 3) := by decide +kernel
theorem d_af_year_52 : decode (mcode M_af_year) 52 = .ok (.checkcast 93, 3) := by decide +kernel
theorem d_af_year_55 : decode (mcode M_af_year) 55 = .ok (.getfield 113, 3) := by decide +kernel
theorem d_af_year_58 : decode (mcode M_af_year) 58 = .ok (.invokevirtual 190, 3) := by decide +kernel
theorem d_af_year_61 : decode (mcode M_af_year) 61 = .ok (.iinc 2 1, 3) := by decide +kernel
theorem d_af_year_64 : decode (mcode M_af_year) 64 = .ok (.goto (-31), 3) := by decide +kernel
theorem d_af_year_67 : decode (mcode M_af_year) 67 = .ok (.aload_n 0, 1) := by decide +kernel
theorem d_af_year_68 : decode (mcode M_af_year) 68 = .ok (.getfield 43, 3) := by decide +kernel
theorem d_af_year_71 : decode (mcode M_af_year) 71 = .ok (.invokevirtual 193, 3) := by decide +kernel
theorem d_af_year_74 : decode (mcode M_af_year) 74 = .ok (.aload_n 0, 1) := by decide +kernel
theorem d_af_year_75 : decode (mcode M_af_year) 75 = .ok (.dup, 1) := by decide +kernel
theorem d_af_year_76 : decode (mcode M_af_year) 76 = .ok (.getfield 54, 3) := by decide +kernel
theorem d_af_year_79 : decode (mcode M_af_year) 79 = .ok (.iconst 1, 1) := by decide +kernel
theorem d_af_year_80 : decode (mcode M_af_year) 80 = .ok (.iadd, 1) := by decide +kernel
theorem d_af_year_81 : decode (mcode M_af_year) 81 = .ok (.putfield 54, 3) := by decide +kernel
theorem d_af_year_84 : decode (mcode M_af_year) 84 = .ok (.iload_n 1, 1) := by decide +kernel
theorem d_af_year_85 : decode (mcode M_af_year) 85 = .ok (.ireturn, 1) := by decide +kernel
theorem d_af_due_0 : decode (mcode M_af_due) 0 = .ok (.aload_n 0, 1) := by decide +kernel
theorem d_af_due_1 : decode (mcode M_af_due) 1 = .ok (.iload_n 1, 1) := by decide +kernel
theorem d_af_due_2 : decode (mcode M_af_due) 2 = .ok (.invokevirtual 106, 3) := by decide +kernel
theorem d_af_due_5 : decode (mcode M_af_due) 5 = .ok (.astore_n 3, 1) := by decide +kernel
theorem d_af_due_6 : decode (mcode M_af_due) 6 = .ok (.aload_n 3, 1) := by decide +kernel
theorem d_af_due_7 : decode (mcode M_af_due) 7 = .ok (.ifnull 10, 3) := by decide +kernel
theorem d_af_due_10 : decode (mcode M_af_due) 10 = .ok (.iload_n 2, 1) := by decide +kernel
theorem d_af_due_11 : decode (mcode M_af_due) 11 = .ok (.invokestatic 124, 3) := by decide +kernel
theorem d_af_due_14 : decode (mcode M_af_due) 14 = .ok (.ifCond .ne 5, 3) := by decide +kernel
theorem d_af_due_17 : decode (mcode M_af_due) 17 = .ok (.iconst 0, 1) := by decide +kernel
theorem d_af_due_18 : decode (mcode M_af_due) 18 = .ok (.ireturn, 1) := by decide +kernel
theorem d_af_due_19 : decode (mcode M_af_due) 19 = .ok (.aload_n 3, 1) := by decide +kernel
theorem d_af_due_20 : decode (mcode M_af_due) 20 = .ok (.iload_n 2, 1) := by decide +kernel
theorem d_af_due_21 : decode (mcode M_af_due) 21 = .ok (.putfield 196, 3) := by decide +kernel
theorem d_af_due_24 : decode (mcode M_af_due) 24 = .ok (.iconst 1, 1) := by decide +kernel
theorem d_af_due_25 : decode (mcode M_af_due) 25 = .ok (.ireturn, 1) := by decide +kernel
theorem d_af_saved_0 : decode (mcode M_af_saved) 0 = .ok (.aload_n 0, 1) := by decide +kernel
theorem d_af_saved_1 : decode (mcode M_af_saved) 1 = .ok (.iload_n 1, 1) := by decide +kernel
theorem d_af_saved_2 : decode (mcode M_af_saved) 2 = .ok (.invokevirtual 199, 3) := by decide +kernel
theorem d_af_saved_5 : decode (mcode M_af_saved) 5 = .ok (.ifCond .eq 13, 3) := by decide +kernel
theorem d_af_saved_8 : decode (mcode M_af_saved) 8 = .ok (.aload_n 0, 1) := by decide +kernel
theorem d_af_saved_9 : decode (mcode M_af_saved) 9 = .ok (.getfield 36, 3) := by decide +kernel
theorem d_af_saved_12 : decode (mcode M_af_saved) 12 = .ok (.getfield 202, 3) := by decide +kernel
theorem d_af_saved_15 : decode (mcode M_af_saved) 15 = .ok (.goto 4, 3) := by decide +kernel
theorem d_af_saved_18 : decode (mcode M_af_saved) 18 = .ok (.iconst (-1), 1) := by decide +kernel
theorem d_af_saved_19 : decode (mcode M_af_saved) 19 = .ok (.ireturn, 1) := by decide +kernel
theorem d_af_heap_0 : decode (mcode M_af_heap) 0 = .ok (.aload_n 0, 1) := by decide +kernel
theorem d_af_heap_1 : decode (mcode M_af_heap) 1 = .ok (.iload_n 1, 1) := by decide +kernel
theorem d_af_heap_2 : decode (mcode M_af_heap) 2 = .ok (.invokevirtual 199, 3) := by decide +kernel
theorem d_af_heap_5 : decode (mcode M_af_heap) 5 = .ok (.ifCond .eq 13, 3) := by decide +kernel
theorem d_af_heap_8 : decode (mcode M_af_heap) 8 = .ok (.aload_n 0, 1) := by decide +kernel
theorem d_af_heap_9 : decode (mcode M_af_heap) 9 = .ok (.getfield 36, 3) := by decide +kernel
theorem d_af_heap_12 : decode (mcode M_af_heap) 12 = .ok (.getfield 205, 3) := by decide +kernel
theorem d_af_heap_15 : decode (mcode M_af_heap) 15 = .ok (.goto 4, 3) := by decide +kernel
theorem d_af_heap_18 : decode (mcode M_af_heap) 18 = .ok (.iconst (-1), 1) := by decide +kernel
theorem d_af_heap_19 : decode (mcode M_af_heap) 19 = .ok (.ireturn, 1) := by decide +kernel
theorem d_af_works_0 : decode (mcode M_af_works) 0 = .ok (.iload_n 1, 1) := by decide +kernel
theorem d_af_works_1 : decode (mcode M_af_works) 1 = .ok (.iconst 1, 1) := by decide +kernel
theorem d_af_works_2 : decode (mcode M_af_works) 2 = .ok (.sipush 10000, 3) := by decide +kernel
theorem d_af_works_5 : decode (mcode M_af_works) 5 = .ok (.invokestatic 76, 3) := by decide +kernel
theorem d_af_works_8 : decode (mcode M_af_works) 8 = .ok (.ifCond .eq 14, 3) := by decide +kernel
theorem d_af_works_11 : decode (mcode M_af_works) 11 = .ok (.aload_n 0, 1) := by decide +kernel
theorem d_af_works_12 : decode (mcode M_af_works) 12 = .ok (.getfield 43, 3) := by decide +kernel
theorem d_af_works_15 : decode (mcode M_af_works) 15 = .ok (.iload_n 1, 1) := by decide +kernel
theorem d_af_works_16 : decode (mcode M_af_works) 16 = .ok (.invokevirtual 208, 3) := by decide +kernel
theorem d_af_works_19 : decode (mcode M_af_works) 19 = .ok (.goto 4, 3) := by decide +kernel
theorem d_af_works_22 : decode (mcode M_af_works) 22 = .ok (.iconst (-1), 1) := by decide +kernel
theorem d_af_works_23 : decode (mcode M_af_works) 23 = .ok (.ireturn, 1) := by decide +kernel
theorem d_af_tax_0 : decode (mcode M_af_tax) 0 = .ok (.iload_n 1, 1) := by decide +kernel
theorem d_af_tax_1 : decode (mcode M_af_tax) 1 = .ok (.iconst 0, 1) := by decide +kernel
theorem d_af_tax_2 : decode (mcode M_af_tax) 2 = .ok (.sipush 5000, 3) := by decide +kernel
theorem d_af_tax_5 : decode (mcode M_af_tax) 5 = .ok (.invokestatic 76, 3) := by decide +kernel
theorem d_af_tax_8 : decode (mcode M_af_tax) 8 = .ok (.ifCond .ne 5, 3) := by decide +kernel
theorem d_af_tax_11 : decode (mcode M_af_tax) 11 = .ok (.iconst 0, 1) := by decide +kernel
theorem d_af_tax_12 : decode (mcode M_af_tax) 12 = .ok (.ireturn, 1) := by decide +kernel
theorem d_af_tax_13 : decode (mcode M_af_tax) 13 = .ok (.aload_n 0, 1) := by decide +kernel
theorem d_af_tax_14 : decode (mcode M_af_tax) 14 = .ok (.getfield 43, 3) := by decide +kernel
theorem d_af_tax_17 : decode (mcode M_af_tax) 17 = .ok (.iload_n 1, 1) := by decide +kernel
theorem d_af_tax_18 : decode (mcode M_af_tax) 18 = .ok (.putfield 211, 3) := by decide +kernel
theorem d_af_tax_21 : decode (mcode M_af_tax) 21 = .ok (.iconst 1, 1) := by decide +kernel
theorem d_af_tax_22 : decode (mcode M_af_tax) 22 = .ok (.ireturn, 1) := by decide +kernel
theorem d_af_stake_0 : decode (mcode M_af_stake) 0 = .ok (.aload_n 0, 1) := by decide +kernel
theorem d_af_stake_1 : decode (mcode M_af_stake) 1 = .ok (.iload_n 1, 1) := by decide +kernel
theorem d_af_stake_2 : decode (mcode M_af_stake) 2 = .ok (.invokevirtual 85, 3) := by decide +kernel
theorem d_af_stake_5 : decode (mcode M_af_stake) 5 = .ok (.astore 4, 2) := by decide +kernel
theorem d_af_stake_7 : decode (mcode M_af_stake) 7 = .ok (.aload 4, 2) := by decide +kernel
theorem d_af_stake_9 : decode (mcode M_af_stake) 9 = .ok (.ifnull 13, 3) := by decide +kernel
theorem d_af_stake_12 : decode (mcode M_af_stake) 12 = .ok (.iload_n 2, 1) := by decide +kernel
theorem d_af_stake_13 : decode (mcode M_af_stake) 13 = .ok (.iconst 0, 1) := by decide +kernel
theorem d_af_stake_14 : decode (mcode M_af_stake) 14 = .ok (.bipush 6, 2) := by decide +kernel
theorem d_af_stake_16 : decode (mcode M_af_stake) 16 = .ok (.invokestatic 76, 3) := by decide +kernel
theorem d_af_stake_19 : decode (mcode M_af_stake) 19 = .ok (.ifCond .ne 5, 3) := by decide +kernel
theorem d_af_stake_22 : decode (mcode M_af_stake) 22 = .ok (.iconst 0, 1) := by decide +kernel
theorem d_af_stake_23 : decode (mcode M_af_stake) 23 = .ok (.ireturn, 1) := by decide +kernel
theorem d_af_stake_24 : decode (mcode M_af_stake) 24 = .ok (.iload_n 3, 1) := by decide +kernel
theorem d_af_stake_25 : decode (mcode M_af_stake) 25 = .ok (.iconst (-1), 1) := by decide +kernel
theorem d_af_stake_26 : decode (mcode M_af_stake) 26 = .ok (.if_icmp .eq 16, 3) := by decide +kernel
theorem d_af_stake_29 : decode (mcode M_af_stake) 29 = .ok (.iload_n 3, 1) := by decide +kernel
theorem d_af_stake_30 : decode (mcode M_af_stake) 30 = .ok (.iconst 0, 1) := by decide +kernel
theorem d_af_stake_31 : decode (mcode M_af_stake) 31 = .ok (.sipush 300, 3) := by decide +kernel
theorem d_af_stake_34 : decode (mcode M_af_stake) 34 = .ok (.invokestatic 76, 3) := by decide +kernel
theorem d_af_stake_37 : decode (mcode M_af_stake) 37 = .ok (.ifCond .ne 5, 3) := by decide +kernel
theorem d_af_stake_40 : decode (mcode M_af_stake) 40 = .ok (.iconst 0, 1) := by decide +kernel
theorem d_af_stake_41 : decode (mcode M_af_stake) 41 = .ok (.ireturn, 1) := by decide +kernel
theorem d_af_stake_42 : decode (mcode M_af_stake) 42 = .ok (.aload 4, 2) := by decide +kernel
theorem d_af_stake_44 : decode (mcode M_af_stake) 44 = .ok (.getfield 214, 3) := by decide +kernel
theorem d_af_stake_47 : decode (mcode M_af_stake) 47 = .ok (.iload_n 2, 1) := by decide +kernel
theorem d_af_stake_48 : decode (mcode M_af_stake) 48 = .ok (.iload_n 3, 1) := by decide +kernel
theorem d_af_stake_49 : decode (mcode M_af_stake) 49 = .ok (.iastore, 1) := by decide +kernel
theorem d_af_stake_50 : decode (mcode M_af_stake) 50 = .ok (.iconst 1, 1) := by decide +kernel
theorem d_af_stake_51 : decode (mcode M_af_stake) 51 = .ok (.ireturn, 1) := by decide +kernel
theorem d_af_quarrel_0 : decode (mcode M_af_quarrel) 0 = .ok (.aload_n 0, 1) := by decide +kernel
theorem d_af_quarrel_1 : decode (mcode M_af_quarrel) 1 = .ok (.iload_n 1, 1) := by decide +kernel
theorem d_af_quarrel_2 : decode (mcode M_af_quarrel) 2 = .ok (.invokevirtual 85, 3) := by decide +kernel
theorem d_af_quarrel_5 : decode (mcode M_af_quarrel) 5 = .ok (.astore_n 3, 1) := by decide +kernel
theorem d_af_quarrel_6 : decode (mcode M_af_quarrel) 6 = .ok (.aload_n 3, 1) := by decide +kernel
theorem d_af_quarrel_7 : decode (mcode M_af_quarrel) 7 = .ok (.ifnull 11, 3) := by decide +kernel
theorem d_af_quarrel_10 : decode (mcode M_af_quarrel) 10 = .ok (.aload_n 3, 1) := by decide +kernel
theorem d_af_quarrel_11 : decode (mcode M_af_quarrel) 11 = .ok (.iload_n 2, 1) := by decide +kernel
theorem d_af_quarrel_12 : decode (mcode M_af_quarrel) 12 = .ok (.invokevirtual 217, 3) := by decide +kernel
theorem d_af_quarrel_15 : decode (mcode M_af_quarrel) 15 = .ok (.ifCond .ne 5, 3) := by decide +kernel
theorem d_af_quarrel_18 : decode (mcode M_af_quarrel) 18 = .ok (.iconst (-1), 1) := by decide +kernel
theorem d_af_quarrel_19 : decode (mcode M_af_quarrel) 19 = .ok (.ireturn, 1) := by decide +kernel
theorem d_af_quarrel_20 : decode (mcode M_af_quarrel) 20 = .ok (.aload_n 0, 1) := by decide +kernel
theorem d_af_quarrel_21 : decode (mcode M_af_quarrel) 21 = .ok (.getfield 50, 3) := by decide +kernel
theorem d_af_quarrel_24 : decode (mcode M_af_quarrel) 24 = .ok (.aload_n 3, 1) := by decide +kernel
theorem d_af_quarrel_25 : decode (mcode M_af_quarrel) 25 = .ok (.iload_n 2, 1) := by decide +kernel
theorem d_af_quarrel_26 : decode (mcode M_af_quarrel) 26 = .ok (.invokevirtual 220, 3) := by decide +kernel
theorem d_af_quarrel_29 : decode (mcode M_af_quarrel) 29 = .ok (.aload_n 0, 1) := by decide +kernel
theorem d_af_quarrel_30 : decode (mcode M_af_quarrel) 30 = .ok (.getfield 50, 3) := by decide +kernel
theorem d_af_quarrel_33 : decode (mcode M_af_quarrel) 33 = .ok (.aload_n 3, 1) := by decide +kernel
theorem d_af_quarrel_34 : decode (mcode M_af_quarrel) 34 = .ok (.iload_n 2, 1) := by decide +kernel
theorem d_af_quarrel_35 : decode (mcode M_af_quarrel) 35 = .ok (.invokevirtual 224, 3) := by decide +kernel
theorem d_af_quarrel_38 : decode (mcode M_af_quarrel) 38 = .ok (.ireturn, 1) := by decide +kernel
theorem d_af_border_0 : decode (mcode M_af_border) 0 = .ok (.aload_n 0, 1) := by decide +kernel
theorem d_af_border_1 : decode (mcode M_af_border) 1 = .ok (.iload_n 1, 1) := by decide +kernel
theorem d_af_border_2 : decode (mcode M_af_border) 2 = .ok (.invokevirtual 85, 3) := by decide +kernel
theorem d_af_border_5 : decode (mcode M_af_border) 5 = .ok (.astore 4, 2) := by decide +kernel
theorem d_af_border_7 : decode (mcode M_af_border) 7 = .ok (.aload 4, 2) := by decide +kernel
theorem d_af_border_9 : decode (mcode M_af_border) 9 = .ok (.ifnull 30, 3) := by decide +kernel
theorem d_af_border_12 : decode (mcode M_af_border) 12 = .ok (.aload 4, 2) := by decide +kernel
theorem d_af_border_14 : decode (mcode M_af_border) 14 = .ok (.iload_n 2, 1) := by decide +kernel
theorem d_af_border_15 : decode (mcode M_af_border) 15 = .ok (.invokevirtual 217, 3) := by decide +kernel
theorem d_af_border_18 : decode (mcode M_af_border) 18 = .ok (.ifCond .eq 21, 3) := by decide +kernel
theorem d_af_border_21 : decode (mcode M_af_border) 21 = .ok (.iload_n 3, 1) := by decide +kernel
theorem d_af_border_22 : decode (mcode M_af_border) 22 = .ok (.iconst 0, 1) := by decide +kernel
theorem d_af_border_23 : decode (mcode M_af_border) 23 = .ok (.aload 4, 2) := by decide +kernel
theorem d_af_border_25 : decode (mcode M_af_border) 25 = .ok (.getfield 176, 3) := by decide +kernel
theorem d_af_border_28 : decode (mcode M_af_border) 28 = .ok (.invokevirtual 89, 3) := by decide +kernel
theorem d_af_border_31 : decode (mcode M_af_border) 31 = .ok (.iconst 2, 1) := by decide +kernel
theorem d_af_border_32 : decode (mcode M_af_border) 32 = .ok (.isub, 1) := by decide +kernel
theorem d_af_border_33 : decode (mcode M_af_border) 33 = .ok (.invokestatic 76, 3) := by decide +kernel
theorem d_af_border_36 : decode (mcode M_af_border) 36 = .ok (.ifCond .ne 5, 3) := by decide +kernel
theorem d_af_border_39 : decode (mcode M_af_border) 39 = .ok (.iconst (-1), 1) := by decide +kernel
theorem d_af_border_40 : decode (mcode M_af_border) 40 = .ok (.ireturn, 1) := by decide +kernel
theorem d_af_border_41 : decode (mcode M_af_border) 41 = .ok (.aload_n 0, 1) := by decide +kernel
theorem d_af_border_42 : decode (mcode M_af_border) 42 = .ok (.getfield 50, 3) := by decide +kernel
theorem d_af_border_45 : decode (mcode M_af_border) 45 = .ok (.aload 4, 2) := by decide +kernel
theorem d_af_border_47 : decode (mcode M_af_border) 47 = .ok (.iload_n 2, 1) := by decide +kernel
theorem d_af_border_48 : decode (mcode M_af_border) 48 = .ok (.invokevirtual 220, 3) := by decide +kernel
theorem d_af_border_51 : decode (mcode M_af_border) 51 = .ok (.aload_n 0, 1) := by decide +kernel
theorem d_af_border_52 : decode (mcode M_af_border) 52 = .ok (.getfield 50, 3) := by decide +kernel
theorem d_af_border_55 : decode (mcode M_af_border) 55 = .ok (.aload 4, 2) := by decide +kernel
theorem d_af_border_57 : decode (mcode M_af_border) 57 = .ok (.iload_n 2, 1) := by decide +kernel
theorem d_af_border_58 : decode (mcode M_af_border) 58 = .ok (.iload_n 3, 1) := by decide +kernel
theorem d_af_border_59 : decode (mcode M_af_border) 59 = .ok (.invokevirtual 228, 3) := by decide +kernel
theorem d_af_border_62 : decode (mcode M_af_border) 62 = .ok (.ireturn, 1) := by decide +kernel
theorem d_af_told_0 : decode (mcode M_af_told) 0 = .ok (.aload_n 0, 1) := by decide +kernel
theorem d_af_told_1 : decode (mcode M_af_told) 1 = .ok (.iload_n 1, 1) := by decide +kernel
theorem d_af_told_2 : decode (mcode M_af_told) 2 = .ok (.invokevirtual 106, 3) := by decide +kernel
theorem d_af_told_5 : decode (mcode M_af_told) 5 = .ok (.astore_n 3, 1) := by decide +kernel
theorem d_af_told_6 : decode (mcode M_af_told) 6 = .ok (.aload_n 3, 1) := by decide +kernel
theorem d_af_told_7 : decode (mcode M_af_told) 7 = .ok (.ifnonnull 5, 3) := by decide +kernel
theorem d_af_told_10 : decode (mcode M_af_told) 10 = .ok (.iconst (-1), 1) := by decide +kernel
theorem d_af_told_11 : decode (mcode M_af_told) 11 = .ok (.ireturn, 1) := by decide +kernel
theorem d_af_told_12 : decode (mcode M_af_told) 12 = .ok (.iload_n 2, 1) := by decide +kernel
theorem d_af_told_13 : decode (mcode M_af_told) 13 = .ok (.tableswitch 81 0 6 #[43, 48, 53, 58, 66, 71, 76], 43) := by decide +kernel
theorem d_af_told_56 : decode (mcode M_af_told) 56 = .ok (.aload_n 3, 1) := by decide +kernel
theorem d_af_told_57 : decode (mcode M_af_told) 57 = .ok (.getfield 110, 3) := by decide +kernel
theorem d_af_told_60 : decode (mcode M_af_told) 60 = .ok (.ireturn, 1) := by decide +kernel
theorem d_af_told_61 : decode (mcode M_af_told) 61 = .ok (.aload_n 3, 1) := by decide +kernel
theorem d_af_told_62 : decode (mcode M_af_told) 62 = .ok (.getfield 232, 3) := by decide +kernel
theorem d_af_told_65 : decode (mcode M_af_told) 65 = .ok (.ireturn, 1) := by decide +kernel
theorem d_af_told_66 : decode (mcode M_af_told) 66 = .ok (.aload_n 3, 1) := by decide +kernel
theorem d_af_told_67 : decode (mcode M_af_told) 67 = .ok (.getfield 235, 3) := by decide +kernel
theorem d_af_told_70 : decode (mcode M_af_told) 70 = .ok (.ireturn, 1) := by decide +kernel
theorem d_af_told_71 : decode (mcode M_af_told) 71 = .ok (.aload_n 3, 1) := by decide +kernel
theorem d_af_told_72 : decode (mcode M_af_told) 72 = .ok (.getfield 113, 3) := by decide +kernel
theorem d_af_told_75 : decode (mcode M_af_told) 75 = .ok (.invokevirtual 121, 3) := by decide +kernel
theorem d_af_told_78 : decode (mcode M_af_told) 78 = .ok (.ireturn, 1) := by decide +kernel
theorem d_af_told_79 : decode (mcode M_af_told) 79 = .ok (.aload_n 3, 1) := by decide +kernel
theorem d_af_told_80 : decode (mcode M_af_told) 80 = .ok (.getfield 238, 3) := by decide +kernel
theorem d_af_told_83 : decode (mcode M_af_told) 83 = .ok (.ireturn, 1) := by decide +kernel
theorem d_af_told_84 : decode (mcode M_af_told) 84 = .ok (.aload_n 3, 1) := by decide +kernel
theorem d_af_told_85 : decode (mcode M_af_told) 85 = .ok (.getfield 241, 3) := by decide +kernel
theorem d_af_told_88 : decode (mcode M_af_told) 88 = .ok (.ireturn, 1) := by decide +kernel
theorem d_af_told_89 : decode (mcode M_af_told) 89 = .ok (.aload_n 3, 1) := by decide +kernel
theorem d_af_told_90 : decode (mcode M_af_told) 90 = .ok (.invokevirtual 244, 3) := by decide +kernel
theorem d_af_told_93 : decode (mcode M_af_told) 93 = .ok (.ireturn, 1) := by decide +kernel
theorem d_af_told_94 : decode (mcode M_af_told) 94 = .ok (.iconst (-1), 1) := by decide +kernel
theorem d_af_told_95 : decode (mcode M_af_told) 95 = .ok (.ireturn, 1) := by decide +kernel
theorem d_af_chain_0 : decode (mcode M_af_chain) 0 = .ok (.aload_n 0, 1) := by decide +kernel
theorem d_af_chain_1 : decode (mcode M_af_chain) 1 = .ok (.iload_n 1, 1) := by decide +kernel
theorem d_af_chain_2 : decode (mcode M_af_chain) 2 = .ok (.invokevirtual 106, 3) := by decide +kernel
theorem d_af_chain_5 : decode (mcode M_af_chain) 5 = .ok (.astore 4, 2) := by decide +kernel
theorem d_af_chain_7 : decode (mcode M_af_chain) 7 = .ok (.aload 4, 2) := by decide +kernel
theorem d_af_chain_9 : decode (mcode M_af_chain) 9 = .ok (.ifnonnull 5, 3) := by decide +kernel
theorem d_af_chain_12 : decode (mcode M_af_chain) 12 = .ok (.iconst (-1), 1) := by decide +kernel
theorem d_af_chain_13 : decode (mcode M_af_chain) 13 = .ok (.ireturn, 1) := by decide +kernel
theorem d_af_chain_14 : decode (mcode M_af_chain) 14 = .ok (.iload_n 3, 1) := by decide +kernel
theorem d_af_chain_15 : decode (mcode M_af_chain) 15 = .ok (.tableswitch 55 0 2 #[25, 35, 45], 25) := by decide +kernel
theorem d_af_chain_40 : decode (mcode M_af_chain) 40 = .ok (.aload 4, 2) := by decide +kernel
theorem d_af_chain_42 : decode (mcode M_af_chain) 42 = .ok (.getfield 113, 3) := by decide +kernel
theorem d_af_chain_45 : decode (mcode M_af_chain) 45 = .ok (.iload_n 2, 1) := by decide +kernel
theorem d_af_chain_46 : decode (mcode M_af_chain) 46 = .ok (.invokevirtual 152, 3) := by decide +kernel
theorem d_af_chain_49 : decode (mcode M_af_chain) 49 = .ok (.ireturn, 1) := by decide +kernel
theorem d_af_chain_50 : decode (mcode M_af_chain) 50 = .ok (.aload 4, 2) := by decide +kernel
theorem d_af_chain_52 : decode (mcode M_af_chain) 52 = .ok (.getfield 113, 3) := by decide +kernel
theorem d_af_chain_55 : decode (mcode M_af_chain) 55 = .ok (.iload_n 2, 1) := by decide +kernel
theorem d_af_chain_56 : decode (mcode M_af_chain) 56 = .ok (.invokevirtual 247, 3) := by decide +kernel
theorem d_af_chain_59 : decode (mcode M_af_chain) 59 = .ok (.ireturn, 1) := by decide +kernel
theorem d_af_chain_60 : decode (mcode M_af_chain) 60 = .ok (.aload 4, 2) := by decide +kernel
theorem d_af_chain_62 : decode (mcode M_af_chain) 62 = .ok (.getfield 113, 3) := by decide +kernel
theorem d_af_chain_65 : decode (mcode M_af_chain) 65 = .ok (.iload_n 2, 1) := by decide +kernel
theorem d_af_chain_66 : decode (mcode M_af_chain) 66 = .ok (.invokevirtual 250, 3) := by decide +kernel
theorem d_af_chain_69 : decode (mcode M_af_chain) 69 = .ok (.ireturn, 1) := by decide +kernel
theorem d_af_chain_70 : decode (mcode M_af_chain) 70 = .ok (.iconst (-1), 1) := by decide +kernel
theorem d_af_chain_71 : decode (mcode M_af_chain) 71 = .ok (.ireturn, 1) := by decide +kernel
theorem d_af_has_0 : decode (mcode M_af_has) 0 = .ok (.iload_n 1, 1) := by decide +kernel
theorem d_af_has_1 : decode (mcode M_af_has) 1 = .ok (.invokestatic 71, 3) := by decide +kernel
theorem d_af_has_4 : decode (mcode M_af_has) 4 = .ok (.ifCond .eq 12, 3) := by decide +kernel
theorem d_af_has_7 : decode (mcode M_af_has) 7 = .ok (.aload_n 0, 1) := by decide +kernel
theorem d_af_has_8 : decode (mcode M_af_has) 8 = .ok (.getfield 9, 3) := by decide +kernel
theorem d_af_has_11 : decode (mcode M_af_has) 11 = .ok (.iload_n 1, 1) := by decide +kernel
theorem d_af_has_12 : decode (mcode M_af_has) 12 = .ok (.iaload, 1) := by decide +kernel
theorem d_af_has_13 : decode (mcode M_af_has) 13 = .ok (.goto 5, 3) := by decide +kernel
theorem d_af_has_16 : decode (mcode M_af_has) 16 = .ok (.ldc 80, 2) := by decide +kernel
theorem d_af_has_18 : decode (mcode M_af_has) 18 = .ok (.ireturn, 1) := by decide +kernel
theorem d_af_count_0 : decode (mcode M_af_count) 0 = .ok (.iload_n 1, 1) := by decide +kernel
theorem d_af_count_1 : decode (mcode M_af_count) 1 = .ok (.tableswitch 99 0 7 #[47, 52, 60, 66, 72, 78, 86, 94], 47) := by decide +kernel
theorem d_af_count_48 : decode (mcode M_af_count) 48 = .ok (.aload_n 0, 1) := by decide +kernel
theorem d_af_count_49 : decode (mcode M_af_count) 49 = .ok (.getfield 54, 3) := by decide +kernel
theorem d_af_count_52 : decode (mcode M_af_count) 52 = .ok (.ireturn, 1) := by decide +kernel
theorem d_af_count_53 : decode (mcode M_af_count) 53 = .ok (.aload_n 0, 1) := by decide +kernel
theorem d_af_count_54 : decode (mcode M_af_count) 54 = .ok (.getfield 16, 3) := by decide +kernel
theorem d_af_count_57 : decode (mcode M_af_count) 57 = .ok (.invokevirtual 89, 3) := by decide +kernel
theorem d_af_count_60 : decode (mcode M_af_count) 60 = .ok (.ireturn, 1) := by decide +kernel
theorem d_af_count_61 : decode (mcode M_af_count) 61 = .ok (.aload_n 0, 1) := by decide +kernel
theorem d_af_count_62 : decode (mcode M_af_count) 62 = .ok (.iconst 1, 1) := by decide +kernel
theorem d_af_count_63 : decode (mcode M_af_count) 63 = .ok (.invokevirtual 253, 3) := by decide +kernel
theorem d_af_count_66 : decode (mcode M_af_count) 66 = .ok (.ireturn, 1) := by decide +kernel
theorem d_af_count_67 : decode (mcode M_af_count) 67 = .ok (.aload_n 0, 1) := by decide +kernel
theorem d_af_count_68 : decode (mcode M_af_count) 68 = .ok (.iconst 2, 1) := by decide +kernel
theorem d_af_count_69 : decode (mcode M_af_count) 69 = .ok (.invokevirtual 253, 3) := by decide +kernel
theorem d_af_count_72 : decode (mcode M_af_count) 72 = .ok (.ireturn, 1) := by decide +kernel
theorem d_af_count_73 : decode (mcode M_af_count) 73 = .ok (.aload_n 0, 1) := by decide +kernel
theorem d_af_count_74 : decode (mcode M_af_count) 74 = .ok (.iconst 3, 1) := by decide +kernel
theorem d_af_count_75 : decode (mcode M_af_count) 75 = .ok (.invokevirtual 253, 3) := by decide +kernel
theorem d_af_count_78 : decode (mcode M_af_count) 78 = .ok (.ireturn, 1) := by decide +kernel
theorem d_af_count_79 : decode (mcode M_af_count) 79 = .ok (.aload_n 0, 1) := by decide +kernel
theorem d_af_count_80 : decode (mcode M_af_count) 80 = .ok (.getfield 43, 3) := by decide +kernel
theorem d_af_count_83 : decode (mcode M_af_count) 83 = .ok (.getfield 256, 3) := by decide +kernel
theorem d_af_count_86 : decode (mcode M_af_count) 86 = .ok (.ireturn, 1) := by decide +kernel
theorem d_af_count_87 : decode (mcode M_af_count) 87 = .ok (.aload_n 0, 1) := by decide +kernel
theorem d_af_count_88 : decode (mcode M_af_count) 88 = .ok (.getfield 43, 3) := by decide +kernel
theorem d_af_count_91 : decode (mcode M_af_count) 91 = .ok (.getfield 259, 3) := by decide +kernel
theorem d_af_count_94 : decode (mcode M_af_count) 94 = .ok (.ireturn, 1) := by decide +kernel
theorem d_af_count_95 : decode (mcode M_af_count) 95 = .ok (.aload_n 0, 1) := by decide +kernel
theorem d_af_count_96 : decode (mcode M_af_count) 96 = .ok (.getfield 67, 3) := by decide +kernel
theorem d_af_count_99 : decode (mcode M_af_count) 99 = .ok (.ireturn, 1) := by decide +kernel
theorem d_af_count_100 : decode (mcode M_af_count) 100 = .ok (.iconst (-1), 1) := by decide +kernel
theorem d_af_count_101 : decode (mcode M_af_count) 101 = .ok (.ireturn, 1) := by decide +kernel
theorem d_af_within_0 : decode (mcode M_af_within) 0 = .ok (.iload_n 0, 1) := by decide +kernel
theorem d_af_within_1 : decode (mcode M_af_within) 1 = .ok (.iload_n 1, 1) := by decide +kernel
theorem d_af_within_2 : decode (mcode M_af_within) 2 = .ok (.if_icmp .lt 12, 3) := by decide +kernel
theorem d_af_within_5 : decode (mcode M_af_within) 5 = .ok (.iload_n 0, 1) := by decide +kernel
theorem d_af_within_6 : decode (mcode M_af_within) 6 = .ok (.iload_n 2, 1) := by decide +kernel
theorem d_af_within_7 : decode (mcode M_af_within) 7 = .ok (.if_icmp .gt 7, 3) := by decide +kernel
theorem d_af_within_10 : decode (mcode M_af_within) 10 = .ok (.iconst 1, 1) := by decide +kernel
theorem d_af_within_11 : decode (mcode M_af_within) 11 = .ok (.goto 4, 3) := by decide +kernel
theorem d_af_within_14 : decode (mcode M_af_within) 14 = .ok (.iconst 0, 1) := by decide +kernel
theorem d_af_within_15 : decode (mcode M_af_within) 15 = .ok (.ireturn, 1) := by decide +kernel
theorem d_af_isPerson_0 : decode (mcode M_af_isPerson) 0 = .ok (.iload_n 0, 1) := by decide +kernel
theorem d_af_isPerson_1 : decode (mcode M_af_isPerson) 1 = .ok (.iconst 0, 1) := by decide +kernel
theorem d_af_isPerson_2 : decode (mcode M_af_isPerson) 2 = .ok (.bipush 19, 2) := by decide +kernel
theorem d_af_isPerson_4 : decode (mcode M_af_isPerson) 4 = .ok (.invokestatic 76, 3) := by decide +kernel
theorem d_af_isPerson_7 : decode (mcode M_af_isPerson) 7 = .ok (.ireturn, 1) := by decide +kernel
theorem d_af_isYear_0 : decode (mcode M_af_isYear) 0 = .ok (.iload_n 0, 1) := by decide +kernel
theorem d_af_isYear_1 : decode (mcode M_af_isYear) 1 = .ok (.iconst 0, 1) := by decide +kernel
theorem d_af_isYear_2 : decode (mcode M_af_isYear) 2 = .ok (.bipush 60, 2) := by decide +kernel
theorem d_af_isYear_4 : decode (mcode M_af_isYear) 4 = .ok (.invokestatic 76, 3) := by decide +kernel
theorem d_af_isYear_7 : decode (mcode M_af_isYear) 7 = .ok (.ireturn, 1) := by decide +kernel
theorem d_af_plotAt_0 : decode (mcode M_af_plotAt) 0 = .ok (.iload_n 1, 1) := by decide +kernel
theorem d_af_plotAt_1 : decode (mcode M_af_plotAt) 1 = .ok (.iconst 0, 1) := by decide +kernel
theorem d_af_plotAt_2 : decode (mcode M_af_plotAt) 2 = .ok (.aload_n 0, 1) := by decide +kernel
theorem d_af_plotAt_3 : decode (mcode M_af_plotAt) 3 = .ok (.getfield 16, 3) := by decide +kernel
theorem d_af_plotAt_6 : decode (mcode M_af_plotAt) 6 = .ok (.invokevirtual 89, 3) := by decide +kernel
theorem d_af_plotAt_9 : decode (mcode M_af_plotAt) 9 = .ok (.iconst 1, 1) := by decide +kernel
theorem d_af_plotAt_10 : decode (mcode M_af_plotAt) 10 = .ok (.isub, 1) := by decide +kernel
theorem d_af_plotAt_11 : decode (mcode M_af_plotAt) 11 = .ok (.invokestatic 76, 3) := by decide +kernel
theorem d_af_plotAt_14 : decode (mcode M_af_plotAt) 14 = .ok (.ifCond .eq 17, 3) := by decide +kernel
theorem d_af_plotAt_17 : decode (mcode M_af_plotAt) 17 = .ok (.aload_n 0, 1) := by decide +kernel
theorem d_af_plotAt_18 : decode (mcode M_af_plotAt) 18 = .ok (.getfield 16, 3) := by decide +kernel
theorem d_af_plotAt_21 : decode (mcode M_af_plotAt) 21 = .ok (.iload_n 1, 1) := by decide +kernel
theorem d_af_plotAt_22 : decode (mcode M_af_plotAt) 22 = .ok (.invokevirtual 179, 3) := by decide +kernel
theorem d_af_plotAt_25 : decode (mcode M_af_plotAt) 25 = .ok (.checkcast 93, 3) := by decide +kernel
theorem d_af_plotAt_28 : decode (mcode M_af_plotAt) 28 = .ok (.goto 4, 3) := by decide +kernel
theorem d_af_plotAt_31 : decode (mcode M_af_plotAt) 31 = .ok (.aconst_null, 1) := by decide +kernel
theorem d_af_plotAt_32 : decode (mcode M_af_plotAt) 32 = .ok (.areturn, 1) := by decide +kernel
theorem d_af_streetAt_0 : decode (mcode M_af_streetAt) 0 = .ok (.iload_n 1, 1) := by decide +kernel
theorem d_af_streetAt_1 : decode (mcode M_af_streetAt) 1 = .ok (.iconst 0, 1) := by decide +kernel
theorem d_af_streetAt_2 : decode (mcode M_af_streetAt) 2 = .ok (.iconst 5, 1) := by decide +kernel
theorem d_af_streetAt_3 : decode (mcode M_af_streetAt) 3 = .ok (.invokestatic 76, 3) := by decide +kernel
theorem d_af_streetAt_6 : decode (mcode M_af_streetAt) 6 = .ok (.ifCond .eq 12, 3) := by decide +kernel
theorem d_af_streetAt_9 : decode (mcode M_af_streetAt) 9 = .ok (.aload_n 0, 1) := by decide +kernel
theorem d_af_streetAt_10 : decode (mcode M_af_streetAt) 10 = .ok (.getfield 22, 3) := by decide +kernel
theorem d_af_streetAt_13 : decode (mcode M_af_streetAt) 13 = .ok (.iload_n 1, 1) := by decide +kernel
theorem d_af_streetAt_14 : decode (mcode M_af_streetAt) 14 = .ok (.aaload, 1) := by decide +kernel
theorem d_af_streetAt_15 : decode (mcode M_af_streetAt) 15 = .ok (.goto 4, 3) := by decide +kernel
theorem d_af_streetAt_18 : decode (mcode M_af_streetAt) 18 = .ok (.aconst_null, 1) := by decide +kernel
theorem d_af_streetAt_19 : decode (mcode M_af_streetAt) 19 = .ok (.areturn, 1) := by decide +kernel
theorem d_af_give_0 : decode (mcode M_af_give) 0 = .ok (.iload_n 1, 1) := by decide +kernel
theorem d_af_give_1 : decode (mcode M_af_give) 1 = .ok (.invokestatic 71, 3) := by decide +kernel
theorem d_af_give_4 : decode (mcode M_af_give) 4 = .ok (.ifCond .eq 13, 3) := by decide +kernel
theorem d_af_give_7 : decode (mcode M_af_give) 7 = .ok (.aload_n 0, 1) := by decide +kernel
theorem d_af_give_8 : decode (mcode M_af_give) 8 = .ok (.getfield 9, 3) := by decide +kernel
theorem d_af_give_11 : decode (mcode M_af_give) 11 = .ok (.iload_n 1, 1) := by decide +kernel
theorem d_af_give_12 : decode (mcode M_af_give) 12 = .ok (.dup2, 1) := by decide +kernel
theorem d_af_give_13 : decode (mcode M_af_give) 13 = .ok (.iaload, 1) := by decide +kernel
theorem d_af_give_14 : decode (mcode M_af_give) 14 = .ok (.iload_n 2, 1) := by decide +kernel
theorem d_af_give_15 : decode (mcode M_af_give) 15 = .ok (.iadd, 1) := by decide +kernel
theorem d_af_give_16 : decode (mcode M_af_give) 16 = .ok (.iastore, 1) := by decide +kernel
theorem d_af_give_17 : decode (mcode M_af_give) 17 = .ok (.return_, 1) := by decide +kernel
theorem d_af_move_0 : decode (mcode M_af_move) 0 = .ok (.aload_n 0, 1) := by decide +kernel
theorem d_af_move_1 : decode (mcode M_af_move) 1 = .ok (.iload_n 1, 1) := by decide +kernel
theorem d_af_move_2 : decode (mcode M_af_move) 2 = .ok (.iload_n 3, 1) := by decide +kernel
theorem d_af_move_3 : decode (mcode M_af_move) 3 = .ok (.ineg, 1) := by decide +kernel
theorem d_af_move_4 : decode (mcode M_af_move) 4 = .ok (.invokevirtual 81, 3) := by decide +kernel
theorem d_af_move_7 : decode (mcode M_af_move) 7 = .ok (.aload_n 0, 1) := by decide +kernel
theorem d_af_move_8 : decode (mcode M_af_move) 8 = .ok (.iload_n 2, 1) := by decide +kernel
theorem d_af_move_9 : decode (mcode M_af_move) 9 = .ok (.iload_n 3, 1) := by decide +kernel
theorem d_af_move_10 : decode (mcode M_af_move) 10 = .ok (.invokevirtual 81, 3) := by decide +kernel
theorem d_af_move_13 : decode (mcode M_af_move) 13 = .ok (.return_, 1) := by decide +kernel
theorem d_af_costOf_0 : decode (mcode M_af_costOf) 0 = .ok (.aload_n 1, 1) := by decide +kernel
theorem d_af_costOf_1 : decode (mcode M_af_costOf) 1 = .ok (.getfield 232, 3) := by decide +kernel
theorem d_af_costOf_4 : decode (mcode M_af_costOf) 4 = .ok (.aload_n 1, 1) := by decide +kernel
theorem d_af_costOf_5 : decode (mcode M_af_costOf) 5 = .ok (.getfield 235, 3) := by decide +kernel
theorem d_af_costOf_8 : decode (mcode M_af_costOf) 8 = .ok (.imul, 1) := by decide +kernel
theorem d_af_costOf_9 : decode (mcode M_af_costOf) 9 = .ok (.aload_n 0, 1) := by decide +kernel
theorem d_af_costOf_10 : decode (mcode M_af_costOf) 10 = .ok (.getfield 58, 3) := by decide +kernel
theorem d_af_costOf_13 : decode (mcode M_af_costOf) 13 = .ok (.imul, 1) := by decide +kernel
theorem d_af_costOf_14 : decode (mcode M_af_costOf) 14 = .ok (.ireturn, 1) := by decide +kernel
theorem d_af_countIn_0 : decode (mcode M_af_countIn) 0 = .ok (.iconst 0, 1) := by decide +kernel
theorem d_af_countIn_1 : decode (mcode M_af_countIn) 1 = .ok (.istore_n 2, 1) := by decide +kernel
theorem d_af_countIn_2 : decode (mcode M_af_countIn) 2 = .ok (.iconst 0, 1) := by decide +kernel
theorem d_af_countIn_3 : decode (mcode M_af_countIn) 3 = .ok (.istore_n 3, 1) := by decide +kernel
theorem d_af_countIn_4 : decode (mcode M_af_countIn) 4 = .ok (.iload_n 3, 1) := by decide +kernel
theorem d_af_countIn_5 : decode (mcode M_af_countIn) 5 = .ok (.aload_n 0, 1) := by decide +kernel
theorem d_af_countIn_6 : decode (mcode M_af_countIn) 6 = .ok (.getfield 16, 3) := by decide +kernel
theorem d_af_countIn_9 : decode (mcode M_af_countIn) 9 = .ok (.invokevirtual 89, 3) := by decide +kernel
theorem d_af_countIn_12 : decode (mcode M_af_countIn) 12 = .ok (.if_icmp .ge 30, 3) := by decide +kernel
theorem d_af_countIn_15 : decode (mcode M_af_countIn) 15 = .ok (.aload_n 0, 1) := by decide +kernel
theorem d_af_countIn_16 : decode (mcode M_af_countIn) 16 = .ok (.getfield 16, 3) := by decide +kernel
theorem d_af_countIn_19 : decode (mcode M_af_countIn) 19 = .ok (.iload_n 3, 1) := by decide +kernel
theorem d_af_countIn_20 : decode (mcode M_af_countIn) 20 = .ok (.invokevirtual 179, 3) := by decide +kernel
theorem d_af_countIn_23 : decode (mcode M_af_countIn) 23 = .ok (.checkcast 93, 3) := by decide +kernel
theorem d_af_countIn_26 : decode (mcode M_af_countIn) 26 = .ok (.getfield 110, 3) := by decide +kernel
theorem d_af_countIn_29 : decode (mcode M_af_countIn) 29 = .ok (.iload_n 1, 1) := by decide +kernel
theorem d_af_countIn_30 : decode (mcode M_af_countIn) 30 = .ok (.if_icmp .ne 6, 3) := by decide +kernel
theorem d_af_countIn_33 : decode (mcode M_af_countIn) 33 = .ok (.iinc 2 1, 3) := by decide +kernel
theorem d_af_countIn_36 : decode (mcode M_af_countIn) 36 = .ok (.iinc 3 1, 3) := by decide +kernel
theorem d_af_countIn_39 : decode (mcode M_af_countIn) 39 = .ok (.goto (-35), 3) := by decide +kernel
theorem d_af_countIn_42 : decode (mcode M_af_countIn) 42 = .ok (.iload_n 2, 1) := by decide +kernel
theorem d_af_countIn_43 : decode (mcode M_af_countIn) 43 = .ok (.ireturn, 1) := by decide +kernel
theorem d_af_findBuilder_0 : decode (mcode M_af_findBuilder) 0 = .ok (.aload_n 0, 1) := by decide +kernel
theorem d_af_findBuilder_1 : decode (mcode M_af_findBuilder) 1 = .ok (.aload_n 1, 1) := by decide +kernel
theorem d_af_findBuilder_2 : decode (mcode M_af_findBuilder) 2 = .ok (.invokevirtual 141, 3) := by decide +kernel
theorem d_af_findBuilder_5 : decode (mcode M_af_findBuilder) 5 = .ok (.istore_n 2, 1) := by decide +kernel
theorem d_af_findBuilder_6 : decode (mcode M_af_findBuilder) 6 = .ok (.aload_n 1, 1) := by decide +kernel
theorem d_af_findBuilder_7 : decode (mcode M_af_findBuilder) 7 = .ok (.getfield 113, 3) := by decide +kernel
theorem d_af_findBuilder_10 : decode (mcode M_af_findBuilder) 10 = .ok (.getfield 262, 3) := by decide +kernel
theorem d_af_findBuilder_13 : decode (mcode M_af_findBuilder) 13 = .ok (.iconst 1, 1) := by decide +kernel
theorem d_af_findBuilder_14 : decode (mcode M_af_findBuilder) 14 = .ok (.isub, 1) := by decide +kernel
theorem d_af_findBuilder_15 : decode (mcode M_af_findBuilder) 15 = .ok (.istore_n 3, 1) := by decide +kernel
theorem d_af_findBuilder_16 : decode (mcode M_af_findBuilder) 16 = .ok (.iload_n 3, 1) := by decide +kernel
theorem d_af_findBuilder_17 : decode (mcode M_af_findBuilder) 17 = .ok (.ifCond .lt 40, 3) := by decide +kernel
theorem d_af_findBuilder_20 : decode (mcode M_af_findBuilder) 20 = .ok (.aload_n 1, 1) := by decide +kernel
theorem d_af_findBuilder_21 : decode (mcode M_af_findBuilder) 21 = .ok (.getfield 113, 3) := by decide +kernel
theorem d_af_findBuilder_24 : decode (mcode M_af_findBuilder) 24 = .ok (.iload_n 3, 1) := by decide +kernel
theorem d_af_findBuilder_25 : decode (mcode M_af_findBuilder) 25 = .ok (.invokevirtual 152, 3) := by decide +kernel
theorem d_af_findBuilder_28 : decode (mcode M_af_findBuilder) 28 = .ok (.istore 4, 2) := by decide +kernel
theorem d_af_findBuilder_30 : decode (mcode M_af_findBuilder) 30 = .ok (.iload 4, 2) := by decide +kernel
theorem d_af_findBuilder_32 : decode (mcode M_af_findBuilder) 32 = .ok (.invokestatic 71, 3) := by decide +kernel
theorem d_af_findBuilder_35 : decode (mcode M_af_findBuilder) 35 = .ok (.ifCond .eq 16, 3) := by decide +kernel
theorem d_af_findBuilder_38 : decode (mcode M_af_findBuilder) 38 = .ok (.aload_n 0, 1) := by decide +kernel
theorem d_af_findBuilder_39 : decode (mcode M_af_findBuilder) 39 = .ok (.getfield 9, 3) := by decide +kernel
theorem d_af_findBuilder_42 : decode (mcode M_af_findBuilder) 42 = .ok (.iload 4, 2) := by decide +kernel
theorem d_af_findBuilder_44 : decode (mcode M_af_findBuilder) 44 = .ok (.iaload, 1) := by decide +kernel
theorem d_af_findBuilder_45 : decode (mcode M_af_findBuilder) 45 = .ok (.iload_n 2, 1) := by decide +kernel
theorem d_af_findBuilder_46 : decode (mcode M_af_findBuilder) 46 = .ok (.if_icmp .lt 5, 3) := by decide +kernel
theorem d_af_findBuilder_49 : decode (mcode M_af_findBuilder) 49 = .ok (.iload_n 3, 1) := by decide +kernel
theorem d_af_findBuilder_50 : decode (mcode M_af_findBuilder) 50 = .ok (.ireturn, 1) := by decide +kernel
theorem d_af_findBuilder_51 : decode (mcode M_af_findBuilder) 51 = .ok (.iinc 3 (-1), 3) := by decide +kernel
theorem d_af_findBuilder_54 : decode (mcode M_af_findBuilder) 54 = .ok (.goto (-38), 3) := by decide +kernel
theorem d_af_findBuilder_57 : decode (mcode M_af_findBuilder) 57 = .ok (.iconst (-1), 1) := by decide +kernel
theorem d_af_findBuilder_58 : decode (mcode M_af_findBuilder) 58 = .ok (.ireturn, 1) := by decide +kernel
theorem d_af_payForBuilding_0 : decode (mcode M_af_payForBuilding) 0 = .ok (.aload_n 0, 1) := by decide +kernel
theorem d_af_payForBuilding_1 : decode (mcode M_af_payForBuilding) 1 = .ok (.aload_n 1, 1) := by decide +kernel
theorem d_af_payForBuilding_2 : decode (mcode M_af_payForBuilding) 2 = .ok (.invokevirtual 141, 3) := by decide +kernel
theorem d_af_payForBuilding_5 : decode (mcode M_af_payForBuilding) 5 = .ok (.istore_n 3, 1) := by decide +kernel
theorem d_af_payForBuilding_6 : decode (mcode M_af_payForBuilding) 6 = .ok (.aload_n 1, 1) := by decide +kernel
theorem d_af_payForBuilding_7 : decode (mcode M_af_payForBuilding) 7 = .ok (.getfield 113, 3) := by decide +kernel
theorem d_af_payForBuilding_10 : decode (mcode M_af_payForBuilding) 10 = .ok (.iload_n 2, 1) := by decide +kernel
theorem d_af_payForBuilding_11 : decode (mcode M_af_payForBuilding) 11 = .ok (.invokevirtual 152, 3) := by decide +kernel
theorem d_af_payForBuilding_14 : decode (mcode M_af_payForBuilding) 14 = .ok (.istore 4, 2) := by decide +kernel
theorem d_af_payForBuilding_16 : decode (mcode M_af_payForBuilding) 16 = .ok (.aload_n 0, 1) := by decide +kernel
theorem d_af_payForBuilding_17 : decode (mcode M_af_payForBuilding) 17 = .ok (.getfield 29, 3) := by decide +kernel
theorem d_af_payForBuilding_20 : decode (mcode M_af_payForBuilding) 20 = .ok (.aload_n 1, 1) := by decide +kernel
theorem d_af_payForBuilding_21 : decode (mcode M_af_payForBuilding) 21 = .ok (.iload_n 3, 1) := by decide +kernel
theorem d_af_payForBuilding_22 : decode (mcode M_af_payForBuilding) 22 = .ok (.iload_n 2, 1) := by decide +kernel
theorem d_af_payForBuilding_23 : decode (mcode M_af_payForBuilding) 23 = .ok (.invokevirtual 144, 3) := by decide +kernel
theorem d_af_payForBuilding_26 : decode (mcode M_af_payForBuilding) 26 = .ok (.aload_n 0, 1) := by decide +kernel
theorem d_af_payForBuilding_27 : decode (mcode M_af_payForBuilding) 27 = .ok (.iload 4, 2) := by decide +kernel
theorem d_af_payForBuilding_29 : decode (mcode M_af_payForBuilding) 29 = .ok (.iload_n 3, 1) := by decide +kernel
theorem d_af_payForBuilding_30 : decode (mcode M_af_payForBuilding) 30 = .ok (.ineg, 1) := by decide +kernel
theorem d_af_payForBuilding_31 : decode (mcode M_af_payForBuilding) 31 = .ok (.invokevirtual 81, 3) := by decide +kernel
theorem d_af_payForBuilding_34 : decode (mcode M_af_payForBuilding) 34 = .ok (.iconst 0, 1) := by decide +kernel
theorem d_af_payForBuilding_35 : decode (mcode M_af_payForBuilding) 35 = .ok (.istore 5, 2) := by decide +kernel
theorem d_af_payForBuilding_37 : decode (mcode M_af_payForBuilding) 37 = .ok (.iload 5, 2) := by decide +kernel
theorem d_af_payForBuilding_39 : decode (mcode M_af_payForBuilding) 39 = .ok (.aload_n 1, 1) := by decide +kernel
theorem d_af_payForBuilding_40 : decode (mcode M_af_payForBuilding) 40 = .ok (.getfield 113, 3) := by decide +kernel
theorem d_af_payForBuilding_43 : decode (mcode M_af_payForBuilding) 43 = .ok (.getfield 262, 3) := by decide +kernel
theorem d_af_payForBuilding_46 : decode (mcode M_af_payForBuilding) 46 = .ok (.if_icmp .ge 39, 3) := by decide +kernel
theorem d_af_payForBuilding_49 : decode (mcode M_af_payForBuilding) 49 = .ok (.iload 5, 2) := by decide +kernel
theorem d_af_payForBuilding_51 : decode (mcode M_af_payForBuilding) 51 = .ok (.iload_n 2, 1) := by decide +kernel
theorem d_af_payForBuilding_52 : decode (mcode M_af_payForBuilding) 52 = .ok (.if_icmp .eq 27, 3) := by decide +kernel
theorem d_af_payForBuilding_55 : decode (mcode M_af_payForBuilding) 55 = .ok (.aload_n 0, 1) := by decide +kernel
theorem d_af_payForBuilding_56 : decode (mcode M_af_payForBuilding) 56 = .ok (.aload_n 1, 1) := by decide +kernel
theorem d_af_payForBuilding_57 : decode (mcode M_af_payForBuilding) 57 = .ok (.getfield 113, 3) := by decide +kernel
theorem d_af_payForBuilding_60 : decode (mcode M_af_payForBuilding) 60 = .ok (.iload 5, 2) := by decide +kernel
theorem d_af_payForBuilding_62 : decode (mcode M_af_payForBuilding) 62 = .ok (.invokevirtual 152, 3) := by decide +kernel
theorem d_af_payForBuilding_65 : decode (mcode M_af_payForBuilding) 65 = .ok (.iload 4, 2) := by decide +kernel
theorem d_af_payForBuilding_67 : decode (mcode M_af_payForBuilding) 67 = .ok (.aload_n 0, 1) := by decide +kernel
theorem d_af_payForBuilding_68 : decode (mcode M_af_payForBuilding) 68 = .ok (.getfield 29, 3) := by decide +kernel
theorem d_af_payForBuilding_71 : decode (mcode M_af_payForBuilding) 71 = .ok (.iload 5, 2) := by decide +kernel
theorem d_af_payForBuilding_73 : decode (mcode M_af_payForBuilding) 73 = .ok (.invokevirtual 148, 3) := by decide +kernel
theorem d_af_payForBuilding_76 : decode (mcode M_af_payForBuilding) 76 = .ok (.invokevirtual 264, 3) := by decide +kernel
theorem d_af_payForBuilding_79 : decode (mcode M_af_payForBuilding) 79 = .ok (.iinc 5 1, 3) := by decide +kernel
theorem d_af_payForBuilding_82 : decode (mcode M_af_payForBuilding) 82 = .ok (.goto (-45), 3) := by decide +kernel
theorem d_af_payForBuilding_85 : decode (mcode M_af_payForBuilding) 85 = .ok (.return_, 1) := by decide +kernel
theorem d_af_settleWall_0 : decode (mcode M_af_settleWall) 0 = .ok (.aload_n 1, 1) := by decide +kernel
theorem d_af_settleWall_1 : decode (mcode M_af_settleWall) 1 = .ok (.ifnull 10, 3) := by decide +kernel
theorem d_af_settleWall_4 : decode (mcode M_af_settleWall) 4 = .ok (.aload_n 1, 1) := by decide +kernel
theorem d_af_settleWall_5 : decode (mcode M_af_settleWall) 5 = .ok (.invokevirtual 267, 3) := by decide +kernel
theorem d_af_settleWall_8 : decode (mcode M_af_settleWall) 8 = .ok (.ifCond .ne 4, 3) := by decide +kernel
theorem d_af_settleWall_11 : decode (mcode M_af_settleWall) 11 = .ok (.return_, 1) := by decide +kernel
theorem d_af_settleWall_12 : decode (mcode M_af_settleWall) 12 = .ok (.aload_n 1, 1) := by decide +kernel
theorem d_af_settleWall_13 : decode (mcode M_af_settleWall) 13 = .ok (.invokevirtual 273, 3) := by decide +kernel
theorem d_af_settleWall_16 : decode (mcode M_af_settleWall) 16 = .ok (.ifCond .eq 21, 3) := by decide +kernel
theorem d_af_settleWall_19 : decode (mcode M_af_settleWall) 19 = .ok (.aload_n 0, 1) := by decide +kernel
theorem d_af_settleWall_20 : decode (mcode M_af_settleWall) 20 = .ok (.iload_n 2, 1) := by decide +kernel
theorem d_af_settleWall_21 : decode (mcode M_af_settleWall) 21 = .ok (.aload_n 1, 1) := by decide +kernel
theorem d_af_settleWall_22 : decode (mcode M_af_settleWall) 22 = .ok (.getfield 276, 3) := by decide +kernel
theorem d_af_settleWall_25 : decode (mcode M_af_settleWall) 25 = .ok (.aload_n 1, 1) := by decide +kernel
theorem d_af_settleWall_26 : decode (mcode M_af_settleWall) 26 = .ok (.getfield 279, 3) := by decide +kernel
theorem d_af_settleWall_29 : decode (mcode M_af_settleWall) 29 = .ok (.iconst 2, 1) := by decide +kernel
theorem d_af_settleWall_30 : decode (mcode M_af_settleWall) 30 = .ok (.idiv, 1) := by decide +kernel
theorem d_af_settleWall_31 : decode (mcode M_af_settleWall) 31 = .ok (.invokevirtual 264, 3) := by decide +kernel
theorem d_af_settleWall_34 : decode (mcode M_af_settleWall) 34 = .ok (.goto 28, 3) := by decide +kernel
theorem d_af_settleWall_37 : decode (mcode M_af_settleWall) 37 = .ok (.aload_n 1, 1) := by decide +kernel
theorem d_af_settleWall_38 : decode (mcode M_af_settleWall) 38 = .ok (.aload_n 1, 1) := by decide +kernel
theorem d_af_settleWall_39 : decode (mcode M_af_settleWall) 39 = .ok (.invokevirtual 282, 3) := by decide +kernel
theorem d_af_settleWall_42 : decode (mcode M_af_settleWall) 42 = .ok (.iconst 3, 1) := by decide +kernel
theorem d_af_settleWall_43 : decode (mcode M_af_settleWall) 43 = .ok (.imul, 1) := by decide +kernel
theorem d_af_settleWall_44 : decode (mcode M_af_settleWall) 44 = .ok (.putfield 279, 3) := by decide +kernel
theorem d_af_settleWall_47 : decode (mcode M_af_settleWall) 47 = .ok (.aload_n 1, 1) := by decide +kernel
theorem d_af_settleWall_48 : decode (mcode M_af_settleWall) 48 = .ok (.iload_n 2, 1) := by decide +kernel
theorem d_af_settleWall_49 : decode (mcode M_af_settleWall) 49 = .ok (.putfield 276, 3) := by decide +kernel
theorem d_af_settleWall_52 : decode (mcode M_af_settleWall) 52 = .ok (.aload_n 0, 1) := by decide +kernel
theorem d_af_settleWall_53 : decode (mcode M_af_settleWall) 53 = .ok (.iload_n 2, 1) := by decide +kernel
theorem d_af_settleWall_54 : decode (mcode M_af_settleWall) 54 = .ok (.aload_n 1, 1) := by decide +kernel
theorem d_af_settleWall_55 : decode (mcode M_af_settleWall) 55 = .ok (.getfield 279, 3) := by decide +kernel
theorem d_af_settleWall_58 : decode (mcode M_af_settleWall) 58 = .ok (.ineg, 1) := by decide +kernel
theorem d_af_settleWall_59 : decode (mcode M_af_settleWall) 59 = .ok (.invokevirtual 81, 3) := by decide +kernel
theorem d_af_settleWall_62 : decode (mcode M_af_settleWall) 62 = .ok (.return_, 1) := by decide +kernel
theorem d_af_widenInto_0 : decode (mcode M_af_widenInto) 0 = .ok (.aload_n 1, 1) := by decide +kernel
theorem d_af_widenInto_1 : decode (mcode M_af_widenInto) 1 = .ok (.getfield 110, 3) := by decide +kernel
theorem d_af_widenInto_4 : decode (mcode M_af_widenInto) 4 = .ok (.ifCond .eq 5, 3) := by decide +kernel
theorem d_af_widenInto_7 : decode (mcode M_af_widenInto) 7 = .ok (.iconst 0, 1) := by decide +kernel
theorem d_af_widenInto_8 : decode (mcode M_af_widenInto) 8 = .ok (.ireturn, 1) := by decide +kernel
theorem d_af_widenInto_9 : decode (mcode M_af_widenInto) 9 = .ok (.aload_n 1, 1) := by decide +kernel
theorem d_af_widenInto_10 : decode (mcode M_af_widenInto) 10 = .ok (.getfield 235, 3) := by decide +kernel
theorem d_af_widenInto_13 : decode (mcode M_af_widenInto) 13 = .ok (.iload_n 2, 1) := by decide +kernel
theorem d_af_widenInto_14 : decode (mcode M_af_widenInto) 14 = .ok (.isub, 1) := by decide +kernel
theorem d_af_widenInto_15 : decode (mcode M_af_widenInto) 15 = .ok (.bipush 20, 2) := by decide +kernel
theorem d_af_widenInto_17 : decode (mcode M_af_widenInto) 17 = .ok (.if_icmp .ge 7, 3) := by decide +kernel
theorem d_af_widenInto_20 : decode (mcode M_af_widenInto) 20 = .ok (.iconst 1, 1) := by decide +kernel
theorem d_af_widenInto_21 : decode (mcode M_af_widenInto) 21 = .ok (.goto 4, 3) := by decide +kernel
theorem d_af_widenInto_24 : decode (mcode M_af_widenInto) 24 = .ok (.iconst 0, 1) := by decide +kernel
theorem d_af_widenInto_25 : decode (mcode M_af_widenInto) 25 = .ok (.istore_n 3, 1) := by decide +kernel
theorem d_af_widenInto_26 : decode (mcode M_af_widenInto) 26 = .ok (.aload_n 1, 1) := by decide +kernel
theorem d_af_widenInto_27 : decode (mcode M_af_widenInto) 27 = .ok (.getfield 232, 3) := by decide +kernel
theorem d_af_widenInto_30 : decode (mcode M_af_widenInto) 30 = .ok (.iload_n 3, 1) := by decide +kernel
theorem d_af_widenInto_31 : decode (mcode M_af_widenInto) 31 = .ok (.ifCond .eq 10, 3) := by decide +kernel
theorem d_af_widenInto_34 : decode (mcode M_af_widenInto) 34 = .ok (.aload_n 1, 1) := by decide +kernel
theorem d_af_widenInto_35 : decode (mcode M_af_widenInto) 35 = .ok (.getfield 235, 3) := by decide +kernel
theorem d_af_widenInto_38 : decode (mcode M_af_widenInto) 38 = .ok (.goto 4, 3) := by decide +kernel
theorem d_af_widenInto_41 : decode (mcode M_af_widenInto) 41 = .ok (.iload_n 2, 1) := by decide +kernel
theorem d_af_widenInto_42 : decode (mcode M_af_widenInto) 42 = .ok (.imul, 1) := by decide +kernel
theorem d_af_widenInto_43 : decode (mcode M_af_widenInto) 43 = .ok (.istore 4, 2) := by decide +kernel
theorem d_af_widenInto_45 : decode (mcode M_af_widenInto) 45 = .ok (.aload_n 0, 1) := by decide +kernel
theorem d_af_widenInto_46 : decode (mcode M_af_widenInto) 46 = .ok (.aload_n 1, 1) := by decide +kernel
theorem d_af_widenInto_47 : decode (mcode M_af_widenInto) 47 = .ok (.getfield 113, 3) := by decide +kernel
theorem d_af_widenInto_50 : decode (mcode M_af_widenInto) 50 = .ok (.iconst 0, 1) := by decide +kernel
theorem d_af_widenInto_51 : decode (mcode M_af_widenInto) 51 = .ok (.invokevirtual 152, 3) := by decide +kernel
theorem d_af_widenInto_54 : decode (mcode M_af_widenInto) 54 = .ok (.iload 4, 2) := by decide +kernel
theorem d_af_widenInto_56 : decode (mcode M_af_widenInto) 56 = .ok (.aload_n 0, 1) := by decide +kernel
theorem d_af_widenInto_57 : decode (mcode M_af_widenInto) 57 = .ok (.getfield 61, 3) := by decide +kernel
theorem d_af_widenInto_60 : decode (mcode M_af_widenInto) 60 = .ok (.imul, 1) := by decide +kernel
theorem d_af_widenInto_61 : decode (mcode M_af_widenInto) 61 = .ok (.invokevirtual 81, 3) := by decide +kernel
theorem d_af_widenInto_64 : decode (mcode M_af_widenInto) 64 = .ok (.aload_n 0, 1) := by decide +kernel
theorem d_af_widenInto_65 : decode (mcode M_af_widenInto) 65 = .ok (.dup, 1) := by decide +kernel
theorem d_af_widenInto_66 : decode (mcode M_af_widenInto) 66 = .ok (.getfield 67, 3) := by decide +kernel
theorem d_af_widenInto_69 : decode (mcode M_af_widenInto) 69 = .ok (.iload 4, 2) := by decide +kernel
theorem d_af_widenInto_71 : decode (mcode M_af_widenInto) 71 = .ok (.aload_n 0, 1) := by decide +kernel
theorem d_af_widenInto_72 : decode (mcode M_af_widenInto) 72 = .ok (.getfield 61, 3) := by decide +kernel
theorem d_af_widenInto_75 : decode (mcode M_af_widenInto) 75 = .ok (.imul, 1) := by decide +kernel
theorem d_af_widenInto_76 : decode (mcode M_af_widenInto) 76 = .ok (.iadd, 1) := by decide +kernel
theorem d_af_widenInto_77 : decode (mcode M_af_widenInto) 77 = .ok (.putfield 67, 3) := by decide +kernel
theorem d_af_widenInto_80 : decode (mcode M_af_widenInto) 80 = .ok (.iload_n 3, 1) := by decide +kernel
theorem d_af_widenInto_81 : decode (mcode M_af_widenInto) 81 = .ok (.ifCond .eq 11, 3) := by decide +kernel
theorem d_af_widenInto_84 : decode (mcode M_af_widenInto) 84 = .ok (.aload_n 1, 1) := by decide +kernel
theorem d_af_widenInto_85 : decode (mcode M_af_widenInto) 85 = .ok (.iconst 3, 1) := by decide +kernel
theorem d_af_widenInto_86 : decode (mcode M_af_widenInto) 86 = .ok (.invokevirtual 285, 3) := by decide +kernel
theorem d_af_widenInto_89 : decode (mcode M_af_widenInto) 89 = .ok (.goto 13, 3) := by decide +kernel
theorem d_af_widenInto_92 : decode (mcode M_af_widenInto) 92 = .ok (.aload_n 1, 1) := by decide +kernel
theorem d_af_widenInto_93 : decode (mcode M_af_widenInto) 93 = .ok (.dup, 1) := by decide +kernel
theorem d_af_widenInto_94 : decode (mcode M_af_widenInto) 94 = .ok (.getfield 235, 3) := by decide +kernel
theorem d_af_widenInto_97 : decode (mcode M_af_widenInto) 97 = .ok (.iload_n 2, 1) := by decide +kernel
theorem d_af_widenInto_98 : decode (mcode M_af_widenInto) 98 = .ok (.isub, 1) := by decide +kernel
theorem d_af_widenInto_99 : decode (mcode M_af_widenInto) 99 = .ok (.putfield 235, 3) := by decide +kernel
theorem d_af_widenInto_102 : decode (mcode M_af_widenInto) 102 = .ok (.iload 4, 2) := by decide +kernel
theorem d_af_widenInto_104 : decode (mcode M_af_widenInto) 104 = .ok (.ireturn, 1) := by decide +kernel
theorem d_af_forfeitBurned_0 : decode (mcode M_af_forfeitBurned) 0 = .ok (.iconst 0, 1) := by decide +kernel
theorem d_af_forfeitBurned_1 : decode (mcode M_af_forfeitBurned) 1 = .ok (.istore_n 1, 1) := by decide +kernel
theorem d_af_forfeitBurned_2 : decode (mcode M_af_forfeitBurned) 2 = .ok (.iconst 0, 1) := by decide +kernel
theorem d_af_forfeitBurned_3 : decode (mcode M_af_forfeitBurned) 3 = .ok (.istore_n 2, 1) := by decide +kernel
theorem d_af_forfeitBurned_4 : decode (mcode M_af_forfeitBurned) 4 = .ok (.iload_n 2, 1) := by decide +kernel
theorem d_af_forfeitBurned_5 : decode (mcode M_af_forfeitBurned) 5 = .ok (.aload_n 0, 1) := by decide +kernel
theorem d_af_forfeitBurned_6 : decode (mcode M_af_forfeitBurned) 6 = .ok (.getfield 16, 3) := by decide +kernel
theorem d_af_forfeitBurned_9 : decode (mcode M_af_forfeitBurned) 9 = .ok (.invokevirtual 89, 3) := by decide +kernel
theorem d_af_forfeitBurned_12 : decode (mcode M_af_forfeitBurned) 12 = .ok (.if_icmp .ge 36, 3) := by decide +kernel
theorem d_af_forfeitBurned_15 : decode (mcode M_af_forfeitBurned) 15 = .ok (.aload_n 0, 1) := by decide +kernel
theorem d_af_forfeitBurned_16 : decode (mcode M_af_forfeitBurned) 16 = .ok (.getfield 16, 3) := by decide +kernel
theorem d_af_forfeitBurned_19 : decode (mcode M_af_forfeitBurned) 19 = .ok (.iload_n 2, 1) := by decide +kernel
theorem d_af_forfeitBurned_20 : decode (mcode M_af_forfeitBurned) 20 = .ok (.invokevirtual 179, 3) := by decide +kernel
theorem d_af_forfeitBurned_23 : decode (mcode M_af_forfeitBurned) 23 = .ok (.checkcast 93, 3) := by decide +kernel
theorem d_af_forfeitBurned_26 : decode (mcode M_af_forfeitBurned) 26 = .ok (.astore_n 3, 1) := by decide +kernel
theorem d_af_forfeitBurned_27 : decode (mcode M_af_forfeitBurned) 27 = .ok (.aload_n 3, 1) := by decide +kernel
theorem d_af_forfeitBurned_28 : decode (mcode M_af_forfeitBurned) 28 = .ok (.getfield 110, 3) := by decide +kernel
theorem d_af_forfeitBurned_31 : decode (mcode M_af_forfeitBurned) 31 = .ok (.ifCond .ne 11, 3) := by decide +kernel
theorem d_af_forfeitBurned_34 : decode (mcode M_af_forfeitBurned) 34 = .ok (.aload_n 3, 1) := by decide +kernel
theorem d_af_forfeitBurned_35 : decode (mcode M_af_forfeitBurned) 35 = .ok (.iconst 2, 1) := by decide +kernel
theorem d_af_forfeitBurned_36 : decode (mcode M_af_forfeitBurned) 36 = .ok (.invokevirtual 285, 3) := by decide +kernel
theorem d_af_forfeitBurned_39 : decode (mcode M_af_forfeitBurned) 39 = .ok (.iinc 1 1, 3) := by decide +kernel
theorem d_af_forfeitBurned_42 : decode (mcode M_af_forfeitBurned) 42 = .ok (.iinc 2 1, 3) := by decide +kernel
theorem d_af_forfeitBurned_45 : decode (mcode M_af_forfeitBurned) 45 = .ok (.goto (-41), 3) := by decide +kernel
theorem d_af_forfeitBurned_48 : decode (mcode M_af_forfeitBurned) 48 = .ok (.iload_n 1, 1) := by decide +kernel
theorem d_af_forfeitBurned_49 : decode (mcode M_af_forfeitBurned) 49 = .ok (.ireturn, 1) := by decide +kernel
theorem d_af_planBricks_0 : decode (mcode M_af_planBricks) 0 = .ok (.iload_n 1, 1) := by decide +kernel
theorem d_af_planBricks_1 : decode (mcode M_af_planBricks) 1 = .ok (.iconst 1, 1) := by decide +kernel
theorem d_af_planBricks_2 : decode (mcode M_af_planBricks) 2 = .ok (.sipush 2000, 3) := by decide +kernel
theorem d_af_planBricks_5 : decode (mcode M_af_planBricks) 5 = .ok (.invokestatic 76, 3) := by decide +kernel
theorem d_af_planBricks_8 : decode (mcode M_af_planBricks) 8 = .ok (.ifCond .ne 5, 3) := by decide +kernel
theorem d_af_planBricks_11 : decode (mcode M_af_planBricks) 11 = .ok (.iconst 0, 1) := by decide +kernel
theorem d_af_planBricks_12 : decode (mcode M_af_planBricks) 12 = .ok (.ireturn, 1) := by decide +kernel
theorem d_af_planBricks_13 : decode (mcode M_af_planBricks) 13 = .ok (.aload_n 0, 1) := by decide +kernel
theorem d_af_planBricks_14 : decode (mcode M_af_planBricks) 14 = .ok (.getfield 36, 3) := by decide +kernel
theorem d_af_planBricks_17 : decode (mcode M_af_planBricks) 17 = .ok (.invokevirtual 289, 3) := by decide +kernel
theorem d_af_planBricks_20 : decode (mcode M_af_planBricks) 20 = .ok (.iconst 0, 1) := by decide +kernel
theorem d_af_planBricks_21 : decode (mcode M_af_planBricks) 21 = .ok (.istore_n 2, 1) := by decide +kernel
theorem d_af_planBricks_22 : decode (mcode M_af_planBricks) 22 = .ok (.iload_n 2, 1) := by decide +kernel
theorem d_af_planBricks_23 : decode (mcode M_af_planBricks) 23 = .ok (.aload_n 0, 1) := by decide +kernel
theorem d_af_planBricks_24 : decode (mcode M_af_planBricks) 24 = .ok (.getfield 16, 3) := by decide +kernel
theorem d_af_planBricks_27 : decode (mcode M_af_planBricks) 27 = .ok (.invokevirtual 89, 3) := by decide +kernel
theorem d_af_planBricks_30 : decode (mcode M_af_planBricks) 30 = .ok (.if_icmp .ge 74, 3) := by decide +kernel
theorem d_af_planBricks_33 : decode (mcode M_af_planBricks) 33 = .ok (.aload_n 0, 1) := by decide +kernel
theorem d_af_planBricks_34 : decode (mcode M_af_planBricks) 34 = .ok (.getfield 16, 3) := by decide +kernel
theorem d_af_planBricks_37 : decode (mcode M_af_planBricks) 37 = .ok (.iload_n 2, 1) := by decide +kernel
theorem d_af_planBricks_38 : decode (mcode M_af_planBricks) 38 = .ok (.invokevirtual 179, 3) := by decide +kernel
theorem d_af_planBricks_41 : decode (mcode M_af_planBricks) 41 = .ok (.checkcast 93, 3) := by decide +kernel
theorem d_af_planBricks_44 : decode (mcode M_af_planBricks) 44 = .ok (.astore_n 3, 1) := by decide +kernel
theorem d_af_planBricks_45 : decode (mcode M_af_planBricks) 45 = .ok (.aload_n 3, 1) := by decide +kernel
theorem d_af_planBricks_46 : decode (mcode M_af_planBricks) 46 = .ok (.getfield 110, 3) := by decide +kernel
theorem d_af_planBricks_49 : decode (mcode M_af_planBricks) 49 = .ok (.ifCond .ne 49, 3) := by decide +kernel
theorem d_af_planBricks_52 : decode (mcode M_af_planBricks) 52 = .ok (.aload_n 3, 1) := by decide +kernel
theorem d_af_planBricks_53 : decode (mcode M_af_planBricks) 53 = .ok (.getfield 196, 3) := by decide +kernel
theorem d_af_planBricks_56 : decode (mcode M_af_planBricks) 56 = .ok (.iconst (-1), 1) := by decide +kernel
theorem d_af_planBricks_57 : decode (mcode M_af_planBricks) 57 = .ok (.if_icmp .ne 10, 3) := by decide +kernel
theorem d_af_planBricks_60 : decode (mcode M_af_planBricks) 60 = .ok (.aload_n 0, 1) := by decide +kernel
theorem d_af_planBricks_61 : decode (mcode M_af_planBricks) 61 = .ok (.getfield 64, 3) := by decide +kernel
theorem d_af_planBricks_64 : decode (mcode M_af_planBricks) 64 = .ok (.goto 7, 3) := by decide +kernel
theorem d_af_planBricks_67 : decode (mcode M_af_planBricks) 67 = .ok (.aload_n 3, 1) := by decide +kernel
theorem d_af_planBricks_68 : decode (mcode M_af_planBricks) 68 = .ok (.getfield 196, 3) := by decide +kernel
theorem d_af_planBricks_71 : decode (mcode M_af_planBricks) 71 = .ok (.istore 4, 2) := by decide +kernel
theorem d_af_planBricks_73 : decode (mcode M_af_planBricks) 73 = .ok (.aload_n 0, 1) := by decide +kernel
theorem d_af_planBricks_74 : decode (mcode M_af_planBricks) 74 = .ok (.getfield 36, 3) := by decide +kernel
theorem d_af_planBricks_77 : decode (mcode M_af_planBricks) 77 = .ok (.iload_n 2, 1) := by decide +kernel
theorem d_af_planBricks_78 : decode (mcode M_af_planBricks) 78 = .ok (.aload_n 3, 1) := by decide +kernel
theorem d_af_planBricks_79 : decode (mcode M_af_planBricks) 79 = .ok (.iload_n 1, 1) := by decide +kernel
theorem d_af_planBricks_80 : decode (mcode M_af_planBricks) 80 = .ok (.iload 4, 2) := by decide +kernel
theorem d_af_planBricks_82 : decode (mcode M_af_planBricks) 82 = .ok (.aload_n 0, 1) := by decide +kernel
theorem d_af_planBricks_83 : decode (mcode M_af_planBricks) 83 = .ok (.getfield 54, 3) := by decide +kernel
theorem d_af_planBricks_86 : decode (mcode M_af_planBricks) 86 = .ok (.isub, 1) := by decide +kernel
theorem d_af_planBricks_87 : decode (mcode M_af_planBricks) 87 = .ok (.iconst 1, 1) := by decide +kernel
theorem d_af_planBricks_88 : decode (mcode M_af_planBricks) 88 = .ok (.iadd, 1) := by decide +kernel
theorem d_af_planBricks_89 : decode (mcode M_af_planBricks) 89 = .ok (.imul, 1) := by decide +kernel
theorem d_af_planBricks_90 : decode (mcode M_af_planBricks) 90 = .ok (.invokevirtual 292, 3) := by decide +kernel
theorem d_af_planBricks_93 : decode (mcode M_af_planBricks) 93 = .ok (.ifCond .ne 5, 3) := by decide +kernel
theorem d_af_planBricks_96 : decode (mcode M_af_planBricks) 96 = .ok (.iconst 0, 1) := by decide +kernel
theorem d_af_planBricks_97 : decode (mcode M_af_planBricks) 97 = .ok (.ireturn, 1) := by decide +kernel
theorem d_af_planBricks_98 : decode (mcode M_af_planBricks) 98 = .ok (.iinc 2 1, 3) := by decide +kernel
theorem d_af_planBricks_101 : decode (mcode M_af_planBricks) 101 = .ok (.goto (-79), 3) := by decide +kernel
theorem d_af_planBricks_104 : decode (mcode M_af_planBricks) 104 = .ok (.aload_n 0, 1) := by decide +kernel
theorem d_af_planBricks_105 : decode (mcode M_af_planBricks) 105 = .ok (.getfield 36, 3) := by decide +kernel
theorem d_af_planBricks_108 : decode (mcode M_af_planBricks) 108 = .ok (.invokevirtual 295, 3) := by decide +kernel
theorem d_af_planBricks_111 : decode (mcode M_af_planBricks) 111 = .ok (.iconst 1, 1) := by decide +kernel
theorem d_af_planBricks_112 : decode (mcode M_af_planBricks) 112 = .ok (.ireturn, 1) := by decide +kernel
theorem d_md_init_0 : decode (mcode M_md_init) 0 = .ok (.aload_n 0, 1) := by decide +kernel
theorem d_md_init_1 : decode (mcode M_md_init) 1 = .ok (.invokespecial 1, 3) := by decide +kernel
theorem d_md_init_4 : decode (mcode M_md_init) 4 = .ok (.aload_n 0, 1) := by decide +kernel
theorem d_md_init_5 : decode (mcode M_md_init) 5 = .ok (.bipush 20, 2) := by decide +kernel
theorem d_md_init_7 : decode (mcode M_md_init) 7 = .ok (.newarray .int, 2) := by decide +kernel
theorem d_md_init_9 : decode (mcode M_md_init) 9 = .ok (.putfield 9, 3) := by decide +kernel
theorem d_md_init_12 : decode (mcode M_md_init) 12 = .ok (.aload_n 0, 1) := by decide +kernel
theorem d_md_init_13 : decode (mcode M_md_init) 13 = .ok (.bipush 24, 2) := by decide +kernel
theorem d_md_init_15 : decode (mcode M_md_init) 15 = .ok (.newarray .int, 2) := by decide +kernel
theorem d_md_init_17 : decode (mcode M_md_init) 17 = .ok (.putfield 13, 3) := by decide +kernel
theorem d_md_init_20 : decode (mcode M_md_init) 20 = .ok (.aload_n 0, 1) := by decide +kernel
theorem d_md_init_21 : decode (mcode M_md_init) 21 = .ok (.bipush 24, 2) := by decide +kernel
theorem d_md_init_23 : decode (mcode M_md_init) 23 = .ok (.newarray .int, 2) := by decide +kernel
theorem d_md_init_25 : decode (mcode M_md_init) 25 = .ok (.putfield 16, 3) := by decide +kernel
theorem d_md_init_28 : decode (mcode M_md_init) 28 = .ok (.aload_n 0, 1) := by decide +kernel
theorem d_md_init_29 : decode (mcode M_md_init) 29 = .ok (.bipush 24, 2) := by decide +kernel
theorem d_md_init_31 : decode (mcode M_md_init) 31 = .ok (.newarray .int, 2) := by decide +kernel
theorem d_md_init_33 : decode (mcode M_md_init) 33 = .ok (.putfield 19, 3) := by decide +kernel
theorem d_md_init_36 : decode (mcode M_md_init) 36 = .ok (.aload_n 0, 1) := by decide +kernel
theorem d_md_init_37 : decode (mcode M_md_init) 37 = .ok (.bipush 24, 2) := by decide +kernel
theorem d_md_init_39 : decode (mcode M_md_init) 39 = .ok (.newarray .int, 2) := by decide +kernel
theorem d_md_init_41 : decode (mcode M_md_init) 41 = .ok (.putfield 22, 3) := by decide +kernel
theorem d_md_init_44 : decode (mcode M_md_init) 44 = .ok (.aload_n 0, 1) := by decide +kernel
theorem d_md_init_45 : decode (mcode M_md_init) 45 = .ok (.bipush 24, 2) := by decide +kernel
theorem d_md_init_47 : decode (mcode M_md_init) 47 = .ok (.newarray .int, 2) := by decide +kernel
theorem d_md_init_49 : decode (mcode M_md_init) 49 = .ok (.putfield 25, 3) := by decide +kernel
theorem d_md_init_52 : decode (mcode M_md_init) 52 = .ok (.aload_n 0, 1) := by decide +kernel
theorem d_md_init_53 : decode (mcode M_md_init) 53 = .ok (.bipush 96, 2) := by decide +kernel
theorem d_md_init_55 : decode (mcode M_md_init) 55 = .ok (.newarray .int, 2) := by decide +kernel
theorem d_md_init_57 : decode (mcode M_md_init) 57 = .ok (.putfield 28, 3) := by decide +kernel
theorem d_md_init_60 : decode (mcode M_md_init) 60 = .ok (.aload_n 0, 1) := by decide +kernel
theorem d_md_init_61 : decode (mcode M_md_init) 61 = .ok (.bipush 96, 2) := by decide +kernel
theorem d_md_init_63 : decode (mcode M_md_init) 63 = .ok (.newarray .int, 2) := by decide +kernel
theorem d_md_init_65 : decode (mcode M_md_init) 65 = .ok (.putfield 31, 3) := by decide +kernel
theorem d_md_init_68 : decode (mcode M_md_init) 68 = .ok (.aload_n 0, 1) := by decide +kernel
theorem d_md_init_69 : decode (mcode M_md_init) 69 = .ok (.bipush 96, 2) := by decide +kernel
theorem d_md_init_71 : decode (mcode M_md_init) 71 = .ok (.newarray .int, 2) := by decide +kernel
theorem d_md_init_73 : decode (mcode M_md_init) 73 = .ok (.putfield 34, 3) := by decide +kernel
theorem d_md_init_76 : decode (mcode M_md_init) 76 = .ok (.aload_n 0, 1) := by decide +kernel
theorem d_md_init_77 : decode (mcode M_md_init) 77 = .ok (.bipush 24, 2) := by decide +kernel
theorem d_md_init_79 : decode (mcode M_md_init) 79 = .ok (.newarray .int, 2) := by decide +kernel
theorem d_md_init_81 : decode (mcode M_md_init) 81 = .ok (.putfield 37, 3) := by decide +kernel
theorem d_md_init_84 : decode (mcode M_md_init) 84 = .ok (.aload_n 0, 1) := by decide +kernel
theorem d_md_init_85 : decode (mcode M_md_init) 85 = .ok (.bipush 24, 2) := by decide +kernel
theorem d_md_init_87 : decode (mcode M_md_init) 87 = .ok (.newarray .int, 2) := by decide +kernel
theorem d_md_init_89 : decode (mcode M_md_init) 89 = .ok (.putfield 40, 3) := by decide +kernel
theorem d_md_init_92 : decode (mcode M_md_init) 92 = .ok (.aload_n 0, 1) := by decide +kernel
theorem d_md_init_93 : decode (mcode M_md_init) 93 = .ok (.bipush 24, 2) := by decide +kernel
theorem d_md_init_95 : decode (mcode M_md_init) 95 = .ok (.newarray .int, 2) := by decide +kernel
theorem d_md_init_97 : decode (mcode M_md_init) 97 = .ok (.putfield 43, 3) := by decide +kernel
theorem d_md_init_100 : decode (mcode M_md_init) 100 = .ok (.aload_n 0, 1) := by decide +kernel
theorem d_md_init_101 : decode (mcode M_md_init) 101 = .ok (.bipush 24, 2) := by decide +kernel
theorem d_md_init_103 : decode (mcode M_md_init) 103 = .ok (.newarray .int, 2) := by decide +kernel
theorem d_md_init_105 : decode (mcode M_md_init) 105 = .ok (.putfield 46, 3) := by decide +kernel
theorem d_md_init_108 : decode (mcode M_md_init) 108 = .ok (.aload_n 0, 1) := by decide +kernel
theorem d_md_init_109 : decode (mcode M_md_init) 109 = .ok (.bipush 24, 2) := by decide +kernel
theorem d_md_init_111 : decode (mcode M_md_init) 111 = .ok (.newarray .int, 2) := by decide +kernel
theorem d_md_init_113 : decode (mcode M_md_init) 113 = .ok (.putfield 49, 3) := by decide +kernel
theorem d_md_init_116 : decode (mcode M_md_init) 116 = .ok (.aload_n 0, 1) := by decide +kernel
theorem d_md_init_117 : decode (mcode M_md_init) 117 = .ok (.iconst 2, 1) := by decide +kernel
theorem d_md_init_118 : decode (mcode M_md_init) 118 = .ok (.putfield 52, 3) := by decide +kernel
theorem d_md_init_121 : decode (mcode M_md_init) 121 = .ok (.aload_n 0, 1) := by decide +kernel
theorem d_md_init_122 : decode (mcode M_md_init) 122 = .ok (.iconst 3, 1) := by decide +kernel
theorem d_md_init_123 : decode (mcode M_md_init) 123 = .ok (.putfield 56, 3) := by decide +kernel
theorem d_md_init_126 : decode (mcode M_md_init) 126 = .ok (.aload_n 0, 1) := by decide +kernel
theorem d_md_init_127 : decode (mcode M_md_init) 127 = .ok (.bipush 10, 2) := by decide +kernel
theorem d_md_init_129 : decode (mcode M_md_init) 129 = .ok (.putfield 59, 3) := by decide +kernel
theorem d_md_init_132 : decode (mcode M_md_init) 132 = .ok (.aload_n 0, 1) := by decide +kernel
theorem d_md_init_133 : decode (mcode M_md_init) 133 = .ok (.bipush 20, 2) := by decide +kernel
theorem d_md_init_135 : decode (mcode M_md_init) 135 = .ok (.newarray .int, 2) := by decide +kernel
theorem d_md_init_137 : decode (mcode M_md_init) 137 = .ok (.putfield 62, 3) := by decide +kernel
theorem d_md_init_140 : decode (mcode M_md_init) 140 = .ok (.aload_n 0, 1) := by decide +kernel
theorem d_md_init_141 : decode (mcode M_md_init) 141 = .ok (.bipush 48, 2) := by decide +kernel
theorem d_md_init_143 : decode (mcode M_md_init) 143 = .ok (.newarray .int, 2) := by decide +kernel
theorem d_md_init_145 : decode (mcode M_md_init) 145 = .ok (.putfield 65, 3) := by decide +kernel
theorem d_md_init_148 : decode (mcode M_md_init) 148 = .ok (.aload_n 0, 1) := by decide +kernel
theorem d_md_init_149 : decode (mcode M_md_init) 149 = .ok (.iconst 4, 1) := by decide +kernel
theorem d_md_init_150 : decode (mcode M_md_init) 150 = .ok (.newarray .int, 2) := by decide +kernel
theorem d_md_init_152 : decode (mcode M_md_init) 152 = .ok (.putfield 68, 3) := by decide +kernel
theorem d_md_init_155 : decode (mcode M_md_init) 155 = .ok (.aload_n 0, 1) := by decide +kernel
theorem d_md_init_156 : decode (mcode M_md_init) 156 = .ok (.iconst 4, 1) := by decide +kernel
theorem d_md_init_157 : decode (mcode M_md_init) 157 = .ok (.newarray .long, 2) := by decide +kernel
theorem d_md_init_159 : decode (mcode M_md_init) 159 = .ok (.putfield 71, 3) := by decide +kernel
theorem d_md_init_162 : decode (mcode M_md_init) 162 = .ok (.aload_n 0, 1) := by decide +kernel
theorem d_md_init_163 : decode (mcode M_md_init) 163 = .ok (.bipush 12, 2) := by decide +kernel
theorem d_md_init_165 : decode (mcode M_md_init) 165 = .ok (.newarray .int, 2) := by decide +kernel
theorem d_md_init_167 : decode (mcode M_md_init) 167 = .ok (.putfield 75, 3) := by decide +kernel
theorem d_md_init_170 : decode (mcode M_md_init) 170 = .ok (.aload_n 0, 1) := by decide +kernel
theorem d_md_init_171 : decode (mcode M_md_init) 171 = .ok (.bipush 8, 2) := by decide +kernel
theorem d_md_init_173 : decode (mcode M_md_init) 173 = .ok (.newarray .int, 2) := by decide +kernel
theorem d_md_init_175 : decode (mcode M_md_init) 175 = .ok (.putfield 78, 3) := by decide +kernel
theorem d_md_init_178 : decode (mcode M_md_init) 178 = .ok (.aload_n 0, 1) := by decide +kernel
theorem d_md_init_179 : decode (mcode M_md_init) 179 = .ok (.sipush 2709, 3) := by decide +kernel
theorem d_md_init_182 : decode (mcode M_md_init) 182 = .ok (.newarray .int, 2) := by decide +kernel
theorem d_md_init_184 : decode (mcode M_md_init) 184 = .ok (.putfield 81, 3) := by decide +kernel
theorem d_md_init_187 : decode (mcode M_md_init) 187 = .ok (.iconst 0, 1) := by decide +kernel
theorem d_md_init_188 : decode (mcode M_md_init) 188 = .ok (.istore_n 1, 1) := by decide +kernel
theorem d_md_init_189 : decode (mcode M_md_init) 189 = .ok (.iload_n 1, 1) := by decide +kernel
theorem d_md_init_190 : decode (mcode M_md_init) 190 = .ok (.bipush 48, 2) := by decide +kernel
theorem d_md_init_192 : decode (mcode M_md_init) 192 = .ok (.if_icmp .ge 16, 3) := by decide +kernel
theorem d_md_init_195 : decode (mcode M_md_init) 195 = .ok (.aload_n 0, 1) := by decide +kernel
theorem d_md_init_196 : decode (mcode M_md_init) 196 = .ok (.getfield 65, 3) := by decide +kernel
theorem d_md_init_199 : decode (mcode M_md_init) 199 = .ok (.iload_n 1, 1) := by decide +kernel
theorem d_md_init_200 : decode (mcode M_md_init) 200 = .ok (.iconst (-1), 1) := by decide +kernel
theorem d_md_init_201 : decode (mcode M_md_init) 201 = .ok (.iastore, 1) := by decide +kernel
theorem d_md_init_202 : decode (mcode M_md_init) 202 = .ok (.iinc 1 1, 3) := by decide +kernel
theorem d_md_init_205 : decode (mcode M_md_init) 205 = .ok (.goto (-16), 3) := by decide +kernel
theorem d_md_init_208 : decode (mcode M_md_init) 208 = .ok (.return_, 1) := by decide +kernel
theorem d_md_in_0 : decode (mcode M_md_in) 0 = .ok (.iload_n 0, 1) := by decide +kernel
theorem d_md_in_1 : decode (mcode M_md_in) 1 = .ok (.iload_n 1, 1) := by decide +kernel
theorem d_md_in_2 : decode (mcode M_md_in) 2 = .ok (.if_icmp .lt 12, 3) := by decide +kernel
theorem d_md_in_5 : decode (mcode M_md_in) 5 = .ok (.iload_n 0, 1) := by decide +kernel
theorem d_md_in_6 : decode (mcode M_md_in) 6 = .ok (.iload_n 2, 1) := by decide +kernel
theorem d_md_in_7 : decode (mcode M_md_in) 7 = .ok (.if_icmp .gt 7, 3) := by decide +kernel
theorem d_md_in_10 : decode (mcode M_md_in) 10 = .ok (.iconst 1, 1) := by decide +kernel
theorem d_md_in_11 : decode (mcode M_md_in) 11 = .ok (.goto 4, 3) := by decide +kernel
theorem d_md_in_14 : decode (mcode M_md_in) 14 = .ok (.iconst 0, 1) := by decide +kernel
theorem d_md_in_15 : decode (mcode M_md_in) 15 = .ok (.ireturn, 1) := by decide +kernel
theorem d_md_isPlot_0 : decode (mcode M_md_isPlot) 0 = .ok (.iload_n 1, 1) := by decide +kernel
theorem d_md_isPlot_1 : decode (mcode M_md_isPlot) 1 = .ok (.iconst 0, 1) := by decide +kernel
theorem d_md_isPlot_2 : decode (mcode M_md_isPlot) 2 = .ok (.aload_n 0, 1) := by decide +kernel
theorem d_md_isPlot_3 : decode (mcode M_md_isPlot) 3 = .ok (.getfield 84, 3) := by decide +kernel
theorem d_md_isPlot_6 : decode (mcode M_md_isPlot) 6 = .ok (.iconst 1, 1) := by decide +kernel
theorem d_md_isPlot_7 : decode (mcode M_md_isPlot) 7 = .ok (.isub, 1) := by decide +kernel
theorem d_md_isPlot_8 : decode (mcode M_md_isPlot) 8 = .ok (.invokestatic 87, 3) := by decide +kernel
theorem d_md_isPlot_11 : decode (mcode M_md_isPlot) 11 = .ok (.ireturn, 1) := by decide +kernel
theorem d_md_isStreet_0 : decode (mcode M_md_isStreet) 0 = .ok (.iload_n 0, 1) := by decide +kernel
theorem d_md_isStreet_1 : decode (mcode M_md_isStreet) 1 = .ok (.iconst 0, 1) := by decide +kernel
theorem d_md_isStreet_2 : decode (mcode M_md_isStreet) 2 = .ok (.iconst 5, 1) := by decide +kernel
theorem d_md_isStreet_3 : decode (mcode M_md_isStreet) 3 = .ok (.invokestatic 87, 3) := by decide +kernel
theorem d_md_isStreet_6 : decode (mcode M_md_isStreet) 6 = .ok (.ireturn, 1) := by decide +kernel
theorem d_md_isGone_0 : decode (mcode M_md_isGone) 0 = .ok (.aload_n 0, 1) := by decide +kernel
theorem d_md_isGone_1 : decode (mcode M_md_isGone) 1 = .ok (.getfield 22, 3) := by decide +kernel
theorem d_md_isGone_4 : decode (mcode M_md_isGone) 4 = .ok (.iload_n 1, 1) := by decide +kernel
theorem d_md_isGone_5 : decode (mcode M_md_isGone) 5 = .ok (.iaload, 1) := by decide +kernel
theorem d_md_isGone_6 : decode (mcode M_md_isGone) 6 = .ok (.iconst 2, 1) := by decide +kernel
theorem d_md_isGone_7 : decode (mcode M_md_isGone) 7 = .ok (.if_icmp .eq 13, 3) := by decide +kernel
theorem d_md_isGone_10 : decode (mcode M_md_isGone) 10 = .ok (.aload_n 0, 1) := by decide +kernel
theorem d_md_isGone_11 : decode (mcode M_md_isGone) 11 = .ok (.getfield 22, 3) := by decide +kernel
theorem d_md_isGone_14 : decode (mcode M_md_isGone) 14 = .ok (.iload_n 1, 1) := by decide +kernel
theorem d_md_isGone_15 : decode (mcode M_md_isGone) 15 = .ok (.iaload, 1) := by decide +kernel
theorem d_md_isGone_16 : decode (mcode M_md_isGone) 16 = .ok (.iconst 3, 1) := by decide +kernel
theorem d_md_isGone_17 : decode (mcode M_md_isGone) 17 = .ok (.if_icmp .ne 7, 3) := by decide +kernel
theorem d_md_isGone_20 : decode (mcode M_md_isGone) 20 = .ok (.iconst 1, 1) := by decide +kernel
theorem d_md_isGone_21 : decode (mcode M_md_isGone) 21 = .ok (.goto 4, 3) := by decide +kernel
theorem d_md_isGone_24 : decode (mcode M_md_isGone) 24 = .ok (.iconst 0, 1) := by decide +kernel
theorem d_md_isGone_25 : decode (mcode M_md_isGone) 25 = .ok (.ireturn, 1) := by decide +kernel
theorem d_md_coins_0 : decode (mcode M_md_coins) 0 = .ok (.iload_n 1, 1) := by decide +kernel
theorem d_md_coins_1 : decode (mcode M_md_coins) 1 = .ok (.iconst 0, 1) := by decide +kernel
theorem d_md_coins_2 : decode (mcode M_md_coins) 2 = .ok (.bipush 19, 2) := by decide +kernel
theorem d_md_coins_4 : decode (mcode M_md_coins) 4 = .ok (.invokestatic 87, 3) := by decide +kernel
theorem d_md_coins_7 : decode (mcode M_md_coins) 7 = .ok (.ifCond .eq 13, 3) := by decide +kernel
theorem d_md_coins_10 : decode (mcode M_md_coins) 10 = .ok (.iload_n 2, 1) := by decide +kernel
theorem d_md_coins_11 : decode (mcode M_md_coins) 11 = .ok (.iconst 1, 1) := by decide +kernel
theorem d_md_coins_12 : decode (mcode M_md_coins) 12 = .ok (.ldc 91, 2) := by decide +kernel
theorem d_md_coins_14 : decode (mcode M_md_coins) 14 = .ok (.invokestatic 87, 3) := by decide +kernel
theorem d_md_coins_17 : decode (mcode M_md_coins) 17 = .ok (.ifCond .ne 6, 3) := by decide +kernel
theorem d_md_coins_20 : decode (mcode M_md_coins) 20 = .ok (.ldc 92, 2) := by decide +kernel
theorem d_md_coins_22 : decode (mcode M_md_coins) 22 = .ok (.ireturn, 1) := by decide +kernel
theorem d_md_coins_23 : decode (mcode M_md_coins) 23 = .ok (.aload_n 0, 1) := by decide +kernel
theorem d_md_coins_24 : decode (mcode M_md_coins) 24 = .ok (.getfield 9, 3) := by decide +kernel
theorem d_md_coins_27 : decode (mcode M_md_coins) 27 = .ok (.iload_n 1, 1) := by decide +kernel
theorem d_md_coins_28 : decode (mcode M_md_coins) 28 = .ok (.dup2, 1) := by decide +kernel
theorem d_md_coins_29 : decode (mcode M_md_coins) 29 = .ok (.iaload, 1) := by decide +kernel
theorem d_md_coins_30 : decode (mcode M_md_coins) 30 = .ok (.iload_n 2, 1) := by decide +kernel
theorem d_md_coins_31 : decode (mcode M_md_coins) 31 = .ok (.iadd, 1) := by decide +kernel
theorem d_md_coins_32 : decode (mcode M_md_coins) 32 = .ok (.iastore, 1) := by decide +kernel
theorem d_md_coins_33 : decode (mcode M_md_coins) 33 = .ok (.aload_n 0, 1) := by decide +kernel
theorem d_md_coins_34 : decode (mcode M_md_coins) 34 = .ok (.getfield 9, 3) := by decide +kernel
theorem d_md_coins_37 : decode (mcode M_md_coins) 37 = .ok (.iload_n 1, 1) := by decide +kernel
theorem d_md_coins_38 : decode (mcode M_md_coins) 38 = .ok (.iaload, 1) := by decide +kernel
theorem d_md_coins_39 : decode (mcode M_md_coins) 39 = .ok (.ireturn, 1) := by decide +kernel
theorem d_md_onStreet_0 : decode (mcode M_md_onStreet) 0 = .ok (.iconst 0, 1) := by decide +kernel
theorem d_md_onStreet_1 : decode (mcode M_md_onStreet) 1 = .ok (.istore_n 2, 1) := by decide +kernel
theorem d_md_onStreet_2 : decode (mcode M_md_onStreet) 2 = .ok (.iconst 0, 1) := by decide +kernel
theorem d_md_onStreet_3 : decode (mcode M_md_onStreet) 3 = .ok (.istore_n 3, 1) := by decide +kernel
theorem d_md_onStreet_4 : decode (mcode M_md_onStreet) 4 = .ok (.iload_n 3, 1) := by decide +kernel
theorem d_md_onStreet_5 : decode (mcode M_md_onStreet) 5 = .ok (.aload_n 0, 1) := by decide +kernel
theorem d_md_onStreet_6 : decode (mcode M_md_onStreet) 6 = .ok (.getfield 84, 3) := by decide +kernel
theorem d_md_onStreet_9 : decode (mcode M_md_onStreet) 9 = .ok (.if_icmp .ge 27, 3) := by decide +kernel
theorem d_md_onStreet_12 : decode (mcode M_md_onStreet) 12 = .ok (.iload_n 2, 1) := by decide +kernel
theorem d_md_onStreet_13 : decode (mcode M_md_onStreet) 13 = .ok (.aload_n 0, 1) := by decide +kernel
theorem d_md_onStreet_14 : decode (mcode M_md_onStreet) 14 = .ok (.getfield 13, 3) := by decide +kernel
theorem d_md_onStreet_17 : decode (mcode M_md_onStreet) 17 = .ok (.iload_n 3, 1) := by decide +kernel
theorem d_md_onStreet_18 : decode (mcode M_md_onStreet) 18 = .ok (.iaload, 1) := by decide +kernel
theorem d_md_onStreet_19 : decode (mcode M_md_onStreet) 19 = .ok (.iload_n 1, 1) := by decide +kernel
theorem d_md_onStreet_20 : decode (mcode M_md_onStreet) 20 = .ok (.if_icmp .ne 7, 3) := by decide +kernel
theorem d_md_onStreet_23 : decode (mcode M_md_onStreet) 23 = .ok (.iconst 1, 1) := by decide +kernel
theorem d_md_onStreet_24 : decode (mcode M_md_onStreet) 24 = .ok (.goto 4, 3) := by decide +kernel
theorem d_md_onStreet_27 : decode (mcode M_md_onStreet) 27 = .ok (.iconst 0, 1) := by decide +kernel
theorem d_md_onStreet_28 : decode (mcode M_md_onStreet) 28 = .ok (.iadd, 1) := by decide +kernel
theorem d_md_onStreet_29 : decode (mcode M_md_onStreet) 29 = .ok (.istore_n 2, 1) := by decide +kernel
theorem d_md_onStreet_30 : decode (mcode M_md_onStreet) 30 = .ok (.iinc 3 1, 3) := by decide +kernel
theorem d_md_onStreet_33 : decode (mcode M_md_onStreet) 33 = .ok (.goto (-29), 3) := by decide +kernel
theorem d_md_onStreet_36 : decode (mcode M_md_onStreet) 36 = .ok (.iload_n 2, 1) := by decide +kernel
theorem d_md_onStreet_37 : decode (mcode M_md_onStreet) 37 = .ok (.ireturn, 1) := by decide +kernel
theorem d_md_plot_0 : decode (mcode M_md_plot) 0 = .ok (.iload_n 1, 1) := by decide +kernel
theorem d_md_plot_1 : decode (mcode M_md_plot) 1 = .ok (.invokestatic 93, 3) := by decide +kernel
theorem d_md_plot_4 : decode (mcode M_md_plot) 4 = .ok (.ifCond .eq 62, 3) := by decide +kernel
theorem d_md_plot_7 : decode (mcode M_md_plot) 7 = .ok (.iload_n 3, 1) := by decide +kernel
theorem d_md_plot_8 : decode (mcode M_md_plot) 8 = .ok (.iconst 0, 1) := by decide +kernel
theorem d_md_plot_9 : decode (mcode M_md_plot) 9 = .ok (.bipush 19, 2) := by decide +kernel
theorem d_md_plot_11 : decode (mcode M_md_plot) 11 = .ok (.invokestatic 87, 3) := by decide +kernel
theorem d_md_plot_14 : decode (mcode M_md_plot) 14 = .ok (.ifCond .eq 52, 3) := by decide +kernel
theorem d_md_plot_17 : decode (mcode M_md_plot) 17 = .ok (.iload_n 2, 1) := by decide +kernel
theorem d_md_plot_18 : decode (mcode M_md_plot) 18 = .ok (.sipush 1000, 3) := by decide +kernel
theorem d_md_plot_21 : decode (mcode M_md_plot) 21 = .ok (.idiv, 1) := by decide +kernel
theorem d_md_plot_22 : decode (mcode M_md_plot) 22 = .ok (.bipush 10, 2) := by decide +kernel
theorem d_md_plot_24 : decode (mcode M_md_plot) 24 = .ok (.bipush 60, 2) := by decide +kernel
theorem d_md_plot_26 : decode (mcode M_md_plot) 26 = .ok (.invokestatic 87, 3) := by decide +kernel
theorem d_md_plot_29 : decode (mcode M_md_plot) 29 = .ok (.ifCond .eq 37, 3) := by decide +kernel
theorem d_md_plot_32 : decode (mcode M_md_plot) 32 = .ok (.iload_n 2, 1) := by decide +kernel
theorem d_md_plot_33 : decode (mcode M_md_plot) 33 = .ok (.sipush 1000, 3) := by decide +kernel
theorem d_md_plot_36 : decode (mcode M_md_plot) 36 = .ok (.irem, 1) := by decide +kernel
theorem d_md_plot_37 : decode (mcode M_md_plot) 37 = .ok (.bipush 20, 2) := by decide +kernel
theorem d_md_plot_39 : decode (mcode M_md_plot) 39 = .ok (.bipush 100, 2) := by decide +kernel
theorem d_md_plot_41 : decode (mcode M_md_plot) 41 = .ok (.invokestatic 87, 3) := by decide +kernel
theorem d_md_plot_44 : decode (mcode M_md_plot) 44 = .ok (.ifCond .eq 22, 3) := by decide +kernel
theorem d_md_plot_47 : decode (mcode M_md_plot) 47 = .ok (.aload_n 0, 1) := by decide +kernel
theorem d_md_plot_48 : decode (mcode M_md_plot) 48 = .ok (.getfield 84, 3) := by decide +kernel
theorem d_md_plot_51 : decode (mcode M_md_plot) 51 = .ok (.bipush 24, 2) := by decide +kernel
theorem d_md_plot_53 : decode (mcode M_md_plot) 53 = .ok (.if_icmp .eq 13, 3) := by decide +kernel
theorem d_md_plot_56 : decode (mcode M_md_plot) 56 = .ok (.aload_n 0, 1) := by decide +kernel
theorem d_md_plot_57 : decode (mcode M_md_plot) 57 = .ok (.iload_n 1, 1) := by decide +kernel
theorem d_md_plot_58 : decode (mcode M_md_plot) 58 = .ok (.invokevirtual 97, 3) := by decide +kernel
theorem d_md_plot_61 : decode (mcode M_md_plot) 61 = .ok (.bipush 8, 2) := by decide +kernel
theorem d_md_plot_63 : decode (mcode M_md_plot) 63 = .ok (.if_icmp .ne 5, 3) := by decide +kernel
theorem d_md_plot_66 : decode (mcode M_md_plot) 66 = .ok (.iconst (-1), 1) := by decide +kernel
theorem d_md_plot_67 : decode (mcode M_md_plot) 67 = .ok (.ireturn, 1) := by decide +kernel
theorem d_md_plot_68 : decode (mcode M_md_plot) 68 = .ok (.aload_n 0, 1) := by decide +kernel
theorem d_md_plot_69 : decode (mcode M_md_plot) 69 = .ok (.getfield 13, 3) := by decide +kernel
theorem d_md_plot_72 : decode (mcode M_md_plot) 72 = .ok (.aload_n 0, 1) := by decide +kernel
theorem d_md_plot_73 : decode (mcode M_md_plot) 73 = .ok (.getfield 84, 3) := by decide +kernel
theorem d_md_plot_76 : decode (mcode M_md_plot) 76 = .ok (.iload_n 1, 1) := by decide +kernel
theorem d_md_plot_77 : decode (mcode M_md_plot) 77 = .ok (.iastore, 1) := by decide +kernel
theorem d_md_plot_78 : decode (mcode M_md_plot) 78 = .ok (.aload_n 0, 1) := by decide +kernel
theorem d_md_plot_79 : decode (mcode M_md_plot) 79 = .ok (.getfield 16, 3) := by decide +kernel
theorem d_md_plot_82 : decode (mcode M_md_plot) 82 = .ok (.aload_n 0, 1) := by decide +kernel
theorem d_md_plot_83 : decode (mcode M_md_plot) 83 = .ok (.getfield 84, 3) := by decide +kernel
theorem d_md_plot_86 : decode (mcode M_md_plot) 86 = .ok (.iload_n 2, 1) := by decide +kernel
theorem d_md_plot_87 : decode (mcode M_md_plot) 87 = .ok (.sipush 1000, 3) := by decide +kernel
theorem d_md_plot_90 : decode (mcode M_md_plot) 90 = .ok (.idiv, 1) := by decide +kernel
theorem d_md_plot_91 : decode (mcode M_md_plot) 91 = .ok (.iastore, 1) := by decide +kernel
theorem d_md_plot_92 : decode (mcode M_md_plot) 92 = .ok (.aload_n 0, 1) := by decide +kernel
theorem d_md_plot_93 : decode (mcode M_md_plot) 93 = .ok (.getfield 19, 3) := by decide +kernel
theorem d_md_plot_96 : decode (mcode M_md_plot) 96 = .ok (.aload_n 0, 1) := by decide +kernel
theorem d_md_plot_97 : decode (mcode M_md_plot) 97 = .ok (.getfield 84, 3) := by decide +kernel
theorem d_md_plot_100 : decode (mcode M_md_plot) 100 = .ok (.iload_n 2, 1) := by decide +kernel
theorem d_md_plot_101 : decode (mcode M_md_plot) 101 = .ok (.sipush 1000, 3) := by decide +kernel
theorem d_md_plot_104 : decode (mcode M_md_plot) 104 = .ok (.irem, 1) := by decide +kernel
theorem d_md_plot_105 : decode (mcode M_md_plot) 105 = .ok (.iastore, 1) := by decide +kernel
theorem d_md_plot_106 : decode (mcode M_md_plot) 106 = .ok (.aload_n 0, 1) := by decide +kernel
theorem d_md_plot_107 : decode (mcode M_md_plot) 107 = .ok (.getfield 28, 3) := by decide +kernel
theorem d_md_plot_110 : decode (mcode M_md_plot) 110 = .ok (.iconst 4, 1) := by decide +kernel
theorem d_md_plot_111 : decode (mcode M_md_plot) 111 = .ok (.aload_n 0, 1) := by decide +kernel
theorem d_md_plot_112 : decode (mcode M_md_plot) 112 = .ok (.getfield 84, 3) := by decide +kernel
theorem d_md_plot_115 : decode (mcode M_md_plot) 115 = .ok (.imul, 1) := by decide +kernel
theorem d_md_plot_116 : decode (mcode M_md_plot) 116 = .ok (.iload_n 3, 1) := by decide +kernel
theorem d_md_plot_117 : decode (mcode M_md_plot) 117 = .ok (.iastore, 1) := by decide +kernel
theorem d_md_plot_118 : decode (mcode M_md_plot) 118 = .ok (.aload_n 0, 1) := by decide +kernel
theorem d_md_plot_119 : decode (mcode M_md_plot) 119 = .ok (.getfield 31, 3) := by decide +kernel
theorem d_md_plot_122 : decode (mcode M_md_plot) 122 = .ok (.iconst 4, 1) := by decide +kernel
theorem d_md_plot_123 : decode (mcode M_md_plot) 123 = .ok (.aload_n 0, 1) := by decide +kernel
theorem d_md_plot_124 : decode (mcode M_md_plot) 124 = .ok (.getfield 84, 3) := by decide +kernel
theorem d_md_plot_127 : decode (mcode M_md_plot) 127 = .ok (.imul, 1) := by decide +kernel
theorem d_md_plot_128 : decode (mcode M_md_plot) 128 = .ok (.bipush 99, 2) := by decide +kernel
theorem d_md_plot_130 : decode (mcode M_md_plot) 130 = .ok (.iastore, 1) := by decide +kernel
theorem d_md_plot_131 : decode (mcode M_md_plot) 131 = .ok (.aload_n 0, 1) := by decide +kernel
theorem d_md_plot_132 : decode (mcode M_md_plot) 132 = .ok (.getfield 37, 3) := by decide +kernel
theorem d_md_plot_135 : decode (mcode M_md_plot) 135 = .ok (.aload_n 0, 1) := by decide +kernel
theorem d_md_plot_136 : decode (mcode M_md_plot) 136 = .ok (.getfield 84, 3) := by decide +kernel
theorem d_md_plot_139 : decode (mcode M_md_plot) 139 = .ok (.iconst (-1), 1) := by decide +kernel
theorem d_md_plot_140 : decode (mcode M_md_plot) 140 = .ok (.iastore, 1) := by decide +kernel
theorem d_md_plot_141 : decode (mcode M_md_plot) 141 = .ok (.aload_n 0, 1) := by decide +kernel
theorem d_md_plot_142 : decode (mcode M_md_plot) 142 = .ok (.getfield 40, 3) := by decide +kernel
theorem d_md_plot_145 : decode (mcode M_md_plot) 145 = .ok (.aload_n 0, 1) := by decide +kernel
