theorem d_md_stake_1 : decode (mcode M_md_stake) 1 = .ok (.invokestatic 93, 3) := by decide +kernel
theorem d_md_stake_4 : decode (mcode M_md_stake) 4 = .ok (.ifCond .eq 24, 3) := by decide +kernel
theorem d_md_stake_7 : decode (mcode M_md_stake) 7 = .ok (.iload_n 2, 1) := by decide +kernel
theorem d_md_stake_8 : decode (mcode M_md_stake) 8 = .ok (.iconst 0, 1) := by decide +kernel
theorem d_md_stake_9 : decode (mcode M_md_stake) 9 = .ok (.bipush 6, 2) := by decide +kernel
theorem d_md_stake_11 : decode (mcode M_md_stake) 11 = .ok (.invokestatic 87, 3) := by decide +kernel
theorem d_md_stake_14 : decode (mcode M_md_stake) 14 = .ok (.ifCond .eq 14, 3) := by decide +kernel
theorem d_md_stake_17 : decode (mcode M_md_stake) 17 = .ok (.iload_n 3, 1) := by decide +kernel
theorem d_md_stake_18 : decode (mcode M_md_stake) 18 = .ok (.iconst (-1), 1) := by decide +kernel
theorem d_md_stake_19 : decode (mcode M_md_stake) 19 = .ok (.sipush 300, 3) := by decide +kernel
theorem d_md_stake_22 : decode (mcode M_md_stake) 22 = .ok (.invokestatic 87, 3) := by decide +kernel
theorem d_md_stake_25 : decode (mcode M_md_stake) 25 = .ok (.ifCond .ne 5, 3) := by decide +kernel
theorem d_md_stake_28 : decode (mcode M_md_stake) 28 = .ok (.iconst 0, 1) := by decide +kernel
theorem d_md_stake_29 : decode (mcode M_md_stake) 29 = .ok (.ireturn, 1) := by decide +kernel
theorem d_md_stake_30 : decode (mcode M_md_stake) 30 = .ok (.aload_n 0, 1) := by decide +kernel
theorem d_md_stake_31 : decode (mcode M_md_stake) 31 = .ok (.getfield 65, 3) := by decide +kernel
theorem d_md_stake_34 : decode (mcode M_md_stake) 34 = .ok (.bipush 8, 2) := by decide +kernel
theorem d_md_stake_36 : decode (mcode M_md_stake) 36 = .ok (.iload_n 1, 1) := by decide +kernel
theorem d_md_stake_37 : decode (mcode M_md_stake) 37 = .ok (.imul, 1) := by decide +kernel
theorem d_md_stake_38 : decode (mcode M_md_stake) 38 = .ok (.iload_n 2, 1) := by decide +kernel
theorem d_md_stake_39 : decode (mcode M_md_stake) 39 = .ok (.iadd, 1) := by decide +kernel
theorem d_md_stake_40 : decode (mcode M_md_stake) 40 = .ok (.iload_n 3, 1) := by decide +kernel
theorem d_md_stake_41 : decode (mcode M_md_stake) 41 = .ok (.iastore, 1) := by decide +kernel
theorem d_md_stake_42 : decode (mcode M_md_stake) 42 = .ok (.iconst 1, 1) := by decide +kernel
theorem d_md_stake_43 : decode (mcode M_md_stake) 43 = .ok (.ireturn, 1) := by decide +kernel
theorem d_md_apart_0 : decode (mcode M_md_apart) 0 = .ok (.iload_n 0, 1) := by decide +kernel
theorem d_md_apart_1 : decode (mcode M_md_apart) 1 = .ok (.iload_n 1, 1) := by decide +kernel
theorem d_md_apart_2 : decode (mcode M_md_apart) 2 = .ok (.if_icmp .ge 9, 3) := by decide +kernel
theorem d_md_apart_5 : decode (mcode M_md_apart) 5 = .ok (.iload_n 1, 1) := by decide +kernel
theorem d_md_apart_6 : decode (mcode M_md_apart) 6 = .ok (.iload_n 0, 1) := by decide +kernel
theorem d_md_apart_7 : decode (mcode M_md_apart) 7 = .ok (.isub, 1) := by decide +kernel
theorem d_md_apart_8 : decode (mcode M_md_apart) 8 = .ok (.goto 6, 3) := by decide +kernel
theorem d_md_apart_11 : decode (mcode M_md_apart) 11 = .ok (.iload_n 0, 1) := by decide +kernel
theorem d_md_apart_12 : decode (mcode M_md_apart) 12 = .ok (.iload_n 1, 1) := by decide +kernel
theorem d_md_apart_13 : decode (mcode M_md_apart) 13 = .ok (.isub, 1) := by decide +kernel
theorem d_md_apart_14 : decode (mcode M_md_apart) 14 = .ok (.ireturn, 1) := by decide +kernel
theorem d_md_quarrels_0 : decode (mcode M_md_quarrels) 0 = .ok (.iload_n 1, 1) := by decide +kernel
theorem d_md_quarrels_1 : decode (mcode M_md_quarrels) 1 = .ok (.invokestatic 93, 3) := by decide +kernel
theorem d_md_quarrels_4 : decode (mcode M_md_quarrels) 4 = .ok (.ifCond .ne 5, 3) := by decide +kernel
theorem d_md_quarrels_7 : decode (mcode M_md_quarrels) 7 = .ok (.iconst (-1), 1) := by decide +kernel
theorem d_md_quarrels_8 : decode (mcode M_md_quarrels) 8 = .ok (.ireturn, 1) := by decide +kernel
theorem d_md_quarrels_9 : decode (mcode M_md_quarrels) 9 = .ok (.iconst 0, 1) := by decide +kernel
theorem d_md_quarrels_10 : decode (mcode M_md_quarrels) 10 = .ok (.istore_n 3, 1) := by decide +kernel
theorem d_md_quarrels_11 : decode (mcode M_md_quarrels) 11 = .ok (.iconst 0, 1) := by decide +kernel
theorem d_md_quarrels_12 : decode (mcode M_md_quarrels) 12 = .ok (.istore 4, 2) := by decide +kernel
theorem d_md_quarrels_14 : decode (mcode M_md_quarrels) 14 = .ok (.iload 4, 2) := by decide +kernel
theorem d_md_quarrels_16 : decode (mcode M_md_quarrels) 16 = .ok (.aload_n 0, 1) := by decide +kernel
theorem d_md_quarrels_17 : decode (mcode M_md_quarrels) 17 = .ok (.getfield 84, 3) := by decide +kernel
theorem d_md_quarrels_20 : decode (mcode M_md_quarrels) 20 = .ok (.if_icmp .ge 39, 3) := by decide +kernel
theorem d_md_quarrels_23 : decode (mcode M_md_quarrels) 23 = .ok (.aload_n 0, 1) := by decide +kernel
theorem d_md_quarrels_24 : decode (mcode M_md_quarrels) 24 = .ok (.getfield 13, 3) := by decide +kernel
theorem d_md_quarrels_27 : decode (mcode M_md_quarrels) 27 = .ok (.iload 4, 2) := by decide +kernel
theorem d_md_quarrels_29 : decode (mcode M_md_quarrels) 29 = .ok (.iaload, 1) := by decide +kernel
theorem d_md_quarrels_30 : decode (mcode M_md_quarrels) 30 = .ok (.iload_n 1, 1) := by decide +kernel
theorem d_md_quarrels_31 : decode (mcode M_md_quarrels) 31 = .ok (.if_icmp .eq 6, 3) := by decide +kernel
theorem d_md_quarrels_34 : decode (mcode M_md_quarrels) 34 = .ok (.goto 19, 3) := by decide +kernel
theorem d_md_quarrels_37 : decode (mcode M_md_quarrels) 37 = .ok (.aload_n 0, 1) := by decide +kernel
theorem d_md_quarrels_38 : decode (mcode M_md_quarrels) 38 = .ok (.getfield 78, 3) := by decide +kernel
theorem d_md_quarrels_41 : decode (mcode M_md_quarrels) 41 = .ok (.iload_n 3, 1) := by decide +kernel
theorem d_md_quarrels_42 : decode (mcode M_md_quarrels) 42 = .ok (.aload_n 0, 1) := by decide +kernel
theorem d_md_quarrels_43 : decode (mcode M_md_quarrels) 43 = .ok (.getfield 16, 3) := by decide +kernel
theorem d_md_quarrels_46 : decode (mcode M_md_quarrels) 46 = .ok (.iload 4, 2) := by decide +kernel
theorem d_md_quarrels_48 : decode (mcode M_md_quarrels) 48 = .ok (.iaload, 1) := by decide +kernel
theorem d_md_quarrels_49 : decode (mcode M_md_quarrels) 49 = .ok (.iastore, 1) := by decide +kernel
theorem d_md_quarrels_50 : decode (mcode M_md_quarrels) 50 = .ok (.iinc 3 1, 3) := by decide +kernel
theorem d_md_quarrels_53 : decode (mcode M_md_quarrels) 53 = .ok (.iinc 4 1, 3) := by decide +kernel
theorem d_md_quarrels_56 : decode (mcode M_md_quarrels) 56 = .ok (.goto (-42), 3) := by decide +kernel
theorem d_md_quarrels_59 : decode (mcode M_md_quarrels) 59 = .ok (.iload_n 3, 1) := by decide +kernel
theorem d_md_quarrels_60 : decode (mcode M_md_quarrels) 60 = .ok (.ifCond .eq 23, 3) := by decide +kernel
theorem d_md_quarrels_63 : decode (mcode M_md_quarrels) 63 = .ok (.iload_n 2, 1) := by decide +kernel
theorem d_md_quarrels_64 : decode (mcode M_md_quarrels) 64 = .ok (.iload_n 3, 1) := by decide +kernel
theorem d_md_quarrels_65 : decode (mcode M_md_quarrels) 65 = .ok (.iconst 2, 1) := by decide +kernel
theorem d_md_quarrels_66 : decode (mcode M_md_quarrels) 66 = .ok (.if_icmp .le 7, 3) := by decide +kernel
theorem d_md_quarrels_69 : decode (mcode M_md_quarrels) 69 = .ok (.iload_n 3, 1) := by decide +kernel
theorem d_md_quarrels_70 : decode (mcode M_md_quarrels) 70 = .ok (.goto 4, 3) := by decide +kernel
theorem d_md_quarrels_73 : decode (mcode M_md_quarrels) 73 = .ok (.iconst 2, 1) := by decide +kernel
theorem d_md_quarrels_74 : decode (mcode M_md_quarrels) 74 = .ok (.sipush 300, 3) := by decide +kernel
theorem d_md_quarrels_77 : decode (mcode M_md_quarrels) 77 = .ok (.invokestatic 87, 3) := by decide +kernel
theorem d_md_quarrels_80 : decode (mcode M_md_quarrels) 80 = .ok (.ifCond .ne 5, 3) := by decide +kernel
theorem d_md_quarrels_83 : decode (mcode M_md_quarrels) 83 = .ok (.iconst (-1), 1) := by decide +kernel
theorem d_md_quarrels_84 : decode (mcode M_md_quarrels) 84 = .ok (.ireturn, 1) := by decide +kernel
theorem d_md_quarrels_85 : decode (mcode M_md_quarrels) 85 = .ok (.iload_n 3, 1) := by decide +kernel
theorem d_md_quarrels_86 : decode (mcode M_md_quarrels) 86 = .ok (.istore 4, 2) := by decide +kernel
theorem d_md_quarrels_88 : decode (mcode M_md_quarrels) 88 = .ok (.iload 4, 2) := by decide +kernel
theorem d_md_quarrels_90 : decode (mcode M_md_quarrels) 90 = .ok (.ifCond .lt 69, 3) := by decide +kernel
theorem d_md_quarrels_93 : decode (mcode M_md_quarrels) 93 = .ok (.iconst 0, 1) := by decide +kernel
theorem d_md_quarrels_94 : decode (mcode M_md_quarrels) 94 = .ok (.istore 5, 2) := by decide +kernel
theorem d_md_quarrels_96 : decode (mcode M_md_quarrels) 96 = .ok (.iload 5, 2) := by decide +kernel
theorem d_md_quarrels_98 : decode (mcode M_md_quarrels) 98 = .ok (.iload_n 2, 1) := by decide +kernel
theorem d_md_quarrels_99 : decode (mcode M_md_quarrels) 99 = .ok (.if_icmp .gt 54, 3) := by decide +kernel
theorem d_md_quarrels_102 : decode (mcode M_md_quarrels) 102 = .ok (.aload_n 0, 1) := by decide +kernel
theorem d_md_quarrels_103 : decode (mcode M_md_quarrels) 103 = .ok (.getfield 81, 3) := by decide +kernel
theorem d_md_quarrels_106 : decode (mcode M_md_quarrels) 106 = .ok (.sipush 301, 3) := by decide +kernel
theorem d_md_quarrels_109 : decode (mcode M_md_quarrels) 109 = .ok (.iload 4, 2) := by decide +kernel
theorem d_md_quarrels_111 : decode (mcode M_md_quarrels) 111 = .ok (.imul, 1) := by decide +kernel
theorem d_md_quarrels_112 : decode (mcode M_md_quarrels) 112 = .ok (.iload 5, 2) := by decide +kernel
theorem d_md_quarrels_114 : decode (mcode M_md_quarrels) 114 = .ok (.iadd, 1) := by decide +kernel
theorem d_md_quarrels_115 : decode (mcode M_md_quarrels) 115 = .ok (.iload 4, 2) := by decide +kernel
theorem d_md_quarrels_117 : decode (mcode M_md_quarrels) 117 = .ok (.iload_n 3, 1) := by decide +kernel
theorem d_md_quarrels_118 : decode (mcode M_md_quarrels) 118 = .ok (.if_icmp .ne 18, 3) := by decide +kernel
theorem d_md_quarrels_121 : decode (mcode M_md_quarrels) 121 = .ok (.iload 5, 2) := by decide +kernel
theorem d_md_quarrels_123 : decode (mcode M_md_quarrels) 123 = .ok (.iload_n 2, 1) := by decide +kernel
theorem d_md_quarrels_124 : decode (mcode M_md_quarrels) 124 = .ok (.if_icmp .ne 7, 3) := by decide +kernel
theorem d_md_quarrels_127 : decode (mcode M_md_quarrels) 127 = .ok (.iconst 0, 1) := by decide +kernel
theorem d_md_quarrels_128 : decode (mcode M_md_quarrels) 128 = .ok (.goto 18, 3) := by decide +kernel
theorem d_md_quarrels_131 : decode (mcode M_md_quarrels) 131 = .ok (.ldc 177, 2) := by decide +kernel
theorem d_md_quarrels_133 : decode (mcode M_md_quarrels) 133 = .ok (.goto 13, 3) := by decide +kernel
theorem d_md_quarrels_136 : decode (mcode M_md_quarrels) 136 = .ok (.aload_n 0, 1) := by decide +kernel
theorem d_md_quarrels_137 : decode (mcode M_md_quarrels) 137 = .ok (.iload_n 1, 1) := by decide +kernel
theorem d_md_quarrels_138 : decode (mcode M_md_quarrels) 138 = .ok (.iload 4, 2) := by decide +kernel
theorem d_md_quarrels_140 : decode (mcode M_md_quarrels) 140 = .ok (.iload 5, 2) := by decide +kernel
theorem d_md_quarrels_142 : decode (mcode M_md_quarrels) 142 = .ok (.iload_n 2, 1) := by decide +kernel
theorem d_md_quarrels_143 : decode (mcode M_md_quarrels) 143 = .ok (.invokevirtual 178, 3) := by decide +kernel
theorem d_md_quarrels_146 : decode (mcode M_md_quarrels) 146 = .ok (.iastore, 1) := by decide +kernel
theorem d_md_quarrels_147 : decode (mcode M_md_quarrels) 147 = .ok (.iinc 5 1, 3) := by decide +kernel
theorem d_md_quarrels_150 : decode (mcode M_md_quarrels) 150 = .ok (.goto (-54), 3) := by decide +kernel
theorem d_md_quarrels_153 : decode (mcode M_md_quarrels) 153 = .ok (.iinc 4 (-1), 3) := by decide +kernel
theorem d_md_quarrels_156 : decode (mcode M_md_quarrels) 156 = .ok (.goto (-68), 3) := by decide +kernel
theorem d_md_quarrels_159 : decode (mcode M_md_quarrels) 159 = .ok (.iload_n 3, 1) := by decide +kernel
theorem d_md_quarrels_160 : decode (mcode M_md_quarrels) 160 = .ok (.ireturn, 1) := by decide +kernel
theorem d_md_from_0 : decode (mcode M_md_from) 0 = .ok (.ldc 177, 2) := by decide +kernel
theorem d_md_from_2 : decode (mcode M_md_from) 2 = .ok (.istore 5, 2) := by decide +kernel
theorem d_md_from_4 : decode (mcode M_md_from) 4 = .ok (.iload_n 3, 1) := by decide +kernel
theorem d_md_from_5 : decode (mcode M_md_from) 5 = .ok (.iconst 1, 1) := by decide +kernel
theorem d_md_from_6 : decode (mcode M_md_from) 6 = .ok (.iadd, 1) := by decide +kernel
theorem d_md_from_7 : decode (mcode M_md_from) 7 = .ok (.istore 6, 2) := by decide +kernel
theorem d_md_from_9 : decode (mcode M_md_from) 9 = .ok (.iload 6, 2) := by decide +kernel
theorem d_md_from_11 : decode (mcode M_md_from) 11 = .ok (.iload 4, 2) := by decide +kernel
theorem d_md_from_13 : decode (mcode M_md_from) 13 = .ok (.if_icmp .gt 33, 3) := by decide +kernel
theorem d_md_from_16 : decode (mcode M_md_from) 16 = .ok (.aload_n 0, 1) := by decide +kernel
theorem d_md_from_17 : decode (mcode M_md_from) 17 = .ok (.iload_n 1, 1) := by decide +kernel
theorem d_md_from_18 : decode (mcode M_md_from) 18 = .ok (.iload_n 2, 1) := by decide +kernel
theorem d_md_from_19 : decode (mcode M_md_from) 19 = .ok (.iload_n 3, 1) := by decide +kernel
theorem d_md_from_20 : decode (mcode M_md_from) 20 = .ok (.iload 6, 2) := by decide +kernel
theorem d_md_from_22 : decode (mcode M_md_from) 22 = .ok (.iload 4, 2) := by decide +kernel
theorem d_md_from_24 : decode (mcode M_md_from) 24 = .ok (.invokevirtual 182, 3) := by decide +kernel
theorem d_md_from_27 : decode (mcode M_md_from) 27 = .ok (.istore 7, 2) := by decide +kernel
theorem d_md_from_29 : decode (mcode M_md_from) 29 = .ok (.iload 7, 2) := by decide +kernel
theorem d_md_from_31 : decode (mcode M_md_from) 31 = .ok (.iload 5, 2) := by decide +kernel
theorem d_md_from_33 : decode (mcode M_md_from) 33 = .ok (.if_icmp .ge 7, 3) := by decide +kernel
theorem d_md_from_36 : decode (mcode M_md_from) 36 = .ok (.iload 7, 2) := by decide +kernel
theorem d_md_from_38 : decode (mcode M_md_from) 38 = .ok (.istore 5, 2) := by decide +kernel
theorem d_md_from_40 : decode (mcode M_md_from) 40 = .ok (.iinc 6 1, 3) := by decide +kernel
theorem d_md_from_43 : decode (mcode M_md_from) 43 = .ok (.goto (-34), 3) := by decide +kernel
theorem d_md_from_46 : decode (mcode M_md_from) 46 = .ok (.iload 5, 2) := by decide +kernel
theorem d_md_from_48 : decode (mcode M_md_from) 48 = .ok (.ireturn, 1) := by decide +kernel
theorem d_md_costs_0 : decode (mcode M_md_costs) 0 = .ok (.aload_n 0, 1) := by decide +kernel
theorem d_md_costs_1 : decode (mcode M_md_costs) 1 = .ok (.getfield 81, 3) := by decide +kernel
theorem d_md_costs_4 : decode (mcode M_md_costs) 4 = .ok (.sipush 301, 3) := by decide +kernel
theorem d_md_costs_7 : decode (mcode M_md_costs) 7 = .ok (.iload_n 2, 1) := by decide +kernel
theorem d_md_costs_8 : decode (mcode M_md_costs) 8 = .ok (.iconst 1, 1) := by decide +kernel
theorem d_md_costs_9 : decode (mcode M_md_costs) 9 = .ok (.iadd, 1) := by decide +kernel
theorem d_md_costs_10 : decode (mcode M_md_costs) 10 = .ok (.imul, 1) := by decide +kernel
theorem d_md_costs_11 : decode (mcode M_md_costs) 11 = .ok (.iload 4, 2) := by decide +kernel
theorem d_md_costs_13 : decode (mcode M_md_costs) 13 = .ok (.iadd, 1) := by decide +kernel
theorem d_md_costs_14 : decode (mcode M_md_costs) 14 = .ok (.iaload, 1) := by decide +kernel
theorem d_md_costs_15 : decode (mcode M_md_costs) 15 = .ok (.istore 6, 2) := by decide +kernel
theorem d_md_costs_17 : decode (mcode M_md_costs) 17 = .ok (.iload 6, 2) := by decide +kernel
theorem d_md_costs_19 : decode (mcode M_md_costs) 19 = .ok (.ldc 177, 2) := by decide +kernel
theorem d_md_costs_21 : decode (mcode M_md_costs) 21 = .ok (.if_icmp .lt 6, 3) := by decide +kernel
theorem d_md_costs_24 : decode (mcode M_md_costs) 24 = .ok (.ldc 177, 2) := by decide +kernel
theorem d_md_costs_26 : decode (mcode M_md_costs) 26 = .ok (.ireturn, 1) := by decide +kernel
theorem d_md_costs_27 : decode (mcode M_md_costs) 27 = .ok (.iload 4, 2) := by decide +kernel
theorem d_md_costs_29 : decode (mcode M_md_costs) 29 = .ok (.iload 5, 2) := by decide +kernel
theorem d_md_costs_31 : decode (mcode M_md_costs) 31 = .ok (.if_icmp .ge 17, 3) := by decide +kernel
theorem d_md_costs_34 : decode (mcode M_md_costs) 34 = .ok (.aload_n 0, 1) := by decide +kernel
theorem d_md_costs_35 : decode (mcode M_md_costs) 35 = .ok (.getfield 65, 3) := by decide +kernel
theorem d_md_costs_38 : decode (mcode M_md_costs) 38 = .ok (.bipush 8, 2) := by decide +kernel
theorem d_md_costs_40 : decode (mcode M_md_costs) 40 = .ok (.iload_n 1, 1) := by decide +kernel
theorem d_md_costs_41 : decode (mcode M_md_costs) 41 = .ok (.imul, 1) := by decide +kernel
theorem d_md_costs_42 : decode (mcode M_md_costs) 42 = .ok (.iload_n 2, 1) := by decide +kernel
theorem d_md_costs_43 : decode (mcode M_md_costs) 43 = .ok (.iadd, 1) := by decide +kernel
theorem d_md_costs_44 : decode (mcode M_md_costs) 44 = .ok (.iaload, 1) := by decide +kernel
theorem d_md_costs_45 : decode (mcode M_md_costs) 45 = .ok (.goto 4, 3) := by decide +kernel
theorem d_md_costs_48 : decode (mcode M_md_costs) 48 = .ok (.iconst (-1), 1) := by decide +kernel
theorem d_md_costs_49 : decode (mcode M_md_costs) 49 = .ok (.istore 7, 2) := by decide +kernel
theorem d_md_costs_51 : decode (mcode M_md_costs) 51 = .ok (.iload 6, 2) := by decide +kernel
theorem d_md_costs_53 : decode (mcode M_md_costs) 53 = .ok (.iload 4, 2) := by decide +kernel
theorem d_md_costs_55 : decode (mcode M_md_costs) 55 = .ok (.iload_n 3, 1) := by decide +kernel
theorem d_md_costs_56 : decode (mcode M_md_costs) 56 = .ok (.isub, 1) := by decide +kernel
theorem d_md_costs_57 : decode (mcode M_md_costs) 57 = .ok (.aload_n 0, 1) := by decide +kernel
theorem d_md_costs_58 : decode (mcode M_md_costs) 58 = .ok (.getfield 78, 3) := by decide +kernel
theorem d_md_costs_61 : decode (mcode M_md_costs) 61 = .ok (.iload_n 2, 1) := by decide +kernel
theorem d_md_costs_62 : decode (mcode M_md_costs) 62 = .ok (.iaload, 1) := by decide +kernel
theorem d_md_costs_63 : decode (mcode M_md_costs) 63 = .ok (.invokestatic 186, 3) := by decide +kernel
theorem d_md_costs_66 : decode (mcode M_md_costs) 66 = .ok (.iadd, 1) := by decide +kernel
theorem d_md_costs_67 : decode (mcode M_md_costs) 67 = .ok (.iload 7, 2) := by decide +kernel
theorem d_md_costs_69 : decode (mcode M_md_costs) 69 = .ok (.iconst (-1), 1) := by decide +kernel
theorem d_md_costs_70 : decode (mcode M_md_costs) 70 = .ok (.if_icmp .ne 7, 3) := by decide +kernel
theorem d_md_costs_73 : decode (mcode M_md_costs) 73 = .ok (.iconst 0, 1) := by decide +kernel
theorem d_md_costs_74 : decode (mcode M_md_costs) 74 = .ok (.goto 10, 3) := by decide +kernel
theorem d_md_costs_77 : decode (mcode M_md_costs) 77 = .ok (.iload 4, 2) := by decide +kernel
theorem d_md_costs_79 : decode (mcode M_md_costs) 79 = .ok (.iload 7, 2) := by decide +kernel
theorem d_md_costs_81 : decode (mcode M_md_costs) 81 = .ok (.invokestatic 186, 3) := by decide +kernel
theorem d_md_costs_84 : decode (mcode M_md_costs) 84 = .ok (.iadd, 1) := by decide +kernel
theorem d_md_costs_85 : decode (mcode M_md_costs) 85 = .ok (.ireturn, 1) := by decide +kernel
theorem d_md_quarrel_0 : decode (mcode M_md_quarrel) 0 = .ok (.aload_n 0, 1) := by decide +kernel
theorem d_md_quarrel_1 : decode (mcode M_md_quarrel) 1 = .ok (.iload_n 1, 1) := by decide +kernel
theorem d_md_quarrel_2 : decode (mcode M_md_quarrel) 2 = .ok (.iload_n 2, 1) := by decide +kernel
theorem d_md_quarrel_3 : decode (mcode M_md_quarrel) 3 = .ok (.invokevirtual 189, 3) := by decide +kernel
theorem d_md_quarrel_6 : decode (mcode M_md_quarrel) 6 = .ok (.iconst (-1), 1) := by decide +kernel
theorem d_md_quarrel_7 : decode (mcode M_md_quarrel) 7 = .ok (.if_icmp .ne 7, 3) := by decide +kernel
theorem d_md_quarrel_10 : decode (mcode M_md_quarrel) 10 = .ok (.iconst (-1), 1) := by decide +kernel
theorem d_md_quarrel_11 : decode (mcode M_md_quarrel) 11 = .ok (.goto 9, 3) := by decide +kernel
theorem d_md_quarrel_14 : decode (mcode M_md_quarrel) 14 = .ok (.aload_n 0, 1) := by decide +kernel
theorem d_md_quarrel_15 : decode (mcode M_md_quarrel) 15 = .ok (.getfield 81, 3) := by decide +kernel
theorem d_md_quarrel_18 : decode (mcode M_md_quarrel) 18 = .ok (.iconst 0, 1) := by decide +kernel
theorem d_md_quarrel_19 : decode (mcode M_md_quarrel) 19 = .ok (.iaload, 1) := by decide +kernel
theorem d_md_quarrel_20 : decode (mcode M_md_quarrel) 20 = .ok (.ireturn, 1) := by decide +kernel
theorem d_md_border_0 : decode (mcode M_md_border) 0 = .ok (.aload_n 0, 1) := by decide +kernel
theorem d_md_border_1 : decode (mcode M_md_border) 1 = .ok (.iload_n 1, 1) := by decide +kernel
theorem d_md_border_2 : decode (mcode M_md_border) 2 = .ok (.iload_n 2, 1) := by decide +kernel
theorem d_md_border_3 : decode (mcode M_md_border) 3 = .ok (.invokevirtual 189, 3) := by decide +kernel
theorem d_md_border_6 : decode (mcode M_md_border) 6 = .ok (.istore 4, 2) := by decide +kernel
theorem d_md_border_8 : decode (mcode M_md_border) 8 = .ok (.iload_n 3, 1) := by decide +kernel
theorem d_md_border_9 : decode (mcode M_md_border) 9 = .ok (.iconst 0, 1) := by decide +kernel
theorem d_md_border_10 : decode (mcode M_md_border) 10 = .ok (.iload 4, 2) := by decide +kernel
theorem d_md_border_12 : decode (mcode M_md_border) 12 = .ok (.iconst 2, 1) := by decide +kernel
theorem d_md_border_13 : decode (mcode M_md_border) 13 = .ok (.isub, 1) := by decide +kernel
theorem d_md_border_14 : decode (mcode M_md_border) 14 = .ok (.invokestatic 87, 3) := by decide +kernel
theorem d_md_border_17 : decode (mcode M_md_border) 17 = .ok (.ifCond .ne 5, 3) := by decide +kernel
theorem d_md_border_20 : decode (mcode M_md_border) 20 = .ok (.iconst (-1), 1) := by decide +kernel
theorem d_md_border_21 : decode (mcode M_md_border) 21 = .ok (.ireturn, 1) := by decide +kernel
theorem d_md_border_22 : decode (mcode M_md_border) 22 = .ok (.iconst 0, 1) := by decide +kernel
theorem d_md_border_23 : decode (mcode M_md_border) 23 = .ok (.istore 5, 2) := by decide +kernel
theorem d_md_border_25 : decode (mcode M_md_border) 25 = .ok (.iconst 0, 1) := by decide +kernel
theorem d_md_border_26 : decode (mcode M_md_border) 26 = .ok (.istore 6, 2) := by decide +kernel
theorem d_md_border_28 : decode (mcode M_md_border) 28 = .ok (.iload 6, 2) := by decide +kernel
theorem d_md_border_30 : decode (mcode M_md_border) 30 = .ok (.iload_n 3, 1) := by decide +kernel
theorem d_md_border_31 : decode (mcode M_md_border) 31 = .ok (.if_icmp .gt 54, 3) := by decide +kernel
theorem d_md_border_34 : decode (mcode M_md_border) 34 = .ok (.iload 5, 2) := by decide +kernel
theorem d_md_border_36 : decode (mcode M_md_border) 36 = .ok (.iconst 1, 1) := by decide +kernel
theorem d_md_border_37 : decode (mcode M_md_border) 37 = .ok (.iadd, 1) := by decide +kernel
theorem d_md_border_38 : decode (mcode M_md_border) 38 = .ok (.istore 7, 2) := by decide +kernel
theorem d_md_border_40 : decode (mcode M_md_border) 40 = .ok (.aload_n 0, 1) := by decide +kernel
theorem d_md_border_41 : decode (mcode M_md_border) 41 = .ok (.iload_n 1, 1) := by decide +kernel
theorem d_md_border_42 : decode (mcode M_md_border) 42 = .ok (.iload 6, 2) := by decide +kernel
theorem d_md_border_44 : decode (mcode M_md_border) 44 = .ok (.iload 5, 2) := by decide +kernel
theorem d_md_border_46 : decode (mcode M_md_border) 46 = .ok (.iload 7, 2) := by decide +kernel
theorem d_md_border_48 : decode (mcode M_md_border) 48 = .ok (.iload_n 2, 1) := by decide +kernel
theorem d_md_border_49 : decode (mcode M_md_border) 49 = .ok (.invokevirtual 182, 3) := by decide +kernel
theorem d_md_border_52 : decode (mcode M_md_border) 52 = .ok (.aload_n 0, 1) := by decide +kernel
theorem d_md_border_53 : decode (mcode M_md_border) 53 = .ok (.getfield 81, 3) := by decide +kernel
theorem d_md_border_56 : decode (mcode M_md_border) 56 = .ok (.sipush 301, 3) := by decide +kernel
theorem d_md_border_59 : decode (mcode M_md_border) 59 = .ok (.iload 6, 2) := by decide +kernel
theorem d_md_border_61 : decode (mcode M_md_border) 61 = .ok (.imul, 1) := by decide +kernel
theorem d_md_border_62 : decode (mcode M_md_border) 62 = .ok (.iload 5, 2) := by decide +kernel
theorem d_md_border_64 : decode (mcode M_md_border) 64 = .ok (.iadd, 1) := by decide +kernel
theorem d_md_border_65 : decode (mcode M_md_border) 65 = .ok (.iaload, 1) := by decide +kernel
theorem d_md_border_66 : decode (mcode M_md_border) 66 = .ok (.if_icmp .eq 9, 3) := by decide +kernel
theorem d_md_border_69 : decode (mcode M_md_border) 69 = .ok (.iinc 7 1, 3) := by decide +kernel
theorem d_md_border_72 : decode (mcode M_md_border) 72 = .ok (.goto (-32), 3) := by decide +kernel
theorem d_md_border_75 : decode (mcode M_md_border) 75 = .ok (.iload 7, 2) := by decide +kernel
theorem d_md_border_77 : decode (mcode M_md_border) 77 = .ok (.istore 5, 2) := by decide +kernel
theorem d_md_border_79 : decode (mcode M_md_border) 79 = .ok (.iinc 6 1, 3) := by decide +kernel
theorem d_md_border_82 : decode (mcode M_md_border) 82 = .ok (.goto (-54), 3) := by decide +kernel
theorem d_md_border_85 : decode (mcode M_md_border) 85 = .ok (.iload 5, 2) := by decide +kernel
theorem d_md_border_87 : decode (mcode M_md_border) 87 = .ok (.ireturn, 1) := by decide +kernel
theorem d_md_wallsOf_0 : decode (mcode M_md_wallsOf) 0 = .ok (.aload_n 0, 1) := by decide +kernel
theorem d_md_wallsOf_1 : decode (mcode M_md_wallsOf) 1 = .ok (.iload_n 1, 1) := by decide +kernel
theorem d_md_wallsOf_2 : decode (mcode M_md_wallsOf) 2 = .ok (.invokevirtual 132, 3) := by decide +kernel
theorem d_md_wallsOf_5 : decode (mcode M_md_wallsOf) 5 = .ok (.iconst (-1), 1) := by decide +kernel
theorem d_md_wallsOf_6 : decode (mcode M_md_wallsOf) 6 = .ok (.if_icmp .eq 21, 3) := by decide +kernel
theorem d_md_wallsOf_9 : decode (mcode M_md_wallsOf) 9 = .ok (.aload_n 0, 1) := by decide +kernel
theorem d_md_wallsOf_10 : decode (mcode M_md_wallsOf) 10 = .ok (.getfield 46, 3) := by decide +kernel
theorem d_md_wallsOf_13 : decode (mcode M_md_wallsOf) 13 = .ok (.aload_n 0, 1) := by decide +kernel
theorem d_md_wallsOf_14 : decode (mcode M_md_wallsOf) 14 = .ok (.iload_n 1, 1) := by decide +kernel
theorem d_md_wallsOf_15 : decode (mcode M_md_wallsOf) 15 = .ok (.invokevirtual 132, 3) := by decide +kernel
theorem d_md_wallsOf_18 : decode (mcode M_md_wallsOf) 18 = .ok (.iaload, 1) := by decide +kernel
theorem d_md_wallsOf_19 : decode (mcode M_md_wallsOf) 19 = .ok (.iconst (-1), 1) := by decide +kernel
theorem d_md_wallsOf_20 : decode (mcode M_md_wallsOf) 20 = .ok (.if_icmp .eq 7, 3) := by decide +kernel
theorem d_md_wallsOf_23 : decode (mcode M_md_wallsOf) 23 = .ok (.iconst 1, 1) := by decide +kernel
theorem d_md_wallsOf_24 : decode (mcode M_md_wallsOf) 24 = .ok (.goto 4, 3) := by decide +kernel
theorem d_md_wallsOf_27 : decode (mcode M_md_wallsOf) 27 = .ok (.iconst 0, 1) := by decide +kernel
theorem d_md_wallsOf_28 : decode (mcode M_md_wallsOf) 28 = .ok (.istore_n 2, 1) := by decide +kernel
theorem d_md_wallsOf_29 : decode (mcode M_md_wallsOf) 29 = .ok (.iload_n 2, 1) := by decide +kernel
theorem d_md_wallsOf_30 : decode (mcode M_md_wallsOf) 30 = .ok (.aload_n 0, 1) := by decide +kernel
theorem d_md_wallsOf_31 : decode (mcode M_md_wallsOf) 31 = .ok (.getfield 46, 3) := by decide +kernel
theorem d_md_wallsOf_34 : decode (mcode M_md_wallsOf) 34 = .ok (.iload_n 1, 1) := by decide +kernel
theorem d_md_wallsOf_35 : decode (mcode M_md_wallsOf) 35 = .ok (.iaload, 1) := by decide +kernel
theorem d_md_wallsOf_36 : decode (mcode M_md_wallsOf) 36 = .ok (.iconst (-1), 1) := by decide +kernel
theorem d_md_wallsOf_37 : decode (mcode M_md_wallsOf) 37 = .ok (.if_icmp .eq 7, 3) := by decide +kernel
theorem d_md_wallsOf_40 : decode (mcode M_md_wallsOf) 40 = .ok (.iconst 1, 1) := by decide +kernel
theorem d_md_wallsOf_41 : decode (mcode M_md_wallsOf) 41 = .ok (.goto 4, 3) := by decide +kernel
theorem d_md_wallsOf_44 : decode (mcode M_md_wallsOf) 44 = .ok (.iconst 0, 1) := by decide +kernel
theorem d_md_wallsOf_45 : decode (mcode M_md_wallsOf) 45 = .ok (.iadd, 1) := by decide +kernel
theorem d_md_wallsOf_46 : decode (mcode M_md_wallsOf) 46 = .ok (.ireturn, 1) := by decide +kernel
theorem d_md_told_0 : decode (mcode M_md_told) 0 = .ok (.aload_n 0, 1) := by decide +kernel
theorem d_md_told_1 : decode (mcode M_md_told) 1 = .ok (.iload_n 1, 1) := by decide +kernel
theorem d_md_told_2 : decode (mcode M_md_told) 2 = .ok (.invokevirtual 101, 3) := by decide +kernel
theorem d_md_told_5 : decode (mcode M_md_told) 5 = .ok (.ifCond .ne 5, 3) := by decide +kernel
theorem d_md_told_8 : decode (mcode M_md_told) 8 = .ok (.iconst (-1), 1) := by decide +kernel
theorem d_md_told_9 : decode (mcode M_md_told) 9 = .ok (.ireturn, 1) := by decide +kernel
theorem d_md_told_10 : decode (mcode M_md_told) 10 = .ok (.iload_n 2, 1) := by decide +kernel
theorem d_md_told_11 : decode (mcode M_md_told) 11 = .ok (.tableswitch 89 0 6 #[41, 48, 55, 62, 69, 76, 83], 41) := by decide +kernel
theorem d_md_told_52 : decode (mcode M_md_told) 52 = .ok (.aload_n 0, 1) := by decide +kernel
theorem d_md_told_53 : decode (mcode M_md_told) 53 = .ok (.getfield 22, 3) := by decide +kernel
theorem d_md_told_56 : decode (mcode M_md_told) 56 = .ok (.iload_n 1, 1) := by decide +kernel
theorem d_md_told_57 : decode (mcode M_md_told) 57 = .ok (.iaload, 1) := by decide +kernel
theorem d_md_told_58 : decode (mcode M_md_told) 58 = .ok (.ireturn, 1) := by decide +kernel
theorem d_md_told_59 : decode (mcode M_md_told) 59 = .ok (.aload_n 0, 1) := by decide +kernel
theorem d_md_told_60 : decode (mcode M_md_told) 60 = .ok (.getfield 16, 3) := by decide +kernel
theorem d_md_told_63 : decode (mcode M_md_told) 63 = .ok (.iload_n 1, 1) := by decide +kernel
theorem d_md_told_64 : decode (mcode M_md_told) 64 = .ok (.iaload, 1) := by decide +kernel
theorem d_md_told_65 : decode (mcode M_md_told) 65 = .ok (.ireturn, 1) := by decide +kernel
theorem d_md_told_66 : decode (mcode M_md_told) 66 = .ok (.aload_n 0, 1) := by decide +kernel
theorem d_md_told_67 : decode (mcode M_md_told) 67 = .ok (.getfield 19, 3) := by decide +kernel
theorem d_md_told_70 : decode (mcode M_md_told) 70 = .ok (.iload_n 1, 1) := by decide +kernel
theorem d_md_told_71 : decode (mcode M_md_told) 71 = .ok (.iaload, 1) := by decide +kernel
theorem d_md_told_72 : decode (mcode M_md_told) 72 = .ok (.ireturn, 1) := by decide +kernel
theorem d_md_told_73 : decode (mcode M_md_told) 73 = .ok (.aload_n 0, 1) := by decide +kernel
theorem d_md_told_74 : decode (mcode M_md_told) 74 = .ok (.getfield 25, 3) := by decide +kernel
theorem d_md_told_77 : decode (mcode M_md_told) 77 = .ok (.iload_n 1, 1) := by decide +kernel
theorem d_md_told_78 : decode (mcode M_md_told) 78 = .ok (.iaload, 1) := by decide +kernel
theorem d_md_told_79 : decode (mcode M_md_told) 79 = .ok (.ireturn, 1) := by decide +kernel
theorem d_md_told_80 : decode (mcode M_md_told) 80 = .ok (.aload_n 0, 1) := by decide +kernel
theorem d_md_told_81 : decode (mcode M_md_told) 81 = .ok (.getfield 37, 3) := by decide +kernel
theorem d_md_told_84 : decode (mcode M_md_told) 84 = .ok (.iload_n 1, 1) := by decide +kernel
theorem d_md_told_85 : decode (mcode M_md_told) 85 = .ok (.iaload, 1) := by decide +kernel
theorem d_md_told_86 : decode (mcode M_md_told) 86 = .ok (.ireturn, 1) := by decide +kernel
theorem d_md_told_87 : decode (mcode M_md_told) 87 = .ok (.aload_n 0, 1) := by decide +kernel
theorem d_md_told_88 : decode (mcode M_md_told) 88 = .ok (.getfield 40, 3) := by decide +kernel
theorem d_md_told_91 : decode (mcode M_md_told) 91 = .ok (.iload_n 1, 1) := by decide +kernel
theorem d_md_told_92 : decode (mcode M_md_told) 92 = .ok (.iaload, 1) := by decide +kernel
theorem d_md_told_93 : decode (mcode M_md_told) 93 = .ok (.ireturn, 1) := by decide +kernel
theorem d_md_told_94 : decode (mcode M_md_told) 94 = .ok (.aload_n 0, 1) := by decide +kernel
theorem d_md_told_95 : decode (mcode M_md_told) 95 = .ok (.iload_n 1, 1) := by decide +kernel
theorem d_md_told_96 : decode (mcode M_md_told) 96 = .ok (.invokevirtual 192, 3) := by decide +kernel
theorem d_md_told_99 : decode (mcode M_md_told) 99 = .ok (.ireturn, 1) := by decide +kernel
theorem d_md_told_100 : decode (mcode M_md_told) 100 = .ok (.iconst (-1), 1) := by decide +kernel
theorem d_md_told_101 : decode (mcode M_md_told) 101 = .ok (.ireturn, 1) := by decide +kernel
theorem d_md_chain_0 : decode (mcode M_md_chain) 0 = .ok (.aload_n 0, 1) := by decide +kernel
theorem d_md_chain_1 : decode (mcode M_md_chain) 1 = .ok (.iload_n 1, 1) := by decide +kernel
theorem d_md_chain_2 : decode (mcode M_md_chain) 2 = .ok (.iload_n 2, 1) := by decide +kernel
theorem d_md_chain_3 : decode (mcode M_md_chain) 3 = .ok (.invokevirtual 110, 3) := by decide +kernel
theorem d_md_chain_6 : decode (mcode M_md_chain) 6 = .ok (.ifCond .ne 5, 3) := by decide +kernel
theorem d_md_chain_9 : decode (mcode M_md_chain) 9 = .ok (.iconst (-1), 1) := by decide +kernel
theorem d_md_chain_10 : decode (mcode M_md_chain) 10 = .ok (.ireturn, 1) := by decide +kernel
theorem d_md_chain_11 : decode (mcode M_md_chain) 11 = .ok (.iload_n 3, 1) := by decide +kernel
theorem d_md_chain_12 : decode (mcode M_md_chain) 12 = .ok (.tableswitch 69 0 2 #[28, 39, 50], 28) := by decide +kernel
theorem d_md_chain_40 : decode (mcode M_md_chain) 40 = .ok (.aload_n 0, 1) := by decide +kernel
theorem d_md_chain_41 : decode (mcode M_md_chain) 41 = .ok (.getfield 28, 3) := by decide +kernel
theorem d_md_chain_44 : decode (mcode M_md_chain) 44 = .ok (.iconst 4, 1) := by decide +kernel
theorem d_md_chain_45 : decode (mcode M_md_chain) 45 = .ok (.iload_n 1, 1) := by decide +kernel
theorem d_md_chain_46 : decode (mcode M_md_chain) 46 = .ok (.imul, 1) := by decide +kernel
theorem d_md_chain_47 : decode (mcode M_md_chain) 47 = .ok (.iload_n 2, 1) := by decide +kernel
theorem d_md_chain_48 : decode (mcode M_md_chain) 48 = .ok (.iadd, 1) := by decide +kernel
theorem d_md_chain_49 : decode (mcode M_md_chain) 49 = .ok (.iaload, 1) := by decide +kernel
theorem d_md_chain_50 : decode (mcode M_md_chain) 50 = .ok (.ireturn, 1) := by decide +kernel
theorem d_md_chain_51 : decode (mcode M_md_chain) 51 = .ok (.aload_n 0, 1) := by decide +kernel
theorem d_md_chain_52 : decode (mcode M_md_chain) 52 = .ok (.getfield 31, 3) := by decide +kernel
theorem d_md_chain_55 : decode (mcode M_md_chain) 55 = .ok (.iconst 4, 1) := by decide +kernel
theorem d_md_chain_56 : decode (mcode M_md_chain) 56 = .ok (.iload_n 1, 1) := by decide +kernel
theorem d_md_chain_57 : decode (mcode M_md_chain) 57 = .ok (.imul, 1) := by decide +kernel
theorem d_md_chain_58 : decode (mcode M_md_chain) 58 = .ok (.iload_n 2, 1) := by decide +kernel
theorem d_md_chain_59 : decode (mcode M_md_chain) 59 = .ok (.iadd, 1) := by decide +kernel
theorem d_md_chain_60 : decode (mcode M_md_chain) 60 = .ok (.iaload, 1) := by decide +kernel
theorem d_md_chain_61 : decode (mcode M_md_chain) 61 = .ok (.ireturn, 1) := by decide +kernel
theorem d_md_chain_62 : decode (mcode M_md_chain) 62 = .ok (.iload_n 2, 1) := by decide +kernel
theorem d_md_chain_63 : decode (mcode M_md_chain) 63 = .ok (.ifCond .ne 7, 3) := by decide +kernel
theorem d_md_chain_66 : decode (mcode M_md_chain) 66 = .ok (.iconst 0, 1) := by decide +kernel
theorem d_md_chain_67 : decode (mcode M_md_chain) 67 = .ok (.goto 13, 3) := by decide +kernel
theorem d_md_chain_70 : decode (mcode M_md_chain) 70 = .ok (.aload_n 0, 1) := by decide +kernel
theorem d_md_chain_71 : decode (mcode M_md_chain) 71 = .ok (.getfield 34, 3) := by decide +kernel
theorem d_md_chain_74 : decode (mcode M_md_chain) 74 = .ok (.iconst 4, 1) := by decide +kernel
theorem d_md_chain_75 : decode (mcode M_md_chain) 75 = .ok (.iload_n 1, 1) := by decide +kernel
theorem d_md_chain_76 : decode (mcode M_md_chain) 76 = .ok (.imul, 1) := by decide +kernel
theorem d_md_chain_77 : decode (mcode M_md_chain) 77 = .ok (.iload_n 2, 1) := by decide +kernel
theorem d_md_chain_78 : decode (mcode M_md_chain) 78 = .ok (.iadd, 1) := by decide +kernel
theorem d_md_chain_79 : decode (mcode M_md_chain) 79 = .ok (.iaload, 1) := by decide +kernel
theorem d_md_chain_80 : decode (mcode M_md_chain) 80 = .ok (.ireturn, 1) := by decide +kernel
theorem d_md_chain_81 : decode (mcode M_md_chain) 81 = .ok (.iconst (-1), 1) := by decide +kernel
theorem d_md_chain_82 : decode (mcode M_md_chain) 82 = .ok (.ireturn, 1) := by decide +kernel
theorem d_md_has_0 : decode (mcode M_md_has) 0 = .ok (.iload_n 1, 1) := by decide +kernel
theorem d_md_has_1 : decode (mcode M_md_has) 1 = .ok (.iconst 0, 1) := by decide +kernel
theorem d_md_has_2 : decode (mcode M_md_has) 2 = .ok (.bipush 19, 2) := by decide +kernel
theorem d_md_has_4 : decode (mcode M_md_has) 4 = .ok (.invokestatic 87, 3) := by decide +kernel
theorem d_md_has_7 : decode (mcode M_md_has) 7 = .ok (.ifCond .eq 12, 3) := by decide +kernel
theorem d_md_has_10 : decode (mcode M_md_has) 10 = .ok (.aload_n 0, 1) := by decide +kernel
theorem d_md_has_11 : decode (mcode M_md_has) 11 = .ok (.getfield 9, 3) := by decide +kernel
theorem d_md_has_14 : decode (mcode M_md_has) 14 = .ok (.iload_n 1, 1) := by decide +kernel
theorem d_md_has_15 : decode (mcode M_md_has) 15 = .ok (.iaload, 1) := by decide +kernel
theorem d_md_has_16 : decode (mcode M_md_has) 16 = .ok (.goto 5, 3) := by decide +kernel
theorem d_md_has_19 : decode (mcode M_md_has) 19 = .ok (.ldc 92, 2) := by decide +kernel
theorem d_md_has_21 : decode (mcode M_md_has) 21 = .ok (.ireturn, 1) := by decide +kernel
theorem d_md_countOf_0 : decode (mcode M_md_countOf) 0 = .ok (.iconst 0, 1) := by decide +kernel
theorem d_md_countOf_1 : decode (mcode M_md_countOf) 1 = .ok (.istore_n 2, 1) := by decide +kernel
theorem d_md_countOf_2 : decode (mcode M_md_countOf) 2 = .ok (.iconst 0, 1) := by decide +kernel
theorem d_md_countOf_3 : decode (mcode M_md_countOf) 3 = .ok (.istore_n 3, 1) := by decide +kernel
theorem d_md_countOf_4 : decode (mcode M_md_countOf) 4 = .ok (.iload_n 3, 1) := by decide +kernel
theorem d_md_countOf_5 : decode (mcode M_md_countOf) 5 = .ok (.aload_n 0, 1) := by decide +kernel
theorem d_md_countOf_6 : decode (mcode M_md_countOf) 6 = .ok (.getfield 84, 3) := by decide +kernel
theorem d_md_countOf_9 : decode (mcode M_md_countOf) 9 = .ok (.if_icmp .ge 27, 3) := by decide +kernel
theorem d_md_countOf_12 : decode (mcode M_md_countOf) 12 = .ok (.iload_n 2, 1) := by decide +kernel
theorem d_md_countOf_13 : decode (mcode M_md_countOf) 13 = .ok (.aload_n 0, 1) := by decide +kernel
theorem d_md_countOf_14 : decode (mcode M_md_countOf) 14 = .ok (.getfield 22, 3) := by decide +kernel
theorem d_md_countOf_17 : decode (mcode M_md_countOf) 17 = .ok (.iload_n 3, 1) := by decide +kernel
theorem d_md_countOf_18 : decode (mcode M_md_countOf) 18 = .ok (.iaload, 1) := by decide +kernel
theorem d_md_countOf_19 : decode (mcode M_md_countOf) 19 = .ok (.iload_n 1, 1) := by decide +kernel
theorem d_md_countOf_20 : decode (mcode M_md_countOf) 20 = .ok (.if_icmp .ne 7, 3) := by decide +kernel
theorem d_md_countOf_23 : decode (mcode M_md_countOf) 23 = .ok (.iconst 1, 1) := by decide +kernel
theorem d_md_countOf_24 : decode (mcode M_md_countOf) 24 = .ok (.goto 4, 3) := by decide +kernel
theorem d_md_countOf_27 : decode (mcode M_md_countOf) 27 = .ok (.iconst 0, 1) := by decide +kernel
theorem d_md_countOf_28 : decode (mcode M_md_countOf) 28 = .ok (.iadd, 1) := by decide +kernel
theorem d_md_countOf_29 : decode (mcode M_md_countOf) 29 = .ok (.istore_n 2, 1) := by decide +kernel
theorem d_md_countOf_30 : decode (mcode M_md_countOf) 30 = .ok (.iinc 3 1, 3) := by decide +kernel
theorem d_md_countOf_33 : decode (mcode M_md_countOf) 33 = .ok (.goto (-29), 3) := by decide +kernel
theorem d_md_countOf_36 : decode (mcode M_md_countOf) 36 = .ok (.iload_n 2, 1) := by decide +kernel
theorem d_md_countOf_37 : decode (mcode M_md_countOf) 37 = .ok (.ireturn, 1) := by decide +kernel
theorem d_md_count_0 : decode (mcode M_md_count) 0 = .ok (.iconst 0, 1) := by decide +kernel
theorem d_md_count_1 : decode (mcode M_md_count) 1 = .ok (.istore_n 2, 1) := by decide +kernel
theorem d_md_count_2 : decode (mcode M_md_count) 2 = .ok (.iload_n 1, 1) := by decide +kernel
theorem d_md_count_3 : decode (mcode M_md_count) 3 = .ok (.tableswitch 118 0 7 #[45, 50, 55, 61, 67, 73, 78, 113], 45) := by decide +kernel
theorem d_md_count_48 : decode (mcode M_md_count) 48 = .ok (.aload_n 0, 1) := by decide +kernel
theorem d_md_count_49 : decode (mcode M_md_count) 49 = .ok (.getfield 129, 3) := by decide +kernel
theorem d_md_count_52 : decode (mcode M_md_count) 52 = .ok (.ireturn, 1) := by decide +kernel
theorem d_md_count_53 : decode (mcode M_md_count) 53 = .ok (.aload_n 0, 1) := by decide +kernel
theorem d_md_count_54 : decode (mcode M_md_count) 54 = .ok (.getfield 84, 3) := by decide +kernel
theorem d_md_count_57 : decode (mcode M_md_count) 57 = .ok (.ireturn, 1) := by decide +kernel
theorem d_md_count_58 : decode (mcode M_md_count) 58 = .ok (.aload_n 0, 1) := by decide +kernel
theorem d_md_count_59 : decode (mcode M_md_count) 59 = .ok (.iconst 1, 1) := by decide +kernel
theorem d_md_count_60 : decode (mcode M_md_count) 60 = .ok (.invokevirtual 195, 3) := by decide +kernel
theorem d_md_count_63 : decode (mcode M_md_count) 63 = .ok (.ireturn, 1) := by decide +kernel
theorem d_md_count_64 : decode (mcode M_md_count) 64 = .ok (.aload_n 0, 1) := by decide +kernel
theorem d_md_count_65 : decode (mcode M_md_count) 65 = .ok (.iconst 2, 1) := by decide +kernel
theorem d_md_count_66 : decode (mcode M_md_count) 66 = .ok (.invokevirtual 195, 3) := by decide +kernel
theorem d_md_count_69 : decode (mcode M_md_count) 69 = .ok (.ireturn, 1) := by decide +kernel
theorem d_md_count_70 : decode (mcode M_md_count) 70 = .ok (.aload_n 0, 1) := by decide +kernel
theorem d_md_count_71 : decode (mcode M_md_count) 71 = .ok (.iconst 3, 1) := by decide +kernel
theorem d_md_count_72 : decode (mcode M_md_count) 72 = .ok (.invokevirtual 195, 3) := by decide +kernel
theorem d_md_count_75 : decode (mcode M_md_count) 75 = .ok (.ireturn, 1) := by decide +kernel
theorem d_md_count_76 : decode (mcode M_md_count) 76 = .ok (.aload_n 0, 1) := by decide +kernel
theorem d_md_count_77 : decode (mcode M_md_count) 77 = .ok (.getfield 149, 3) := by decide +kernel
theorem d_md_count_80 : decode (mcode M_md_count) 80 = .ok (.ireturn, 1) := by decide +kernel
theorem d_md_count_81 : decode (mcode M_md_count) 81 = .ok (.iconst 0, 1) := by decide +kernel
theorem d_md_count_82 : decode (mcode M_md_count) 82 = .ok (.istore_n 3, 1) := by decide +kernel
theorem d_md_count_83 : decode (mcode M_md_count) 83 = .ok (.iload_n 3, 1) := by decide +kernel
theorem d_md_count_84 : decode (mcode M_md_count) 84 = .ok (.aload_n 0, 1) := by decide +kernel
theorem d_md_count_85 : decode (mcode M_md_count) 85 = .ok (.getfield 155, 3) := by decide +kernel
theorem d_md_count_88 : decode (mcode M_md_count) 88 = .ok (.if_icmp .ge 26, 3) := by decide +kernel
theorem d_md_count_91 : decode (mcode M_md_count) 91 = .ok (.iload_n 2, 1) := by decide +kernel
theorem d_md_count_92 : decode (mcode M_md_count) 92 = .ok (.aload_n 0, 1) := by decide +kernel
theorem d_md_count_93 : decode (mcode M_md_count) 93 = .ok (.getfield 62, 3) := by decide +kernel
theorem d_md_count_96 : decode (mcode M_md_count) 96 = .ok (.iload_n 3, 1) := by decide +kernel
theorem d_md_count_97 : decode (mcode M_md_count) 97 = .ok (.iaload, 1) := by decide +kernel
theorem d_md_count_98 : decode (mcode M_md_count) 98 = .ok (.ifCond .ne 7, 3) := by decide +kernel
theorem d_md_count_101 : decode (mcode M_md_count) 101 = .ok (.iconst 1, 1) := by decide +kernel
theorem d_md_count_102 : decode (mcode M_md_count) 102 = .ok (.goto 4, 3) := by decide +kernel
theorem d_md_count_105 : decode (mcode M_md_count) 105 = .ok (.iconst 0, 1) := by decide +kernel
theorem d_md_count_106 : decode (mcode M_md_count) 106 = .ok (.iadd, 1) := by decide +kernel
theorem d_md_count_107 : decode (mcode M_md_count) 107 = .ok (.istore_n 2, 1) := by decide +kernel
theorem d_md_count_108 : decode (mcode M_md_count) 108 = .ok (.iinc 3 1, 3) := by decide +kernel
theorem d_md_count_111 : decode (mcode M_md_count) 111 = .ok (.goto (-28), 3) := by decide +kernel
theorem d_md_count_114 : decode (mcode M_md_count) 114 = .ok (.iload_n 2, 1) := by decide +kernel
theorem d_md_count_115 : decode (mcode M_md_count) 115 = .ok (.ireturn, 1) := by decide +kernel
theorem d_md_count_116 : decode (mcode M_md_count) 116 = .ok (.aload_n 0, 1) := by decide +kernel
theorem d_md_count_117 : decode (mcode M_md_count) 117 = .ok (.getfield 142, 3) := by decide +kernel
theorem d_md_count_120 : decode (mcode M_md_count) 120 = .ok (.ireturn, 1) := by decide +kernel
theorem d_md_count_121 : decode (mcode M_md_count) 121 = .ok (.iconst (-1), 1) := by decide +kernel
theorem d_md_count_122 : decode (mcode M_md_count) 122 = .ok (.ireturn, 1) := by decide +kernel
theorem d_ac_init_0 : decode (mcode M_ac_init) 0 = .ok (.aload_n 0, 1) := by decide +kernel
theorem d_ac_init_1 : decode (mcode M_ac_init) 1 = .ok (.invokespecial 1, 3) := by decide +kernel
theorem d_ac_init_4 : decode (mcode M_ac_init) 4 = .ok (.return_, 1) := by decide +kernel
theorem d_ab_init_0 : decode (mcode M_ab_init) 0 = .ok (.aload_n 0, 1) := by decide +kernel
theorem d_ab_init_1 : decode (mcode M_ab_init) 1 = .ok (.invokespecial 1, 3) := by decide +kernel
theorem d_ab_init_4 : decode (mcode M_ab_init) 4 = .ok (.aload_n 0, 1) := by decide +kernel
theorem d_ab_init_5 : decode (mcode M_ab_init) 5 = .ok (.iconst 0, 1) := by decide +kernel
theorem d_ab_init_6 : decode (mcode M_ab_init) 6 = .ok (.putfield 7, 3) := by decide +kernel
theorem d_ab_init_9 : decode (mcode M_ab_init) 9 = .ok (.return_, 1) := by decide +kernel
theorem d_al_init_0 : decode (mcode M_al_init) 0 = .ok (.aload_n 0, 1) := by decide +kernel
theorem d_al_init_1 : decode (mcode M_al_init) 1 = .ok (.invokespecial 1, 3) := by decide +kernel
theorem d_al_init_4 : decode (mcode M_al_init) 4 = .ok (.aload_n 0, 1) := by decide +kernel
theorem d_al_init_5 : decode (mcode M_al_init) 5 = .ok (.getstatic 39, 3) := by decide +kernel
theorem d_al_init_8 : decode (mcode M_al_init) 8 = .ok (.putfield 9, 3) := by decide +kernel
theorem d_al_init_11 : decode (mcode M_al_init) 11 = .ok (.return_, 1) := by decide +kernel
theorem d_al_grow_0 : decode (mcode M_al_grow) 0 = .ok (.aload_n 0, 1) := by decide +kernel
theorem d_al_grow_1 : decode (mcode M_al_grow) 1 = .ok (.getfield 9, 3) := by decide +kernel
theorem d_al_grow_4 : decode (mcode M_al_grow) 4 = .ok (.arraylength, 1) := by decide +kernel
theorem d_al_grow_5 : decode (mcode M_al_grow) 5 = .ok (.istore_n 2, 1) := by decide +kernel
theorem d_al_grow_6 : decode (mcode M_al_grow) 6 = .ok (.iload_n 2, 1) := by decide +kernel
theorem d_al_grow_7 : decode (mcode M_al_grow) 7 = .ok (.ifCond .gt 13, 3) := by decide +kernel
theorem d_al_grow_10 : decode (mcode M_al_grow) 10 = .ok (.aload_n 0, 1) := by decide +kernel
theorem d_al_grow_11 : decode (mcode M_al_grow) 11 = .ok (.getfield 9, 3) := by decide +kernel
theorem d_al_grow_14 : decode (mcode M_al_grow) 14 = .ok (.getstatic 39, 3) := by decide +kernel
theorem d_al_grow_17 : decode (mcode M_al_grow) 17 = .ok (.if_acmp .eq 28, 3) := by decide +kernel
theorem d_al_grow_20 : decode (mcode M_al_grow) 20 = .ok (.iload_n 2, 1) := by decide +kernel
theorem d_al_grow_21 : decode (mcode M_al_grow) 21 = .ok (.iload_n 1, 1) := by decide +kernel
theorem d_al_grow_22 : decode (mcode M_al_grow) 22 = .ok (.iload_n 2, 1) := by decide +kernel
theorem d_al_grow_23 : decode (mcode M_al_grow) 23 = .ok (.isub, 1) := by decide +kernel
theorem d_al_grow_24 : decode (mcode M_al_grow) 24 = .ok (.iload_n 2, 1) := by decide +kernel
theorem d_al_grow_25 : decode (mcode M_al_grow) 25 = .ok (.iconst 1, 1) := by decide +kernel
theorem d_al_grow_26 : decode (mcode M_al_grow) 26 = .ok (.ishr, 1) := by decide +kernel
theorem d_al_grow_27 : decode (mcode M_al_grow) 27 = .ok (.invokestatic 73, 3) := by decide +kernel
theorem d_al_grow_30 : decode (mcode M_al_grow) 30 = .ok (.istore_n 3, 1) := by decide +kernel
theorem d_al_grow_31 : decode (mcode M_al_grow) 31 = .ok (.aload_n 0, 1) := by decide +kernel
theorem d_al_grow_32 : decode (mcode M_al_grow) 32 = .ok (.aload_n 0, 1) := by decide +kernel
theorem d_al_grow_33 : decode (mcode M_al_grow) 33 = .ok (.getfield 9, 3) := by decide +kernel
theorem d_al_grow_36 : decode (mcode M_al_grow) 36 = .ok (.iload_n 3, 1) := by decide +kernel
theorem d_al_grow_37 : decode (mcode M_al_grow) 37 = .ok (.invokestatic 66, 3) := by decide +kernel
theorem d_al_grow_40 : decode (mcode M_al_grow) 40 = .ok (.dup_x1, 1) := by decide +kernel
theorem d_al_grow_41 : decode (mcode M_al_grow) 41 = .ok (.putfield 9, 3) := by decide +kernel
theorem d_al_grow_44 : decode (mcode M_al_grow) 44 = .ok (.areturn, 1) := by decide +kernel
theorem d_al_grow_45 : decode (mcode M_al_grow) 45 = .ok (.aload_n 0, 1) := by decide +kernel
theorem d_al_grow_46 : decode (mcode M_al_grow) 46 = .ok (.bipush 10, 2) := by decide +kernel
theorem d_al_grow_48 : decode (mcode M_al_grow) 48 = .ok (.iload_n 1, 1) := by decide +kernel
theorem d_al_grow_49 : decode (mcode M_al_grow) 49 = .ok (.invokestatic 79, 3) := by decide +kernel
theorem d_al_grow_52 : decode (mcode M_al_grow) 52 = .ok (.anewarray 7, 3) := by decide +kernel
theorem d_al_grow_55 : decode (mcode M_al_grow) 55 = .ok (.dup_x1, 1) := by decide +kernel
theorem d_al_grow_56 : decode (mcode M_al_grow) 56 = .ok (.putfield 9, 3) := by decide +kernel
theorem d_al_grow_59 : decode (mcode M_al_grow) 59 = .ok (.areturn, 1) := by decide +kernel
theorem d_al_grow2_0 : decode (mcode M_al_grow2) 0 = .ok (.aload_n 0, 1) := by decide +kernel
theorem d_al_grow2_1 : decode (mcode M_al_grow2) 1 = .ok (.aload_n 0, 1) := by decide +kernel
theorem d_al_grow2_2 : decode (mcode M_al_grow2) 2 = .ok (.getfield 48, 3) := by decide +kernel
theorem d_al_grow2_5 : decode (mcode M_al_grow2) 5 = .ok (.iconst 1, 1) := by decide +kernel
theorem d_al_grow2_6 : decode (mcode M_al_grow2) 6 = .ok (.iadd, 1) := by decide +kernel
theorem d_al_grow2_7 : decode (mcode M_al_grow2) 7 = .ok (.invokevirtual 69, 3) := by decide +kernel
theorem d_al_grow2_10 : decode (mcode M_al_grow2) 10 = .ok (.areturn, 1) := by decide +kernel
theorem d_al_size_0 : decode (mcode M_al_size) 0 = .ok (.aload_n 0, 1) := by decide +kernel
theorem d_al_size_1 : decode (mcode M_al_size) 1 = .ok (.getfield 48, 3) := by decide +kernel
theorem d_al_size_4 : decode (mcode M_al_size) 4 = .ok (.ireturn, 1) := by decide +kernel
theorem d_al_isEmpty_0 : decode (mcode M_al_isEmpty) 0 = .ok (.aload_n 0, 1) := by decide +kernel
theorem d_al_isEmpty_1 : decode (mcode M_al_isEmpty) 1 = .ok (.getfield 48, 3) := by decide +kernel
theorem d_al_isEmpty_4 : decode (mcode M_al_isEmpty) 4 = .ok (.ifCond .ne 7, 3) := by decide +kernel
theorem d_al_isEmpty_7 : decode (mcode M_al_isEmpty) 7 = .ok (.iconst 1, 1) := by decide +kernel
theorem d_al_isEmpty_8 : decode (mcode M_al_isEmpty) 8 = .ok (.goto 4, 3) := by decide +kernel
theorem d_al_isEmpty_11 : decode (mcode M_al_isEmpty) 11 = .ok (.iconst 0, 1) := by decide +kernel
theorem d_al_isEmpty_12 : decode (mcode M_al_isEmpty) 12 = .ok (.ireturn, 1) := by decide +kernel
theorem d_al_elementData_0 : decode (mcode M_al_elementData) 0 = .ok (.aload_n 0, 1) := by decide +kernel
theorem d_al_elementData_1 : decode (mcode M_al_elementData) 1 = .ok (.getfield 9, 3) := by decide +kernel
theorem d_al_elementData_4 : decode (mcode M_al_elementData) 4 = .ok (.iload_n 1, 1) := by decide +kernel
theorem d_al_elementData_5 : decode (mcode M_al_elementData) 5 = .ok (.aaload, 1) := by decide +kernel
theorem d_al_elementData_6 : decode (mcode M_al_elementData) 6 = .ok (.areturn, 1) := by decide +kernel
theorem d_al_get_0 : decode (mcode M_al_get) 0 = .ok (.iload_n 1, 1) := by decide +kernel
theorem d_al_get_1 : decode (mcode M_al_get) 1 = .ok (.aload_n 0, 1) := by decide +kernel
theorem d_al_get_2 : decode (mcode M_al_get) 2 = .ok (.getfield 48, 3) := by decide +kernel
theorem d_al_get_5 : decode (mcode M_al_get) 5 = .ok (.invokestatic 118, 3) := by decide +kernel
theorem d_al_get_8 : decode (mcode M_al_get) 8 = .ok (.pop, 1) := by decide +kernel
theorem d_al_get_9 : decode (mcode M_al_get) 9 = .ok (.aload_n 0, 1) := by decide +kernel
theorem d_al_get_10 : decode (mcode M_al_get) 10 = .ok (.iload_n 1, 1) := by decide +kernel
theorem d_al_get_11 : decode (mcode M_al_get) 11 = .ok (.invokevirtual 123, 3) := by decide +kernel
theorem d_al_get_14 : decode (mcode M_al_get) 14 = .ok (.areturn, 1) := by decide +kernel
theorem d_al_add_0 : decode (mcode M_al_add) 0 = .ok (.iload_n 3, 1) := by decide +kernel
theorem d_al_add_1 : decode (mcode M_al_add) 1 = .ok (.aload_n 2, 1) := by decide +kernel
theorem d_al_add_2 : decode (mcode M_al_add) 2 = .ok (.arraylength, 1) := by decide +kernel
theorem d_al_add_3 : decode (mcode M_al_add) 3 = .ok (.if_icmp .ne 8, 3) := by decide +kernel
theorem d_al_add_6 : decode (mcode M_al_add) 6 = .ok (.aload_n 0, 1) := by decide +kernel
theorem d_al_add_7 : decode (mcode M_al_add) 7 = .ok (.invokevirtual 129, 3) := by decide +kernel
theorem d_al_add_10 : decode (mcode M_al_add) 10 = .ok (.astore_n 2, 1) := by decide +kernel
theorem d_al_add_11 : decode (mcode M_al_add) 11 = .ok (.aload_n 2, 1) := by decide +kernel
theorem d_al_add_12 : decode (mcode M_al_add) 12 = .ok (.iload_n 3, 1) := by decide +kernel
theorem d_al_add_13 : decode (mcode M_al_add) 13 = .ok (.aload_n 1, 1) := by decide +kernel
theorem d_al_add_14 : decode (mcode M_al_add) 14 = .ok (.aastore, 1) := by decide +kernel
theorem d_al_add_15 : decode (mcode M_al_add) 15 = .ok (.aload_n 0, 1) := by decide +kernel
theorem d_al_add_16 : decode (mcode M_al_add) 16 = .ok (.iload_n 3, 1) := by decide +kernel
theorem d_al_add_17 : decode (mcode M_al_add) 17 = .ok (.iconst 1, 1) := by decide +kernel
theorem d_al_add_18 : decode (mcode M_al_add) 18 = .ok (.iadd, 1) := by decide +kernel
theorem d_al_add_19 : decode (mcode M_al_add) 19 = .ok (.putfield 48, 3) := by decide +kernel
theorem d_al_add_22 : decode (mcode M_al_add) 22 = .ok (.return_, 1) := by decide +kernel
theorem d_al_add2_0 : decode (mcode M_al_add2) 0 = .ok (.aload_n 0, 1) := by decide +kernel
theorem d_al_add2_1 : decode (mcode M_al_add2) 1 = .ok (.dup, 1) := by decide +kernel
theorem d_al_add2_2 : decode (mcode M_al_add2) 2 = .ok (.getfield 63, 3) := by decide +kernel
theorem d_al_add2_5 : decode (mcode M_al_add2) 5 = .ok (.iconst 1, 1) := by decide +kernel
theorem d_al_add2_6 : decode (mcode M_al_add2) 6 = .ok (.iadd, 1) := by decide +kernel
theorem d_al_add2_7 : decode (mcode M_al_add2) 7 = .ok (.putfield 63, 3) := by decide +kernel
theorem d_al_add2_10 : decode (mcode M_al_add2) 10 = .ok (.aload_n 0, 1) := by decide +kernel
theorem d_al_add2_11 : decode (mcode M_al_add2) 11 = .ok (.aload_n 1, 1) := by decide +kernel
theorem d_al_add2_12 : decode (mcode M_al_add2) 12 = .ok (.aload_n 0, 1) := by decide +kernel
theorem d_al_add2_13 : decode (mcode M_al_add2) 13 = .ok (.getfield 9, 3) := by decide +kernel
theorem d_al_add2_16 : decode (mcode M_al_add2) 16 = .ok (.aload_n 0, 1) := by decide +kernel
theorem d_al_add2_17 : decode (mcode M_al_add2) 17 = .ok (.getfield 48, 3) := by decide +kernel
theorem d_al_add2_20 : decode (mcode M_al_add2) 20 = .ok (.invokevirtual 131, 3) := by decide +kernel
theorem d_al_add2_23 : decode (mcode M_al_add2) 23 = .ok (.iconst 1, 1) := by decide +kernel
theorem d_al_add2_24 : decode (mcode M_al_add2) 24 = .ok (.ireturn, 1) := by decide +kernel
theorem d_ar_copyOf_0 : decode (mcode M_ar_copyOf) 0 = .ok (.aload_n 0, 1) := by decide +kernel
theorem d_ar_copyOf_1 : decode (mcode M_ar_copyOf) 1 = .ok (.iload_n 1, 1) := by decide +kernel
theorem d_ar_copyOf_2 : decode (mcode M_ar_copyOf) 2 = .ok (.aload_n 0, 1) := by decide +kernel
theorem d_ar_copyOf_3 : decode (mcode M_ar_copyOf) 3 = .ok (.invokevirtual 86, 3) := by decide +kernel
theorem d_ar_copyOf_6 : decode (mcode M_ar_copyOf) 6 = .ok (.invokestatic 300, 3) := by decide +kernel
theorem d_ar_copyOf_9 : decode (mcode M_ar_copyOf) 9 = .ok (.areturn, 1) := by decide +kernel
theorem d_ar_copyOf2_0 : decode (mcode M_ar_copyOf2) 0 = .ok (.aload_n 2, 1) := by decide +kernel
theorem d_ar_copyOf2_1 : decode (mcode M_ar_copyOf2) 1 = .ok (.ldc 110, 2) := by decide +kernel
theorem d_ar_copyOf2_3 : decode (mcode M_ar_copyOf2) 3 = .ok (.if_acmp .ne 10, 3) := by decide +kernel
theorem d_ar_copyOf2_6 : decode (mcode M_ar_copyOf2) 6 = .ok (.iload_n 1, 1) := by decide +kernel
theorem d_ar_copyOf2_7 : decode (mcode M_ar_copyOf2) 7 = .ok (.anewarray 2, 3) := by decide +kernel
theorem d_ar_copyOf2_10 : decode (mcode M_ar_copyOf2) 10 = .ok (.goto 14, 3) := by decide +kernel
theorem d_ar_copyOf2_13 : decode (mcode M_ar_copyOf2) 13 = .ok (.aload_n 2, 1) := by decide +kernel
theorem d_ar_copyOf2_14 : decode (mcode M_ar_copyOf2) 14 = .ok (.invokevirtual 90, 3) := by decide +kernel
theorem d_ar_copyOf2_17 : decode (mcode M_ar_copyOf2) 17 = .ok (.iload_n 1, 1) := by decide +kernel
theorem d_ar_copyOf2_18 : decode (mcode M_ar_copyOf2) 18 = .ok (.invokestatic 95, 3) := by decide +kernel
theorem d_ar_copyOf2_21 : decode (mcode M_ar_copyOf2) 21 = .ok (.checkcast 110, 3) := by decide +kernel
theorem d_ar_copyOf2_24 : decode (mcode M_ar_copyOf2) 24 = .ok (.astore_n 3, 1) := by decide +kernel
theorem d_ar_copyOf2_25 : decode (mcode M_ar_copyOf2) 25 = .ok (.aload_n 0, 1) := by decide +kernel
theorem d_ar_copyOf2_26 : decode (mcode M_ar_copyOf2) 26 = .ok (.iconst 0, 1) := by decide +kernel
theorem d_ar_copyOf2_27 : decode (mcode M_ar_copyOf2) 27 = .ok (.aload_n 3, 1) := by decide +kernel
theorem d_ar_copyOf2_28 : decode (mcode M_ar_copyOf2) 28 = .ok (.iconst 0, 1) := by decide +kernel
theorem d_ar_copyOf2_29 : decode (mcode M_ar_copyOf2) 29 = .ok (.aload_n 0, 1) := by decide +kernel
theorem d_ar_copyOf2_30 : decode (mcode M_ar_copyOf2) 30 = .ok (.arraylength, 1) := by decide +kernel
theorem d_ar_copyOf2_31 : decode (mcode M_ar_copyOf2) 31 = .ok (.iload_n 1, 1) := by decide +kernel
theorem d_ar_copyOf2_32 : decode (mcode M_ar_copyOf2) 32 = .ok (.invokestatic 304, 3) := by decide +kernel
theorem d_ar_copyOf2_35 : decode (mcode M_ar_copyOf2) 35 = .ok (.invokestatic 150, 3) := by decide +kernel
theorem d_ar_copyOf2_38 : decode (mcode M_ar_copyOf2) 38 = .ok (.aload_n 3, 1) := by decide +kernel
theorem d_ar_copyOf2_39 : decode (mcode M_ar_copyOf2) 39 = .ok (.areturn, 1) := by decide +kernel
theorem d_ob_checkIndex_0 : decode (mcode M_ob_checkIndex) 0 = .ok (.iload_n 0, 1) := by decide +kernel
theorem d_ob_checkIndex_1 : decode (mcode M_ob_checkIndex) 1 = .ok (.iload_n 1, 1) := by decide +kernel
theorem d_ob_checkIndex_2 : decode (mcode M_ob_checkIndex) 2 = .ok (.aconst_null, 1) := by decide +kernel
theorem d_ob_checkIndex_3 : decode (mcode M_ob_checkIndex) 3 = .ok (.invokestatic 105, 3) := by decide +kernel
theorem d_ob_checkIndex_6 : decode (mcode M_ob_checkIndex) 6 = .ok (.ireturn, 1) := by decide +kernel
theorem d_as_newLength_0 : decode (mcode M_as_newLength) 0 = .ok (.iload_n 0, 1) := by decide +kernel
theorem d_as_newLength_1 : decode (mcode M_as_newLength) 1 = .ok (.iload_n 1, 1) := by decide +kernel
theorem d_as_newLength_2 : decode (mcode M_as_newLength) 2 = .ok (.iload_n 2, 1) := by decide +kernel
theorem d_as_newLength_3 : decode (mcode M_as_newLength) 3 = .ok (.invokestatic 194, 3) := by decide +kernel
theorem d_as_newLength_6 : decode (mcode M_as_newLength) 6 = .ok (.iadd, 1) := by decide +kernel
theorem d_as_newLength_7 : decode (mcode M_as_newLength) 7 = .ok (.istore_n 3, 1) := by decide +kernel
theorem d_as_newLength_8 : decode (mcode M_as_newLength) 8 = .ok (.iconst 0, 1) := by decide +kernel
theorem d_as_newLength_9 : decode (mcode M_as_newLength) 9 = .ok (.iload_n 3, 1) := by decide +kernel
theorem d_as_newLength_10 : decode (mcode M_as_newLength) 10 = .ok (.if_icmp .ge 11, 3) := by decide +kernel
theorem d_as_newLength_13 : decode (mcode M_as_newLength) 13 = .ok (.iload_n 3, 1) := by decide +kernel
theorem d_as_newLength_14 : decode (mcode M_as_newLength) 14 = .ok (.ldc 200, 2) := by decide +kernel
theorem d_as_newLength_16 : decode (mcode M_as_newLength) 16 = .ok (.if_icmp .gt 5, 3) := by decide +kernel
theorem d_as_newLength_19 : decode (mcode M_as_newLength) 19 = .ok (.iload_n 3, 1) := by decide +kernel
theorem d_as_newLength_20 : decode (mcode M_as_newLength) 20 = .ok (.ireturn, 1) := by decide +kernel
theorem d_as_newLength_21 : decode (mcode M_as_newLength) 21 = .ok (.iload_n 0, 1) := by decide +kernel
theorem d_as_newLength_22 : decode (mcode M_as_newLength) 22 = .ok (.iload_n 1, 1) := by decide +kernel
theorem d_as_newLength_23 : decode (mcode M_as_newLength) 23 = .ok (.invokestatic 201, 3) := by decide +kernel
theorem d_as_newLength_26 : decode (mcode M_as_newLength) 26 = .ok (.ireturn, 1) := by decide +kernel
theorem d_as_hugeLength_0 : decode (mcode M_as_hugeLength) 0 = .ok (.iload_n 0, 1) := by decide +kernel
theorem d_as_hugeLength_1 : decode (mcode M_as_hugeLength) 1 = .ok (.iload_n 1, 1) := by decide +kernel
theorem d_as_hugeLength_2 : decode (mcode M_as_hugeLength) 2 = .ok (.iadd, 1) := by decide +kernel
theorem d_as_hugeLength_3 : decode (mcode M_as_hugeLength) 3 = .ok (.istore_n 2, 1) := by decide +kernel
theorem d_as_hugeLength_4 : decode (mcode M_as_hugeLength) 4 = .ok (.iload_n 2, 1) := by decide +kernel
theorem d_as_hugeLength_5 : decode (mcode M_as_hugeLength) 5 = .ok (.ifCond .ge 44, 3) := by decide +kernel
theorem d_as_hugeLength_8 : decode (mcode M_as_hugeLength) 8 = .ok (.new 204, 3) := by decide +kernel
theorem d_as_hugeLength_11 : decode (mcode M_as_hugeLength) 11 = .ok (.dup, 1) := by decide +kernel
theorem d_as_hugeLength_12 : decode (mcode M_as_hugeLength) 12 = .ok (.new 89, 3) := by decide +kernel
theorem d_as_hugeLength_15 : decode (mcode M_as_hugeLength) 15 = .ok (.dup, 1) := by decide +kernel
theorem d_as_hugeLength_16 : decode (mcode M_as_hugeLength) 16 = .ok (.invokespecial 91, 3) := by decide +kernel
theorem d_as_hugeLength_19 : decode (mcode M_as_hugeLength) 19 = .ok (.ldc 206, 2) := by decide +kernel
theorem d_as_hugeLength_21 : decode (mcode M_as_hugeLength) 21 = .ok (.invokevirtual 94, 3) := by decide +kernel
theorem d_as_hugeLength_24 : decode (mcode M_as_hugeLength) 24 = .ok (.iload_n 0, 1) := by decide +kernel
theorem d_as_hugeLength_25 : decode (mcode M_as_hugeLength) 25 = .ok (.invokevirtual 98, 3) := by decide +kernel
theorem d_as_hugeLength_28 : decode (mcode M_as_hugeLength) 28 = .ok (.ldc 208, 2) := by decide +kernel
theorem d_as_hugeLength_30 : decode (mcode M_as_hugeLength) 30 = .ok (.invokevirtual 94, 3) := by decide +kernel
theorem d_as_hugeLength_33 : decode (mcode M_as_hugeLength) 33 = .ok (.iload_n 1, 1) := by decide +kernel
theorem d_as_hugeLength_34 : decode (mcode M_as_hugeLength) 34 = .ok (.invokevirtual 98, 3) := by decide +kernel
theorem d_as_hugeLength_37 : decode (mcode M_as_hugeLength) 37 = .ok (.ldc 210, 2) := by decide +kernel
theorem d_as_hugeLength_39 : decode (mcode M_as_hugeLength) 39 = .ok (.invokevirtual 94, 3) := by decide +kernel
theorem d_as_hugeLength_42 : decode (mcode M_as_hugeLength) 42 = .ok (.invokevirtual 101, 3) := by decide +kernel
theorem d_as_hugeLength_45 : decode (mcode M_as_hugeLength) 45 = .ok (.invokespecial 212, 3) := by decide +kernel
theorem d_as_hugeLength_48 : decode (mcode M_as_hugeLength) 48 = .ok (.athrow, 1) := by decide +kernel
theorem d_as_hugeLength_49 : decode (mcode M_as_hugeLength) 49 = .ok (.iload_n 2, 1) := by decide +kernel
theorem d_as_hugeLength_50 : decode (mcode M_as_hugeLength) 50 = .ok (.ldc 200, 2) := by decide +kernel
theorem d_as_hugeLength_52 : decode (mcode M_as_hugeLength) 52 = .ok (.if_icmp .gt 6, 3) := by decide +kernel
theorem d_as_hugeLength_55 : decode (mcode M_as_hugeLength) 55 = .ok (.ldc 200, 2) := by decide +kernel
theorem d_as_hugeLength_57 : decode (mcode M_as_hugeLength) 57 = .ok (.ireturn, 1) := by decide +kernel
theorem d_as_hugeLength_58 : decode (mcode M_as_hugeLength) 58 = .ok (.iload_n 2, 1) := by decide +kernel
theorem d_as_hugeLength_59 : decode (mcode M_as_hugeLength) 59 = .ok (.ireturn, 1) := by decide +kernel
theorem d_pr_checkIndex_0 : decode (mcode M_pr_checkIndex) 0 = .ok (.iload_n 0, 1) := by decide +kernel
theorem d_pr_checkIndex_1 : decode (mcode M_pr_checkIndex) 1 = .ok (.ifCond .lt 8, 3) := by decide +kernel
theorem d_pr_checkIndex_4 : decode (mcode M_pr_checkIndex) 4 = .ok (.iload_n 0, 1) := by decide +kernel
theorem d_pr_checkIndex_5 : decode (mcode M_pr_checkIndex) 5 = .ok (.iload_n 1, 1) := by decide +kernel
theorem d_pr_checkIndex_6 : decode (mcode M_pr_checkIndex) 6 = .ok (.if_icmp .lt 10, 3) := by decide +kernel
theorem d_pr_checkIndex_9 : decode (mcode M_pr_checkIndex) 9 = .ok (.aload_n 2, 1) := by decide +kernel
theorem d_pr_checkIndex_10 : decode (mcode M_pr_checkIndex) 10 = .ok (.iload_n 0, 1) := by decide +kernel
theorem d_pr_checkIndex_11 : decode (mcode M_pr_checkIndex) 11 = .ok (.iload_n 1, 1) := by decide +kernel
theorem d_pr_checkIndex_12 : decode (mcode M_pr_checkIndex) 12 = .ok (.invokestatic 95, 3) := by decide +kernel
theorem d_pr_checkIndex_15 : decode (mcode M_pr_checkIndex) 15 = .ok (.athrow, 1) := by decide +kernel
theorem d_pr_checkIndex_16 : decode (mcode M_pr_checkIndex) 16 = .ok (.iload_n 0, 1) := by decide +kernel
theorem d_pr_checkIndex_17 : decode (mcode M_pr_checkIndex) 17 = .ok (.ireturn, 1) := by decide +kernel
theorem d_lw_law_0 : decode (mcode M_lw_law) 0 = .ok (.new 7, 3) := by decide +kernel
theorem d_lw_law_3 : decode (mcode M_lw_law) 3 = .ok (.dup, 1) := by decide +kernel
theorem d_lw_law_4 : decode (mcode M_lw_law) 4 = .ok (.invokespecial 9, 3) := by decide +kernel
theorem d_lw_law_7 : decode (mcode M_lw_law) 7 = .ok (.astore_n 1, 1) := by decide +kernel
theorem d_lw_law_8 : decode (mcode M_lw_law) 8 = .ok (.new 10, 3) := by decide +kernel
theorem d_lw_law_11 : decode (mcode M_lw_law) 11 = .ok (.dup, 1) := by decide +kernel
theorem d_lw_law_12 : decode (mcode M_lw_law) 12 = .ok (.invokespecial 12, 3) := by decide +kernel
theorem d_lw_law_15 : decode (mcode M_lw_law) 15 = .ok (.astore_n 2, 1) := by decide +kernel
theorem d_lw_law_16 : decode (mcode M_lw_law) 16 = .ok (.iconst 0, 1) := by decide +kernel
theorem d_lw_law_17 : decode (mcode M_lw_law) 17 = .ok (.istore_n 3, 1) := by decide +kernel
theorem d_lw_law_18 : decode (mcode M_lw_law) 18 = .ok (.iload_n 3, 1) := by decide +kernel
theorem d_lw_law_19 : decode (mcode M_lw_law) 19 = .ok (.aload_n 0, 1) := by decide +kernel
theorem d_lw_law_20 : decode (mcode M_lw_law) 20 = .ok (.arraylength, 1) := by decide +kernel
theorem d_lw_law_21 : decode (mcode M_lw_law) 21 = .ok (.iconst 5, 1) := by decide +kernel
theorem d_lw_law_22 : decode (mcode M_lw_law) 22 = .ok (.isub, 1) := by decide +kernel
theorem d_lw_law_23 : decode (mcode M_lw_law) 23 = .ok (.if_icmp .gt 815, 3) := by decide +kernel
theorem d_lw_law_26 : decode (mcode M_lw_law) 26 = .ok (.aload_n 0, 1) := by decide +kernel
theorem d_lw_law_27 : decode (mcode M_lw_law) 27 = .ok (.iload_n 3, 1) := by decide +kernel
theorem d_lw_law_28 : decode (mcode M_lw_law) 28 = .ok (.iaload, 1) := by decide +kernel
theorem d_lw_law_29 : decode (mcode M_lw_law) 29 = .ok (.bipush 31, 2) := by decide +kernel
theorem d_lw_law_31 : decode (mcode M_lw_law) 31 = .ok (.iand, 1) := by decide +kernel
theorem d_lw_law_32 : decode (mcode M_lw_law) 32 = .ok (.tableswitch 800 0 21 #[104, 137, 180, 233, 276, 299, 332, 365, 388, 421, 434, 467, 490, 513, 536, 559, 602, 635, 678, 711, 754, 777], 104) := by decide +kernel
theorem d_lw_law_136 : decode (mcode M_lw_law) 136 = .ok (.aload_n 1, 1) := by decide +kernel
theorem d_lw_law_137 : decode (mcode M_lw_law) 137 = .ok (.aload_n 0, 1) := by decide +kernel
theorem d_lw_law_138 : decode (mcode M_lw_law) 138 = .ok (.iload_n 3, 1) := by decide +kernel
theorem d_lw_law_139 : decode (mcode M_lw_law) 139 = .ok (.iconst 1, 1) := by decide +kernel
theorem d_lw_law_140 : decode (mcode M_lw_law) 140 = .ok (.iadd, 1) := by decide +kernel
theorem d_lw_law_141 : decode (mcode M_lw_law) 141 = .ok (.iaload, 1) := by decide +kernel
theorem d_lw_law_142 : decode (mcode M_lw_law) 142 = .ok (.aload_n 0, 1) := by decide +kernel
theorem d_lw_law_143 : decode (mcode M_lw_law) 143 = .ok (.iload_n 3, 1) := by decide +kernel
theorem d_lw_law_144 : decode (mcode M_lw_law) 144 = .ok (.iconst 2, 1) := by decide +kernel
theorem d_lw_law_145 : decode (mcode M_lw_law) 145 = .ok (.iadd, 1) := by decide +kernel
theorem d_lw_law_146 : decode (mcode M_lw_law) 146 = .ok (.iaload, 1) := by decide +kernel
theorem d_lw_law_147 : decode (mcode M_lw_law) 147 = .ok (.invokevirtual 13, 3) := by decide +kernel
theorem d_lw_law_150 : decode (mcode M_lw_law) 150 = .ok (.aload_n 2, 1) := by decide +kernel
theorem d_lw_law_151 : decode (mcode M_lw_law) 151 = .ok (.aload_n 0, 1) := by decide +kernel
theorem d_lw_law_152 : decode (mcode M_lw_law) 152 = .ok (.iload_n 3, 1) := by decide +kernel
theorem d_lw_law_153 : decode (mcode M_lw_law) 153 = .ok (.iconst 1, 1) := by decide +kernel
theorem d_lw_law_154 : decode (mcode M_lw_law) 154 = .ok (.iadd, 1) := by decide +kernel
theorem d_lw_law_155 : decode (mcode M_lw_law) 155 = .ok (.iaload, 1) := by decide +kernel
theorem d_lw_law_156 : decode (mcode M_lw_law) 156 = .ok (.aload_n 0, 1) := by decide +kernel
theorem d_lw_law_157 : decode (mcode M_lw_law) 157 = .ok (.iload_n 3, 1) := by decide +kernel
theorem d_lw_law_158 : decode (mcode M_lw_law) 158 = .ok (.iconst 2, 1) := by decide +kernel
theorem d_lw_law_159 : decode (mcode M_lw_law) 159 = .ok (.iadd, 1) := by decide +kernel
theorem d_lw_law_160 : decode (mcode M_lw_law) 160 = .ok (.iaload, 1) := by decide +kernel
theorem d_lw_law_161 : decode (mcode M_lw_law) 161 = .ok (.invokevirtual 17, 3) := by decide +kernel
theorem d_lw_law_164 : decode (mcode M_lw_law) 164 = .ok (.if_icmp .eq 668, 3) := by decide +kernel
theorem d_lw_law_167 : decode (mcode M_lw_law) 167 = .ok (.iconst 0, 1) := by decide +kernel
theorem d_lw_law_168 : decode (mcode M_lw_law) 168 = .ok (.ireturn, 1) := by decide +kernel
theorem d_lw_law_169 : decode (mcode M_lw_law) 169 = .ok (.aload_n 1, 1) := by decide +kernel
theorem d_lw_law_170 : decode (mcode M_lw_law) 170 = .ok (.aload_n 0, 1) := by decide +kernel
theorem d_lw_law_171 : decode (mcode M_lw_law) 171 = .ok (.iload_n 3, 1) := by decide +kernel
theorem d_lw_law_172 : decode (mcode M_lw_law) 172 = .ok (.iconst 1, 1) := by decide +kernel
theorem d_lw_law_173 : decode (mcode M_lw_law) 173 = .ok (.iadd, 1) := by decide +kernel
theorem d_lw_law_174 : decode (mcode M_lw_law) 174 = .ok (.iaload, 1) := by decide +kernel
theorem d_lw_law_175 : decode (mcode M_lw_law) 175 = .ok (.aload_n 0, 1) := by decide +kernel
theorem d_lw_law_176 : decode (mcode M_lw_law) 176 = .ok (.iload_n 3, 1) := by decide +kernel
theorem d_lw_law_177 : decode (mcode M_lw_law) 177 = .ok (.iconst 2, 1) := by decide +kernel
theorem d_lw_law_178 : decode (mcode M_lw_law) 178 = .ok (.iadd, 1) := by decide +kernel
theorem d_lw_law_179 : decode (mcode M_lw_law) 179 = .ok (.iaload, 1) := by decide +kernel
theorem d_lw_law_180 : decode (mcode M_lw_law) 180 = .ok (.aload_n 0, 1) := by decide +kernel
theorem d_lw_law_181 : decode (mcode M_lw_law) 181 = .ok (.iload_n 3, 1) := by decide +kernel
theorem d_lw_law_182 : decode (mcode M_lw_law) 182 = .ok (.iconst 3, 1) := by decide +kernel
theorem d_lw_law_183 : decode (mcode M_lw_law) 183 = .ok (.iadd, 1) := by decide +kernel
theorem d_lw_law_184 : decode (mcode M_lw_law) 184 = .ok (.iaload, 1) := by decide +kernel
theorem d_lw_law_185 : decode (mcode M_lw_law) 185 = .ok (.invokevirtual 18, 3) := by decide +kernel
theorem d_lw_law_188 : decode (mcode M_lw_law) 188 = .ok (.aload_n 2, 1) := by decide +kernel
theorem d_lw_law_189 : decode (mcode M_lw_law) 189 = .ok (.aload_n 0, 1) := by decide +kernel
theorem d_lw_law_190 : decode (mcode M_lw_law) 190 = .ok (.iload_n 3, 1) := by decide +kernel
theorem d_lw_law_191 : decode (mcode M_lw_law) 191 = .ok (.iconst 1, 1) := by decide +kernel
theorem d_lw_law_192 : decode (mcode M_lw_law) 192 = .ok (.iadd, 1) := by decide +kernel
theorem d_lw_law_193 : decode (mcode M_lw_law) 193 = .ok (.iaload, 1) := by decide +kernel
theorem d_lw_law_194 : decode (mcode M_lw_law) 194 = .ok (.aload_n 0, 1) := by decide +kernel
theorem d_lw_law_195 : decode (mcode M_lw_law) 195 = .ok (.iload_n 3, 1) := by decide +kernel
theorem d_lw_law_196 : decode (mcode M_lw_law) 196 = .ok (.iconst 2, 1) := by decide +kernel
theorem d_lw_law_197 : decode (mcode M_lw_law) 197 = .ok (.iadd, 1) := by decide +kernel
theorem d_lw_law_198 : decode (mcode M_lw_law) 198 = .ok (.iaload, 1) := by decide +kernel
theorem d_lw_law_199 : decode (mcode M_lw_law) 199 = .ok (.aload_n 0, 1) := by decide +kernel
theorem d_lw_law_200 : decode (mcode M_lw_law) 200 = .ok (.iload_n 3, 1) := by decide +kernel
theorem d_lw_law_201 : decode (mcode M_lw_law) 201 = .ok (.iconst 3, 1) := by decide +kernel
theorem d_lw_law_202 : decode (mcode M_lw_law) 202 = .ok (.iadd, 1) := by decide +kernel
theorem d_lw_law_203 : decode (mcode M_lw_law) 203 = .ok (.iaload, 1) := by decide +kernel
theorem d_lw_law_204 : decode (mcode M_lw_law) 204 = .ok (.invokevirtual 22, 3) := by decide +kernel
theorem d_lw_law_207 : decode (mcode M_lw_law) 207 = .ok (.if_icmp .eq 625, 3) := by decide +kernel
theorem d_lw_law_210 : decode (mcode M_lw_law) 210 = .ok (.iconst 0, 1) := by decide +kernel
theorem d_lw_law_211 : decode (mcode M_lw_law) 211 = .ok (.ireturn, 1) := by decide +kernel
theorem d_lw_law_212 : decode (mcode M_lw_law) 212 = .ok (.aload_n 1, 1) := by decide +kernel
theorem d_lw_law_213 : decode (mcode M_lw_law) 213 = .ok (.aload_n 0, 1) := by decide +kernel
theorem d_lw_law_214 : decode (mcode M_lw_law) 214 = .ok (.iload_n 3, 1) := by decide +kernel
theorem d_lw_law_215 : decode (mcode M_lw_law) 215 = .ok (.iconst 1, 1) := by decide +kernel
theorem d_lw_law_216 : decode (mcode M_lw_law) 216 = .ok (.iadd, 1) := by decide +kernel
theorem d_lw_law_217 : decode (mcode M_lw_law) 217 = .ok (.iaload, 1) := by decide +kernel
theorem d_lw_law_218 : decode (mcode M_lw_law) 218 = .ok (.aload_n 0, 1) := by decide +kernel
theorem d_lw_law_219 : decode (mcode M_lw_law) 219 = .ok (.iload_n 3, 1) := by decide +kernel
theorem d_lw_law_220 : decode (mcode M_lw_law) 220 = .ok (.iconst 2, 1) := by decide +kernel
theorem d_lw_law_221 : decode (mcode M_lw_law) 221 = .ok (.iadd, 1) := by decide +kernel
theorem d_lw_law_222 : decode (mcode M_lw_law) 222 = .ok (.iaload, 1) := by decide +kernel
theorem d_lw_law_223 : decode (mcode M_lw_law) 223 = .ok (.aload_n 0, 1) := by decide +kernel
theorem d_lw_law_224 : decode (mcode M_lw_law) 224 = .ok (.iload_n 3, 1) := by decide +kernel
theorem d_lw_law_225 : decode (mcode M_lw_law) 225 = .ok (.iconst 3, 1) := by decide +kernel
theorem d_lw_law_226 : decode (mcode M_lw_law) 226 = .ok (.iadd, 1) := by decide +kernel
theorem d_lw_law_227 : decode (mcode M_lw_law) 227 = .ok (.iaload, 1) := by decide +kernel
theorem d_lw_law_228 : decode (mcode M_lw_law) 228 = .ok (.aload_n 0, 1) := by decide +kernel
theorem d_lw_law_229 : decode (mcode M_lw_law) 229 = .ok (.iload_n 3, 1) := by decide +kernel
theorem d_lw_law_230 : decode (mcode M_lw_law) 230 = .ok (.iconst 4, 1) := by decide +kernel
theorem d_lw_law_231 : decode (mcode M_lw_law) 231 = .ok (.iadd, 1) := by decide +kernel
theorem d_lw_law_232 : decode (mcode M_lw_law) 232 = .ok (.iaload, 1) := by decide +kernel
theorem d_lw_law_233 : decode (mcode M_lw_law) 233 = .ok (.invokevirtual 23, 3) := by decide +kernel
theorem d_lw_law_236 : decode (mcode M_lw_law) 236 = .ok (.aload_n 2, 1) := by decide +kernel
theorem d_lw_law_237 : decode (mcode M_lw_law) 237 = .ok (.aload_n 0, 1) := by decide +kernel
theorem d_lw_law_238 : decode (mcode M_lw_law) 238 = .ok (.iload_n 3, 1) := by decide +kernel
theorem d_lw_law_239 : decode (mcode M_lw_law) 239 = .ok (.iconst 1, 1) := by decide +kernel
theorem d_lw_law_240 : decode (mcode M_lw_law) 240 = .ok (.iadd, 1) := by decide +kernel
theorem d_lw_law_241 : decode (mcode M_lw_law) 241 = .ok (.iaload, 1) := by decide +kernel
theorem d_lw_law_242 : decode (mcode M_lw_law) 242 = .ok (.aload_n 0, 1) := by decide +kernel
theorem d_lw_law_243 : decode (mcode M_lw_law) 243 = .ok (.iload_n 3, 1) := by decide +kernel
theorem d_lw_law_244 : decode (mcode M_lw_law) 244 = .ok (.iconst 2, 1) := by decide +kernel
theorem d_lw_law_245 : decode (mcode M_lw_law) 245 = .ok (.iadd, 1) := by decide +kernel
theorem d_lw_law_246 : decode (mcode M_lw_law) 246 = .ok (.iaload, 1) := by decide +kernel
theorem d_lw_law_247 : decode (mcode M_lw_law) 247 = .ok (.aload_n 0, 1) := by decide +kernel
theorem d_lw_law_248 : decode (mcode M_lw_law) 248 = .ok (.iload_n 3, 1) := by decide +kernel
theorem d_lw_law_249 : decode (mcode M_lw_law) 249 = .ok (.iconst 3, 1) := by decide +kernel
theorem d_lw_law_250 : decode (mcode M_lw_law) 250 = .ok (.iadd, 1) := by decide +kernel
theorem d_lw_law_251 : decode (mcode M_lw_law) 251 = .ok (.iaload, 1) := by decide +kernel
theorem d_lw_law_252 : decode (mcode M_lw_law) 252 = .ok (.aload_n 0, 1) := by decide +kernel
theorem d_lw_law_253 : decode (mcode M_lw_law) 253 = .ok (.iload_n 3, 1) := by decide +kernel
theorem d_lw_law_254 : decode (mcode M_lw_law) 254 = .ok (.iconst 4, 1) := by decide +kernel
theorem d_lw_law_255 : decode (mcode M_lw_law) 255 = .ok (.iadd, 1) := by decide +kernel
theorem d_lw_law_256 : decode (mcode M_lw_law) 256 = .ok (.iaload, 1) := by decide +kernel
theorem d_lw_law_257 : decode (mcode M_lw_law) 257 = .ok (.invokevirtual 27, 3) := by decide +kernel
theorem d_lw_law_260 : decode (mcode M_lw_law) 260 = .ok (.if_icmp .eq 572, 3) := by decide +kernel
theorem d_lw_law_263 : decode (mcode M_lw_law) 263 = .ok (.iconst 0, 1) := by decide +kernel
theorem d_lw_law_264 : decode (mcode M_lw_law) 264 = .ok (.ireturn, 1) := by decide +kernel
theorem d_lw_law_265 : decode (mcode M_lw_law) 265 = .ok (.aload_n 1, 1) := by decide +kernel
theorem d_lw_law_266 : decode (mcode M_lw_law) 266 = .ok (.aload_n 0, 1) := by decide +kernel
theorem d_lw_law_267 : decode (mcode M_lw_law) 267 = .ok (.iload_n 3, 1) := by decide +kernel
theorem d_lw_law_268 : decode (mcode M_lw_law) 268 = .ok (.iconst 1, 1) := by decide +kernel
theorem d_lw_law_269 : decode (mcode M_lw_law) 269 = .ok (.iadd, 1) := by decide +kernel
theorem d_lw_law_270 : decode (mcode M_lw_law) 270 = .ok (.iaload, 1) := by decide +kernel
theorem d_lw_law_271 : decode (mcode M_lw_law) 271 = .ok (.aload_n 0, 1) := by decide +kernel
theorem d_lw_law_272 : decode (mcode M_lw_law) 272 = .ok (.iload_n 3, 1) := by decide +kernel
theorem d_lw_law_273 : decode (mcode M_lw_law) 273 = .ok (.iconst 2, 1) := by decide +kernel
theorem d_lw_law_274 : decode (mcode M_lw_law) 274 = .ok (.iadd, 1) := by decide +kernel
theorem d_lw_law_275 : decode (mcode M_lw_law) 275 = .ok (.iaload, 1) := by decide +kernel
theorem d_lw_law_276 : decode (mcode M_lw_law) 276 = .ok (.aload_n 0, 1) := by decide +kernel
theorem d_lw_law_277 : decode (mcode M_lw_law) 277 = .ok (.iload_n 3, 1) := by decide +kernel
theorem d_lw_law_278 : decode (mcode M_lw_law) 278 = .ok (.iconst 3, 1) := by decide +kernel
theorem d_lw_law_279 : decode (mcode M_lw_law) 279 = .ok (.iadd, 1) := by decide +kernel
theorem d_lw_law_280 : decode (mcode M_lw_law) 280 = .ok (.iaload, 1) := by decide +kernel
theorem d_lw_law_281 : decode (mcode M_lw_law) 281 = .ok (.invokevirtual 28, 3) := by decide +kernel
theorem d_lw_law_284 : decode (mcode M_lw_law) 284 = .ok (.aload_n 2, 1) := by decide +kernel
theorem d_lw_law_285 : decode (mcode M_lw_law) 285 = .ok (.aload_n 0, 1) := by decide +kernel
theorem d_lw_law_286 : decode (mcode M_lw_law) 286 = .ok (.iload_n 3, 1) := by decide +kernel
theorem d_lw_law_287 : decode (mcode M_lw_law) 287 = .ok (.iconst 1, 1) := by decide +kernel
theorem d_lw_law_288 : decode (mcode M_lw_law) 288 = .ok (.iadd, 1) := by decide +kernel
theorem d_lw_law_289 : decode (mcode M_lw_law) 289 = .ok (.iaload, 1) := by decide +kernel
theorem d_lw_law_290 : decode (mcode M_lw_law) 290 = .ok (.aload_n 0, 1) := by decide +kernel
theorem d_lw_law_291 : decode (mcode M_lw_law) 291 = .ok (.iload_n 3, 1) := by decide +kernel
theorem d_lw_law_292 : decode (mcode M_lw_law) 292 = .ok (.iconst 2, 1) := by decide +kernel
theorem d_lw_law_293 : decode (mcode M_lw_law) 293 = .ok (.iadd, 1) := by decide +kernel
theorem d_lw_law_294 : decode (mcode M_lw_law) 294 = .ok (.iaload, 1) := by decide +kernel
theorem d_lw_law_295 : decode (mcode M_lw_law) 295 = .ok (.aload_n 0, 1) := by decide +kernel
theorem d_lw_law_296 : decode (mcode M_lw_law) 296 = .ok (.iload_n 3, 1) := by decide +kernel
theorem d_lw_law_297 : decode (mcode M_lw_law) 297 = .ok (.iconst 3, 1) := by decide +kernel
theorem d_lw_law_298 : decode (mcode M_lw_law) 298 = .ok (.iadd, 1) := by decide +kernel
theorem d_lw_law_299 : decode (mcode M_lw_law) 299 = .ok (.iaload, 1) := by decide +kernel
theorem d_lw_law_300 : decode (mcode M_lw_law) 300 = .ok (.invokevirtual 32, 3) := by decide +kernel
theorem d_lw_law_303 : decode (mcode M_lw_law) 303 = .ok (.if_icmp .eq 529, 3) := by decide +kernel
theorem d_lw_law_306 : decode (mcode M_lw_law) 306 = .ok (.iconst 0, 1) := by decide +kernel
theorem d_lw_law_307 : decode (mcode M_lw_law) 307 = .ok (.ireturn, 1) := by decide +kernel
theorem d_lw_law_308 : decode (mcode M_lw_law) 308 = .ok (.aload_n 1, 1) := by decide +kernel
theorem d_lw_law_309 : decode (mcode M_lw_law) 309 = .ok (.aload_n 0, 1) := by decide +kernel
theorem d_lw_law_310 : decode (mcode M_lw_law) 310 = .ok (.iload_n 3, 1) := by decide +kernel
theorem d_lw_law_311 : decode (mcode M_lw_law) 311 = .ok (.iconst 1, 1) := by decide +kernel
theorem d_lw_law_312 : decode (mcode M_lw_law) 312 = .ok (.iadd, 1) := by decide +kernel
theorem d_lw_law_313 : decode (mcode M_lw_law) 313 = .ok (.iaload, 1) := by decide +kernel
theorem d_lw_law_314 : decode (mcode M_lw_law) 314 = .ok (.invokevirtual 33, 3) := by decide +kernel
theorem d_lw_law_317 : decode (mcode M_lw_law) 317 = .ok (.aload_n 2, 1) := by decide +kernel
theorem d_lw_law_318 : decode (mcode M_lw_law) 318 = .ok (.aload_n 0, 1) := by decide +kernel
theorem d_lw_law_319 : decode (mcode M_lw_law) 319 = .ok (.iload_n 3, 1) := by decide +kernel
theorem d_lw_law_320 : decode (mcode M_lw_law) 320 = .ok (.iconst 1, 1) := by decide +kernel
theorem d_lw_law_321 : decode (mcode M_lw_law) 321 = .ok (.iadd, 1) := by decide +kernel
theorem d_lw_law_322 : decode (mcode M_lw_law) 322 = .ok (.iaload, 1) := by decide +kernel
theorem d_lw_law_323 : decode (mcode M_lw_law) 323 = .ok (.invokevirtual 37, 3) := by decide +kernel
theorem d_lw_law_326 : decode (mcode M_lw_law) 326 = .ok (.if_icmp .eq 506, 3) := by decide +kernel
theorem d_lw_law_329 : decode (mcode M_lw_law) 329 = .ok (.iconst 0, 1) := by decide +kernel
theorem d_lw_law_330 : decode (mcode M_lw_law) 330 = .ok (.ireturn, 1) := by decide +kernel
theorem d_lw_law_331 : decode (mcode M_lw_law) 331 = .ok (.aload_n 1, 1) := by decide +kernel
theorem d_lw_law_332 : decode (mcode M_lw_law) 332 = .ok (.aload_n 0, 1) := by decide +kernel
theorem d_lw_law_333 : decode (mcode M_lw_law) 333 = .ok (.iload_n 3, 1) := by decide +kernel
theorem d_lw_law_334 : decode (mcode M_lw_law) 334 = .ok (.iconst 1, 1) := by decide +kernel
theorem d_lw_law_335 : decode (mcode M_lw_law) 335 = .ok (.iadd, 1) := by decide +kernel
theorem d_lw_law_336 : decode (mcode M_lw_law) 336 = .ok (.iaload, 1) := by decide +kernel
theorem d_lw_law_337 : decode (mcode M_lw_law) 337 = .ok (.aload_n 0, 1) := by decide +kernel
theorem d_lw_law_338 : decode (mcode M_lw_law) 338 = .ok (.iload_n 3, 1) := by decide +kernel
theorem d_lw_law_339 : decode (mcode M_lw_law) 339 = .ok (.iconst 2, 1) := by decide +kernel
theorem d_lw_law_340 : decode (mcode M_lw_law) 340 = .ok (.iadd, 1) := by decide +kernel
theorem d_lw_law_341 : decode (mcode M_lw_law) 341 = .ok (.iaload, 1) := by decide +kernel
theorem d_lw_law_342 : decode (mcode M_lw_law) 342 = .ok (.invokevirtual 38, 3) := by decide +kernel
theorem d_lw_law_345 : decode (mcode M_lw_law) 345 = .ok (.aload_n 2, 1) := by decide +kernel
theorem d_lw_law_346 : decode (mcode M_lw_law) 346 = .ok (.aload_n 0, 1) := by decide +kernel
theorem d_lw_law_347 : decode (mcode M_lw_law) 347 = .ok (.iload_n 3, 1) := by decide +kernel
theorem d_lw_law_348 : decode (mcode M_lw_law) 348 = .ok (.iconst 1, 1) := by decide +kernel
theorem d_lw_law_349 : decode (mcode M_lw_law) 349 = .ok (.iadd, 1) := by decide +kernel
theorem d_lw_law_350 : decode (mcode M_lw_law) 350 = .ok (.iaload, 1) := by decide +kernel
theorem d_lw_law_351 : decode (mcode M_lw_law) 351 = .ok (.aload_n 0, 1) := by decide +kernel
theorem d_lw_law_352 : decode (mcode M_lw_law) 352 = .ok (.iload_n 3, 1) := by decide +kernel
theorem d_lw_law_353 : decode (mcode M_lw_law) 353 = .ok (.iconst 2, 1) := by decide +kernel
theorem d_lw_law_354 : decode (mcode M_lw_law) 354 = .ok (.iadd, 1) := by decide +kernel
theorem d_lw_law_355 : decode (mcode M_lw_law) 355 = .ok (.iaload, 1) := by decide +kernel
theorem d_lw_law_356 : decode (mcode M_lw_law) 356 = .ok (.invokevirtual 41, 3) := by decide +kernel
theorem d_lw_law_359 : decode (mcode M_lw_law) 359 = .ok (.if_icmp .eq 473, 3) := by decide +kernel
theorem d_lw_law_362 : decode (mcode M_lw_law) 362 = .ok (.iconst 0, 1) := by decide +kernel
theorem d_lw_law_363 : decode (mcode M_lw_law) 363 = .ok (.ireturn, 1) := by decide +kernel
theorem d_lw_law_364 : decode (mcode M_lw_law) 364 = .ok (.aload_n 1, 1) := by decide +kernel
theorem d_lw_law_365 : decode (mcode M_lw_law) 365 = .ok (.aload_n 0, 1) := by decide +kernel
theorem d_lw_law_366 : decode (mcode M_lw_law) 366 = .ok (.iload_n 3, 1) := by decide +kernel
theorem d_lw_law_367 : decode (mcode M_lw_law) 367 = .ok (.iconst 1, 1) := by decide +kernel
theorem d_lw_law_368 : decode (mcode M_lw_law) 368 = .ok (.iadd, 1) := by decide +kernel
theorem d_lw_law_369 : decode (mcode M_lw_law) 369 = .ok (.iaload, 1) := by decide +kernel
theorem d_lw_law_370 : decode (mcode M_lw_law) 370 = .ok (.aload_n 0, 1) := by decide +kernel
theorem d_lw_law_371 : decode (mcode M_lw_law) 371 = .ok (.iload_n 3, 1) := by decide +kernel
theorem d_lw_law_372 : decode (mcode M_lw_law) 372 = .ok (.iconst 2, 1) := by decide +kernel
theorem d_lw_law_373 : decode (mcode M_lw_law) 373 = .ok (.iadd, 1) := by decide +kernel
theorem d_lw_law_374 : decode (mcode M_lw_law) 374 = .ok (.iaload, 1) := by decide +kernel
theorem d_lw_law_375 : decode (mcode M_lw_law) 375 = .ok (.invokevirtual 42, 3) := by decide +kernel
theorem d_lw_law_378 : decode (mcode M_lw_law) 378 = .ok (.aload_n 2, 1) := by decide +kernel
theorem d_lw_law_379 : decode (mcode M_lw_law) 379 = .ok (.aload_n 0, 1) := by decide +kernel
theorem d_lw_law_380 : decode (mcode M_lw_law) 380 = .ok (.iload_n 3, 1) := by decide +kernel
theorem d_lw_law_381 : decode (mcode M_lw_law) 381 = .ok (.iconst 1, 1) := by decide +kernel
theorem d_lw_law_382 : decode (mcode M_lw_law) 382 = .ok (.iadd, 1) := by decide +kernel
theorem d_lw_law_383 : decode (mcode M_lw_law) 383 = .ok (.iaload, 1) := by decide +kernel
theorem d_lw_law_384 : decode (mcode M_lw_law) 384 = .ok (.aload_n 0, 1) := by decide +kernel
theorem d_lw_law_385 : decode (mcode M_lw_law) 385 = .ok (.iload_n 3, 1) := by decide +kernel
theorem d_lw_law_386 : decode (mcode M_lw_law) 386 = .ok (.iconst 2, 1) := by decide +kernel
theorem d_lw_law_387 : decode (mcode M_lw_law) 387 = .ok (.iadd, 1) := by decide +kernel
theorem d_lw_law_388 : decode (mcode M_lw_law) 388 = .ok (.iaload, 1) := by decide +kernel
theorem d_lw_law_389 : decode (mcode M_lw_law) 389 = .ok (.invokevirtual 45, 3) := by decide +kernel
theorem d_lw_law_392 : decode (mcode M_lw_law) 392 = .ok (.if_icmp .eq 440, 3) := by decide +kernel
theorem d_lw_law_395 : decode (mcode M_lw_law) 395 = .ok (.iconst 0, 1) := by decide +kernel
theorem d_lw_law_396 : decode (mcode M_lw_law) 396 = .ok (.ireturn, 1) := by decide +kernel
theorem d_lw_law_397 : decode (mcode M_lw_law) 397 = .ok (.aload_n 1, 1) := by decide +kernel
theorem d_lw_law_398 : decode (mcode M_lw_law) 398 = .ok (.aload_n 0, 1) := by decide +kernel
theorem d_lw_law_399 : decode (mcode M_lw_law) 399 = .ok (.iload_n 3, 1) := by decide +kernel
theorem d_lw_law_400 : decode (mcode M_lw_law) 400 = .ok (.iconst 1, 1) := by decide +kernel
theorem d_lw_law_401 : decode (mcode M_lw_law) 401 = .ok (.iadd, 1) := by decide +kernel
theorem d_lw_law_402 : decode (mcode M_lw_law) 402 = .ok (.iaload, 1) := by decide +kernel
theorem d_lw_law_403 : decode (mcode M_lw_law) 403 = .ok (.invokevirtual 46, 3) := by decide +kernel
theorem d_lw_law_406 : decode (mcode M_lw_law) 406 = .ok (.aload_n 2, 1) := by decide +kernel
theorem d_lw_law_407 : decode (mcode M_lw_law) 407 = .ok (.aload_n 0, 1) := by decide +kernel
theorem d_lw_law_408 : decode (mcode M_lw_law) 408 = .ok (.iload_n 3, 1) := by decide +kernel
theorem d_lw_law_409 : decode (mcode M_lw_law) 409 = .ok (.iconst 1, 1) := by decide +kernel
theorem d_lw_law_410 : decode (mcode M_lw_law) 410 = .ok (.iadd, 1) := by decide +kernel
theorem d_lw_law_411 : decode (mcode M_lw_law) 411 = .ok (.iaload, 1) := by decide +kernel
theorem d_lw_law_412 : decode (mcode M_lw_law) 412 = .ok (.invokevirtual 49, 3) := by decide +kernel
theorem d_lw_law_415 : decode (mcode M_lw_law) 415 = .ok (.if_icmp .eq 417, 3) := by decide +kernel
theorem d_lw_law_418 : decode (mcode M_lw_law) 418 = .ok (.iconst 0, 1) := by decide +kernel
theorem d_lw_law_419 : decode (mcode M_lw_law) 419 = .ok (.ireturn, 1) := by decide +kernel
theorem d_lw_law_420 : decode (mcode M_lw_law) 420 = .ok (.aload_n 1, 1) := by decide +kernel
theorem d_lw_law_421 : decode (mcode M_lw_law) 421 = .ok (.aload_n 0, 1) := by decide +kernel
theorem d_lw_law_422 : decode (mcode M_lw_law) 422 = .ok (.iload_n 3, 1) := by decide +kernel
theorem d_lw_law_423 : decode (mcode M_lw_law) 423 = .ok (.iconst 1, 1) := by decide +kernel
theorem d_lw_law_424 : decode (mcode M_lw_law) 424 = .ok (.iadd, 1) := by decide +kernel
theorem d_lw_law_425 : decode (mcode M_lw_law) 425 = .ok (.iaload, 1) := by decide +kernel
theorem d_lw_law_426 : decode (mcode M_lw_law) 426 = .ok (.aload_n 0, 1) := by decide +kernel
theorem d_lw_law_427 : decode (mcode M_lw_law) 427 = .ok (.iload_n 3, 1) := by decide +kernel
theorem d_lw_law_428 : decode (mcode M_lw_law) 428 = .ok (.iconst 2, 1) := by decide +kernel
theorem d_lw_law_429 : decode (mcode M_lw_law) 429 = .ok (.iadd, 1) := by decide +kernel
theorem d_lw_law_430 : decode (mcode M_lw_law) 430 = .ok (.iaload, 1) := by decide +kernel
theorem d_lw_law_431 : decode (mcode M_lw_law) 431 = .ok (.invokevirtual 50, 3) := by decide +kernel
theorem d_lw_law_434 : decode (mcode M_lw_law) 434 = .ok (.aload_n 2, 1) := by decide +kernel
theorem d_lw_law_435 : decode (mcode M_lw_law) 435 = .ok (.aload_n 0, 1) := by decide +kernel
theorem d_lw_law_436 : decode (mcode M_lw_law) 436 = .ok (.iload_n 3, 1) := by decide +kernel
theorem d_lw_law_437 : decode (mcode M_lw_law) 437 = .ok (.iconst 1, 1) := by decide +kernel
theorem d_lw_law_438 : decode (mcode M_lw_law) 438 = .ok (.iadd, 1) := by decide +kernel
theorem d_lw_law_439 : decode (mcode M_lw_law) 439 = .ok (.iaload, 1) := by decide +kernel
theorem d_lw_law_440 : decode (mcode M_lw_law) 440 = .ok (.aload_n 0, 1) := by decide +kernel
theorem d_lw_law_441 : decode (mcode M_lw_law) 441 = .ok (.iload_n 3, 1) := by decide +kernel
theorem d_lw_law_442 : decode (mcode M_lw_law) 442 = .ok (.iconst 2, 1) := by decide +kernel
theorem d_lw_law_443 : decode (mcode M_lw_law) 443 = .ok (.iadd, 1) := by decide +kernel
theorem d_lw_law_444 : decode (mcode M_lw_law) 444 = .ok (.iaload, 1) := by decide +kernel
theorem d_lw_law_445 : decode (mcode M_lw_law) 445 = .ok (.invokevirtual 53, 3) := by decide +kernel
theorem d_lw_law_448 : decode (mcode M_lw_law) 448 = .ok (.if_icmp .eq 384, 3) := by decide +kernel
theorem d_lw_law_451 : decode (mcode M_lw_law) 451 = .ok (.iconst 0, 1) := by decide +kernel
theorem d_lw_law_452 : decode (mcode M_lw_law) 452 = .ok (.ireturn, 1) := by decide +kernel
theorem d_lw_law_453 : decode (mcode M_lw_law) 453 = .ok (.aload_n 1, 1) := by decide +kernel
theorem d_lw_law_454 : decode (mcode M_lw_law) 454 = .ok (.invokevirtual 54, 3) := by decide +kernel
theorem d_lw_law_457 : decode (mcode M_lw_law) 457 = .ok (.aload_n 2, 1) := by decide +kernel
theorem d_lw_law_458 : decode (mcode M_lw_law) 458 = .ok (.invokevirtual 58, 3) := by decide +kernel
theorem d_lw_law_461 : decode (mcode M_lw_law) 461 = .ok (.if_icmp .eq 371, 3) := by decide +kernel
theorem d_lw_law_464 : decode (mcode M_lw_law) 464 = .ok (.iconst 0, 1) := by decide +kernel
theorem d_lw_law_465 : decode (mcode M_lw_law) 465 = .ok (.ireturn, 1) := by decide +kernel
theorem d_lw_law_466 : decode (mcode M_lw_law) 466 = .ok (.aload_n 1, 1) := by decide +kernel
theorem d_lw_law_467 : decode (mcode M_lw_law) 467 = .ok (.aload_n 0, 1) := by decide +kernel
theorem d_lw_law_468 : decode (mcode M_lw_law) 468 = .ok (.iload_n 3, 1) := by decide +kernel
theorem d_lw_law_469 : decode (mcode M_lw_law) 469 = .ok (.iconst 1, 1) := by decide +kernel
theorem d_lw_law_470 : decode (mcode M_lw_law) 470 = .ok (.iadd, 1) := by decide +kernel
theorem d_lw_law_471 : decode (mcode M_lw_law) 471 = .ok (.iaload, 1) := by decide +kernel
theorem d_lw_law_472 : decode (mcode M_lw_law) 472 = .ok (.aload_n 0, 1) := by decide +kernel
theorem d_lw_law_473 : decode (mcode M_lw_law) 473 = .ok (.iload_n 3, 1) := by decide +kernel
theorem d_lw_law_474 : decode (mcode M_lw_law) 474 = .ok (.iconst 2, 1) := by decide +kernel
theorem d_lw_law_475 : decode (mcode M_lw_law) 475 = .ok (.iadd, 1) := by decide +kernel
theorem d_lw_law_476 : decode (mcode M_lw_law) 476 = .ok (.iaload, 1) := by decide +kernel
theorem d_lw_law_477 : decode (mcode M_lw_law) 477 = .ok (.invokevirtual 59, 3) := by decide +kernel
theorem d_lw_law_480 : decode (mcode M_lw_law) 480 = .ok (.aload_n 2, 1) := by decide +kernel
theorem d_lw_law_481 : decode (mcode M_lw_law) 481 = .ok (.aload_n 0, 1) := by decide +kernel
theorem d_lw_law_482 : decode (mcode M_lw_law) 482 = .ok (.iload_n 3, 1) := by decide +kernel
theorem d_lw_law_483 : decode (mcode M_lw_law) 483 = .ok (.iconst 1, 1) := by decide +kernel
theorem d_lw_law_484 : decode (mcode M_lw_law) 484 = .ok (.iadd, 1) := by decide +kernel
theorem d_lw_law_485 : decode (mcode M_lw_law) 485 = .ok (.iaload, 1) := by decide +kernel
theorem d_lw_law_486 : decode (mcode M_lw_law) 486 = .ok (.aload_n 0, 1) := by decide +kernel
theorem d_lw_law_487 : decode (mcode M_lw_law) 487 = .ok (.iload_n 3, 1) := by decide +kernel
theorem d_lw_law_488 : decode (mcode M_lw_law) 488 = .ok (.iconst 2, 1) := by decide +kernel
theorem d_lw_law_489 : decode (mcode M_lw_law) 489 = .ok (.iadd, 1) := by decide +kernel
theorem d_lw_law_490 : decode (mcode M_lw_law) 490 = .ok (.iaload, 1) := by decide +kernel
theorem d_lw_law_491 : decode (mcode M_lw_law) 491 = .ok (.invokevirtual 63, 3) := by decide +kernel
theorem d_lw_law_494 : decode (mcode M_lw_law) 494 = .ok (.if_icmp .eq 338, 3) := by decide +kernel
theorem d_lw_law_497 : decode (mcode M_lw_law) 497 = .ok (.iconst 0, 1) := by decide +kernel
theorem d_lw_law_498 : decode (mcode M_lw_law) 498 = .ok (.ireturn, 1) := by decide +kernel
theorem d_lw_law_499 : decode (mcode M_lw_law) 499 = .ok (.aload_n 1, 1) := by decide +kernel
theorem d_lw_law_500 : decode (mcode M_lw_law) 500 = .ok (.aload_n 0, 1) := by decide +kernel
theorem d_lw_law_501 : decode (mcode M_lw_law) 501 = .ok (.iload_n 3, 1) := by decide +kernel
theorem d_lw_law_502 : decode (mcode M_lw_law) 502 = .ok (.iconst 1, 1) := by decide +kernel
theorem d_lw_law_503 : decode (mcode M_lw_law) 503 = .ok (.iadd, 1) := by decide +kernel
theorem d_lw_law_504 : decode (mcode M_lw_law) 504 = .ok (.iaload, 1) := by decide +kernel
theorem d_lw_law_505 : decode (mcode M_lw_law) 505 = .ok (.invokevirtual 64, 3) := by decide +kernel
theorem d_lw_law_508 : decode (mcode M_lw_law) 508 = .ok (.aload_n 2, 1) := by decide +kernel
theorem d_lw_law_509 : decode (mcode M_lw_law) 509 = .ok (.aload_n 0, 1) := by decide +kernel
theorem d_lw_law_510 : decode (mcode M_lw_law) 510 = .ok (.iload_n 3, 1) := by decide +kernel
theorem d_lw_law_511 : decode (mcode M_lw_law) 511 = .ok (.iconst 1, 1) := by decide +kernel
theorem d_lw_law_512 : decode (mcode M_lw_law) 512 = .ok (.iadd, 1) := by decide +kernel
theorem d_lw_law_513 : decode (mcode M_lw_law) 513 = .ok (.iaload, 1) := by decide +kernel
theorem d_lw_law_514 : decode (mcode M_lw_law) 514 = .ok (.invokevirtual 67, 3) := by decide +kernel
theorem d_lw_law_517 : decode (mcode M_lw_law) 517 = .ok (.if_icmp .eq 315, 3) := by decide +kernel
theorem d_lw_law_520 : decode (mcode M_lw_law) 520 = .ok (.iconst 0, 1) := by decide +kernel
theorem d_lw_law_521 : decode (mcode M_lw_law) 521 = .ok (.ireturn, 1) := by decide +kernel
theorem d_lw_law_522 : decode (mcode M_lw_law) 522 = .ok (.aload_n 1, 1) := by decide +kernel
theorem d_lw_law_523 : decode (mcode M_lw_law) 523 = .ok (.aload_n 0, 1) := by decide +kernel
theorem d_lw_law_524 : decode (mcode M_lw_law) 524 = .ok (.iload_n 3, 1) := by decide +kernel
theorem d_lw_law_525 : decode (mcode M_lw_law) 525 = .ok (.iconst 1, 1) := by decide +kernel
theorem d_lw_law_526 : decode (mcode M_lw_law) 526 = .ok (.iadd, 1) := by decide +kernel
theorem d_lw_law_527 : decode (mcode M_lw_law) 527 = .ok (.iaload, 1) := by decide +kernel
theorem d_lw_law_528 : decode (mcode M_lw_law) 528 = .ok (.invokevirtual 68, 3) := by decide +kernel
theorem d_lw_law_531 : decode (mcode M_lw_law) 531 = .ok (.aload_n 2, 1) := by decide +kernel
theorem d_lw_law_532 : decode (mcode M_lw_law) 532 = .ok (.aload_n 0, 1) := by decide +kernel
theorem d_lw_law_533 : decode (mcode M_lw_law) 533 = .ok (.iload_n 3, 1) := by decide +kernel
theorem d_lw_law_534 : decode (mcode M_lw_law) 534 = .ok (.iconst 1, 1) := by decide +kernel
theorem d_lw_law_535 : decode (mcode M_lw_law) 535 = .ok (.iadd, 1) := by decide +kernel
theorem d_lw_law_536 : decode (mcode M_lw_law) 536 = .ok (.iaload, 1) := by decide +kernel
theorem d_lw_law_537 : decode (mcode M_lw_law) 537 = .ok (.invokevirtual 71, 3) := by decide +kernel
theorem d_lw_law_540 : decode (mcode M_lw_law) 540 = .ok (.if_icmp .eq 292, 3) := by decide +kernel
theorem d_lw_law_543 : decode (mcode M_lw_law) 543 = .ok (.iconst 0, 1) := by decide +kernel
theorem d_lw_law_544 : decode (mcode M_lw_law) 544 = .ok (.ireturn, 1) := by decide +kernel
theorem d_lw_law_545 : decode (mcode M_lw_law) 545 = .ok (.aload_n 1, 1) := by decide +kernel
theorem d_lw_law_546 : decode (mcode M_lw_law) 546 = .ok (.aload_n 0, 1) := by decide +kernel
theorem d_lw_law_547 : decode (mcode M_lw_law) 547 = .ok (.iload_n 3, 1) := by decide +kernel
theorem d_lw_law_548 : decode (mcode M_lw_law) 548 = .ok (.iconst 1, 1) := by decide +kernel
theorem d_lw_law_549 : decode (mcode M_lw_law) 549 = .ok (.iadd, 1) := by decide +kernel
theorem d_lw_law_550 : decode (mcode M_lw_law) 550 = .ok (.iaload, 1) := by decide +kernel
theorem d_lw_law_551 : decode (mcode M_lw_law) 551 = .ok (.invokevirtual 72, 3) := by decide +kernel
theorem d_lw_law_554 : decode (mcode M_lw_law) 554 = .ok (.aload_n 2, 1) := by decide +kernel
theorem d_lw_law_555 : decode (mcode M_lw_law) 555 = .ok (.aload_n 0, 1) := by decide +kernel
theorem d_lw_law_556 : decode (mcode M_lw_law) 556 = .ok (.iload_n 3, 1) := by decide +kernel
theorem d_lw_law_557 : decode (mcode M_lw_law) 557 = .ok (.iconst 1, 1) := by decide +kernel
theorem d_lw_law_558 : decode (mcode M_lw_law) 558 = .ok (.iadd, 1) := by decide +kernel
theorem d_lw_law_559 : decode (mcode M_lw_law) 559 = .ok (.iaload, 1) := by decide +kernel
theorem d_lw_law_560 : decode (mcode M_lw_law) 560 = .ok (.invokevirtual 75, 3) := by decide +kernel
theorem d_lw_law_563 : decode (mcode M_lw_law) 563 = .ok (.if_icmp .eq 269, 3) := by decide +kernel
theorem d_lw_law_566 : decode (mcode M_lw_law) 566 = .ok (.iconst 0, 1) := by decide +kernel
theorem d_lw_law_567 : decode (mcode M_lw_law) 567 = .ok (.ireturn, 1) := by decide +kernel
theorem d_lw_law_568 : decode (mcode M_lw_law) 568 = .ok (.aload_n 1, 1) := by decide +kernel
theorem d_lw_law_569 : decode (mcode M_lw_law) 569 = .ok (.aload_n 0, 1) := by decide +kernel
theorem d_lw_law_570 : decode (mcode M_lw_law) 570 = .ok (.iload_n 3, 1) := by decide +kernel
theorem d_lw_law_571 : decode (mcode M_lw_law) 571 = .ok (.iconst 1, 1) := by decide +kernel
theorem d_lw_law_572 : decode (mcode M_lw_law) 572 = .ok (.iadd, 1) := by decide +kernel
theorem d_lw_law_573 : decode (mcode M_lw_law) 573 = .ok (.iaload, 1) := by decide +kernel
theorem d_lw_law_574 : decode (mcode M_lw_law) 574 = .ok (.invokevirtual 76, 3) := by decide +kernel
theorem d_lw_law_577 : decode (mcode M_lw_law) 577 = .ok (.aload_n 2, 1) := by decide +kernel
theorem d_lw_law_578 : decode (mcode M_lw_law) 578 = .ok (.aload_n 0, 1) := by decide +kernel
theorem d_lw_law_579 : decode (mcode M_lw_law) 579 = .ok (.iload_n 3, 1) := by decide +kernel
theorem d_lw_law_580 : decode (mcode M_lw_law) 580 = .ok (.iconst 1, 1) := by decide +kernel
theorem d_lw_law_581 : decode (mcode M_lw_law) 581 = .ok (.iadd, 1) := by decide +kernel
theorem d_lw_law_582 : decode (mcode M_lw_law) 582 = .ok (.iaload, 1) := by decide +kernel
theorem d_lw_law_583 : decode (mcode M_lw_law) 583 = .ok (.invokevirtual 80, 3) := by decide +kernel
theorem d_lw_law_586 : decode (mcode M_lw_law) 586 = .ok (.if_icmp .eq 246, 3) := by decide +kernel
theorem d_lw_law_589 : decode (mcode M_lw_law) 589 = .ok (.iconst 0, 1) := by decide +kernel
theorem d_lw_law_590 : decode (mcode M_lw_law) 590 = .ok (.ireturn, 1) := by decide +kernel
theorem d_lw_law_591 : decode (mcode M_lw_law) 591 = .ok (.aload_n 1, 1) := by decide +kernel
theorem d_lw_law_592 : decode (mcode M_lw_law) 592 = .ok (.aload_n 0, 1) := by decide +kernel
theorem d_lw_law_593 : decode (mcode M_lw_law) 593 = .ok (.iload_n 3, 1) := by decide +kernel
theorem d_lw_law_594 : decode (mcode M_lw_law) 594 = .ok (.iconst 1, 1) := by decide +kernel
theorem d_lw_law_595 : decode (mcode M_lw_law) 595 = .ok (.iadd, 1) := by decide +kernel
theorem d_lw_law_596 : decode (mcode M_lw_law) 596 = .ok (.iaload, 1) := by decide +kernel
theorem d_lw_law_597 : decode (mcode M_lw_law) 597 = .ok (.aload_n 0, 1) := by decide +kernel
theorem d_lw_law_598 : decode (mcode M_lw_law) 598 = .ok (.iload_n 3, 1) := by decide +kernel
theorem d_lw_law_599 : decode (mcode M_lw_law) 599 = .ok (.iconst 2, 1) := by decide +kernel
theorem d_lw_law_600 : decode (mcode M_lw_law) 600 = .ok (.iadd, 1) := by decide +kernel
theorem d_lw_law_601 : decode (mcode M_lw_law) 601 = .ok (.iaload, 1) := by decide +kernel
theorem d_lw_law_602 : decode (mcode M_lw_law) 602 = .ok (.aload_n 0, 1) := by decide +kernel
theorem d_lw_law_603 : decode (mcode M_lw_law) 603 = .ok (.iload_n 3, 1) := by decide +kernel
theorem d_lw_law_604 : decode (mcode M_lw_law) 604 = .ok (.iconst 3, 1) := by decide +kernel
theorem d_lw_law_605 : decode (mcode M_lw_law) 605 = .ok (.iadd, 1) := by decide +kernel
theorem d_lw_law_606 : decode (mcode M_lw_law) 606 = .ok (.iaload, 1) := by decide +kernel
theorem d_lw_law_607 : decode (mcode M_lw_law) 607 = .ok (.invokevirtual 81, 3) := by decide +kernel
theorem d_lw_law_610 : decode (mcode M_lw_law) 610 = .ok (.aload_n 2, 1) := by decide +kernel
theorem d_lw_law_611 : decode (mcode M_lw_law) 611 = .ok (.aload_n 0, 1) := by decide +kernel
theorem d_lw_law_612 : decode (mcode M_lw_law) 612 = .ok (.iload_n 3, 1) := by decide +kernel
theorem d_lw_law_613 : decode (mcode M_lw_law) 613 = .ok (.iconst 1, 1) := by decide +kernel
theorem d_lw_law_614 : decode (mcode M_lw_law) 614 = .ok (.iadd, 1) := by decide +kernel
theorem d_lw_law_615 : decode (mcode M_lw_law) 615 = .ok (.iaload, 1) := by decide +kernel
theorem d_lw_law_616 : decode (mcode M_lw_law) 616 = .ok (.aload_n 0, 1) := by decide +kernel
theorem d_lw_law_617 : decode (mcode M_lw_law) 617 = .ok (.iload_n 3, 1) := by decide +kernel
theorem d_lw_law_618 : decode (mcode M_lw_law) 618 = .ok (.iconst 2, 1) := by decide +kernel
theorem d_lw_law_619 : decode (mcode M_lw_law) 619 = .ok (.iadd, 1) := by decide +kernel
theorem d_lw_law_620 : decode (mcode M_lw_law) 620 = .ok (.iaload, 1) := by decide +kernel
theorem d_lw_law_621 : decode (mcode M_lw_law) 621 = .ok (.aload_n 0, 1) := by decide +kernel
theorem d_lw_law_622 : decode (mcode M_lw_law) 622 = .ok (.iload_n 3, 1) := by decide +kernel
theorem d_lw_law_623 : decode (mcode M_lw_law) 623 = .ok (.iconst 3, 1) := by decide +kernel
theorem d_lw_law_624 : decode (mcode M_lw_law) 624 = .ok (.iadd, 1) := by decide +kernel
theorem d_lw_law_625 : decode (mcode M_lw_law) 625 = .ok (.iaload, 1) := by decide +kernel
theorem d_lw_law_626 : decode (mcode M_lw_law) 626 = .ok (.invokevirtual 84, 3) := by decide +kernel
theorem d_lw_law_629 : decode (mcode M_lw_law) 629 = .ok (.if_icmp .eq 203, 3) := by decide +kernel
theorem d_lw_law_632 : decode (mcode M_lw_law) 632 = .ok (.iconst 0, 1) := by decide +kernel
theorem d_lw_law_633 : decode (mcode M_lw_law) 633 = .ok (.ireturn, 1) := by decide +kernel
theorem d_lw_law_634 : decode (mcode M_lw_law) 634 = .ok (.aload_n 1, 1) := by decide +kernel
theorem d_lw_law_635 : decode (mcode M_lw_law) 635 = .ok (.aload_n 0, 1) := by decide +kernel
theorem d_lw_law_636 : decode (mcode M_lw_law) 636 = .ok (.iload_n 3, 1) := by decide +kernel
theorem d_lw_law_637 : decode (mcode M_lw_law) 637 = .ok (.iconst 1, 1) := by decide +kernel
theorem d_lw_law_638 : decode (mcode M_lw_law) 638 = .ok (.iadd, 1) := by decide +kernel
theorem d_lw_law_639 : decode (mcode M_lw_law) 639 = .ok (.iaload, 1) := by decide +kernel
theorem d_lw_law_640 : decode (mcode M_lw_law) 640 = .ok (.aload_n 0, 1) := by decide +kernel
theorem d_lw_law_641 : decode (mcode M_lw_law) 641 = .ok (.iload_n 3, 1) := by decide +kernel
theorem d_lw_law_642 : decode (mcode M_lw_law) 642 = .ok (.iconst 2, 1) := by decide +kernel
theorem d_lw_law_643 : decode (mcode M_lw_law) 643 = .ok (.iadd, 1) := by decide +kernel
theorem d_lw_law_644 : decode (mcode M_lw_law) 644 = .ok (.iaload, 1) := by decide +kernel
theorem d_lw_law_645 : decode (mcode M_lw_law) 645 = .ok (.invokevirtual 85, 3) := by decide +kernel
theorem d_lw_law_648 : decode (mcode M_lw_law) 648 = .ok (.aload_n 2, 1) := by decide +kernel
theorem d_lw_law_649 : decode (mcode M_lw_law) 649 = .ok (.aload_n 0, 1) := by decide +kernel
theorem d_lw_law_650 : decode (mcode M_lw_law) 650 = .ok (.iload_n 3, 1) := by decide +kernel
theorem d_lw_law_651 : decode (mcode M_lw_law) 651 = .ok (.iconst 1, 1) := by decide +kernel
theorem d_lw_law_652 : decode (mcode M_lw_law) 652 = .ok (.iadd, 1) := by decide +kernel
theorem d_lw_law_653 : decode (mcode M_lw_law) 653 = .ok (.iaload, 1) := by decide +kernel
theorem d_lw_law_654 : decode (mcode M_lw_law) 654 = .ok (.aload_n 0, 1) := by decide +kernel
theorem d_lw_law_655 : decode (mcode M_lw_law) 655 = .ok (.iload_n 3, 1) := by decide +kernel
theorem d_lw_law_656 : decode (mcode M_lw_law) 656 = .ok (.iconst 2, 1) := by decide +kernel
theorem d_lw_law_657 : decode (mcode M_lw_law) 657 = .ok (.iadd, 1) := by decide +kernel
theorem d_lw_law_658 : decode (mcode M_lw_law) 658 = .ok (.iaload, 1) := by decide +kernel
theorem d_lw_law_659 : decode (mcode M_lw_law) 659 = .ok (.invokevirtual 88, 3) := by decide +kernel
theorem d_lw_law_662 : decode (mcode M_lw_law) 662 = .ok (.if_icmp .eq 170, 3) := by decide +kernel
theorem d_lw_law_665 : decode (mcode M_lw_law) 665 = .ok (.iconst 0, 1) := by decide +kernel
theorem d_lw_law_666 : decode (mcode M_lw_law) 666 = .ok (.ireturn, 1) := by decide +kernel
theorem d_lw_law_667 : decode (mcode M_lw_law) 667 = .ok (.aload_n 1, 1) := by decide +kernel
theorem d_lw_law_668 : decode (mcode M_lw_law) 668 = .ok (.aload_n 0, 1) := by decide +kernel
theorem d_lw_law_669 : decode (mcode M_lw_law) 669 = .ok (.iload_n 3, 1) := by decide +kernel
theorem d_lw_law_670 : decode (mcode M_lw_law) 670 = .ok (.iconst 1, 1) := by decide +kernel
theorem d_lw_law_671 : decode (mcode M_lw_law) 671 = .ok (.iadd, 1) := by decide +kernel
theorem d_lw_law_672 : decode (mcode M_lw_law) 672 = .ok (.iaload, 1) := by decide +kernel
theorem d_lw_law_673 : decode (mcode M_lw_law) 673 = .ok (.aload_n 0, 1) := by decide +kernel
theorem d_lw_law_674 : decode (mcode M_lw_law) 674 = .ok (.iload_n 3, 1) := by decide +kernel
theorem d_lw_law_675 : decode (mcode M_lw_law) 675 = .ok (.iconst 2, 1) := by decide +kernel
theorem d_lw_law_676 : decode (mcode M_lw_law) 676 = .ok (.iadd, 1) := by decide +kernel
theorem d_lw_law_677 : decode (mcode M_lw_law) 677 = .ok (.iaload, 1) := by decide +kernel
theorem d_lw_law_678 : decode (mcode M_lw_law) 678 = .ok (.aload_n 0, 1) := by decide +kernel
theorem d_lw_law_679 : decode (mcode M_lw_law) 679 = .ok (.iload_n 3, 1) := by decide +kernel
theorem d_lw_law_680 : decode (mcode M_lw_law) 680 = .ok (.iconst 3, 1) := by decide +kernel
theorem d_lw_law_681 : decode (mcode M_lw_law) 681 = .ok (.iadd, 1) := by decide +kernel
theorem d_lw_law_682 : decode (mcode M_lw_law) 682 = .ok (.iaload, 1) := by decide +kernel
theorem d_lw_law_683 : decode (mcode M_lw_law) 683 = .ok (.invokevirtual 89, 3) := by decide +kernel
theorem d_lw_law_686 : decode (mcode M_lw_law) 686 = .ok (.aload_n 2, 1) := by decide +kernel
theorem d_lw_law_687 : decode (mcode M_lw_law) 687 = .ok (.aload_n 0, 1) := by decide +kernel
theorem d_lw_law_688 : decode (mcode M_lw_law) 688 = .ok (.iload_n 3, 1) := by decide +kernel
theorem d_lw_law_689 : decode (mcode M_lw_law) 689 = .ok (.iconst 1, 1) := by decide +kernel
theorem d_lw_law_690 : decode (mcode M_lw_law) 690 = .ok (.iadd, 1) := by decide +kernel
theorem d_lw_law_691 : decode (mcode M_lw_law) 691 = .ok (.iaload, 1) := by decide +kernel
theorem d_lw_law_692 : decode (mcode M_lw_law) 692 = .ok (.aload_n 0, 1) := by decide +kernel
theorem d_lw_law_693 : decode (mcode M_lw_law) 693 = .ok (.iload_n 3, 1) := by decide +kernel
theorem d_lw_law_694 : decode (mcode M_lw_law) 694 = .ok (.iconst 2, 1) := by decide +kernel
theorem d_lw_law_695 : decode (mcode M_lw_law) 695 = .ok (.iadd, 1) := by decide +kernel
theorem d_lw_law_696 : decode (mcode M_lw_law) 696 = .ok (.iaload, 1) := by decide +kernel
theorem d_lw_law_697 : decode (mcode M_lw_law) 697 = .ok (.aload_n 0, 1) := by decide +kernel
theorem d_lw_law_698 : decode (mcode M_lw_law) 698 = .ok (.iload_n 3, 1) := by decide +kernel
theorem d_lw_law_699 : decode (mcode M_lw_law) 699 = .ok (.iconst 3, 1) := by decide +kernel
theorem d_lw_law_700 : decode (mcode M_lw_law) 700 = .ok (.iadd, 1) := by decide +kernel
theorem d_lw_law_701 : decode (mcode M_lw_law) 701 = .ok (.iaload, 1) := by decide +kernel
theorem d_lw_law_702 : decode (mcode M_lw_law) 702 = .ok (.invokevirtual 92, 3) := by decide +kernel
theorem d_lw_law_705 : decode (mcode M_lw_law) 705 = .ok (.if_icmp .eq 127, 3) := by decide +kernel
theorem d_lw_law_708 : decode (mcode M_lw_law) 708 = .ok (.iconst 0, 1) := by decide +kernel
theorem d_lw_law_709 : decode (mcode M_lw_law) 709 = .ok (.ireturn, 1) := by decide +kernel
theorem d_lw_law_710 : decode (mcode M_lw_law) 710 = .ok (.aload_n 1, 1) := by decide +kernel
theorem d_lw_law_711 : decode (mcode M_lw_law) 711 = .ok (.aload_n 0, 1) := by decide +kernel
theorem d_lw_law_712 : decode (mcode M_lw_law) 712 = .ok (.iload_n 3, 1) := by decide +kernel
theorem d_lw_law_713 : decode (mcode M_lw_law) 713 = .ok (.iconst 1, 1) := by decide +kernel
theorem d_lw_law_714 : decode (mcode M_lw_law) 714 = .ok (.iadd, 1) := by decide +kernel
theorem d_lw_law_715 : decode (mcode M_lw_law) 715 = .ok (.iaload, 1) := by decide +kernel
theorem d_lw_law_716 : decode (mcode M_lw_law) 716 = .ok (.aload_n 0, 1) := by decide +kernel
theorem d_lw_law_717 : decode (mcode M_lw_law) 717 = .ok (.iload_n 3, 1) := by decide +kernel
theorem d_lw_law_718 : decode (mcode M_lw_law) 718 = .ok (.iconst 2, 1) := by decide +kernel
theorem d_lw_law_719 : decode (mcode M_lw_law) 719 = .ok (.iadd, 1) := by decide +kernel
theorem d_lw_law_720 : decode (mcode M_lw_law) 720 = .ok (.iaload, 1) := by decide +kernel
theorem d_lw_law_721 : decode (mcode M_lw_law) 721 = .ok (.invokevirtual 93, 3) := by decide +kernel
theorem d_lw_law_724 : decode (mcode M_lw_law) 724 = .ok (.aload_n 2, 1) := by decide +kernel
theorem d_lw_law_725 : decode (mcode M_lw_law) 725 = .ok (.aload_n 0, 1) := by decide +kernel
theorem d_lw_law_726 : decode (mcode M_lw_law) 726 = .ok (.iload_n 3, 1) := by decide +kernel
theorem d_lw_law_727 : decode (mcode M_lw_law) 727 = .ok (.iconst 1, 1) := by decide +kernel
theorem d_lw_law_728 : decode (mcode M_lw_law) 728 = .ok (.iadd, 1) := by decide +kernel
theorem d_lw_law_729 : decode (mcode M_lw_law) 729 = .ok (.iaload, 1) := by decide +kernel
theorem d_lw_law_730 : decode (mcode M_lw_law) 730 = .ok (.aload_n 0, 1) := by decide +kernel
theorem d_lw_law_731 : decode (mcode M_lw_law) 731 = .ok (.iload_n 3, 1) := by decide +kernel
theorem d_lw_law_732 : decode (mcode M_lw_law) 732 = .ok (.iconst 2, 1) := by decide +kernel
theorem d_lw_law_733 : decode (mcode M_lw_law) 733 = .ok (.iadd, 1) := by decide +kernel
theorem d_lw_law_734 : decode (mcode M_lw_law) 734 = .ok (.iaload, 1) := by decide +kernel
theorem d_lw_law_735 : decode (mcode M_lw_law) 735 = .ok (.invokevirtual 96, 3) := by decide +kernel
theorem d_lw_law_738 : decode (mcode M_lw_law) 738 = .ok (.if_icmp .eq 94, 3) := by decide +kernel
theorem d_lw_law_741 : decode (mcode M_lw_law) 741 = .ok (.iconst 0, 1) := by decide +kernel
theorem d_lw_law_742 : decode (mcode M_lw_law) 742 = .ok (.ireturn, 1) := by decide +kernel
theorem d_lw_law_743 : decode (mcode M_lw_law) 743 = .ok (.aload_n 1, 1) := by decide +kernel
theorem d_lw_law_744 : decode (mcode M_lw_law) 744 = .ok (.aload_n 0, 1) := by decide +kernel
theorem d_lw_law_745 : decode (mcode M_lw_law) 745 = .ok (.iload_n 3, 1) := by decide +kernel
theorem d_lw_law_746 : decode (mcode M_lw_law) 746 = .ok (.iconst 1, 1) := by decide +kernel
theorem d_lw_law_747 : decode (mcode M_lw_law) 747 = .ok (.iadd, 1) := by decide +kernel
theorem d_lw_law_748 : decode (mcode M_lw_law) 748 = .ok (.iaload, 1) := by decide +kernel
theorem d_lw_law_749 : decode (mcode M_lw_law) 749 = .ok (.aload_n 0, 1) := by decide +kernel
theorem d_lw_law_750 : decode (mcode M_lw_law) 750 = .ok (.iload_n 3, 1) := by decide +kernel
theorem d_lw_law_751 : decode (mcode M_lw_law) 751 = .ok (.iconst 2, 1) := by decide +kernel
theorem d_lw_law_752 : decode (mcode M_lw_law) 752 = .ok (.iadd, 1) := by decide +kernel
theorem d_lw_law_753 : decode (mcode M_lw_law) 753 = .ok (.iaload, 1) := by decide +kernel
theorem d_lw_law_754 : decode (mcode M_lw_law) 754 = .ok (.aload_n 0, 1) := by decide +kernel
theorem d_lw_law_755 : decode (mcode M_lw_law) 755 = .ok (.iload_n 3, 1) := by decide +kernel
theorem d_lw_law_756 : decode (mcode M_lw_law) 756 = .ok (.iconst 3, 1) := by decide +kernel
theorem d_lw_law_757 : decode (mcode M_lw_law) 757 = .ok (.iadd, 1) := by decide +kernel
theorem d_lw_law_758 : decode (mcode M_lw_law) 758 = .ok (.iaload, 1) := by decide +kernel
theorem d_lw_law_759 : decode (mcode M_lw_law) 759 = .ok (.invokevirtual 97, 3) := by decide +kernel
theorem d_lw_law_762 : decode (mcode M_lw_law) 762 = .ok (.aload_n 2, 1) := by decide +kernel
theorem d_lw_law_763 : decode (mcode M_lw_law) 763 = .ok (.aload_n 0, 1) := by decide +kernel
theorem d_lw_law_764 : decode (mcode M_lw_law) 764 = .ok (.iload_n 3, 1) := by decide +kernel
theorem d_lw_law_765 : decode (mcode M_lw_law) 765 = .ok (.iconst 1, 1) := by decide +kernel
theorem d_lw_law_766 : decode (mcode M_lw_law) 766 = .ok (.iadd, 1) := by decide +kernel
theorem d_lw_law_767 : decode (mcode M_lw_law) 767 = .ok (.iaload, 1) := by decide +kernel
theorem d_lw_law_768 : decode (mcode M_lw_law) 768 = .ok (.aload_n 0, 1) := by decide +kernel
theorem d_lw_law_769 : decode (mcode M_lw_law) 769 = .ok (.iload_n 3, 1) := by decide +kernel
theorem d_lw_law_770 : decode (mcode M_lw_law) 770 = .ok (.iconst 2, 1) := by decide +kernel
theorem d_lw_law_771 : decode (mcode M_lw_law) 771 = .ok (.iadd, 1) := by decide +kernel
theorem d_lw_law_772 : decode (mcode M_lw_law) 772 = .ok (.iaload, 1) := by decide +kernel
theorem d_lw_law_773 : decode (mcode M_lw_law) 773 = .ok (.aload_n 0, 1) := by decide +kernel
theorem d_lw_law_774 : decode (mcode M_lw_law) 774 = .ok (.iload_n 3, 1) := by decide +kernel
theorem d_lw_law_775 : decode (mcode M_lw_law) 775 = .ok (.iconst 3, 1) := by decide +kernel
theorem d_lw_law_776 : decode (mcode M_lw_law) 776 = .ok (.iadd, 1) := by decide +kernel
theorem d_lw_law_777 : decode (mcode M_lw_law) 777 = .ok (.iaload, 1) := by decide +kernel
theorem d_lw_law_778 : decode (mcode M_lw_law) 778 = .ok (.invokevirtual 100, 3) := by decide +kernel
theorem d_lw_law_781 : decode (mcode M_lw_law) 781 = .ok (.if_icmp .eq 51, 3) := by decide +kernel
theorem d_lw_law_784 : decode (mcode M_lw_law) 784 = .ok (.iconst 0, 1) := by decide +kernel
theorem d_lw_law_785 : decode (mcode M_lw_law) 785 = .ok (.ireturn, 1) := by decide +kernel
theorem d_lw_law_786 : decode (mcode M_lw_law) 786 = .ok (.aload_n 1, 1) := by decide +kernel
theorem d_lw_law_787 : decode (mcode M_lw_law) 787 = .ok (.aload_n 0, 1) := by decide +kernel
theorem d_lw_law_788 : decode (mcode M_lw_law) 788 = .ok (.iload_n 3, 1) := by decide +kernel
theorem d_lw_law_789 : decode (mcode M_lw_law) 789 = .ok (.iconst 1, 1) := by decide +kernel
theorem d_lw_law_790 : decode (mcode M_lw_law) 790 = .ok (.iadd, 1) := by decide +kernel
theorem d_lw_law_791 : decode (mcode M_lw_law) 791 = .ok (.iaload, 1) := by decide +kernel
theorem d_lw_law_792 : decode (mcode M_lw_law) 792 = .ok (.invokevirtual 101, 3) := by decide +kernel
theorem d_lw_law_795 : decode (mcode M_lw_law) 795 = .ok (.aload_n 2, 1) := by decide +kernel
theorem d_lw_law_796 : decode (mcode M_lw_law) 796 = .ok (.aload_n 0, 1) := by decide +kernel
theorem d_lw_law_797 : decode (mcode M_lw_law) 797 = .ok (.iload_n 3, 1) := by decide +kernel
theorem d_lw_law_798 : decode (mcode M_lw_law) 798 = .ok (.iconst 1, 1) := by decide +kernel
theorem d_lw_law_799 : decode (mcode M_lw_law) 799 = .ok (.iadd, 1) := by decide +kernel
theorem d_lw_law_800 : decode (mcode M_lw_law) 800 = .ok (.iaload, 1) := by decide +kernel
theorem d_lw_law_801 : decode (mcode M_lw_law) 801 = .ok (.invokevirtual 104, 3) := by decide +kernel
theorem d_lw_law_804 : decode (mcode M_lw_law) 804 = .ok (.if_icmp .eq 28, 3) := by decide +kernel
theorem d_lw_law_807 : decode (mcode M_lw_law) 807 = .ok (.iconst 0, 1) := by decide +kernel
theorem d_lw_law_808 : decode (mcode M_lw_law) 808 = .ok (.ireturn, 1) := by decide +kernel
theorem d_lw_law_809 : decode (mcode M_lw_law) 809 = .ok (.aload_n 1, 1) := by decide +kernel
theorem d_lw_law_810 : decode (mcode M_lw_law) 810 = .ok (.aload_n 0, 1) := by decide +kernel
theorem d_lw_law_811 : decode (mcode M_lw_law) 811 = .ok (.iload_n 3, 1) := by decide +kernel
theorem d_lw_law_812 : decode (mcode M_lw_law) 812 = .ok (.iconst 1, 1) := by decide +kernel
theorem d_lw_law_813 : decode (mcode M_lw_law) 813 = .ok (.iadd, 1) := by decide +kernel
theorem d_lw_law_814 : decode (mcode M_lw_law) 814 = .ok (.iaload, 1) := by decide +kernel
theorem d_lw_law_815 : decode (mcode M_lw_law) 815 = .ok (.invokevirtual 105, 3) := by decide +kernel
theorem d_lw_law_818 : decode (mcode M_lw_law) 818 = .ok (.aload_n 2, 1) := by decide +kernel
theorem d_lw_law_819 : decode (mcode M_lw_law) 819 = .ok (.aload_n 0, 1) := by decide +kernel
theorem d_lw_law_820 : decode (mcode M_lw_law) 820 = .ok (.iload_n 3, 1) := by decide +kernel
theorem d_lw_law_821 : decode (mcode M_lw_law) 821 = .ok (.iconst 1, 1) := by decide +kernel
theorem d_lw_law_822 : decode (mcode M_lw_law) 822 = .ok (.iadd, 1) := by decide +kernel
theorem d_lw_law_823 : decode (mcode M_lw_law) 823 = .ok (.iaload, 1) := by decide +kernel
theorem d_lw_law_824 : decode (mcode M_lw_law) 824 = .ok (.invokevirtual 108, 3) := by decide +kernel
theorem d_lw_law_827 : decode (mcode M_lw_law) 827 = .ok (.if_icmp .eq 5, 3) := by decide +kernel
theorem d_lw_law_830 : decode (mcode M_lw_law) 830 = .ok (.iconst 0, 1) := by decide +kernel
theorem d_lw_law_831 : decode (mcode M_lw_law) 831 = .ok (.ireturn, 1) := by decide +kernel
theorem d_lw_law_832 : decode (mcode M_lw_law) 832 = .ok (.iinc 3 5, 3) := by decide +kernel
theorem d_lw_law_835 : decode (mcode M_lw_law) 835 = .ok (.goto (-817), 3) := by decide +kernel
theorem d_lw_law_838 : decode (mcode M_lw_law) 838 = .ok (.iconst 1, 1) := by decide +kernel
theorem d_lw_law_839 : decode (mcode M_lw_law) 839 = .ok (.ireturn, 1) := by decide +kernel
