/-! the law's instructions -/
theorem dL_cell_0 : decode cL_cell 0 = .ok (.iload_n 1, 1) := by decide +kernel
theorem dL_cell_1 : decode cL_cell 1 = .ok (.aload_n 0, 1) := by decide +kernel
theorem dL_cell_2 : decode cL_cell 2 = .ok (.arraylength, 1) := by decide +kernel
theorem dL_cell_3 : decode cL_cell 3 = .ok (.if_icmp .ge 9, 3) := by decide +kernel
theorem dL_cell_6 : decode cL_cell 6 = .ok (.aload_n 0, 1) := by decide +kernel
theorem dL_cell_7 : decode cL_cell 7 = .ok (.iload_n 1, 1) := by decide +kernel
theorem dL_cell_8 : decode cL_cell 8 = .ok (.iaload, 1) := by decide +kernel
theorem dL_cell_9 : decode cL_cell 9 = .ok (.goto 14, 3) := by decide +kernel
theorem dL_cell_12 : decode cL_cell 12 = .ok (.ldc 7, 2) := by decide +kernel
theorem dL_cell_14 : decode cL_cell 14 = .ok (.iload_n 1, 1) := by decide +kernel
theorem dL_cell_15 : decode cL_cell 15 = .ok (.sipush 131, 3) := by decide +kernel
theorem dL_cell_18 : decode cL_cell 18 = .ok (.iadd, 1) := by decide +kernel
theorem dL_cell_19 : decode cL_cell 19 = .ok (.imul, 1) := by decide +kernel
theorem dL_cell_20 : decode cL_cell 20 = .ok (.ldc 8, 2) := by decide +kernel
theorem dL_cell_22 : decode cL_cell 22 = .ok (.iadd, 1) := by decide +kernel
theorem dL_cell_23 : decode cL_cell 23 = .ok (.ireturn, 1) := by decide +kernel
theorem dL_low_0 : decode cL_low 0 = .ok (.iload_n 0, 1) := by decide +kernel
theorem dL_low_1 : decode cL_low 1 = .ok (.ldc 9, 2) := by decide +kernel
theorem dL_low_3 : decode cL_low 3 = .ok (.iand, 1) := by decide +kernel
theorem dL_low_4 : decode cL_low 4 = .ok (.iload_n 1, 1) := by decide +kernel
theorem dL_low_5 : decode cL_low 5 = .ok (.irem, 1) := by decide +kernel
theorem dL_low_6 : decode cL_low 6 = .ok (.ireturn, 1) := by decide +kernel
theorem dL_calls_0 : decode cL_calls 0 = .ok (.iload_n 1, 1) := by decide +kernel
theorem dL_calls_1 : decode cL_calls 1 = .ok (.ifCond .ne 12, 3) := by decide +kernel
theorem dL_calls_4 : decode cL_calls 4 = .ok (.aload_n 0, 1) := by decide +kernel
theorem dL_calls_5 : decode cL_calls 5 = .ok (.iload_n 2, 1) := by decide +kernel
theorem dL_calls_6 : decode cL_calls 6 = .ok (.iload_n 3, 1) := by decide +kernel
theorem dL_calls_7 : decode cL_calls 7 = .ok (.invokevirtual 10, 3) := by decide +kernel
theorem dL_calls_10 : decode cL_calls 10 = .ok (.goto 161, 3) := by decide +kernel
theorem dL_calls_13 : decode cL_calls 13 = .ok (.iload_n 1, 1) := by decide +kernel
theorem dL_calls_14 : decode cL_calls 14 = .ok (.iconst 1, 1) := by decide +kernel
theorem dL_calls_15 : decode cL_calls 15 = .ok (.if_icmp .ne 14, 3) := by decide +kernel
theorem dL_calls_18 : decode cL_calls 18 = .ok (.aload_n 0, 1) := by decide +kernel
theorem dL_calls_19 : decode cL_calls 19 = .ok (.iload_n 2, 1) := by decide +kernel
theorem dL_calls_20 : decode cL_calls 20 = .ok (.invokevirtual 16, 3) := by decide +kernel
theorem dL_calls_23 : decode cL_calls 23 = .ok (.invokestatic 20, 3) := by decide +kernel
theorem dL_calls_26 : decode cL_calls 26 = .ok (.goto 145, 3) := by decide +kernel
theorem dL_calls_29 : decode cL_calls 29 = .ok (.iload_n 1, 1) := by decide +kernel
theorem dL_calls_30 : decode cL_calls 30 = .ok (.iconst 2, 1) := by decide +kernel
theorem dL_calls_31 : decode cL_calls 31 = .ok (.if_icmp .ne 14, 3) := by decide +kernel
theorem dL_calls_34 : decode cL_calls 34 = .ok (.aload_n 0, 1) := by decide +kernel
theorem dL_calls_35 : decode cL_calls 35 = .ok (.iload_n 2, 1) := by decide +kernel
theorem dL_calls_36 : decode cL_calls 36 = .ok (.iload_n 3, 1) := by decide +kernel
theorem dL_calls_37 : decode cL_calls 37 = .ok (.iload 4, 2) := by decide +kernel
theorem dL_calls_39 : decode cL_calls 39 = .ok (.invokevirtual 26, 3) := by decide +kernel
theorem dL_calls_42 : decode cL_calls 42 = .ok (.goto 129, 3) := by decide +kernel
theorem dL_calls_45 : decode cL_calls 45 = .ok (.iload_n 1, 1) := by decide +kernel
theorem dL_calls_46 : decode cL_calls 46 = .ok (.iconst 3, 1) := by decide +kernel
theorem dL_calls_47 : decode cL_calls 47 = .ok (.if_icmp .ne 14, 3) := by decide +kernel
theorem dL_calls_50 : decode cL_calls 50 = .ok (.aload_n 0, 1) := by decide +kernel
theorem dL_calls_51 : decode cL_calls 51 = .ok (.iload_n 2, 1) := by decide +kernel
theorem dL_calls_52 : decode cL_calls 52 = .ok (.iload_n 3, 1) := by decide +kernel
theorem dL_calls_53 : decode cL_calls 53 = .ok (.iload 4, 2) := by decide +kernel
theorem dL_calls_55 : decode cL_calls 55 = .ok (.invokevirtual 30, 3) := by decide +kernel
theorem dL_calls_58 : decode cL_calls 58 = .ok (.goto 113, 3) := by decide +kernel
theorem dL_calls_61 : decode cL_calls 61 = .ok (.iload_n 1, 1) := by decide +kernel
theorem dL_calls_62 : decode cL_calls 62 = .ok (.iconst 4, 1) := by decide +kernel
theorem dL_calls_63 : decode cL_calls 63 = .ok (.if_icmp .ne 12, 3) := by decide +kernel
theorem dL_calls_66 : decode cL_calls 66 = .ok (.aload_n 0, 1) := by decide +kernel
theorem dL_calls_67 : decode cL_calls 67 = .ok (.iload_n 2, 1) := by decide +kernel
theorem dL_calls_68 : decode cL_calls 68 = .ok (.iload_n 3, 1) := by decide +kernel
theorem dL_calls_69 : decode cL_calls 69 = .ok (.invokevirtual 33, 3) := by decide +kernel
theorem dL_calls_72 : decode cL_calls 72 = .ok (.goto 99, 3) := by decide +kernel
theorem dL_calls_75 : decode cL_calls 75 = .ok (.iload_n 1, 1) := by decide +kernel
theorem dL_calls_76 : decode cL_calls 76 = .ok (.iconst 5, 1) := by decide +kernel
theorem dL_calls_77 : decode cL_calls 77 = .ok (.if_icmp .ne 11, 3) := by decide +kernel
theorem dL_calls_80 : decode cL_calls 80 = .ok (.aload_n 0, 1) := by decide +kernel
theorem dL_calls_81 : decode cL_calls 81 = .ok (.iload_n 2, 1) := by decide +kernel
theorem dL_calls_82 : decode cL_calls 82 = .ok (.invokevirtual 36, 3) := by decide +kernel
theorem dL_calls_85 : decode cL_calls 85 = .ok (.goto 86, 3) := by decide +kernel
theorem dL_calls_88 : decode cL_calls 88 = .ok (.iload_n 1, 1) := by decide +kernel
theorem dL_calls_89 : decode cL_calls 89 = .ok (.bipush 6, 2) := by decide +kernel
theorem dL_calls_91 : decode cL_calls 91 = .ok (.if_icmp .ne 12, 3) := by decide +kernel
theorem dL_calls_94 : decode cL_calls 94 = .ok (.aload_n 0, 1) := by decide +kernel
theorem dL_calls_95 : decode cL_calls 95 = .ok (.iload_n 2, 1) := by decide +kernel
theorem dL_calls_96 : decode cL_calls 96 = .ok (.iload_n 3, 1) := by decide +kernel
theorem dL_calls_97 : decode cL_calls 97 = .ok (.invokevirtual 40, 3) := by decide +kernel
theorem dL_calls_100 : decode cL_calls 100 = .ok (.goto 71, 3) := by decide +kernel
theorem dL_calls_103 : decode cL_calls 103 = .ok (.iload_n 1, 1) := by decide +kernel
theorem dL_calls_104 : decode cL_calls 104 = .ok (.bipush 7, 2) := by decide +kernel
theorem dL_calls_106 : decode cL_calls 106 = .ok (.if_icmp .ne 12, 3) := by decide +kernel
theorem dL_calls_109 : decode cL_calls 109 = .ok (.aload_n 0, 1) := by decide +kernel
theorem dL_calls_110 : decode cL_calls 110 = .ok (.iload_n 2, 1) := by decide +kernel
theorem dL_calls_111 : decode cL_calls 111 = .ok (.iload_n 3, 1) := by decide +kernel
theorem dL_calls_112 : decode cL_calls 112 = .ok (.invokevirtual 43, 3) := by decide +kernel
theorem dL_calls_115 : decode cL_calls 115 = .ok (.goto 56, 3) := by decide +kernel
theorem dL_calls_118 : decode cL_calls 118 = .ok (.iload_n 1, 1) := by decide +kernel
theorem dL_calls_119 : decode cL_calls 119 = .ok (.bipush 8, 2) := by decide +kernel
theorem dL_calls_121 : decode cL_calls 121 = .ok (.if_icmp .ne 11, 3) := by decide +kernel
theorem dL_calls_124 : decode cL_calls 124 = .ok (.aload_n 0, 1) := by decide +kernel
theorem dL_calls_125 : decode cL_calls 125 = .ok (.iload_n 2, 1) := by decide +kernel
theorem dL_calls_126 : decode cL_calls 126 = .ok (.invokevirtual 46, 3) := by decide +kernel
theorem dL_calls_129 : decode cL_calls 129 = .ok (.goto 42, 3) := by decide +kernel
theorem dL_calls_132 : decode cL_calls 132 = .ok (.iload_n 1, 1) := by decide +kernel
theorem dL_calls_133 : decode cL_calls 133 = .ok (.bipush 9, 2) := by decide +kernel
theorem dL_calls_135 : decode cL_calls 135 = .ok (.if_icmp .ne 12, 3) := by decide +kernel
theorem dL_calls_138 : decode cL_calls 138 = .ok (.aload_n 0, 1) := by decide +kernel
theorem dL_calls_139 : decode cL_calls 139 = .ok (.iload_n 2, 1) := by decide +kernel
theorem dL_calls_140 : decode cL_calls 140 = .ok (.iload_n 3, 1) := by decide +kernel
theorem dL_calls_141 : decode cL_calls 141 = .ok (.invokevirtual 49, 3) := by decide +kernel
theorem dL_calls_144 : decode cL_calls 144 = .ok (.goto 27, 3) := by decide +kernel
theorem dL_calls_147 : decode cL_calls 147 = .ok (.iload_n 1, 1) := by decide +kernel
theorem dL_calls_148 : decode cL_calls 148 = .ok (.bipush 10, 2) := by decide +kernel
theorem dL_calls_150 : decode cL_calls 150 = .ok (.if_icmp .ne 15, 3) := by decide +kernel
theorem dL_calls_153 : decode cL_calls 153 = .ok (.aload_n 0, 1) := by decide +kernel
theorem dL_calls_154 : decode cL_calls 154 = .ok (.iload_n 2, 1) := by decide +kernel
theorem dL_calls_155 : decode cL_calls 155 = .ok (.iload_n 3, 1) := by decide +kernel
theorem dL_calls_156 : decode cL_calls 156 = .ok (.invokevirtual 52, 3) := by decide +kernel
theorem dL_calls_159 : decode cL_calls 159 = .ok (.invokestatic 20, 3) := by decide +kernel
theorem dL_calls_162 : decode cL_calls 162 = .ok (.goto 9, 3) := by decide +kernel
theorem dL_calls_165 : decode cL_calls 165 = .ok (.aload_n 0, 1) := by decide +kernel
theorem dL_calls_166 : decode cL_calls 166 = .ok (.iload_n 2, 1) := by decide +kernel
theorem dL_calls_167 : decode cL_calls 167 = .ok (.iload_n 3, 1) := by decide +kernel
theorem dL_calls_168 : decode cL_calls 168 = .ok (.invokevirtual 56, 3) := by decide +kernel
theorem dL_calls_171 : decode cL_calls 171 = .ok (.ireturn, 1) := by decide +kernel
theorem dL_calls_172 : decode cL_calls 172 = .ok (.astore 5, 2) := by decide +kernel
theorem dL_calls_174 : decode cL_calls 174 = .ok (.sipush (-1003), 3) := by decide +kernel
theorem dL_calls_177 : decode cL_calls 177 = .ok (.ireturn, 1) := by decide +kernel
theorem dL_yes_0 : decode cL_yes 0 = .ok (.iload_n 0, 1) := by decide +kernel
theorem dL_yes_1 : decode cL_yes 1 = .ok (.ifCond .eq 7, 3) := by decide +kernel
theorem dL_yes_4 : decode cL_yes 4 = .ok (.iconst 1, 1) := by decide +kernel
theorem dL_yes_5 : decode cL_yes 5 = .ok (.goto 4, 3) := by decide +kernel
theorem dL_yes_8 : decode cL_yes 8 = .ok (.iconst 0, 1) := by decide +kernel
theorem dL_yes_9 : decode cL_yes 9 = .ok (.ireturn, 1) := by decide +kernel
theorem dL_ones_0 : decode cL_ones 0 = .ok (.iconst 0, 1) := by decide +kernel
theorem dL_ones_1 : decode cL_ones 1 = .ok (.istore_n 1, 1) := by decide +kernel
theorem dL_ones_2 : decode cL_ones 2 = .ok (.iload_n 0, 1) := by decide +kernel
theorem dL_ones_3 : decode cL_ones 3 = .ok (.istore_n 2, 1) := by decide +kernel
theorem dL_ones_4 : decode cL_ones 4 = .ok (.iload_n 2, 1) := by decide +kernel
theorem dL_ones_5 : decode cL_ones 5 = .ok (.ifCond .le 15, 3) := by decide +kernel
theorem dL_ones_8 : decode cL_ones 8 = .ok (.iinc 1 1, 3) := by decide +kernel
theorem dL_ones_11 : decode cL_ones 11 = .ok (.iload_n 2, 1) := by decide +kernel
theorem dL_ones_12 : decode cL_ones 12 = .ok (.iload_n 2, 1) := by decide +kernel
theorem dL_ones_13 : decode cL_ones 13 = .ok (.iconst 1, 1) := by decide +kernel
theorem dL_ones_14 : decode cL_ones 14 = .ok (.isub, 1) := by decide +kernel
theorem dL_ones_15 : decode cL_ones 15 = .ok (.iand, 1) := by decide +kernel
theorem dL_ones_16 : decode cL_ones 16 = .ok (.istore_n 2, 1) := by decide +kernel
theorem dL_ones_17 : decode cL_ones 17 = .ok (.goto (-13), 3) := by decide +kernel
theorem dL_ones_20 : decode cL_ones 20 = .ok (.iload_n 1, 1) := by decide +kernel
theorem dL_ones_21 : decode cL_ones 21 = .ok (.ireturn, 1) := by decide +kernel
theorem dL_had_0 : decode cL_had 0 = .ok (.iconst 0, 1) := by decide +kernel
theorem dL_had_1 : decode cL_had 1 = .ok (.istore_n 3, 1) := by decide +kernel
theorem dL_had_2 : decode cL_had 2 = .ok (.iconst 0, 1) := by decide +kernel
theorem dL_had_3 : decode cL_had 3 = .ok (.istore 4, 2) := by decide +kernel
theorem dL_had_5 : decode cL_had 5 = .ok (.iload 4, 2) := by decide +kernel
theorem dL_had_7 : decode cL_had 7 = .ok (.bipush 8, 2) := by decide +kernel
theorem dL_had_9 : decode cL_had 9 = .ok (.if_icmp .ge 51, 3) := by decide +kernel
theorem dL_had_12 : decode cL_had 12 = .ok (.iload_n 3, 1) := by decide +kernel
theorem dL_had_13 : decode cL_had 13 = .ok (.aload_n 2, 1) := by decide +kernel
theorem dL_had_14 : decode cL_had 14 = .ok (.bipush 8, 2) := by decide +kernel
theorem dL_had_16 : decode cL_had 16 = .ok (.iload_n 0, 1) := by decide +kernel
theorem dL_had_17 : decode cL_had 17 = .ok (.imul, 1) := by decide +kernel
theorem dL_had_18 : decode cL_had 18 = .ok (.iload 4, 2) := by decide +kernel
theorem dL_had_20 : decode cL_had 20 = .ok (.iadd, 1) := by decide +kernel
theorem dL_had_21 : decode cL_had 21 = .ok (.iaload, 1) := by decide +kernel
theorem dL_had_22 : decode cL_had 22 = .ok (.ifCond .le 29, 3) := by decide +kernel
theorem dL_had_25 : decode cL_had 25 = .ok (.aload_n 2, 1) := by decide +kernel
theorem dL_had_26 : decode cL_had 26 = .ok (.bipush 8, 2) := by decide +kernel
theorem dL_had_28 : decode cL_had 28 = .ok (.iload_n 0, 1) := by decide +kernel
theorem dL_had_29 : decode cL_had 29 = .ok (.imul, 1) := by decide +kernel
theorem dL_had_30 : decode cL_had 30 = .ok (.iload 4, 2) := by decide +kernel
theorem dL_had_32 : decode cL_had 32 = .ok (.iadd, 1) := by decide +kernel
theorem dL_had_33 : decode cL_had 33 = .ok (.iaload, 1) := by decide +kernel
theorem dL_had_34 : decode cL_had 34 = .ok (.sipush 4096, 3) := by decide +kernel
theorem dL_had_37 : decode cL_had 37 = .ok (.irem, 1) := by decide +kernel
theorem dL_had_38 : decode cL_had 38 = .ok (.iconst 1, 1) := by decide +kernel
theorem dL_had_39 : decode cL_had 39 = .ok (.isub, 1) := by decide +kernel
theorem dL_had_40 : decode cL_had 40 = .ok (.iload_n 1, 1) := by decide +kernel
theorem dL_had_41 : decode cL_had 41 = .ok (.if_icmp .gt 10, 3) := by decide +kernel
theorem dL_had_44 : decode cL_had 44 = .ok (.iconst 1, 1) := by decide +kernel
theorem dL_had_45 : decode cL_had 45 = .ok (.iload 4, 2) := by decide +kernel
theorem dL_had_47 : decode cL_had 47 = .ok (.ishl, 1) := by decide +kernel
theorem dL_had_48 : decode cL_had 48 = .ok (.goto 4, 3) := by decide +kernel
theorem dL_had_51 : decode cL_had 51 = .ok (.iconst 0, 1) := by decide +kernel
theorem dL_had_52 : decode cL_had 52 = .ok (.ior, 1) := by decide +kernel
theorem dL_had_53 : decode cL_had 53 = .ok (.istore_n 3, 1) := by decide +kernel
theorem dL_had_54 : decode cL_had 54 = .ok (.iinc 4 1, 3) := by decide +kernel
theorem dL_had_57 : decode cL_had 57 = .ok (.goto (-52), 3) := by decide +kernel
theorem dL_had_60 : decode cL_had 60 = .ok (.iload_n 3, 1) := by decide +kernel
theorem dL_had_61 : decode cL_had 61 = .ok (.ireturn, 1) := by decide +kernel
theorem dL_day_0 : decode cL_day 0 = .ok (.aload_n 2, 1) := by decide +kernel
theorem dL_day_1 : decode cL_day 1 = .ok (.bipush 8, 2) := by decide +kernel
theorem dL_day_3 : decode cL_day 3 = .ok (.iload_n 1, 1) := by decide +kernel
theorem dL_day_4 : decode cL_day 4 = .ok (.imul, 1) := by decide +kernel
theorem dL_day_5 : decode cL_day 5 = .ok (.iconst 1, 1) := by decide +kernel
theorem dL_day_6 : decode cL_day 6 = .ok (.iadd, 1) := by decide +kernel
theorem dL_day_7 : decode cL_day 7 = .ok (.iaload, 1) := by decide +kernel
theorem dL_day_8 : decode cL_day 8 = .ok (.istore 5, 2) := by decide +kernel
theorem dL_day_10 : decode cL_day 10 = .ok (.aload_n 2, 1) := by decide +kernel
theorem dL_day_11 : decode cL_day 11 = .ok (.bipush 8, 2) := by decide +kernel
theorem dL_day_13 : decode cL_day 13 = .ok (.iload_n 1, 1) := by decide +kernel
theorem dL_day_14 : decode cL_day 14 = .ok (.imul, 1) := by decide +kernel
theorem dL_day_15 : decode cL_day 15 = .ok (.iaload, 1) := by decide +kernel
theorem dL_day_16 : decode cL_day 16 = .ok (.aload_n 3, 1) := by decide +kernel
theorem dL_day_17 : decode cL_day 17 = .ok (.bipush 8, 2) := by decide +kernel
theorem dL_day_19 : decode cL_day 19 = .ok (.iload_n 0, 1) := by decide +kernel
theorem dL_day_20 : decode cL_day 20 = .ok (.imul, 1) := by decide +kernel
theorem dL_day_21 : decode cL_day 21 = .ok (.iconst 1, 1) := by decide +kernel
theorem dL_day_22 : decode cL_day 22 = .ok (.iadd, 1) := by decide +kernel
theorem dL_day_23 : decode cL_day 23 = .ok (.iaload, 1) := by decide +kernel
theorem dL_day_24 : decode cL_day 24 = .ok (.if_icmp .ne 28, 3) := by decide +kernel
theorem dL_day_27 : decode cL_day 27 = .ok (.iconst 2, 1) := by decide +kernel
theorem dL_day_28 : decode cL_day 28 = .ok (.iload_n 0, 1) := by decide +kernel
theorem dL_day_29 : decode cL_day 29 = .ok (.sipush 3000, 3) := by decide +kernel
theorem dL_day_32 : decode cL_day 32 = .ok (.aload 4, 2) := by decide +kernel
theorem dL_day_34 : decode cL_day 34 = .ok (.invokestatic 61, 3) := by decide +kernel
theorem dL_day_37 : decode cL_day 37 = .ok (.iload 5, 2) := by decide +kernel
theorem dL_day_39 : decode cL_day 39 = .ok (.iand, 1) := by decide +kernel
theorem dL_day_40 : decode cL_day 40 = .ok (.invokestatic 65, 3) := by decide +kernel
theorem dL_day_43 : decode cL_day 43 = .ok (.imul, 1) := by decide +kernel
theorem dL_day_44 : decode cL_day 44 = .ok (.iload 5, 2) := by decide +kernel
theorem dL_day_46 : decode cL_day 46 = .ok (.invokestatic 65, 3) := by decide +kernel
theorem dL_day_49 : decode cL_day 49 = .ok (.if_icmp .ge 5, 3) := by decide +kernel
theorem dL_day_52 : decode cL_day 52 = .ok (.iconst (-1), 1) := by decide +kernel
theorem dL_day_53 : decode cL_day 53 = .ok (.ireturn, 1) := by decide +kernel
theorem dL_day_54 : decode cL_day 54 = .ok (.sipush 3001, 3) := by decide +kernel
theorem dL_day_57 : decode cL_day 57 = .ok (.istore 6, 2) := by decide +kernel
theorem dL_day_59 : decode cL_day 59 = .ok (.iconst 0, 1) := by decide +kernel
theorem dL_day_60 : decode cL_day 60 = .ok (.istore 7, 2) := by decide +kernel
theorem dL_day_62 : decode cL_day 62 = .ok (.iload 7, 2) := by decide +kernel
theorem dL_day_64 : decode cL_day 64 = .ok (.bipush 8, 2) := by decide +kernel
theorem dL_day_66 : decode cL_day 66 = .ok (.if_icmp .ge 108, 3) := by decide +kernel
theorem dL_day_69 : decode cL_day 69 = .ok (.iload 5, 2) := by decide +kernel
theorem dL_day_71 : decode cL_day 71 = .ok (.iload 7, 2) := by decide +kernel
theorem dL_day_73 : decode cL_day 73 = .ok (.ishr, 1) := by decide +kernel
theorem dL_day_74 : decode cL_day 74 = .ok (.iconst 1, 1) := by decide +kernel
theorem dL_day_75 : decode cL_day 75 = .ok (.iand, 1) := by decide +kernel
theorem dL_day_76 : decode cL_day 76 = .ok (.iconst 1, 1) := by decide +kernel
theorem dL_day_77 : decode cL_day 77 = .ok (.if_icmp .ne 28, 3) := by decide +kernel
theorem dL_day_80 : decode cL_day 80 = .ok (.aload 4, 2) := by decide +kernel
theorem dL_day_82 : decode cL_day 82 = .ok (.bipush 8, 2) := by decide +kernel
theorem dL_day_84 : decode cL_day 84 = .ok (.iload_n 0, 1) := by decide +kernel
theorem dL_day_85 : decode cL_day 85 = .ok (.imul, 1) := by decide +kernel
theorem dL_day_86 : decode cL_day 86 = .ok (.iload 7, 2) := by decide +kernel
theorem dL_day_88 : decode cL_day 88 = .ok (.iadd, 1) := by decide +kernel
theorem dL_day_89 : decode cL_day 89 = .ok (.iaload, 1) := by decide +kernel
theorem dL_day_90 : decode cL_day 90 = .ok (.sipush 4096, 3) := by decide +kernel
theorem dL_day_93 : decode cL_day 93 = .ok (.if_icmp .le 12, 3) := by decide +kernel
theorem dL_day_96 : decode cL_day 96 = .ok (.aload_n 3, 1) := by decide +kernel
theorem dL_day_97 : decode cL_day 97 = .ok (.bipush 8, 2) := by decide +kernel
theorem dL_day_99 : decode cL_day 99 = .ok (.iload_n 0, 1) := by decide +kernel
theorem dL_day_100 : decode cL_day 100 = .ok (.imul, 1) := by decide +kernel
theorem dL_day_101 : decode cL_day 101 = .ok (.iconst 2, 1) := by decide +kernel
theorem dL_day_102 : decode cL_day 102 = .ok (.iadd, 1) := by decide +kernel
theorem dL_day_103 : decode cL_day 103 = .ok (.iaload, 1) := by decide +kernel
theorem dL_day_104 : decode cL_day 104 = .ok (.ireturn, 1) := by decide +kernel
theorem dL_day_105 : decode cL_day 105 = .ok (.aload 4, 2) := by decide +kernel
theorem dL_day_107 : decode cL_day 107 = .ok (.bipush 8, 2) := by decide +kernel
theorem dL_day_109 : decode cL_day 109 = .ok (.iload_n 0, 1) := by decide +kernel
theorem dL_day_110 : decode cL_day 110 = .ok (.imul, 1) := by decide +kernel
theorem dL_day_111 : decode cL_day 111 = .ok (.iload 7, 2) := by decide +kernel
theorem dL_day_113 : decode cL_day 113 = .ok (.iadd, 1) := by decide +kernel
theorem dL_day_114 : decode cL_day 114 = .ok (.iaload, 1) := by decide +kernel
theorem dL_day_115 : decode cL_day 115 = .ok (.sipush 4096, 3) := by decide +kernel
theorem dL_day_118 : decode cL_day 118 = .ok (.irem, 1) := by decide +kernel
theorem dL_day_119 : decode cL_day 119 = .ok (.iconst 1, 1) := by decide +kernel
theorem dL_day_120 : decode cL_day 120 = .ok (.isub, 1) := by decide +kernel
theorem dL_day_121 : decode cL_day 121 = .ok (.istore 8, 2) := by decide +kernel
theorem dL_day_123 : decode cL_day 123 = .ok (.iload 8, 2) := by decide +kernel
theorem dL_day_125 : decode cL_day 125 = .ok (.ifCond .lt 39, 3) := by decide +kernel
theorem dL_day_128 : decode cL_day 128 = .ok (.iload 8, 2) := by decide +kernel
theorem dL_day_130 : decode cL_day 130 = .ok (.iload 6, 2) := by decide +kernel
theorem dL_day_132 : decode cL_day 132 = .ok (.if_icmp .ge 32, 3) := by decide +kernel
theorem dL_day_135 : decode cL_day 135 = .ok (.iconst 2, 1) := by decide +kernel
theorem dL_day_136 : decode cL_day 136 = .ok (.iload_n 0, 1) := by decide +kernel
theorem dL_day_137 : decode cL_day 137 = .ok (.iload 8, 2) := by decide +kernel
theorem dL_day_139 : decode cL_day 139 = .ok (.aload 4, 2) := by decide +kernel
theorem dL_day_141 : decode cL_day 141 = .ok (.invokestatic 61, 3) := by decide +kernel
theorem dL_day_144 : decode cL_day 144 = .ok (.iload 5, 2) := by decide +kernel
theorem dL_day_146 : decode cL_day 146 = .ok (.iand, 1) := by decide +kernel
theorem dL_day_147 : decode cL_day 147 = .ok (.invokestatic 65, 3) := by decide +kernel
theorem dL_day_150 : decode cL_day 150 = .ok (.imul, 1) := by decide +kernel
theorem dL_day_151 : decode cL_day 151 = .ok (.iload 5, 2) := by decide +kernel
theorem dL_day_153 : decode cL_day 153 = .ok (.invokestatic 65, 3) := by decide +kernel
theorem dL_day_156 : decode cL_day 156 = .ok (.if_icmp .lt 8, 3) := by decide +kernel
theorem dL_day_159 : decode cL_day 159 = .ok (.iload 8, 2) := by decide +kernel
theorem dL_day_161 : decode cL_day 161 = .ok (.goto 5, 3) := by decide +kernel
theorem dL_day_164 : decode cL_day 164 = .ok (.iload 6, 2) := by decide +kernel
theorem dL_day_166 : decode cL_day 166 = .ok (.istore 6, 2) := by decide +kernel
theorem dL_day_168 : decode cL_day 168 = .ok (.iinc 7 1, 3) := by decide +kernel
theorem dL_day_171 : decode cL_day 171 = .ok (.goto (-109), 3) := by decide +kernel
theorem dL_day_174 : decode cL_day 174 = .ok (.iload 6, 2) := by decide +kernel
theorem dL_day_176 : decode cL_day 176 = .ok (.ireturn, 1) := by decide +kernel
theorem dL_first_0 : decode cL_first 0 = .ok (.ldc 9, 2) := by decide +kernel
theorem dL_first_2 : decode cL_first 2 = .ok (.istore 5, 2) := by decide +kernel
theorem dL_first_4 : decode cL_first 4 = .ok (.iconst 0, 1) := by decide +kernel
theorem dL_first_5 : decode cL_first 5 = .ok (.istore 6, 2) := by decide +kernel
theorem dL_first_7 : decode cL_first 7 = .ok (.iload 6, 2) := by decide +kernel
theorem dL_first_9 : decode cL_first 9 = .ok (.aload 4, 2) := by decide +kernel
theorem dL_first_11 : decode cL_first 11 = .ok (.iconst 4, 1) := by decide +kernel
theorem dL_first_12 : decode cL_first 12 = .ok (.iaload, 1) := by decide +kernel
theorem dL_first_13 : decode cL_first 13 = .ok (.if_icmp .ge 70, 3) := by decide +kernel
theorem dL_first_16 : decode cL_first 16 = .ok (.aload_n 2, 1) := by decide +kernel
theorem dL_first_17 : decode cL_first 17 = .ok (.bipush 8, 2) := by decide +kernel
theorem dL_first_19 : decode cL_first 19 = .ok (.iload 6, 2) := by decide +kernel
theorem dL_first_21 : decode cL_first 21 = .ok (.imul, 1) := by decide +kernel
theorem dL_first_22 : decode cL_first 22 = .ok (.iconst 3, 1) := by decide +kernel
theorem dL_first_23 : decode cL_first 23 = .ok (.iadd, 1) := by decide +kernel
theorem dL_first_24 : decode cL_first 24 = .ok (.iaload, 1) := by decide +kernel
theorem dL_first_25 : decode cL_first 25 = .ok (.iconst 3, 1) := by decide +kernel
theorem dL_first_26 : decode cL_first 26 = .ok (.if_icmp .ne 7, 3) := by decide +kernel
theorem dL_first_29 : decode cL_first 29 = .ok (.iconst (-1), 1) := by decide +kernel
theorem dL_first_30 : decode cL_first 30 = .ok (.goto 12, 3) := by decide +kernel
theorem dL_first_33 : decode cL_first 33 = .ok (.iload 6, 2) := by decide +kernel
theorem dL_first_35 : decode cL_first 35 = .ok (.iload_n 0, 1) := by decide +kernel
theorem dL_first_36 : decode cL_first 36 = .ok (.aload_n 1, 1) := by decide +kernel
theorem dL_first_37 : decode cL_first 37 = .ok (.aload_n 2, 1) := by decide +kernel
theorem dL_first_38 : decode cL_first 38 = .ok (.aload_n 3, 1) := by decide +kernel
theorem dL_first_39 : decode cL_first 39 = .ok (.invokestatic 68, 3) := by decide +kernel
theorem dL_first_42 : decode cL_first 42 = .ok (.istore 7, 2) := by decide +kernel
theorem dL_first_44 : decode cL_first 44 = .ok (.iload 7, 2) := by decide +kernel
theorem dL_first_46 : decode cL_first 46 = .ok (.ifCond .lt 27, 3) := by decide +kernel
theorem dL_first_49 : decode cL_first 49 = .ok (.bipush 16, 2) := by decide +kernel
theorem dL_first_51 : decode cL_first 51 = .ok (.iload 7, 2) := by decide +kernel
theorem dL_first_53 : decode cL_first 53 = .ok (.imul, 1) := by decide +kernel
theorem dL_first_54 : decode cL_first 54 = .ok (.iload 6, 2) := by decide +kernel
theorem dL_first_56 : decode cL_first 56 = .ok (.iadd, 1) := by decide +kernel
theorem dL_first_57 : decode cL_first 57 = .ok (.iload 5, 2) := by decide +kernel
theorem dL_first_59 : decode cL_first 59 = .ok (.if_icmp .ge 14, 3) := by decide +kernel
theorem dL_first_62 : decode cL_first 62 = .ok (.bipush 16, 2) := by decide +kernel
theorem dL_first_64 : decode cL_first 64 = .ok (.iload 7, 2) := by decide +kernel
theorem dL_first_66 : decode cL_first 66 = .ok (.imul, 1) := by decide +kernel
theorem dL_first_67 : decode cL_first 67 = .ok (.iload 6, 2) := by decide +kernel
theorem dL_first_69 : decode cL_first 69 = .ok (.iadd, 1) := by decide +kernel
theorem dL_first_70 : decode cL_first 70 = .ok (.goto 5, 3) := by decide +kernel
theorem dL_first_73 : decode cL_first 73 = .ok (.iload 5, 2) := by decide +kernel
theorem dL_first_75 : decode cL_first 75 = .ok (.istore 5, 2) := by decide +kernel
theorem dL_first_77 : decode cL_first 77 = .ok (.iinc 6 1, 3) := by decide +kernel
theorem dL_first_80 : decode cL_first 80 = .ok (.goto (-73), 3) := by decide +kernel
theorem dL_first_83 : decode cL_first 83 = .ok (.iload 5, 2) := by decide +kernel
theorem dL_first_85 : decode cL_first 85 = .ok (.ldc 9, 2) := by decide +kernel
theorem dL_first_87 : decode cL_first 87 = .ok (.if_icmp .ne 7, 3) := by decide +kernel
theorem dL_first_90 : decode cL_first 90 = .ok (.iconst (-1), 1) := by decide +kernel
theorem dL_first_91 : decode cL_first 91 = .ok (.goto 8, 3) := by decide +kernel
theorem dL_first_94 : decode cL_first 94 = .ok (.iload 5, 2) := by decide +kernel
theorem dL_first_96 : decode cL_first 96 = .ok (.bipush 16, 2) := by decide +kernel
theorem dL_first_98 : decode cL_first 98 = .ok (.irem, 1) := by decide +kernel
theorem dL_first_99 : decode cL_first 99 = .ok (.ireturn, 1) := by decide +kernel
theorem dL_bar_0 : decode cL_bar 0 = .ok (.iload_n 0, 1) := by decide +kernel
theorem dL_bar_1 : decode cL_bar 1 = .ok (.iload_n 1, 1) := by decide +kernel
theorem dL_bar_2 : decode cL_bar 2 = .ok (.aload_n 2, 1) := by decide +kernel
theorem dL_bar_3 : decode cL_bar 3 = .ok (.aload 4, 2) := by decide +kernel
theorem dL_bar_5 : decode cL_bar 5 = .ok (.aload 5, 2) := by decide +kernel
theorem dL_bar_7 : decode cL_bar 7 = .ok (.invokestatic 68, 3) := by decide +kernel
theorem dL_bar_10 : decode cL_bar 10 = .ok (.istore 7, 2) := by decide +kernel
theorem dL_bar_12 : decode cL_bar 12 = .ok (.iload 7, 2) := by decide +kernel
theorem dL_bar_14 : decode cL_bar 14 = .ok (.ifCond .lt 18, 3) := by decide +kernel
theorem dL_bar_17 : decode cL_bar 17 = .ok (.iload_n 1, 1) := by decide +kernel
theorem dL_bar_18 : decode cL_bar 18 = .ok (.aload_n 2, 1) := by decide +kernel
theorem dL_bar_19 : decode cL_bar 19 = .ok (.aload 4, 2) := by decide +kernel
theorem dL_bar_21 : decode cL_bar 21 = .ok (.aload 5, 2) := by decide +kernel
theorem dL_bar_23 : decode cL_bar 23 = .ok (.aload 6, 2) := by decide +kernel
theorem dL_bar_25 : decode cL_bar 25 = .ok (.invokestatic 72, 3) := by decide +kernel
theorem dL_bar_28 : decode cL_bar 28 = .ok (.iload_n 0, 1) := by decide +kernel
theorem dL_bar_29 : decode cL_bar 29 = .ok (.if_icmp .eq 14, 3) := by decide +kernel
theorem dL_bar_32 : decode cL_bar 32 = .ok (.iload 7, 2) := by decide +kernel
theorem dL_bar_34 : decode cL_bar 34 = .ok (.ifCond .ge 7, 3) := by decide +kernel
theorem dL_bar_37 : decode cL_bar 37 = .ok (.iconst 1, 1) := by decide +kernel
theorem dL_bar_38 : decode cL_bar 38 = .ok (.goto 4, 3) := by decide +kernel
theorem dL_bar_41 : decode cL_bar 41 = .ok (.iconst 2, 1) := by decide +kernel
theorem dL_bar_42 : decode cL_bar 42 = .ok (.ireturn, 1) := by decide +kernel
theorem dL_bar_43 : decode cL_bar 43 = .ok (.iconst 0, 1) := by decide +kernel
theorem dL_bar_44 : decode cL_bar 44 = .ok (.istore 8, 2) := by decide +kernel
theorem dL_bar_46 : decode cL_bar 46 = .ok (.iconst 0, 1) := by decide +kernel
theorem dL_bar_47 : decode cL_bar 47 = .ok (.istore 9, 2) := by decide +kernel
theorem dL_bar_49 : decode cL_bar 49 = .ok (.iconst 0, 1) := by decide +kernel
theorem dL_bar_50 : decode cL_bar 50 = .ok (.istore 10, 2) := by decide +kernel
theorem dL_bar_52 : decode cL_bar 52 = .ok (.iload 10, 2) := by decide +kernel
theorem dL_bar_54 : decode cL_bar 54 = .ok (.bipush 8, 2) := by decide +kernel
theorem dL_bar_56 : decode cL_bar 56 = .ok (.if_icmp .ge 111, 3) := by decide +kernel
theorem dL_bar_59 : decode cL_bar 59 = .ok (.aload_n 2, 1) := by decide +kernel
theorem dL_bar_60 : decode cL_bar 60 = .ok (.bipush 8, 2) := by decide +kernel
theorem dL_bar_62 : decode cL_bar 62 = .ok (.iload_n 1, 1) := by decide +kernel
theorem dL_bar_63 : decode cL_bar 63 = .ok (.imul, 1) := by decide +kernel
theorem dL_bar_64 : decode cL_bar 64 = .ok (.iconst 1, 1) := by decide +kernel
theorem dL_bar_65 : decode cL_bar 65 = .ok (.iadd, 1) := by decide +kernel
theorem dL_bar_66 : decode cL_bar 66 = .ok (.iaload, 1) := by decide +kernel
theorem dL_bar_67 : decode cL_bar 67 = .ok (.iload 10, 2) := by decide +kernel
theorem dL_bar_69 : decode cL_bar 69 = .ok (.ishr, 1) := by decide +kernel
theorem dL_bar_70 : decode cL_bar 70 = .ok (.iconst 1, 1) := by decide +kernel
theorem dL_bar_71 : decode cL_bar 71 = .ok (.iand, 1) := by decide +kernel
theorem dL_bar_72 : decode cL_bar 72 = .ok (.iconst 1, 1) := by decide +kernel
theorem dL_bar_73 : decode cL_bar 73 = .ok (.if_icmp .ne 7, 3) := by decide +kernel
theorem dL_bar_76 : decode cL_bar 76 = .ok (.iconst 1, 1) := by decide +kernel
theorem dL_bar_77 : decode cL_bar 77 = .ok (.goto 4, 3) := by decide +kernel
theorem dL_bar_80 : decode cL_bar 80 = .ok (.iconst 0, 1) := by decide +kernel
theorem dL_bar_81 : decode cL_bar 81 = .ok (.istore 11, 2) := by decide +kernel
theorem dL_bar_83 : decode cL_bar 83 = .ok (.aload_n 3, 1) := by decide +kernel
theorem dL_bar_84 : decode cL_bar 84 = .ok (.iload 10, 2) := by decide +kernel
theorem dL_bar_86 : decode cL_bar 86 = .ok (.iaload, 1) := by decide +kernel
theorem dL_bar_87 : decode cL_bar 87 = .ok (.ifCond .le 18, 3) := by decide +kernel
theorem dL_bar_90 : decode cL_bar 90 = .ok (.aload_n 3, 1) := by decide +kernel
theorem dL_bar_91 : decode cL_bar 91 = .ok (.iload 10, 2) := by decide +kernel
theorem dL_bar_93 : decode cL_bar 93 = .ok (.iaload, 1) := by decide +kernel
theorem dL_bar_94 : decode cL_bar 94 = .ok (.iconst 1, 1) := by decide +kernel
theorem dL_bar_95 : decode cL_bar 95 = .ok (.isub, 1) := by decide +kernel
theorem dL_bar_96 : decode cL_bar 96 = .ok (.iload 7, 2) := by decide +kernel
theorem dL_bar_98 : decode cL_bar 98 = .ok (.if_icmp .gt 7, 3) := by decide +kernel
theorem dL_bar_101 : decode cL_bar 101 = .ok (.iconst 1, 1) := by decide +kernel
theorem dL_bar_102 : decode cL_bar 102 = .ok (.goto 4, 3) := by decide +kernel
theorem dL_bar_105 : decode cL_bar 105 = .ok (.iconst 0, 1) := by decide +kernel
theorem dL_bar_106 : decode cL_bar 106 = .ok (.istore 12, 2) := by decide +kernel
theorem dL_bar_108 : decode cL_bar 108 = .ok (.iload 8, 2) := by decide +kernel
theorem dL_bar_110 : decode cL_bar 110 = .ok (.iload 11, 2) := by decide +kernel
theorem dL_bar_112 : decode cL_bar 112 = .ok (.ifCond .eq 12, 3) := by decide +kernel
theorem dL_bar_115 : decode cL_bar 115 = .ok (.iload 12, 2) := by decide +kernel
theorem dL_bar_117 : decode cL_bar 117 = .ok (.ifCond .eq 7, 3) := by decide +kernel
theorem dL_bar_120 : decode cL_bar 120 = .ok (.iconst 1, 1) := by decide +kernel
theorem dL_bar_121 : decode cL_bar 121 = .ok (.goto 4, 3) := by decide +kernel
theorem dL_bar_124 : decode cL_bar 124 = .ok (.iconst 0, 1) := by decide +kernel
theorem dL_bar_125 : decode cL_bar 125 = .ok (.iadd, 1) := by decide +kernel
theorem dL_bar_126 : decode cL_bar 126 = .ok (.istore 8, 2) := by decide +kernel
theorem dL_bar_128 : decode cL_bar 128 = .ok (.iload 9, 2) := by decide +kernel
theorem dL_bar_130 : decode cL_bar 130 = .ok (.iload 11, 2) := by decide +kernel
theorem dL_bar_132 : decode cL_bar 132 = .ok (.ifCond .eq 25, 3) := by decide +kernel
theorem dL_bar_135 : decode cL_bar 135 = .ok (.iload 12, 2) := by decide +kernel
theorem dL_bar_137 : decode cL_bar 137 = .ok (.ifCond .ne 20, 3) := by decide +kernel
theorem dL_bar_140 : decode cL_bar 140 = .ok (.aload 5, 2) := by decide +kernel
theorem dL_bar_142 : decode cL_bar 142 = .ok (.bipush 8, 2) := by decide +kernel
theorem dL_bar_144 : decode cL_bar 144 = .ok (.iload_n 0, 1) := by decide +kernel
theorem dL_bar_145 : decode cL_bar 145 = .ok (.imul, 1) := by decide +kernel
theorem dL_bar_146 : decode cL_bar 146 = .ok (.iload 10, 2) := by decide +kernel
theorem dL_bar_148 : decode cL_bar 148 = .ok (.iadd, 1) := by decide +kernel
theorem dL_bar_149 : decode cL_bar 149 = .ok (.iaload, 1) := by decide +kernel
theorem dL_bar_150 : decode cL_bar 150 = .ok (.ifCond .le 7, 3) := by decide +kernel
theorem dL_bar_153 : decode cL_bar 153 = .ok (.iconst 1, 1) := by decide +kernel
theorem dL_bar_154 : decode cL_bar 154 = .ok (.goto 4, 3) := by decide +kernel
theorem dL_bar_157 : decode cL_bar 157 = .ok (.iconst 0, 1) := by decide +kernel
theorem dL_bar_158 : decode cL_bar 158 = .ok (.iadd, 1) := by decide +kernel
theorem dL_bar_159 : decode cL_bar 159 = .ok (.istore 9, 2) := by decide +kernel
theorem dL_bar_161 : decode cL_bar 161 = .ok (.iinc 10 1, 3) := by decide +kernel
theorem dL_bar_164 : decode cL_bar 164 = .ok (.goto (-112), 3) := by decide +kernel
theorem dL_bar_167 : decode cL_bar 167 = .ok (.iconst 2, 1) := by decide +kernel
theorem dL_bar_168 : decode cL_bar 168 = .ok (.iload 8, 2) := by decide +kernel
theorem dL_bar_170 : decode cL_bar 170 = .ok (.imul, 1) := by decide +kernel
theorem dL_bar_171 : decode cL_bar 171 = .ok (.aload_n 2, 1) := by decide +kernel
theorem dL_bar_172 : decode cL_bar 172 = .ok (.bipush 8, 2) := by decide +kernel
theorem dL_bar_174 : decode cL_bar 174 = .ok (.iload_n 1, 1) := by decide +kernel
theorem dL_bar_175 : decode cL_bar 175 = .ok (.imul, 1) := by decide +kernel
theorem dL_bar_176 : decode cL_bar 176 = .ok (.iconst 1, 1) := by decide +kernel
theorem dL_bar_177 : decode cL_bar 177 = .ok (.iadd, 1) := by decide +kernel
theorem dL_bar_178 : decode cL_bar 178 = .ok (.iaload, 1) := by decide +kernel
theorem dL_bar_179 : decode cL_bar 179 = .ok (.invokestatic 65, 3) := by decide +kernel
theorem dL_bar_182 : decode cL_bar 182 = .ok (.if_icmp .lt 26, 3) := by decide +kernel
theorem dL_bar_185 : decode cL_bar 185 = .ok (.iload 9, 2) := by decide +kernel
theorem dL_bar_187 : decode cL_bar 187 = .ok (.ifCond .ne 21, 3) := by decide +kernel
theorem dL_bar_190 : decode cL_bar 190 = .ok (.aload 4, 2) := by decide +kernel
theorem dL_bar_192 : decode cL_bar 192 = .ok (.bipush 8, 2) := by decide +kernel
theorem dL_bar_194 : decode cL_bar 194 = .ok (.iload_n 0, 1) := by decide +kernel
theorem dL_bar_195 : decode cL_bar 195 = .ok (.imul, 1) := by decide +kernel
theorem dL_bar_196 : decode cL_bar 196 = .ok (.iconst 5, 1) := by decide +kernel
theorem dL_bar_197 : decode cL_bar 197 = .ok (.iadd, 1) := by decide +kernel
theorem dL_bar_198 : decode cL_bar 198 = .ok (.iaload, 1) := by decide +kernel
theorem dL_bar_199 : decode cL_bar 199 = .ok (.iconst 2, 1) := by decide +kernel
theorem dL_bar_200 : decode cL_bar 200 = .ok (.irem, 1) := by decide +kernel
theorem dL_bar_201 : decode cL_bar 201 = .ok (.ifCond .ne 7, 3) := by decide +kernel
theorem dL_bar_204 : decode cL_bar 204 = .ok (.iconst 3, 1) := by decide +kernel
theorem dL_bar_205 : decode cL_bar 205 = .ok (.goto 4, 3) := by decide +kernel
theorem dL_bar_208 : decode cL_bar 208 = .ok (.iconst 0, 1) := by decide +kernel
theorem dL_bar_209 : decode cL_bar 209 = .ok (.ireturn, 1) := by decide +kernel
theorem dL_counts_0 : decode cL_counts 0 = .ok (.aload_n 3, 1) := by decide +kernel
theorem dL_counts_1 : decode cL_counts 1 = .ok (.iload_n 0, 1) := by decide +kernel
theorem dL_counts_2 : decode cL_counts 2 = .ok (.iaload, 1) := by decide +kernel
theorem dL_counts_3 : decode cL_counts 3 = .ok (.bipush 8, 2) := by decide +kernel
theorem dL_counts_5 : decode cL_counts 5 = .ok (.irem, 1) := by decide +kernel
theorem dL_counts_6 : decode cL_counts 6 = .ok (.istore 9, 2) := by decide +kernel
theorem dL_counts_8 : decode cL_counts 8 = .ok (.aload_n 3, 1) := by decide +kernel
theorem dL_counts_9 : decode cL_counts 9 = .ok (.iload_n 0, 1) := by decide +kernel
theorem dL_counts_10 : decode cL_counts 10 = .ok (.iaload, 1) := by decide +kernel
theorem dL_counts_11 : decode cL_counts 11 = .ok (.ldc 76, 2) := by decide +kernel
theorem dL_counts_13 : decode cL_counts 13 = .ok (.idiv, 1) := by decide +kernel
theorem dL_counts_14 : decode cL_counts 14 = .ok (.istore 10, 2) := by decide +kernel
theorem dL_counts_16 : decode cL_counts 16 = .ok (.aload 4, 2) := by decide +kernel
theorem dL_counts_18 : decode cL_counts 18 = .ok (.iload_n 0, 1) := by decide +kernel
theorem dL_counts_19 : decode cL_counts 19 = .ok (.iaload, 1) := by decide +kernel
theorem dL_counts_20 : decode cL_counts 20 = .ok (.ifCond .ne 73, 3) := by decide +kernel
theorem dL_counts_23 : decode cL_counts 23 = .ok (.aload_n 2, 1) := by decide +kernel
theorem dL_counts_24 : decode cL_counts 24 = .ok (.bipush 8, 2) := by decide +kernel
theorem dL_counts_26 : decode cL_counts 26 = .ok (.iload 9, 2) := by decide +kernel
theorem dL_counts_28 : decode cL_counts 28 = .ok (.imul, 1) := by decide +kernel
theorem dL_counts_29 : decode cL_counts 29 = .ok (.iconst 5, 1) := by decide +kernel
theorem dL_counts_30 : decode cL_counts 30 = .ok (.iadd, 1) := by decide +kernel
theorem dL_counts_31 : decode cL_counts 31 = .ok (.iaload, 1) := by decide +kernel
theorem dL_counts_32 : decode cL_counts 32 = .ok (.ifCond .eq 19, 3) := by decide +kernel
theorem dL_counts_35 : decode cL_counts 35 = .ok (.iload 10, 2) := by decide +kernel
theorem dL_counts_37 : decode cL_counts 37 = .ok (.aload_n 2, 1) := by decide +kernel
theorem dL_counts_38 : decode cL_counts 38 = .ok (.bipush 8, 2) := by decide +kernel
theorem dL_counts_40 : decode cL_counts 40 = .ok (.iload 9, 2) := by decide +kernel
theorem dL_counts_42 : decode cL_counts 42 = .ok (.imul, 1) := by decide +kernel
theorem dL_counts_43 : decode cL_counts 43 = .ok (.iconst 5, 1) := by decide +kernel
theorem dL_counts_44 : decode cL_counts 44 = .ok (.iadd, 1) := by decide +kernel
theorem dL_counts_45 : decode cL_counts 45 = .ok (.iaload, 1) := by decide +kernel
theorem dL_counts_46 : decode cL_counts 46 = .ok (.iconst 1, 1) := by decide +kernel
theorem dL_counts_47 : decode cL_counts 47 = .ok (.isub, 1) := by decide +kernel
theorem dL_counts_48 : decode cL_counts 48 = .ok (.if_icmp .ge 45, 3) := by decide +kernel
theorem dL_counts_51 : decode cL_counts 51 = .ok (.iload_n 1, 1) := by decide +kernel
theorem dL_counts_52 : decode cL_counts 52 = .ok (.iload 9, 2) := by decide +kernel
theorem dL_counts_54 : decode cL_counts 54 = .ok (.aload_n 2, 1) := by decide +kernel
theorem dL_counts_55 : decode cL_counts 55 = .ok (.aload 5, 2) := by decide +kernel
theorem dL_counts_57 : decode cL_counts 57 = .ok (.aload 6, 2) := by decide +kernel
theorem dL_counts_59 : decode cL_counts 59 = .ok (.aload 7, 2) := by decide +kernel
theorem dL_counts_61 : decode cL_counts 61 = .ok (.aload 8, 2) := by decide +kernel
theorem dL_counts_63 : decode cL_counts 63 = .ok (.invokestatic 77, 3) := by decide +kernel
theorem dL_counts_66 : decode cL_counts 66 = .ok (.ifCond .ne 27, 3) := by decide +kernel
theorem dL_counts_69 : decode cL_counts 69 = .ok (.iload 10, 2) := by decide +kernel
theorem dL_counts_71 : decode cL_counts 71 = .ok (.sipush 600, 3) := by decide +kernel
theorem dL_counts_74 : decode cL_counts 74 = .ok (.iadd, 1) := by decide +kernel
theorem dL_counts_75 : decode cL_counts 75 = .ok (.iload_n 1, 1) := by decide +kernel
theorem dL_counts_76 : decode cL_counts 76 = .ok (.iload 9, 2) := by decide +kernel
theorem dL_counts_78 : decode cL_counts 78 = .ok (.aload_n 2, 1) := by decide +kernel
theorem dL_counts_79 : decode cL_counts 79 = .ok (.aload 6, 2) := by decide +kernel
theorem dL_counts_81 : decode cL_counts 81 = .ok (.aload 7, 2) := by decide +kernel
theorem dL_counts_83 : decode cL_counts 83 = .ok (.invokestatic 68, 3) := by decide +kernel
theorem dL_counts_86 : decode cL_counts 86 = .ok (.if_icmp .lt 7, 3) := by decide +kernel
theorem dL_counts_89 : decode cL_counts 89 = .ok (.iconst 1, 1) := by decide +kernel
theorem dL_counts_90 : decode cL_counts 90 = .ok (.goto 4, 3) := by decide +kernel
theorem dL_counts_93 : decode cL_counts 93 = .ok (.iconst 0, 1) := by decide +kernel
theorem dL_counts_94 : decode cL_counts 94 = .ok (.ireturn, 1) := by decide +kernel
theorem dL_due_0 : decode cL_due 0 = .ok (.bipush 8, 2) := by decide +kernel
theorem dL_due_2 : decode cL_due 2 = .ok (.newarray .int, 2) := by decide +kernel
theorem dL_due_4 : decode cL_due 4 = .ok (.astore 8, 2) := by decide +kernel
theorem dL_due_6 : decode cL_due 6 = .ok (.bipush 8, 2) := by decide +kernel
theorem dL_due_8 : decode cL_due 8 = .ok (.newarray .int, 2) := by decide +kernel
theorem dL_due_10 : decode cL_due 10 = .ok (.astore 9, 2) := by decide +kernel
theorem dL_due_12 : decode cL_due 12 = .ok (.iconst 0, 1) := by decide +kernel
theorem dL_due_13 : decode cL_due 13 = .ok (.istore 10, 2) := by decide +kernel
theorem dL_due_15 : decode cL_due 15 = .ok (.iconst 0, 1) := by decide +kernel
theorem dL_due_16 : decode cL_due 16 = .ok (.istore 11, 2) := by decide +kernel
theorem dL_due_18 : decode cL_due 18 = .ok (.iload 11, 2) := by decide +kernel
theorem dL_due_20 : decode cL_due 20 = .ok (.aload 7, 2) := by decide +kernel
theorem dL_due_22 : decode cL_due 22 = .ok (.iconst 2, 1) := by decide +kernel
theorem dL_due_23 : decode cL_due 23 = .ok (.iaload, 1) := by decide +kernel
theorem dL_due_24 : decode cL_due 24 = .ok (.if_icmp .ge 97, 3) := by decide +kernel
theorem dL_due_27 : decode cL_due 27 = .ok (.aload 5, 2) := by decide +kernel
theorem dL_due_29 : decode cL_due 29 = .ok (.bipush 8, 2) := by decide +kernel
theorem dL_due_31 : decode cL_due 31 = .ok (.iload_n 0, 1) := by decide +kernel
theorem dL_due_32 : decode cL_due 32 = .ok (.imul, 1) := by decide +kernel
theorem dL_due_33 : decode cL_due 33 = .ok (.iconst 3, 1) := by decide +kernel
theorem dL_due_34 : decode cL_due 34 = .ok (.iadd, 1) := by decide +kernel
theorem dL_due_35 : decode cL_due 35 = .ok (.iaload, 1) := by decide +kernel
theorem dL_due_36 : decode cL_due 36 = .ok (.iconst 3, 1) := by decide +kernel
theorem dL_due_37 : decode cL_due 37 = .ok (.if_icmp .ge 84, 3) := by decide +kernel
theorem dL_due_40 : decode cL_due 40 = .ok (.iload 11, 2) := by decide +kernel
theorem dL_due_42 : decode cL_due 42 = .ok (.iload_n 0, 1) := by decide +kernel
theorem dL_due_43 : decode cL_due 43 = .ok (.aload_n 1, 1) := by decide +kernel
theorem dL_due_44 : decode cL_due 44 = .ok (.aload_n 2, 1) := by decide +kernel
theorem dL_due_45 : decode cL_due 45 = .ok (.aload_n 3, 1) := by decide +kernel
theorem dL_due_46 : decode cL_due 46 = .ok (.aload 4, 2) := by decide +kernel
theorem dL_due_48 : decode cL_due 48 = .ok (.aload 5, 2) := by decide +kernel
theorem dL_due_50 : decode cL_due 50 = .ok (.aload 6, 2) := by decide +kernel
theorem dL_due_52 : decode cL_due 52 = .ok (.aload 7, 2) := by decide +kernel
theorem dL_due_54 : decode cL_due 54 = .ok (.invokestatic 81, 3) := by decide +kernel
theorem dL_due_57 : decode cL_due 57 = .ok (.istore 12, 2) := by decide +kernel
theorem dL_due_59 : decode cL_due 59 = .ok (.aload 8, 2) := by decide +kernel
theorem dL_due_61 : decode cL_due 61 = .ok (.aload_n 2, 1) := by decide +kernel
theorem dL_due_62 : decode cL_due 62 = .ok (.iload 11, 2) := by decide +kernel
theorem dL_due_64 : decode cL_due 64 = .ok (.iaload, 1) := by decide +kernel
theorem dL_due_65 : decode cL_due 65 = .ok (.bipush 8, 2) := by decide +kernel
theorem dL_due_67 : decode cL_due 67 = .ok (.irem, 1) := by decide +kernel
theorem dL_due_68 : decode cL_due 68 = .ok (.dup2, 1) := by decide +kernel
theorem dL_due_69 : decode cL_due 69 = .ok (.iaload, 1) := by decide +kernel
theorem dL_due_70 : decode cL_due 70 = .ok (.iload 12, 2) := by decide +kernel
theorem dL_due_72 : decode cL_due 72 = .ok (.ifCond .eq 17, 3) := by decide +kernel
theorem dL_due_75 : decode cL_due 75 = .ok (.aload_n 2, 1) := by decide +kernel
theorem dL_due_76 : decode cL_due 76 = .ok (.iload 11, 2) := by decide +kernel
theorem dL_due_78 : decode cL_due 78 = .ok (.iaload, 1) := by decide +kernel
theorem dL_due_79 : decode cL_due 79 = .ok (.bipush 8, 2) := by decide +kernel
theorem dL_due_81 : decode cL_due 81 = .ok (.idiv, 1) := by decide +kernel
theorem dL_due_82 : decode cL_due 82 = .ok (.sipush 16384, 3) := by decide +kernel
theorem dL_due_85 : decode cL_due 85 = .ok (.irem, 1) := by decide +kernel
theorem dL_due_86 : decode cL_due 86 = .ok (.goto 4, 3) := by decide +kernel
theorem dL_due_89 : decode cL_due 89 = .ok (.iconst 0, 1) := by decide +kernel
theorem dL_due_90 : decode cL_due 90 = .ok (.iadd, 1) := by decide +kernel
theorem dL_due_91 : decode cL_due 91 = .ok (.iastore, 1) := by decide +kernel
theorem dL_due_92 : decode cL_due 92 = .ok (.aload 9, 2) := by decide +kernel
theorem dL_due_94 : decode cL_due 94 = .ok (.aload_n 2, 1) := by decide +kernel
theorem dL_due_95 : decode cL_due 95 = .ok (.iload 11, 2) := by decide +kernel
theorem dL_due_97 : decode cL_due 97 = .ok (.iaload, 1) := by decide +kernel
theorem dL_due_98 : decode cL_due 98 = .ok (.bipush 8, 2) := by decide +kernel
theorem dL_due_100 : decode cL_due 100 = .ok (.irem, 1) := by decide +kernel
theorem dL_due_101 : decode cL_due 101 = .ok (.dup2, 1) := by decide +kernel
theorem dL_due_102 : decode cL_due 102 = .ok (.iaload, 1) := by decide +kernel
theorem dL_due_103 : decode cL_due 103 = .ok (.iload 12, 2) := by decide +kernel
theorem dL_due_105 : decode cL_due 105 = .ok (.ifCond .eq 7, 3) := by decide +kernel
theorem dL_due_108 : decode cL_due 108 = .ok (.iconst 1, 1) := by decide +kernel
theorem dL_due_109 : decode cL_due 109 = .ok (.goto 4, 3) := by decide +kernel
theorem dL_due_112 : decode cL_due 112 = .ok (.iconst 0, 1) := by decide +kernel
theorem dL_due_113 : decode cL_due 113 = .ok (.iadd, 1) := by decide +kernel
theorem dL_due_114 : decode cL_due 114 = .ok (.iastore, 1) := by decide +kernel
theorem dL_due_115 : decode cL_due 115 = .ok (.iinc 11 1, 3) := by decide +kernel
theorem dL_due_118 : decode cL_due 118 = .ok (.goto (-100), 3) := by decide +kernel
theorem dL_due_121 : decode cL_due 121 = .ok (.iconst 0, 1) := by decide +kernel
theorem dL_due_122 : decode cL_due 122 = .ok (.istore 11, 2) := by decide +kernel
theorem dL_due_124 : decode cL_due 124 = .ok (.iload 11, 2) := by decide +kernel
theorem dL_due_126 : decode cL_due 126 = .ok (.aload 7, 2) := by decide +kernel
theorem dL_due_128 : decode cL_due 128 = .ok (.iconst 1, 1) := by decide +kernel
theorem dL_due_129 : decode cL_due 129 = .ok (.iaload, 1) := by decide +kernel
theorem dL_due_130 : decode cL_due 130 = .ok (.if_icmp .ge 110, 3) := by decide +kernel
theorem dL_due_133 : decode cL_due 133 = .ok (.iconst 3, 1) := by decide +kernel
theorem dL_due_134 : decode cL_due 134 = .ok (.aload_n 1, 1) := by decide +kernel
theorem dL_due_135 : decode cL_due 135 = .ok (.bipush 8, 2) := by decide +kernel
theorem dL_due_137 : decode cL_due 137 = .ok (.iload 11, 2) := by decide +kernel
theorem dL_due_139 : decode cL_due 139 = .ok (.imul, 1) := by decide +kernel
theorem dL_due_140 : decode cL_due 140 = .ok (.bipush 6, 2) := by decide +kernel
theorem dL_due_142 : decode cL_due 142 = .ok (.iadd, 1) := by decide +kernel
theorem dL_due_143 : decode cL_due 143 = .ok (.iaload, 1) := by decide +kernel
theorem dL_due_144 : decode cL_due 144 = .ok (.isub, 1) := by decide +kernel
theorem dL_due_145 : decode cL_due 145 = .ok (.istore 12, 2) := by decide +kernel
theorem dL_due_147 : decode cL_due 147 = .ok (.aload_n 1, 1) := by decide +kernel
theorem dL_due_148 : decode cL_due 148 = .ok (.bipush 8, 2) := by decide +kernel
theorem dL_due_150 : decode cL_due 150 = .ok (.iload 11, 2) := by decide +kernel
theorem dL_due_152 : decode cL_due 152 = .ok (.imul, 1) := by decide +kernel
theorem dL_due_153 : decode cL_due 153 = .ok (.iconst 2, 1) := by decide +kernel
theorem dL_due_154 : decode cL_due 154 = .ok (.iadd, 1) := by decide +kernel
theorem dL_due_155 : decode cL_due 155 = .ok (.iaload, 1) := by decide +kernel
theorem dL_due_156 : decode cL_due 156 = .ok (.istore 13, 2) := by decide +kernel
theorem dL_due_158 : decode cL_due 158 = .ok (.iload 10, 2) := by decide +kernel
theorem dL_due_160 : decode cL_due 160 = .ok (.iload 12, 2) := by decide +kernel
theorem dL_due_162 : decode cL_due 162 = .ok (.aload 8, 2) := by decide +kernel
theorem dL_due_164 : decode cL_due 164 = .ok (.iload 11, 2) := by decide +kernel
theorem dL_due_166 : decode cL_due 166 = .ok (.iaload, 1) := by decide +kernel
theorem dL_due_167 : decode cL_due 167 = .ok (.aload_n 1, 1) := by decide +kernel
theorem dL_due_168 : decode cL_due 168 = .ok (.bipush 8, 2) := by decide +kernel
theorem dL_due_170 : decode cL_due 170 = .ok (.iload 11, 2) := by decide +kernel
theorem dL_due_172 : decode cL_due 172 = .ok (.imul, 1) := by decide +kernel
theorem dL_due_173 : decode cL_due 173 = .ok (.iconst 4, 1) := by decide +kernel
theorem dL_due_174 : decode cL_due 174 = .ok (.iadd, 1) := by decide +kernel
theorem dL_due_175 : decode cL_due 175 = .ok (.iaload, 1) := by decide +kernel
theorem dL_due_176 : decode cL_due 176 = .ok (.imul, 1) := by decide +kernel
theorem dL_due_177 : decode cL_due 177 = .ok (.aload_n 1, 1) := by decide +kernel
theorem dL_due_178 : decode cL_due 178 = .ok (.bipush 8, 2) := by decide +kernel
theorem dL_due_180 : decode cL_due 180 = .ok (.iload 11, 2) := by decide +kernel
theorem dL_due_182 : decode cL_due 182 = .ok (.imul, 1) := by decide +kernel
theorem dL_due_183 : decode cL_due 183 = .ok (.iconst 3, 1) := by decide +kernel
theorem dL_due_184 : decode cL_due 184 = .ok (.iadd, 1) := by decide +kernel
theorem dL_due_185 : decode cL_due 185 = .ok (.iaload, 1) := by decide +kernel
theorem dL_due_186 : decode cL_due 186 = .ok (.idiv, 1) := by decide +kernel
theorem dL_due_187 : decode cL_due 187 = .ok (.imul, 1) := by decide +kernel
theorem dL_due_188 : decode cL_due 188 = .ok (.iload 13, 2) := by decide +kernel
theorem dL_due_190 : decode cL_due 190 = .ok (.iconst 2, 1) := by decide +kernel
theorem dL_due_191 : decode cL_due 191 = .ok (.if_icmp .ne 8, 3) := by decide +kernel
theorem dL_due_194 : decode cL_due 194 = .ok (.bipush 20, 2) := by decide +kernel
theorem dL_due_196 : decode cL_due 196 = .ok (.goto 8, 3) := by decide +kernel
theorem dL_due_199 : decode cL_due 199 = .ok (.bipush 100, 2) := by decide +kernel
theorem dL_due_201 : decode cL_due 201 = .ok (.iload 13, 2) := by decide +kernel
theorem dL_due_203 : decode cL_due 203 = .ok (.ishr, 1) := by decide +kernel
theorem dL_due_204 : decode cL_due 204 = .ok (.aload 9, 2) := by decide +kernel
theorem dL_due_206 : decode cL_due 206 = .ok (.iload 11, 2) := by decide +kernel
theorem dL_due_208 : decode cL_due 208 = .ok (.iaload, 1) := by decide +kernel
theorem dL_due_209 : decode cL_due 209 = .ok (.aload_n 1, 1) := by decide +kernel
theorem dL_due_210 : decode cL_due 210 = .ok (.bipush 8, 2) := by decide +kernel
theorem dL_due_212 : decode cL_due 212 = .ok (.iload 11, 2) := by decide +kernel
theorem dL_due_214 : decode cL_due 214 = .ok (.imul, 1) := by decide +kernel
theorem dL_due_215 : decode cL_due 215 = .ok (.iconst 4, 1) := by decide +kernel
theorem dL_due_216 : decode cL_due 216 = .ok (.iadd, 1) := by decide +kernel
theorem dL_due_217 : decode cL_due 217 = .ok (.iaload, 1) := by decide +kernel
theorem dL_due_218 : decode cL_due 218 = .ok (.imul, 1) := by decide +kernel
theorem dL_due_219 : decode cL_due 219 = .ok (.aload_n 1, 1) := by decide +kernel
theorem dL_due_220 : decode cL_due 220 = .ok (.bipush 8, 2) := by decide +kernel
theorem dL_due_222 : decode cL_due 222 = .ok (.iload 11, 2) := by decide +kernel
theorem dL_due_224 : decode cL_due 224 = .ok (.imul, 1) := by decide +kernel
theorem dL_due_225 : decode cL_due 225 = .ok (.iconst 3, 1) := by decide +kernel
theorem dL_due_226 : decode cL_due 226 = .ok (.iadd, 1) := by decide +kernel
theorem dL_due_227 : decode cL_due 227 = .ok (.iaload, 1) := by decide +kernel
theorem dL_due_228 : decode cL_due 228 = .ok (.idiv, 1) := by decide +kernel
theorem dL_due_229 : decode cL_due 229 = .ok (.imul, 1) := by decide +kernel
theorem dL_due_230 : decode cL_due 230 = .ok (.iadd, 1) := by decide +kernel
theorem dL_due_231 : decode cL_due 231 = .ok (.iadd, 1) := by decide +kernel
theorem dL_due_232 : decode cL_due 232 = .ok (.istore 10, 2) := by decide +kernel
theorem dL_due_234 : decode cL_due 234 = .ok (.iinc 11 1, 3) := by decide +kernel
theorem dL_due_237 : decode cL_due 237 = .ok (.goto (-113), 3) := by decide +kernel
theorem dL_due_240 : decode cL_due 240 = .ok (.iload 10, 2) := by decide +kernel
theorem dL_due_242 : decode cL_due 242 = .ok (.ireturn, 1) := by decide +kernel
theorem dL_hundredths_0 : decode cL_hundredths 0 = .ok (.aload 4, 2) := by decide +kernel
theorem dL_hundredths_2 : decode cL_hundredths 2 = .ok (.bipush 8, 2) := by decide +kernel
theorem dL_hundredths_4 : decode cL_hundredths 4 = .ok (.iload_n 0, 1) := by decide +kernel
theorem dL_hundredths_5 : decode cL_hundredths 5 = .ok (.imul, 1) := by decide +kernel
theorem dL_hundredths_6 : decode cL_hundredths 6 = .ok (.iconst 3, 1) := by decide +kernel
theorem dL_hundredths_7 : decode cL_hundredths 7 = .ok (.iadd, 1) := by decide +kernel
theorem dL_hundredths_8 : decode cL_hundredths 8 = .ok (.iaload, 1) := by decide +kernel
theorem dL_hundredths_9 : decode cL_hundredths 9 = .ok (.istore 7, 2) := by decide +kernel
theorem dL_hundredths_11 : decode cL_hundredths 11 = .ok (.iload 7, 2) := by decide +kernel
theorem dL_hundredths_13 : decode cL_hundredths 13 = .ok (.iconst 1, 1) := by decide +kernel
theorem dL_hundredths_14 : decode cL_hundredths 14 = .ok (.if_icmp .eq 30, 3) := by decide +kernel
theorem dL_hundredths_17 : decode cL_hundredths 17 = .ok (.iload 7, 2) := by decide +kernel
theorem dL_hundredths_19 : decode cL_hundredths 19 = .ok (.iconst 2, 1) := by decide +kernel
theorem dL_hundredths_20 : decode cL_hundredths 20 = .ok (.if_icmp .eq 24, 3) := by decide +kernel
theorem dL_hundredths_23 : decode cL_hundredths 23 = .ok (.iload 7, 2) := by decide +kernel
theorem dL_hundredths_25 : decode cL_hundredths 25 = .ok (.iconst 4, 1) := by decide +kernel
theorem dL_hundredths_26 : decode cL_hundredths 26 = .ok (.if_icmp .ne 16, 3) := by decide +kernel
theorem dL_hundredths_29 : decode cL_hundredths 29 = .ok (.aload 4, 2) := by decide +kernel
theorem dL_hundredths_31 : decode cL_hundredths 31 = .ok (.bipush 8, 2) := by decide +kernel
theorem dL_hundredths_33 : decode cL_hundredths 33 = .ok (.iload_n 0, 1) := by decide +kernel
theorem dL_hundredths_34 : decode cL_hundredths 34 = .ok (.imul, 1) := by decide +kernel
theorem dL_hundredths_35 : decode cL_hundredths 35 = .ok (.bipush 7, 2) := by decide +kernel
theorem dL_hundredths_37 : decode cL_hundredths 37 = .ok (.iadd, 1) := by decide +kernel
theorem dL_hundredths_38 : decode cL_hundredths 38 = .ok (.iaload, 1) := by decide +kernel
theorem dL_hundredths_39 : decode cL_hundredths 39 = .ok (.goto 4, 3) := by decide +kernel
theorem dL_hundredths_42 : decode cL_hundredths 42 = .ok (.iconst 0, 1) := by decide +kernel
theorem dL_hundredths_43 : decode cL_hundredths 43 = .ok (.ireturn, 1) := by decide +kernel
theorem dL_hundredths_44 : decode cL_hundredths 44 = .ok (.iload 7, 2) := by decide +kernel
theorem dL_hundredths_46 : decode cL_hundredths 46 = .ok (.iconst 1, 1) := by decide +kernel
theorem dL_hundredths_47 : decode cL_hundredths 47 = .ok (.if_icmp .ne 19, 3) := by decide +kernel
theorem dL_hundredths_50 : decode cL_hundredths 50 = .ok (.bipush 15, 2) := by decide +kernel
theorem dL_hundredths_52 : decode cL_hundredths 52 = .ok (.aload 4, 2) := by decide +kernel
theorem dL_hundredths_54 : decode cL_hundredths 54 = .ok (.bipush 8, 2) := by decide +kernel
theorem dL_hundredths_56 : decode cL_hundredths 56 = .ok (.iload_n 0, 1) := by decide +kernel
theorem dL_hundredths_57 : decode cL_hundredths 57 = .ok (.imul, 1) := by decide +kernel
theorem dL_hundredths_58 : decode cL_hundredths 58 = .ok (.bipush 6, 2) := by decide +kernel
theorem dL_hundredths_60 : decode cL_hundredths 60 = .ok (.iadd, 1) := by decide +kernel
theorem dL_hundredths_61 : decode cL_hundredths 61 = .ok (.iaload, 1) := by decide +kernel
theorem dL_hundredths_62 : decode cL_hundredths 62 = .ok (.iadd, 1) := by decide +kernel
theorem dL_hundredths_63 : decode cL_hundredths 63 = .ok (.goto 18, 3) := by decide +kernel
theorem dL_hundredths_66 : decode cL_hundredths 66 = .ok (.bipush 50, 2) := by decide +kernel
theorem dL_hundredths_68 : decode cL_hundredths 68 = .ok (.aload 4, 2) := by decide +kernel
theorem dL_hundredths_70 : decode cL_hundredths 70 = .ok (.bipush 8, 2) := by decide +kernel
theorem dL_hundredths_72 : decode cL_hundredths 72 = .ok (.iload_n 0, 1) := by decide +kernel
theorem dL_hundredths_73 : decode cL_hundredths 73 = .ok (.imul, 1) := by decide +kernel
theorem dL_hundredths_74 : decode cL_hundredths 74 = .ok (.bipush 6, 2) := by decide +kernel
theorem dL_hundredths_76 : decode cL_hundredths 76 = .ok (.iadd, 1) := by decide +kernel
theorem dL_hundredths_77 : decode cL_hundredths 77 = .ok (.iaload, 1) := by decide +kernel
theorem dL_hundredths_78 : decode cL_hundredths 78 = .ok (.iadd, 1) := by decide +kernel
theorem dL_hundredths_79 : decode cL_hundredths 79 = .ok (.iconst 2, 1) := by decide +kernel
theorem dL_hundredths_80 : decode cL_hundredths 80 = .ok (.idiv, 1) := by decide +kernel
theorem dL_hundredths_81 : decode cL_hundredths 81 = .ok (.istore 8, 2) := by decide +kernel
theorem dL_hundredths_83 : decode cL_hundredths 83 = .ok (.iconst 0, 1) := by decide +kernel
theorem dL_hundredths_84 : decode cL_hundredths 84 = .ok (.istore 9, 2) := by decide +kernel
theorem dL_hundredths_86 : decode cL_hundredths 86 = .ok (.iconst 0, 1) := by decide +kernel
theorem dL_hundredths_87 : decode cL_hundredths 87 = .ok (.istore 10, 2) := by decide +kernel
theorem dL_hundredths_89 : decode cL_hundredths 89 = .ok (.iload 10, 2) := by decide +kernel
theorem dL_hundredths_91 : decode cL_hundredths 91 = .ok (.aload 6, 2) := by decide +kernel
theorem dL_hundredths_93 : decode cL_hundredths 93 = .ok (.iconst 1, 1) := by decide +kernel
theorem dL_hundredths_94 : decode cL_hundredths 94 = .ok (.iaload, 1) := by decide +kernel
theorem dL_hundredths_95 : decode cL_hundredths 95 = .ok (.if_icmp .ge 61, 3) := by decide +kernel
theorem dL_hundredths_98 : decode cL_hundredths 98 = .ok (.iload 9, 2) := by decide +kernel
theorem dL_hundredths_100 : decode cL_hundredths 100 = .ok (.ifCond .ne 43, 3) := by decide +kernel
theorem dL_hundredths_103 : decode cL_hundredths 103 = .ok (.iload_n 0, 1) := by decide +kernel
theorem dL_hundredths_104 : decode cL_hundredths 104 = .ok (.iload 10, 2) := by decide +kernel
theorem dL_hundredths_106 : decode cL_hundredths 106 = .ok (.aload_n 1, 1) := by decide +kernel
theorem dL_hundredths_107 : decode cL_hundredths 107 = .ok (.aload_n 2, 1) := by decide +kernel
theorem dL_hundredths_108 : decode cL_hundredths 108 = .ok (.aload 4, 2) := by decide +kernel
theorem dL_hundredths_110 : decode cL_hundredths 110 = .ok (.aload 5, 2) := by decide +kernel
theorem dL_hundredths_112 : decode cL_hundredths 112 = .ok (.aload 6, 2) := by decide +kernel
theorem dL_hundredths_114 : decode cL_hundredths 114 = .ok (.invokestatic 77, 3) := by decide +kernel
theorem dL_hundredths_117 : decode cL_hundredths 117 = .ok (.ifCond .ne 30, 3) := by decide +kernel
theorem dL_hundredths_120 : decode cL_hundredths 120 = .ok (.aload_n 3, 1) := by decide +kernel
theorem dL_hundredths_121 : decode cL_hundredths 121 = .ok (.bipush 8, 2) := by decide +kernel
theorem dL_hundredths_123 : decode cL_hundredths 123 = .ok (.aload 4, 2) := by decide +kernel
theorem dL_hundredths_125 : decode cL_hundredths 125 = .ok (.bipush 8, 2) := by decide +kernel
theorem dL_hundredths_127 : decode cL_hundredths 127 = .ok (.iload_n 0, 1) := by decide +kernel
theorem dL_hundredths_128 : decode cL_hundredths 128 = .ok (.imul, 1) := by decide +kernel
theorem dL_hundredths_129 : decode cL_hundredths 129 = .ok (.iaload, 1) := by decide +kernel
theorem dL_hundredths_130 : decode cL_hundredths 130 = .ok (.imul, 1) := by decide +kernel
theorem dL_hundredths_131 : decode cL_hundredths 131 = .ok (.iconst 1, 1) := by decide +kernel
theorem dL_hundredths_132 : decode cL_hundredths 132 = .ok (.iadd, 1) := by decide +kernel
theorem dL_hundredths_133 : decode cL_hundredths 133 = .ok (.iaload, 1) := by decide +kernel
theorem dL_hundredths_134 : decode cL_hundredths 134 = .ok (.iload 10, 2) := by decide +kernel
theorem dL_hundredths_136 : decode cL_hundredths 136 = .ok (.ishr, 1) := by decide +kernel
theorem dL_hundredths_137 : decode cL_hundredths 137 = .ok (.iconst 1, 1) := by decide +kernel
theorem dL_hundredths_138 : decode cL_hundredths 138 = .ok (.iand, 1) := by decide +kernel
theorem dL_hundredths_139 : decode cL_hundredths 139 = .ok (.iconst 1, 1) := by decide +kernel
theorem dL_hundredths_140 : decode cL_hundredths 140 = .ok (.if_icmp .ne 7, 3) := by decide +kernel
theorem dL_hundredths_143 : decode cL_hundredths 143 = .ok (.iconst 1, 1) := by decide +kernel
theorem dL_hundredths_144 : decode cL_hundredths 144 = .ok (.goto 4, 3) := by decide +kernel
theorem dL_hundredths_147 : decode cL_hundredths 147 = .ok (.iconst 0, 1) := by decide +kernel
theorem dL_hundredths_148 : decode cL_hundredths 148 = .ok (.istore 9, 2) := by decide +kernel
theorem dL_hundredths_150 : decode cL_hundredths 150 = .ok (.iinc 10 1, 3) := by decide +kernel
theorem dL_hundredths_153 : decode cL_hundredths 153 = .ok (.goto (-64), 3) := by decide +kernel
theorem dL_hundredths_156 : decode cL_hundredths 156 = .ok (.iload 9, 2) := by decide +kernel
theorem dL_hundredths_158 : decode cL_hundredths 158 = .ok (.ifCond .eq 10, 3) := by decide +kernel
theorem dL_hundredths_161 : decode cL_hundredths 161 = .ok (.iload 8, 2) := by decide +kernel
theorem dL_hundredths_163 : decode cL_hundredths 163 = .ok (.iconst 2, 1) := by decide +kernel
theorem dL_hundredths_164 : decode cL_hundredths 164 = .ok (.idiv, 1) := by decide +kernel
theorem dL_hundredths_165 : decode cL_hundredths 165 = .ok (.goto 5, 3) := by decide +kernel
theorem dL_hundredths_168 : decode cL_hundredths 168 = .ok (.iload 8, 2) := by decide +kernel
theorem dL_hundredths_170 : decode cL_hundredths 170 = .ok (.ireturn, 1) := by decide +kernel
theorem dL_wins_0 : decode cL_wins 0 = .ok (.iload_n 0, 1) := by decide +kernel
theorem dL_wins_1 : decode cL_wins 1 = .ok (.aload_n 2, 1) := by decide +kernel
theorem dL_wins_2 : decode cL_wins 2 = .ok (.aload 5, 2) := by decide +kernel
theorem dL_wins_4 : decode cL_wins 4 = .ok (.aload 6, 2) := by decide +kernel
theorem dL_wins_6 : decode cL_wins 6 = .ok (.aload 8, 2) := by decide +kernel
theorem dL_wins_8 : decode cL_wins 8 = .ok (.aload 9, 2) := by decide +kernel
theorem dL_wins_10 : decode cL_wins 10 = .ok (.aload 12, 2) := by decide +kernel
theorem dL_wins_12 : decode cL_wins 12 = .ok (.invokestatic 85, 3) := by decide +kernel
theorem dL_wins_15 : decode cL_wins 15 = .ok (.istore 13, 2) := by decide +kernel
theorem dL_wins_17 : decode cL_wins 17 = .ok (.iload_n 1, 1) := by decide +kernel
theorem dL_wins_18 : decode cL_wins 18 = .ok (.bipush 100, 2) := by decide +kernel
theorem dL_wins_20 : decode cL_wins 20 = .ok (.idiv, 1) := by decide +kernel
theorem dL_wins_21 : decode cL_wins 21 = .ok (.iload 13, 2) := by decide +kernel
theorem dL_wins_23 : decode cL_wins 23 = .ok (.imul, 1) := by decide +kernel
theorem dL_wins_24 : decode cL_wins 24 = .ok (.iload_n 1, 1) := by decide +kernel
theorem dL_wins_25 : decode cL_wins 25 = .ok (.bipush 100, 2) := by decide +kernel
theorem dL_wins_27 : decode cL_wins 27 = .ok (.irem, 1) := by decide +kernel
theorem dL_wins_28 : decode cL_wins 28 = .ok (.iload 13, 2) := by decide +kernel
theorem dL_wins_30 : decode cL_wins 30 = .ok (.imul, 1) := by decide +kernel
theorem dL_wins_31 : decode cL_wins 31 = .ok (.bipush 100, 2) := by decide +kernel
theorem dL_wins_33 : decode cL_wins 33 = .ok (.idiv, 1) := by decide +kernel
theorem dL_wins_34 : decode cL_wins 34 = .ok (.iadd, 1) := by decide +kernel
theorem dL_wins_35 : decode cL_wins 35 = .ok (.istore 14, 2) := by decide +kernel
theorem dL_wins_37 : decode cL_wins 37 = .ok (.aload 8, 2) := by decide +kernel
theorem dL_wins_39 : decode cL_wins 39 = .ok (.bipush 8, 2) := by decide +kernel
theorem dL_wins_41 : decode cL_wins 41 = .ok (.iload_n 0, 1) := by decide +kernel
theorem dL_wins_42 : decode cL_wins 42 = .ok (.imul, 1) := by decide +kernel
theorem dL_wins_43 : decode cL_wins 43 = .ok (.iconst 1, 1) := by decide +kernel
theorem dL_wins_44 : decode cL_wins 44 = .ok (.iadd, 1) := by decide +kernel
theorem dL_wins_45 : decode cL_wins 45 = .ok (.iaload, 1) := by decide +kernel
theorem dL_wins_46 : decode cL_wins 46 = .ok (.istore 15, 2) := by decide +kernel
theorem dL_wins_48 : decode cL_wins 48 = .ok (.aload 8, 2) := by decide +kernel
theorem dL_wins_50 : decode cL_wins 50 = .ok (.bipush 8, 2) := by decide +kernel
theorem dL_wins_52 : decode cL_wins 52 = .ok (.iload_n 0, 1) := by decide +kernel
theorem dL_wins_53 : decode cL_wins 53 = .ok (.imul, 1) := by decide +kernel
theorem dL_wins_54 : decode cL_wins 54 = .ok (.iaload, 1) := by decide +kernel
theorem dL_wins_55 : decode cL_wins 55 = .ok (.istore 16, 2) := by decide +kernel
theorem dL_wins_57 : decode cL_wins 57 = .ok (.aload 11, 2) := by decide +kernel
theorem dL_wins_59 : decode cL_wins 59 = .ok (.iconst 4, 1) := by decide +kernel
theorem dL_wins_60 : decode cL_wins 60 = .ok (.iload 15, 2) := by decide +kernel
theorem dL_wins_62 : decode cL_wins 62 = .ok (.imul, 1) := by decide +kernel
theorem dL_wins_63 : decode cL_wins 63 = .ok (.dup2, 1) := by decide +kernel
theorem dL_wins_64 : decode cL_wins 64 = .ok (.iaload, 1) := by decide +kernel
theorem dL_wins_65 : decode cL_wins 65 = .ok (.iload_n 1, 1) := by decide +kernel
theorem dL_wins_66 : decode cL_wins 66 = .ok (.isub, 1) := by decide +kernel
theorem dL_wins_67 : decode cL_wins 67 = .ok (.iastore, 1) := by decide +kernel
theorem dL_wins_68 : decode cL_wins 68 = .ok (.aload 11, 2) := by decide +kernel
theorem dL_wins_70 : decode cL_wins 70 = .ok (.iconst 4, 1) := by decide +kernel
theorem dL_wins_71 : decode cL_wins 71 = .ok (.iload 15, 2) := by decide +kernel
theorem dL_wins_73 : decode cL_wins 73 = .ok (.imul, 1) := by decide +kernel
theorem dL_wins_74 : decode cL_wins 74 = .ok (.iconst 2, 1) := by decide +kernel
theorem dL_wins_75 : decode cL_wins 75 = .ok (.iadd, 1) := by decide +kernel
theorem dL_wins_76 : decode cL_wins 76 = .ok (.dup2, 1) := by decide +kernel
theorem dL_wins_77 : decode cL_wins 77 = .ok (.iaload, 1) := by decide +kernel
theorem dL_wins_78 : decode cL_wins 78 = .ok (.iload_n 1, 1) := by decide +kernel
theorem dL_wins_79 : decode cL_wins 79 = .ok (.iadd, 1) := by decide +kernel
theorem dL_wins_80 : decode cL_wins 80 = .ok (.iastore, 1) := by decide +kernel
theorem dL_wins_81 : decode cL_wins 81 = .ok (.aload 10, 2) := by decide +kernel
theorem dL_wins_83 : decode cL_wins 83 = .ok (.iload_n 0, 1) := by decide +kernel
theorem dL_wins_84 : decode cL_wins 84 = .ok (.iload_n 1, 1) := by decide +kernel
theorem dL_wins_85 : decode cL_wins 85 = .ok (.iastore, 1) := by decide +kernel
theorem dL_wins_86 : decode cL_wins 86 = .ok (.aload 10, 2) := by decide +kernel
theorem dL_wins_88 : decode cL_wins 88 = .ok (.bipush 8, 2) := by decide +kernel
theorem dL_wins_90 : decode cL_wins 90 = .ok (.iload_n 0, 1) := by decide +kernel
theorem dL_wins_91 : decode cL_wins 91 = .ok (.iadd, 1) := by decide +kernel
theorem dL_wins_92 : decode cL_wins 92 = .ok (.iload 14, 2) := by decide +kernel
theorem dL_wins_94 : decode cL_wins 94 = .ok (.iastore, 1) := by decide +kernel
theorem dL_wins_95 : decode cL_wins 95 = .ok (.aload 12, 2) := by decide +kernel
theorem dL_wins_97 : decode cL_wins 97 = .ok (.bipush 6, 2) := by decide +kernel
theorem dL_wins_99 : decode cL_wins 99 = .ok (.dup2, 1) := by decide +kernel
theorem dL_wins_100 : decode cL_wins 100 = .ok (.iaload, 1) := by decide +kernel
theorem dL_wins_101 : decode cL_wins 101 = .ok (.iload_n 1, 1) := by decide +kernel
theorem dL_wins_102 : decode cL_wins 102 = .ok (.iload 14, 2) := by decide +kernel
theorem dL_wins_104 : decode cL_wins 104 = .ok (.isub, 1) := by decide +kernel
theorem dL_wins_105 : decode cL_wins 105 = .ok (.iadd, 1) := by decide +kernel
theorem dL_wins_106 : decode cL_wins 106 = .ok (.iastore, 1) := by decide +kernel
theorem dL_wins_107 : decode cL_wins 107 = .ok (.iload 14, 2) := by decide +kernel
theorem dL_wins_109 : decode cL_wins 109 = .ok (.istore 17, 2) := by decide +kernel
theorem dL_wins_111 : decode cL_wins 111 = .ok (.iconst 0, 1) := by decide +kernel
theorem dL_wins_112 : decode cL_wins 112 = .ok (.istore 18, 2) := by decide +kernel
theorem dL_wins_114 : decode cL_wins 114 = .ok (.iload 18, 2) := by decide +kernel
theorem dL_wins_116 : decode cL_wins 116 = .ok (.aload 12, 2) := by decide +kernel
theorem dL_wins_118 : decode cL_wins 118 = .ok (.iconst 3, 1) := by decide +kernel
theorem dL_wins_119 : decode cL_wins 119 = .ok (.iaload, 1) := by decide +kernel
theorem dL_wins_120 : decode cL_wins 120 = .ok (.if_icmp .ge 110, 3) := by decide +kernel
theorem dL_wins_123 : decode cL_wins 123 = .ok (.aload 7, 2) := by decide +kernel
theorem dL_wins_125 : decode cL_wins 125 = .ok (.iload 18, 2) := by decide +kernel
theorem dL_wins_127 : decode cL_wins 127 = .ok (.iaload, 1) := by decide +kernel
theorem dL_wins_128 : decode cL_wins 128 = .ok (.bipush 8, 2) := by decide +kernel
theorem dL_wins_130 : decode cL_wins 130 = .ok (.irem, 1) := by decide +kernel
theorem dL_wins_131 : decode cL_wins 131 = .ok (.iload 16, 2) := by decide +kernel
theorem dL_wins_133 : decode cL_wins 133 = .ok (.if_icmp .ne 91, 3) := by decide +kernel
theorem dL_wins_136 : decode cL_wins 136 = .ok (.aload 7, 2) := by decide +kernel
theorem dL_wins_138 : decode cL_wins 138 = .ok (.iload 18, 2) := by decide +kernel
theorem dL_wins_140 : decode cL_wins 140 = .ok (.iaload, 1) := by decide +kernel
theorem dL_wins_141 : decode cL_wins 141 = .ok (.sipush 8192, 3) := by decide +kernel
theorem dL_wins_144 : decode cL_wins 144 = .ok (.idiv, 1) := by decide +kernel
theorem dL_wins_145 : decode cL_wins 145 = .ok (.aload 8, 2) := by decide +kernel
theorem dL_wins_147 : decode cL_wins 147 = .ok (.bipush 8, 2) := by decide +kernel
theorem dL_wins_149 : decode cL_wins 149 = .ok (.iload_n 0, 1) := by decide +kernel
theorem dL_wins_150 : decode cL_wins 150 = .ok (.imul, 1) := by decide +kernel
theorem dL_wins_151 : decode cL_wins 151 = .ok (.iconst 2, 1) := by decide +kernel
theorem dL_wins_152 : decode cL_wins 152 = .ok (.iadd, 1) := by decide +kernel
theorem dL_wins_153 : decode cL_wins 153 = .ok (.iaload, 1) := by decide +kernel
theorem dL_wins_154 : decode cL_wins 154 = .ok (.if_icmp .ge 70, 3) := by decide +kernel
theorem dL_wins_157 : decode cL_wins 157 = .ok (.aload 7, 2) := by decide +kernel
theorem dL_wins_159 : decode cL_wins 159 = .ok (.iload 18, 2) := by decide +kernel
theorem dL_wins_161 : decode cL_wins 161 = .ok (.iaload, 1) := by decide +kernel
theorem dL_wins_162 : decode cL_wins 162 = .ok (.bipush 64, 2) := by decide +kernel
theorem dL_wins_164 : decode cL_wins 164 = .ok (.idiv, 1) := by decide +kernel
theorem dL_wins_165 : decode cL_wins 165 = .ok (.sipush 128, 3) := by decide +kernel
theorem dL_wins_168 : decode cL_wins 168 = .ok (.irem, 1) := by decide +kernel
theorem dL_wins_169 : decode cL_wins 169 = .ok (.istore 19, 2) := by decide +kernel
theorem dL_wins_171 : decode cL_wins 171 = .ok (.iload 14, 2) := by decide +kernel
theorem dL_wins_173 : decode cL_wins 173 = .ok (.bipush 100, 2) := by decide +kernel
theorem dL_wins_175 : decode cL_wins 175 = .ok (.idiv, 1) := by decide +kernel
theorem dL_wins_176 : decode cL_wins 176 = .ok (.iload 19, 2) := by decide +kernel
theorem dL_wins_178 : decode cL_wins 178 = .ok (.imul, 1) := by decide +kernel
theorem dL_wins_179 : decode cL_wins 179 = .ok (.iload 14, 2) := by decide +kernel
theorem dL_wins_181 : decode cL_wins 181 = .ok (.bipush 100, 2) := by decide +kernel
theorem dL_wins_183 : decode cL_wins 183 = .ok (.irem, 1) := by decide +kernel
theorem dL_wins_184 : decode cL_wins 184 = .ok (.iload 19, 2) := by decide +kernel
theorem dL_wins_186 : decode cL_wins 186 = .ok (.imul, 1) := by decide +kernel
theorem dL_wins_187 : decode cL_wins 187 = .ok (.bipush 100, 2) := by decide +kernel
theorem dL_wins_189 : decode cL_wins 189 = .ok (.idiv, 1) := by decide +kernel
theorem dL_wins_190 : decode cL_wins 190 = .ok (.iadd, 1) := by decide +kernel
theorem dL_wins_191 : decode cL_wins 191 = .ok (.istore 20, 2) := by decide +kernel
theorem dL_wins_193 : decode cL_wins 193 = .ok (.aload 6, 2) := by decide +kernel
theorem dL_wins_195 : decode cL_wins 195 = .ok (.bipush 8, 2) := by decide +kernel
theorem dL_wins_197 : decode cL_wins 197 = .ok (.aload 7, 2) := by decide +kernel
theorem dL_wins_199 : decode cL_wins 199 = .ok (.iload 18, 2) := by decide +kernel
theorem dL_wins_201 : decode cL_wins 201 = .ok (.iaload, 1) := by decide +kernel
theorem dL_wins_202 : decode cL_wins 202 = .ok (.bipush 8, 2) := by decide +kernel
theorem dL_wins_204 : decode cL_wins 204 = .ok (.idiv, 1) := by decide +kernel
theorem dL_wins_205 : decode cL_wins 205 = .ok (.bipush 8, 2) := by decide +kernel
theorem dL_wins_207 : decode cL_wins 207 = .ok (.irem, 1) := by decide +kernel
theorem dL_wins_208 : decode cL_wins 208 = .ok (.imul, 1) := by decide +kernel
theorem dL_wins_209 : decode cL_wins 209 = .ok (.iconst 5, 1) := by decide +kernel
theorem dL_wins_210 : decode cL_wins 210 = .ok (.iadd, 1) := by decide +kernel
theorem dL_wins_211 : decode cL_wins 211 = .ok (.dup2, 1) := by decide +kernel
theorem dL_wins_212 : decode cL_wins 212 = .ok (.iaload, 1) := by decide +kernel
theorem dL_wins_213 : decode cL_wins 213 = .ok (.iload 20, 2) := by decide +kernel
theorem dL_wins_215 : decode cL_wins 215 = .ok (.iadd, 1) := by decide +kernel
theorem dL_wins_216 : decode cL_wins 216 = .ok (.iastore, 1) := by decide +kernel
theorem dL_wins_217 : decode cL_wins 217 = .ok (.iload 17, 2) := by decide +kernel
theorem dL_wins_219 : decode cL_wins 219 = .ok (.iload 20, 2) := by decide +kernel
theorem dL_wins_221 : decode cL_wins 221 = .ok (.isub, 1) := by decide +kernel
theorem dL_wins_222 : decode cL_wins 222 = .ok (.istore 17, 2) := by decide +kernel
theorem dL_wins_224 : decode cL_wins 224 = .ok (.iinc 18 1, 3) := by decide +kernel
theorem dL_wins_227 : decode cL_wins 227 = .ok (.goto (-113), 3) := by decide +kernel
theorem dL_wins_230 : decode cL_wins 230 = .ok (.aload 6, 2) := by decide +kernel
theorem dL_wins_232 : decode cL_wins 232 = .ok (.bipush 8, 2) := by decide +kernel
theorem dL_wins_234 : decode cL_wins 234 = .ok (.iload 16, 2) := by decide +kernel
theorem dL_wins_236 : decode cL_wins 236 = .ok (.imul, 1) := by decide +kernel
theorem dL_wins_237 : decode cL_wins 237 = .ok (.iconst 4, 1) := by decide +kernel
theorem dL_wins_238 : decode cL_wins 238 = .ok (.iadd, 1) := by decide +kernel
theorem dL_wins_239 : decode cL_wins 239 = .ok (.dup2, 1) := by decide +kernel
theorem dL_wins_240 : decode cL_wins 240 = .ok (.iaload, 1) := by decide +kernel
theorem dL_wins_241 : decode cL_wins 241 = .ok (.iload 17, 2) := by decide +kernel
theorem dL_wins_243 : decode cL_wins 243 = .ok (.iadd, 1) := by decide +kernel
theorem dL_wins_244 : decode cL_wins 244 = .ok (.iastore, 1) := by decide +kernel
theorem dL_wins_245 : decode cL_wins 245 = .ok (.iconst 0, 1) := by decide +kernel
theorem dL_wins_246 : decode cL_wins 246 = .ok (.istore 18, 2) := by decide +kernel
theorem dL_wins_248 : decode cL_wins 248 = .ok (.iconst 0, 1) := by decide +kernel
theorem dL_wins_249 : decode cL_wins 249 = .ok (.istore 19, 2) := by decide +kernel
theorem dL_wins_251 : decode cL_wins 251 = .ok (.iload 19, 2) := by decide +kernel
theorem dL_wins_253 : decode cL_wins 253 = .ok (.aload 12, 2) := by decide +kernel
theorem dL_wins_255 : decode cL_wins 255 = .ok (.iconst 1, 1) := by decide +kernel
theorem dL_wins_256 : decode cL_wins 256 = .ok (.iaload, 1) := by decide +kernel
theorem dL_wins_257 : decode cL_wins 257 = .ok (.if_icmp .ge 40, 3) := by decide +kernel
theorem dL_wins_260 : decode cL_wins 260 = .ok (.iload 18, 2) := by decide +kernel
theorem dL_wins_262 : decode cL_wins 262 = .ok (.iload_n 0, 1) := by decide +kernel
theorem dL_wins_263 : decode cL_wins 263 = .ok (.iload 19, 2) := by decide +kernel
theorem dL_wins_265 : decode cL_wins 265 = .ok (.aload_n 2, 1) := by decide +kernel
theorem dL_wins_266 : decode cL_wins 266 = .ok (.aload 5, 2) := by decide +kernel
theorem dL_wins_268 : decode cL_wins 268 = .ok (.aload 8, 2) := by decide +kernel
theorem dL_wins_270 : decode cL_wins 270 = .ok (.aload 9, 2) := by decide +kernel
theorem dL_wins_272 : decode cL_wins 272 = .ok (.aload 12, 2) := by decide +kernel
theorem dL_wins_274 : decode cL_wins 274 = .ok (.invokestatic 77, 3) := by decide +kernel
theorem dL_wins_277 : decode cL_wins 277 = .ok (.ifCond .ne 10, 3) := by decide +kernel
theorem dL_wins_280 : decode cL_wins 280 = .ok (.iconst 1, 1) := by decide +kernel
theorem dL_wins_281 : decode cL_wins 281 = .ok (.iload 19, 2) := by decide +kernel
theorem dL_wins_283 : decode cL_wins 283 = .ok (.ishl, 1) := by decide +kernel
theorem dL_wins_284 : decode cL_wins 284 = .ok (.goto 4, 3) := by decide +kernel
theorem dL_wins_287 : decode cL_wins 287 = .ok (.iconst 0, 1) := by decide +kernel
theorem dL_wins_288 : decode cL_wins 288 = .ok (.ior, 1) := by decide +kernel
theorem dL_wins_289 : decode cL_wins 289 = .ok (.istore 18, 2) := by decide +kernel
theorem dL_wins_291 : decode cL_wins 291 = .ok (.iinc 19 1, 3) := by decide +kernel
theorem dL_wins_294 : decode cL_wins 294 = .ok (.goto (-43), 3) := by decide +kernel
theorem dL_wins_297 : decode cL_wins 297 = .ok (.iconst 0, 1) := by decide +kernel
theorem dL_wins_298 : decode cL_wins 298 = .ok (.istore 19, 2) := by decide +kernel
theorem dL_wins_300 : decode cL_wins 300 = .ok (.iload 19, 2) := by decide +kernel
theorem dL_wins_302 : decode cL_wins 302 = .ok (.aload 12, 2) := by decide +kernel
theorem dL_wins_304 : decode cL_wins 304 = .ok (.iconst 2, 1) := by decide +kernel
theorem dL_wins_305 : decode cL_wins 305 = .ok (.iaload, 1) := by decide +kernel
theorem dL_wins_306 : decode cL_wins 306 = .ok (.if_icmp .ge 74, 3) := by decide +kernel
theorem dL_wins_309 : decode cL_wins 309 = .ok (.iload 18, 2) := by decide +kernel
theorem dL_wins_311 : decode cL_wins 311 = .ok (.aload_n 3, 1) := by decide +kernel
theorem dL_wins_312 : decode cL_wins 312 = .ok (.iload 19, 2) := by decide +kernel
theorem dL_wins_314 : decode cL_wins 314 = .ok (.iaload, 1) := by decide +kernel
theorem dL_wins_315 : decode cL_wins 315 = .ok (.bipush 8, 2) := by decide +kernel
theorem dL_wins_317 : decode cL_wins 317 = .ok (.irem, 1) := by decide +kernel
theorem dL_wins_318 : decode cL_wins 318 = .ok (.ishr, 1) := by decide +kernel
theorem dL_wins_319 : decode cL_wins 319 = .ok (.iconst 1, 1) := by decide +kernel
theorem dL_wins_320 : decode cL_wins 320 = .ok (.iand, 1) := by decide +kernel
theorem dL_wins_321 : decode cL_wins 321 = .ok (.iconst 1, 1) := by decide +kernel
theorem dL_wins_322 : decode cL_wins 322 = .ok (.if_icmp .ne 28, 3) := by decide +kernel
theorem dL_wins_325 : decode cL_wins 325 = .ok (.iload 19, 2) := by decide +kernel
theorem dL_wins_327 : decode cL_wins 327 = .ok (.iload_n 0, 1) := by decide +kernel
theorem dL_wins_328 : decode cL_wins 328 = .ok (.aload_n 2, 1) := by decide +kernel
theorem dL_wins_329 : decode cL_wins 329 = .ok (.aload_n 3, 1) := by decide +kernel
theorem dL_wins_330 : decode cL_wins 330 = .ok (.aload 4, 2) := by decide +kernel
theorem dL_wins_332 : decode cL_wins 332 = .ok (.aload 5, 2) := by decide +kernel
theorem dL_wins_334 : decode cL_wins 334 = .ok (.aload 8, 2) := by decide +kernel
theorem dL_wins_336 : decode cL_wins 336 = .ok (.aload 9, 2) := by decide +kernel
theorem dL_wins_338 : decode cL_wins 338 = .ok (.aload 12, 2) := by decide +kernel
theorem dL_wins_340 : decode cL_wins 340 = .ok (.invokestatic 81, 3) := by decide +kernel
theorem dL_wins_343 : decode cL_wins 343 = .ok (.ifCond .eq 7, 3) := by decide +kernel
theorem dL_wins_346 : decode cL_wins 346 = .ok (.iconst 1, 1) := by decide +kernel
theorem dL_wins_347 : decode cL_wins 347 = .ok (.goto 4, 3) := by decide +kernel
theorem dL_wins_350 : decode cL_wins 350 = .ok (.iconst 0, 1) := by decide +kernel
theorem dL_wins_351 : decode cL_wins 351 = .ok (.istore 20, 2) := by decide +kernel
theorem dL_wins_353 : decode cL_wins 353 = .ok (.aload 4, 2) := by decide +kernel
theorem dL_wins_355 : decode cL_wins 355 = .ok (.iload 19, 2) := by decide +kernel
theorem dL_wins_357 : decode cL_wins 357 = .ok (.iload 20, 2) := by decide +kernel
theorem dL_wins_359 : decode cL_wins 359 = .ok (.ifCond .eq 9, 3) := by decide +kernel
theorem dL_wins_362 : decode cL_wins 362 = .ok (.iload_n 0, 1) := by decide +kernel
theorem dL_wins_363 : decode cL_wins 363 = .ok (.iconst 1, 1) := by decide +kernel
theorem dL_wins_364 : decode cL_wins 364 = .ok (.iadd, 1) := by decide +kernel
theorem dL_wins_365 : decode cL_wins 365 = .ok (.goto 8, 3) := by decide +kernel
theorem dL_wins_368 : decode cL_wins 368 = .ok (.aload 4, 2) := by decide +kernel
theorem dL_wins_370 : decode cL_wins 370 = .ok (.iload 19, 2) := by decide +kernel
theorem dL_wins_372 : decode cL_wins 372 = .ok (.iaload, 1) := by decide +kernel
theorem dL_wins_373 : decode cL_wins 373 = .ok (.iastore, 1) := by decide +kernel
theorem dL_wins_374 : decode cL_wins 374 = .ok (.iinc 19 1, 3) := by decide +kernel
theorem dL_wins_377 : decode cL_wins 377 = .ok (.goto (-77), 3) := by decide +kernel
theorem dL_wins_380 : decode cL_wins 380 = .ok (.aload 8, 2) := by decide +kernel
theorem dL_wins_382 : decode cL_wins 382 = .ok (.bipush 8, 2) := by decide +kernel
theorem dL_wins_384 : decode cL_wins 384 = .ok (.iload_n 0, 1) := by decide +kernel
theorem dL_wins_385 : decode cL_wins 385 = .ok (.imul, 1) := by decide +kernel
theorem dL_wins_386 : decode cL_wins 386 = .ok (.bipush 7, 2) := by decide +kernel
theorem dL_wins_388 : decode cL_wins 388 = .ok (.iadd, 1) := by decide +kernel
theorem dL_wins_389 : decode cL_wins 389 = .ok (.iload 13, 2) := by decide +kernel
theorem dL_wins_391 : decode cL_wins 391 = .ok (.iastore, 1) := by decide +kernel
theorem dL_wins_392 : decode cL_wins 392 = .ok (.aload 8, 2) := by decide +kernel
theorem dL_wins_394 : decode cL_wins 394 = .ok (.bipush 8, 2) := by decide +kernel
theorem dL_wins_396 : decode cL_wins 396 = .ok (.iload_n 0, 1) := by decide +kernel
theorem dL_wins_397 : decode cL_wins 397 = .ok (.imul, 1) := by decide +kernel
theorem dL_wins_398 : decode cL_wins 398 = .ok (.iconst 3, 1) := by decide +kernel
theorem dL_wins_399 : decode cL_wins 399 = .ok (.iadd, 1) := by decide +kernel
theorem dL_wins_400 : decode cL_wins 400 = .ok (.iconst 4, 1) := by decide +kernel
theorem dL_wins_401 : decode cL_wins 401 = .ok (.iastore, 1) := by decide +kernel
theorem dL_wins_402 : decode cL_wins 402 = .ok (.return_, 1) := by decide +kernel
theorem dL_knows_0 : decode cL_knows 0 = .ok (.aload_n 3, 1) := by decide +kernel
theorem dL_knows_1 : decode cL_knows 1 = .ok (.iconst 4, 1) := by decide +kernel
theorem dL_knows_2 : decode cL_knows 2 = .ok (.iconst 5, 1) := by decide +kernel
theorem dL_knows_3 : decode cL_knows 3 = .ok (.iload_n 0, 1) := by decide +kernel
theorem dL_knows_4 : decode cL_knows 4 = .ok (.imul, 1) := by decide +kernel
theorem dL_knows_5 : decode cL_knows 5 = .ok (.iload_n 1, 1) := by decide +kernel
theorem dL_knows_6 : decode cL_knows 6 = .ok (.iadd, 1) := by decide +kernel
theorem dL_knows_7 : decode cL_knows 7 = .ok (.imul, 1) := by decide +kernel
theorem dL_knows_8 : decode cL_knows 8 = .ok (.iaload, 1) := by decide +kernel
theorem dL_knows_9 : decode cL_knows 9 = .ok (.ifCond .le 17, 3) := by decide +kernel
theorem dL_knows_12 : decode cL_knows 12 = .ok (.aload_n 3, 1) := by decide +kernel
theorem dL_knows_13 : decode cL_knows 13 = .ok (.iconst 4, 1) := by decide +kernel
theorem dL_knows_14 : decode cL_knows 14 = .ok (.iconst 5, 1) := by decide +kernel
theorem dL_knows_15 : decode cL_knows 15 = .ok (.iload_n 0, 1) := by decide +kernel
theorem dL_knows_16 : decode cL_knows 16 = .ok (.imul, 1) := by decide +kernel
theorem dL_knows_17 : decode cL_knows 17 = .ok (.iload_n 1, 1) := by decide +kernel
theorem dL_knows_18 : decode cL_knows 18 = .ok (.iadd, 1) := by decide +kernel
theorem dL_knows_19 : decode cL_knows 19 = .ok (.imul, 1) := by decide +kernel
theorem dL_knows_20 : decode cL_knows 20 = .ok (.iaload, 1) := by decide +kernel
theorem dL_knows_21 : decode cL_knows 21 = .ok (.iconst 1, 1) := by decide +kernel
theorem dL_knows_22 : decode cL_knows 22 = .ok (.isub, 1) := by decide +kernel
theorem dL_knows_23 : decode cL_knows 23 = .ok (.goto 6, 3) := by decide +kernel
theorem dL_knows_26 : decode cL_knows 26 = .ok (.sipush 9999, 3) := by decide +kernel
theorem dL_knows_29 : decode cL_knows 29 = .ok (.istore 5, 2) := by decide +kernel
theorem dL_knows_31 : decode cL_knows 31 = .ok (.iconst 0, 1) := by decide +kernel
theorem dL_knows_32 : decode cL_knows 32 = .ok (.istore 6, 2) := by decide +kernel
theorem dL_knows_34 : decode cL_knows 34 = .ok (.iload 6, 2) := by decide +kernel
theorem dL_knows_36 : decode cL_knows 36 = .ok (.aload 4, 2) := by decide +kernel
theorem dL_knows_38 : decode cL_knows 38 = .ok (.iconst 4, 1) := by decide +kernel
theorem dL_knows_39 : decode cL_knows 39 = .ok (.iaload, 1) := by decide +kernel
theorem dL_knows_40 : decode cL_knows 40 = .ok (.if_icmp .ge 63, 3) := by decide +kernel
theorem dL_knows_43 : decode cL_knows 43 = .ok (.aload_n 2, 1) := by decide +kernel
theorem dL_knows_44 : decode cL_knows 44 = .ok (.bipush 8, 2) := by decide +kernel
theorem dL_knows_46 : decode cL_knows 46 = .ok (.iload 6, 2) := by decide +kernel
theorem dL_knows_48 : decode cL_knows 48 = .ok (.imul, 1) := by decide +kernel
theorem dL_knows_49 : decode cL_knows 49 = .ok (.iaload, 1) := by decide +kernel
theorem dL_knows_50 : decode cL_knows 50 = .ok (.iload_n 1, 1) := by decide +kernel
theorem dL_knows_51 : decode cL_knows 51 = .ok (.if_icmp .ne 42, 3) := by decide +kernel
theorem dL_knows_54 : decode cL_knows 54 = .ok (.aload_n 2, 1) := by decide +kernel
theorem dL_knows_55 : decode cL_knows 55 = .ok (.bipush 8, 2) := by decide +kernel
theorem dL_knows_57 : decode cL_knows 57 = .ok (.iload 6, 2) := by decide +kernel
theorem dL_knows_59 : decode cL_knows 59 = .ok (.imul, 1) := by decide +kernel
theorem dL_knows_60 : decode cL_knows 60 = .ok (.iconst 1, 1) := by decide +kernel
theorem dL_knows_61 : decode cL_knows 61 = .ok (.iadd, 1) := by decide +kernel
theorem dL_knows_62 : decode cL_knows 62 = .ok (.iaload, 1) := by decide +kernel
theorem dL_knows_63 : decode cL_knows 63 = .ok (.iload_n 0, 1) := by decide +kernel
theorem dL_knows_64 : decode cL_knows 64 = .ok (.if_icmp .ne 29, 3) := by decide +kernel
theorem dL_knows_67 : decode cL_knows 67 = .ok (.aload_n 2, 1) := by decide +kernel
theorem dL_knows_68 : decode cL_knows 68 = .ok (.bipush 8, 2) := by decide +kernel
theorem dL_knows_70 : decode cL_knows 70 = .ok (.iload 6, 2) := by decide +kernel
theorem dL_knows_72 : decode cL_knows 72 = .ok (.imul, 1) := by decide +kernel
theorem dL_knows_73 : decode cL_knows 73 = .ok (.iconst 4, 1) := by decide +kernel
theorem dL_knows_74 : decode cL_knows 74 = .ok (.iadd, 1) := by decide +kernel
theorem dL_knows_75 : decode cL_knows 75 = .ok (.iaload, 1) := by decide +kernel
theorem dL_knows_76 : decode cL_knows 76 = .ok (.iload 5, 2) := by decide +kernel
theorem dL_knows_78 : decode cL_knows 78 = .ok (.if_icmp .ge 15, 3) := by decide +kernel
theorem dL_knows_81 : decode cL_knows 81 = .ok (.aload_n 2, 1) := by decide +kernel
theorem dL_knows_82 : decode cL_knows 82 = .ok (.bipush 8, 2) := by decide +kernel
theorem dL_knows_84 : decode cL_knows 84 = .ok (.iload 6, 2) := by decide +kernel
theorem dL_knows_86 : decode cL_knows 86 = .ok (.imul, 1) := by decide +kernel
theorem dL_knows_87 : decode cL_knows 87 = .ok (.iconst 4, 1) := by decide +kernel
theorem dL_knows_88 : decode cL_knows 88 = .ok (.iadd, 1) := by decide +kernel
theorem dL_knows_89 : decode cL_knows 89 = .ok (.iaload, 1) := by decide +kernel
theorem dL_knows_90 : decode cL_knows 90 = .ok (.goto 5, 3) := by decide +kernel
theorem dL_knows_93 : decode cL_knows 93 = .ok (.iload 5, 2) := by decide +kernel
theorem dL_knows_95 : decode cL_knows 95 = .ok (.istore 5, 2) := by decide +kernel
theorem dL_knows_97 : decode cL_knows 97 = .ok (.iinc 6 1, 3) := by decide +kernel
theorem dL_knows_100 : decode cL_knows 100 = .ok (.goto (-66), 3) := by decide +kernel
theorem dL_knows_103 : decode cL_knows 103 = .ok (.iload 5, 2) := by decide +kernel
theorem dL_knows_105 : decode cL_knows 105 = .ok (.ireturn, 1) := by decide +kernel
