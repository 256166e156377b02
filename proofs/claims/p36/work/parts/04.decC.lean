theorem dX0_init_0 : decode cX0_init 0 = .ok (.aload_n 0, 1) := by decide +kernel
theorem dX0_init_1 : decode cX0_init 1 = .ok (.invokespecial 3, 3) := by decide +kernel
theorem dX0_init_4 : decode cX0_init 4 = .ok (.aload_n 0, 1) := by decide +kernel
theorem dX0_init_5 : decode cX0_init 5 = .ok (.iconst (-1), 1) := by decide +kernel
theorem dX0_init_6 : decode cX0_init 6 = .ok (.putfield 9, 3) := by decide +kernel
theorem dX0_init_9 : decode cX0_init 9 = .ok (.aload_n 0, 1) := by decide +kernel
theorem dX0_init_10 : decode cX0_init 10 = .ok (.iload_n 1, 1) := by decide +kernel
theorem dX0_init_11 : decode cX0_init 11 = .ok (.putfield 15, 3) := by decide +kernel
theorem dX0_init_14 : decode cX0_init 14 = .ok (.aload_n 0, 1) := by decide +kernel
theorem dX0_init_15 : decode cX0_init 15 = .ok (.iload_n 2, 1) := by decide +kernel
theorem dX0_init_16 : decode cX0_init 16 = .ok (.putfield 18, 3) := by decide +kernel
theorem dX0_init_19 : decode cX0_init 19 = .ok (.aload_n 0, 1) := by decide +kernel
theorem dX0_init_20 : decode cX0_init 20 = .ok (.iload_n 3, 1) := by decide +kernel
theorem dX0_init_21 : decode cX0_init 21 = .ok (.putfield 21, 3) := by decide +kernel
theorem dX0_init_24 : decode cX0_init 24 = .ok (.return_, 1) := by decide +kernel
theorem dX1_init_0 : decode cX1_init 0 = .ok (.aload_n 0, 1) := by decide +kernel
theorem dX1_init_1 : decode cX1_init 1 = .ok (.invokespecial 1, 3) := by decide +kernel
theorem dX1_init_4 : decode cX1_init 4 = .ok (.aload_n 0, 1) := by decide +kernel
theorem dX1_init_5 : decode cX1_init 5 = .ok (.iload_n 1, 1) := by decide +kernel
theorem dX1_init_6 : decode cX1_init 6 = .ok (.putfield 7, 3) := by decide +kernel
theorem dX1_init_9 : decode cX1_init 9 = .ok (.aload_n 0, 1) := by decide +kernel
theorem dX1_init_10 : decode cX1_init 10 = .ok (.iload_n 2, 1) := by decide +kernel
theorem dX1_init_11 : decode cX1_init 11 = .ok (.putfield 13, 3) := by decide +kernel
theorem dX1_init_14 : decode cX1_init 14 = .ok (.aload_n 0, 1) := by decide +kernel
theorem dX1_init_15 : decode cX1_init 15 = .ok (.iload_n 3, 1) := by decide +kernel
theorem dX1_init_16 : decode cX1_init 16 = .ok (.putfield 16, 3) := by decide +kernel
theorem dX1_init_19 : decode cX1_init 19 = .ok (.aload_n 0, 1) := by decide +kernel
theorem dX1_init_20 : decode cX1_init 20 = .ok (.iload 4, 2) := by decide +kernel
theorem dX1_init_22 : decode cX1_init 22 = .ok (.putfield 19, 3) := by decide +kernel
theorem dX1_init_25 : decode cX1_init 25 = .ok (.return_, 1) := by decide +kernel
theorem dX2_init_0 : decode cX2_init 0 = .ok (.aload_n 0, 1) := by decide +kernel
theorem dX2_init_1 : decode cX2_init 1 = .ok (.invokespecial 3, 3) := by decide +kernel
theorem dX2_init_4 : decode cX2_init 4 = .ok (.aload_n 0, 1) := by decide +kernel
theorem dX2_init_5 : decode cX2_init 5 = .ok (.iconst 0, 1) := by decide +kernel
theorem dX2_init_6 : decode cX2_init 6 = .ok (.putfield 9, 3) := by decide +kernel
theorem dX2_init_9 : decode cX2_init 9 = .ok (.aload_n 0, 1) := by decide +kernel
theorem dX2_init_10 : decode cX2_init 10 = .ok (.iconst 0, 1) := by decide +kernel
theorem dX2_init_11 : decode cX2_init 11 = .ok (.putfield 15, 3) := by decide +kernel
theorem dX2_init_14 : decode cX2_init 14 = .ok (.aload_n 0, 1) := by decide +kernel
theorem dX2_init_15 : decode cX2_init 15 = .ok (.iconst 0, 1) := by decide +kernel
theorem dX2_init_16 : decode cX2_init 16 = .ok (.putfield 18, 3) := by decide +kernel
theorem dX2_init_19 : decode cX2_init 19 = .ok (.aload_n 0, 1) := by decide +kernel
theorem dX2_init_20 : decode cX2_init 20 = .ok (.iconst 0, 1) := by decide +kernel
theorem dX2_init_21 : decode cX2_init 21 = .ok (.putfield 21, 3) := by decide +kernel
theorem dX2_init_24 : decode cX2_init 24 = .ok (.aload_n 0, 1) := by decide +kernel
theorem dX2_init_25 : decode cX2_init 25 = .ok (.bipush 8, 2) := by decide +kernel
theorem dX2_init_27 : decode cX2_init 27 = .ok (.newarray .int, 2) := by decide +kernel
theorem dX2_init_29 : decode cX2_init 29 = .ok (.putfield 24, 3) := by decide +kernel
theorem dX2_init_32 : decode cX2_init 32 = .ok (.aload_n 0, 1) := by decide +kernel
theorem dX2_init_33 : decode cX2_init 33 = .ok (.bipush 8, 2) := by decide +kernel
theorem dX2_init_35 : decode cX2_init 35 = .ok (.newarray .int, 2) := by decide +kernel
theorem dX2_init_37 : decode cX2_init 37 = .ok (.putfield 28, 3) := by decide +kernel
theorem dX2_init_40 : decode cX2_init 40 = .ok (.aload_n 0, 1) := by decide +kernel
theorem dX2_init_41 : decode cX2_init 41 = .ok (.bipush 8, 2) := by decide +kernel
theorem dX2_init_43 : decode cX2_init 43 = .ok (.newarray .int, 2) := by decide +kernel
theorem dX2_init_45 : decode cX2_init 45 = .ok (.putfield 31, 3) := by decide +kernel
theorem dX2_init_48 : decode cX2_init 48 = .ok (.aload_n 0, 1) := by decide +kernel
theorem dX2_init_49 : decode cX2_init 49 = .ok (.getfield 24, 3) := by decide +kernel
theorem dX2_init_52 : decode cX2_init 52 = .ok (.iconst (-1), 1) := by decide +kernel
theorem dX2_init_53 : decode cX2_init 53 = .ok (.invokestatic 34, 3) := by decide +kernel
theorem dX2_init_56 : decode cX2_init 56 = .ok (.aload_n 0, 1) := by decide +kernel
theorem dX2_init_57 : decode cX2_init 57 = .ok (.getfield 28, 3) := by decide +kernel
theorem dX2_init_60 : decode cX2_init 60 = .ok (.iconst (-1), 1) := by decide +kernel
theorem dX2_init_61 : decode cX2_init 61 = .ok (.invokestatic 34, 3) := by decide +kernel
theorem dX2_init_64 : decode cX2_init 64 = .ok (.return_, 1) := by decide +kernel
theorem dX3_init_0 : decode cX3_init 0 = .ok (.aload_n 0, 1) := by decide +kernel
theorem dX3_init_1 : decode cX3_init 1 = .ok (.invokespecial 1, 3) := by decide +kernel
theorem dX3_init_4 : decode cX3_init 4 = .ok (.aload_n 0, 1) := by decide +kernel
theorem dX3_init_5 : decode cX3_init 5 = .ok (.iload_n 1, 1) := by decide +kernel
theorem dX3_init_6 : decode cX3_init 6 = .ok (.putfield 7, 3) := by decide +kernel
theorem dX3_init_9 : decode cX3_init 9 = .ok (.aload_n 0, 1) := by decide +kernel
theorem dX3_init_10 : decode cX3_init 10 = .ok (.iload_n 2, 1) := by decide +kernel
theorem dX3_init_11 : decode cX3_init 11 = .ok (.putfield 13, 3) := by decide +kernel
theorem dX3_init_14 : decode cX3_init 14 = .ok (.return_, 1) := by decide +kernel
theorem dX4_init_0 : decode cX4_init 0 = .ok (.aload_n 0, 1) := by decide +kernel
theorem dX4_init_1 : decode cX4_init 1 = .ok (.invokespecial 3, 3) := by decide +kernel
theorem dX4_init_4 : decode cX4_init 4 = .ok (.aload_n 0, 1) := by decide +kernel
theorem dX4_init_5 : decode cX4_init 5 = .ok (.iconst 1, 1) := by decide +kernel
theorem dX4_init_6 : decode cX4_init 6 = .ok (.putfield 9, 3) := by decide +kernel
theorem dX4_init_9 : decode cX4_init 9 = .ok (.aload_n 0, 1) := by decide +kernel
theorem dX4_init_10 : decode cX4_init 10 = .ok (.iconst 0, 1) := by decide +kernel
theorem dX4_init_11 : decode cX4_init 11 = .ok (.putfield 15, 3) := by decide +kernel
theorem dX4_init_14 : decode cX4_init 14 = .ok (.aload_n 0, 1) := by decide +kernel
theorem dX4_init_15 : decode cX4_init 15 = .ok (.iconst (-1), 1) := by decide +kernel
theorem dX4_init_16 : decode cX4_init 16 = .ok (.putfield 18, 3) := by decide +kernel
theorem dX4_init_19 : decode cX4_init 19 = .ok (.aload_n 0, 1) := by decide +kernel
theorem dX4_init_20 : decode cX4_init 20 = .ok (.iconst 0, 1) := by decide +kernel
theorem dX4_init_21 : decode cX4_init 21 = .ok (.putfield 21, 3) := by decide +kernel
theorem dX4_init_24 : decode cX4_init 24 = .ok (.aload_n 0, 1) := by decide +kernel
theorem dX4_init_25 : decode cX4_init 25 = .ok (.iconst 0, 1) := by decide +kernel
theorem dX4_init_26 : decode cX4_init 26 = .ok (.putfield 25, 3) := by decide +kernel
theorem dX4_init_29 : decode cX4_init 29 = .ok (.aload_n 0, 1) := by decide +kernel
theorem dX4_init_30 : decode cX4_init 30 = .ok (.iload_n 1, 1) := by decide +kernel
theorem dX4_init_31 : decode cX4_init 31 = .ok (.putfield 28, 3) := by decide +kernel
theorem dX4_init_34 : decode cX4_init 34 = .ok (.aload_n 0, 1) := by decide +kernel
theorem dX4_init_35 : decode cX4_init 35 = .ok (.iload_n 2, 1) := by decide +kernel
theorem dX4_init_36 : decode cX4_init 36 = .ok (.putfield 31, 3) := by decide +kernel
theorem dX4_init_39 : decode cX4_init 39 = .ok (.aload_n 0, 1) := by decide +kernel
theorem dX4_init_40 : decode cX4_init 40 = .ok (.iload_n 3, 1) := by decide +kernel
theorem dX4_init_41 : decode cX4_init 41 = .ok (.putfield 34, 3) := by decide +kernel
theorem dX4_init_44 : decode cX4_init 44 = .ok (.aload_n 0, 1) := by decide +kernel
theorem dX4_init_45 : decode cX4_init 45 = .ok (.iload 4, 2) := by decide +kernel
theorem dX4_init_47 : decode cX4_init 47 = .ok (.putfield 37, 3) := by decide +kernel
theorem dX4_init_50 : decode cX4_init 50 = .ok (.return_, 1) := by decide +kernel
theorem dX4_hasHalfIn_0 : decode cX4_hasHalfIn 0 = .ok (.iconst 2, 1) := by decide +kernel
theorem dX4_hasHalfIn_1 : decode cX4_hasHalfIn 1 = .ok (.aload_n 0, 1) := by decide +kernel
theorem dX4_hasHalfIn_2 : decode cX4_hasHalfIn 2 = .ok (.getfield 34, 3) := by decide +kernel
theorem dX4_hasHalfIn_5 : decode cX4_hasHalfIn 5 = .ok (.iload_n 1, 1) := by decide +kernel
theorem dX4_hasHalfIn_6 : decode cX4_hasHalfIn 6 = .ok (.iand, 1) := by decide +kernel
theorem dX4_hasHalfIn_7 : decode cX4_hasHalfIn 7 = .ok (.invokestatic 40, 3) := by decide +kernel
theorem dX4_hasHalfIn_10 : decode cX4_hasHalfIn 10 = .ok (.imul, 1) := by decide +kernel
theorem dX4_hasHalfIn_11 : decode cX4_hasHalfIn 11 = .ok (.aload_n 0, 1) := by decide +kernel
theorem dX4_hasHalfIn_12 : decode cX4_hasHalfIn 12 = .ok (.getfield 34, 3) := by decide +kernel
theorem dX4_hasHalfIn_15 : decode cX4_hasHalfIn 15 = .ok (.invokestatic 40, 3) := by decide +kernel
theorem dX4_hasHalfIn_18 : decode cX4_hasHalfIn 18 = .ok (.if_icmp .lt 7, 3) := by decide +kernel
theorem dX4_hasHalfIn_21 : decode cX4_hasHalfIn 21 = .ok (.iconst 1, 1) := by decide +kernel
theorem dX4_hasHalfIn_22 : decode cX4_hasHalfIn 22 = .ok (.goto 4, 3) := by decide +kernel
theorem dX4_hasHalfIn_25 : decode cX4_hasHalfIn 25 = .ok (.iconst 0, 1) := by decide +kernel
theorem dX4_hasHalfIn_26 : decode cX4_hasHalfIn 26 = .ok (.ireturn, 1) := by decide +kernel
theorem dX4_isPlannedBy_0 : decode cX4_isPlannedBy 0 = .ok (.aload_n 0, 1) := by decide +kernel
theorem dX4_isPlannedBy_1 : decode cX4_isPlannedBy 1 = .ok (.getfield 25, 3) := by decide +kernel
theorem dX4_isPlannedBy_4 : decode cX4_isPlannedBy 4 = .ok (.iconst 1, 1) := by decide +kernel
theorem dX4_isPlannedBy_5 : decode cX4_isPlannedBy 5 = .ok (.iload_n 1, 1) := by decide +kernel
theorem dX4_isPlannedBy_6 : decode cX4_isPlannedBy 6 = .ok (.ishl, 1) := by decide +kernel
theorem dX4_isPlannedBy_7 : decode cX4_isPlannedBy 7 = .ok (.iand, 1) := by decide +kernel
theorem dX4_isPlannedBy_8 : decode cX4_isPlannedBy 8 = .ok (.ifCond .eq 7, 3) := by decide +kernel
theorem dX4_isPlannedBy_11 : decode cX4_isPlannedBy 11 = .ok (.iconst 1, 1) := by decide +kernel
theorem dX4_isPlannedBy_12 : decode cX4_isPlannedBy 12 = .ok (.goto 4, 3) := by decide +kernel
theorem dX4_isPlannedBy_15 : decode cX4_isPlannedBy 15 = .ok (.iconst 0, 1) := by decide +kernel
theorem dX4_isPlannedBy_16 : decode cX4_isPlannedBy 16 = .ok (.ireturn, 1) := by decide +kernel
theorem dX4_falsePartOf_0 : decode cX4_falsePartOf 0 = .ok (.aload_n 0, 1) := by decide +kernel
theorem dX4_falsePartOf_1 : decode cX4_falsePartOf 1 = .ok (.getfield 9, 3) := by decide +kernel
theorem dX4_falsePartOf_4 : decode cX4_falsePartOf 4 = .ok (.iconst 1, 1) := by decide +kernel
theorem dX4_falsePartOf_5 : decode cX4_falsePartOf 5 = .ok (.if_icmp .ge 7, 3) := by decide +kernel
theorem dX4_falsePartOf_8 : decode cX4_falsePartOf 8 = .ok (.iconst 0, 1) := by decide +kernel
theorem dX4_falsePartOf_9 : decode cX4_falsePartOf 9 = .ok (.goto 14, 3) := by decide +kernel
theorem dX4_falsePartOf_12 : decode cX4_falsePartOf 12 = .ok (.iload_n 1, 1) := by decide +kernel
theorem dX4_falsePartOf_13 : decode cX4_falsePartOf 13 = .ok (.aload_n 0, 1) := by decide +kernel
theorem dX4_falsePartOf_14 : decode cX4_falsePartOf 14 = .ok (.getfield 15, 3) := by decide +kernel
theorem dX4_falsePartOf_17 : decode cX4_falsePartOf 17 = .ok (.imul, 1) := by decide +kernel
theorem dX4_falsePartOf_18 : decode cX4_falsePartOf 18 = .ok (.aload_n 0, 1) := by decide +kernel
theorem dX4_falsePartOf_19 : decode cX4_falsePartOf 19 = .ok (.getfield 9, 3) := by decide +kernel
theorem dX4_falsePartOf_22 : decode cX4_falsePartOf 22 = .ok (.idiv, 1) := by decide +kernel
theorem dX4_falsePartOf_23 : decode cX4_falsePartOf 23 = .ok (.ireturn, 1) := by decide +kernel
theorem dX4_penalty_0 : decode cX4_penalty 0 = .ok (.aload_n 0, 1) := by decide +kernel
theorem dX4_penalty_1 : decode cX4_penalty 1 = .ok (.getfield 37, 3) := by decide +kernel
theorem dX4_penalty_4 : decode cX4_penalty 4 = .ok (.lookupswitch 34 #[(0, 28), (1, 31)], 28) := by decide +kernel
theorem dX4_penalty_32 : decode cX4_penalty 32 = .ok (.bipush 100, 2) := by decide +kernel
theorem dX4_penalty_34 : decode cX4_penalty 34 = .ok (.ireturn, 1) := by decide +kernel
theorem dX4_penalty_35 : decode cX4_penalty 35 = .ok (.bipush 50, 2) := by decide +kernel
theorem dX4_penalty_37 : decode cX4_penalty 37 = .ok (.ireturn, 1) := by decide +kernel
theorem dX4_penalty_38 : decode cX4_penalty 38 = .ok (.bipush 20, 2) := by decide +kernel
theorem dX4_penalty_40 : decode cX4_penalty 40 = .ok (.ireturn, 1) := by decide +kernel
theorem dX5_init_0 : decode cX5_init 0 = .ok (.aload_n 0, 1) := by decide +kernel
theorem dX5_init_1 : decode cX5_init 1 = .ok (.invokespecial 3, 3) := by decide +kernel
theorem dX5_init_4 : decode cX5_init 4 = .ok (.aload_n 0, 1) := by decide +kernel
theorem dX5_init_5 : decode cX5_init 5 = .ok (.new 9, 3) := by decide +kernel
theorem dX5_init_8 : decode cX5_init 8 = .ok (.dup, 1) := by decide +kernel
theorem dX5_init_9 : decode cX5_init 9 = .ok (.invokespecial 11, 3) := by decide +kernel
theorem dX5_init_12 : decode cX5_init 12 = .ok (.putfield 12, 3) := by decide +kernel
theorem dX5_init_15 : decode cX5_init 15 = .ok (.aload_n 0, 1) := by decide +kernel
theorem dX5_init_16 : decode cX5_init 16 = .ok (.iconst 0, 1) := by decide +kernel
theorem dX5_init_17 : decode cX5_init 17 = .ok (.putfield 18, 3) := by decide +kernel
theorem dX5_init_20 : decode cX5_init 20 = .ok (.aload_n 0, 1) := by decide +kernel
theorem dX5_init_21 : decode cX5_init 21 = .ok (.iconst 0, 1) := by decide +kernel
theorem dX5_init_22 : decode cX5_init 22 = .ok (.putfield 22, 3) := by decide +kernel
theorem dX5_init_25 : decode cX5_init 25 = .ok (.aload_n 0, 1) := by decide +kernel
theorem dX5_init_26 : decode cX5_init 26 = .ok (.iconst 0, 1) := by decide +kernel
theorem dX5_init_27 : decode cX5_init 27 = .ok (.putfield 26, 3) := by decide +kernel
theorem dX5_init_30 : decode cX5_init 30 = .ok (.aload_n 0, 1) := by decide +kernel
theorem dX5_init_31 : decode cX5_init 31 = .ok (.iconst 0, 1) := by decide +kernel
theorem dX5_init_32 : decode cX5_init 32 = .ok (.putfield 29, 3) := by decide +kernel
theorem dX5_init_35 : decode cX5_init 35 = .ok (.aload_n 0, 1) := by decide +kernel
theorem dX5_init_36 : decode cX5_init 36 = .ok (.iconst 0, 1) := by decide +kernel
theorem dX5_init_37 : decode cX5_init 37 = .ok (.putfield 32, 3) := by decide +kernel
theorem dX5_init_40 : decode cX5_init 40 = .ok (.aload_n 0, 1) := by decide +kernel
theorem dX5_init_41 : decode cX5_init 41 = .ok (.iconst 0, 1) := by decide +kernel
theorem dX5_init_42 : decode cX5_init 42 = .ok (.putfield 35, 3) := by decide +kernel
theorem dX5_init_45 : decode cX5_init 45 = .ok (.aload_n 0, 1) := by decide +kernel
theorem dX5_init_46 : decode cX5_init 46 = .ok (.iconst 0, 1) := by decide +kernel
theorem dX5_init_47 : decode cX5_init 47 = .ok (.putfield 38, 3) := by decide +kernel
theorem dX5_init_50 : decode cX5_init 50 = .ok (.aload_n 0, 1) := by decide +kernel
theorem dX5_init_51 : decode cX5_init 51 = .ok (.iload_n 1, 1) := by decide +kernel
theorem dX5_init_52 : decode cX5_init 52 = .ok (.putfield 41, 3) := by decide +kernel
theorem dX5_init_55 : decode cX5_init 55 = .ok (.aload_n 0, 1) := by decide +kernel
theorem dX5_init_56 : decode cX5_init 56 = .ok (.iload_n 2, 1) := by decide +kernel
theorem dX5_init_57 : decode cX5_init 57 = .ok (.putfield 44, 3) := by decide +kernel
theorem dX5_init_60 : decode cX5_init 60 = .ok (.aload_n 0, 1) := by decide +kernel
theorem dX5_init_61 : decode cX5_init 61 = .ok (.iload_n 3, 1) := by decide +kernel
theorem dX5_init_62 : decode cX5_init 62 = .ok (.putfield 47, 3) := by decide +kernel
theorem dX5_init_65 : decode cX5_init 65 = .ok (.aload_n 0, 1) := by decide +kernel
theorem dX5_init_66 : decode cX5_init 66 = .ok (.iload 4, 2) := by decide +kernel
theorem dX5_init_68 : decode cX5_init 68 = .ok (.putfield 50, 3) := by decide +kernel
theorem dX5_init_71 : decode cX5_init 71 = .ok (.aload_n 0, 1) := by decide +kernel
theorem dX5_init_72 : decode cX5_init 72 = .ok (.iload 5, 2) := by decide +kernel
theorem dX5_init_74 : decode cX5_init 74 = .ok (.putfield 53, 3) := by decide +kernel
theorem dX5_init_77 : decode cX5_init 77 = .ok (.aload_n 0, 1) := by decide +kernel
theorem dX5_init_78 : decode cX5_init 78 = .ok (.iload 4, 2) := by decide +kernel
theorem dX5_init_80 : decode cX5_init 80 = .ok (.putfield 56, 3) := by decide +kernel
theorem dX5_init_83 : decode cX5_init 83 = .ok (.aload_n 0, 1) := by decide +kernel
theorem dX5_init_84 : decode cX5_init 84 = .ok (.iload 5, 2) := by decide +kernel
theorem dX5_init_86 : decode cX5_init 86 = .ok (.bipush 60, 2) := by decide +kernel
theorem dX5_init_88 : decode cX5_init 88 = .ok (.iadd, 1) := by decide +kernel
theorem dX5_init_89 : decode cX5_init 89 = .ok (.putfield 59, 3) := by decide +kernel
theorem dX5_init_92 : decode cX5_init 92 = .ok (.aload_n 0, 1) := by decide +kernel
theorem dX5_init_93 : decode cX5_init 93 = .ok (.getfield 12, 3) := by decide +kernel
theorem dX5_init_96 : decode cX5_init 96 = .ok (.new 62, 3) := by decide +kernel
theorem dX5_init_99 : decode cX5_init 99 = .ok (.dup, 1) := by decide +kernel
theorem dX5_init_100 : decode cX5_init 100 = .ok (.iload 4, 2) := by decide +kernel
theorem dX5_init_102 : decode cX5_init 102 = .ok (.iload 5, 2) := by decide +kernel
theorem dX5_init_104 : decode cX5_init 104 = .ok (.invokespecial 64, 3) := by decide +kernel
theorem dX5_init_107 : decode cX5_init 107 = .ok (.invokevirtual 67, 3) := by decide +kernel
theorem dX5_init_110 : decode cX5_init 110 = .ok (.pop, 1) := by decide +kernel
theorem dX5_init_111 : decode cX5_init 111 = .ok (.return_, 1) := by decide +kernel
theorem dX5_addFacts_0 : decode cX5_addFacts 0 = .ok (.aload_n 0, 1) := by decide +kernel
theorem dX5_addFacts_1 : decode cX5_addFacts 1 = .ok (.dup, 1) := by decide +kernel
theorem dX5_addFacts_2 : decode cX5_addFacts 2 = .ok (.getfield 56, 3) := by decide +kernel
theorem dX5_addFacts_5 : decode cX5_addFacts 5 = .ok (.iload_n 1, 1) := by decide +kernel
theorem dX5_addFacts_6 : decode cX5_addFacts 6 = .ok (.ior, 1) := by decide +kernel
theorem dX5_addFacts_7 : decode cX5_addFacts 7 = .ok (.putfield 56, 3) := by decide +kernel
theorem dX5_addFacts_10 : decode cX5_addFacts 10 = .ok (.aload_n 0, 1) := by decide +kernel
theorem dX5_addFacts_11 : decode cX5_addFacts 11 = .ok (.getfield 12, 3) := by decide +kernel
theorem dX5_addFacts_14 : decode cX5_addFacts 14 = .ok (.new 62, 3) := by decide +kernel
theorem dX5_addFacts_17 : decode cX5_addFacts 17 = .ok (.dup, 1) := by decide +kernel
theorem dX5_addFacts_18 : decode cX5_addFacts 18 = .ok (.aload_n 0, 1) := by decide +kernel
theorem dX5_addFacts_19 : decode cX5_addFacts 19 = .ok (.getfield 56, 3) := by decide +kernel
theorem dX5_addFacts_22 : decode cX5_addFacts 22 = .ok (.iload_n 2, 1) := by decide +kernel
theorem dX5_addFacts_23 : decode cX5_addFacts 23 = .ok (.invokespecial 64, 3) := by decide +kernel
theorem dX5_addFacts_26 : decode cX5_addFacts 26 = .ok (.invokevirtual 67, 3) := by decide +kernel
theorem dX5_addFacts_29 : decode cX5_addFacts 29 = .ok (.pop, 1) := by decide +kernel
theorem dX5_addFacts_30 : decode cX5_addFacts 30 = .ok (.return_, 1) := by decide +kernel
theorem dX5_isOver_0 : decode cX5_isOver 0 = .ok (.aload_n 0, 1) := by decide +kernel
theorem dX5_isOver_1 : decode cX5_isOver 1 = .ok (.getfield 18, 3) := by decide +kernel
theorem dX5_isOver_4 : decode cX5_isOver 4 = .ok (.iconst 3, 1) := by decide +kernel
theorem dX5_isOver_5 : decode cX5_isOver 5 = .ok (.if_icmp .eq 11, 3) := by decide +kernel
theorem dX5_isOver_8 : decode cX5_isOver 8 = .ok (.aload_n 0, 1) := by decide +kernel
theorem dX5_isOver_9 : decode cX5_isOver 9 = .ok (.getfield 18, 3) := by decide +kernel
theorem dX5_isOver_12 : decode cX5_isOver 12 = .ok (.iconst 4, 1) := by decide +kernel
theorem dX5_isOver_13 : decode cX5_isOver 13 = .ok (.if_icmp .ne 7, 3) := by decide +kernel
theorem dX5_isOver_16 : decode cX5_isOver 16 = .ok (.iconst 1, 1) := by decide +kernel
theorem dX5_isOver_17 : decode cX5_isOver 17 = .ok (.goto 4, 3) := by decide +kernel
theorem dX5_isOver_20 : decode cX5_isOver 20 = .ok (.iconst 0, 1) := by decide +kernel
theorem dX5_isOver_21 : decode cX5_isOver 21 = .ok (.ireturn, 1) := by decide +kernel
theorem dX5_isReady_0 : decode cX5_isReady 0 = .ok (.aload_n 0, 1) := by decide +kernel
theorem dX5_isReady_1 : decode cX5_isReady 1 = .ok (.getfield 18, 3) := by decide +kernel
theorem dX5_isReady_4 : decode cX5_isReady 4 = .ok (.iconst 1, 1) := by decide +kernel
theorem dX5_isReady_5 : decode cX5_isReady 5 = .ok (.if_icmp .eq 11, 3) := by decide +kernel
theorem dX5_isReady_8 : decode cX5_isReady 8 = .ok (.aload_n 0, 1) := by decide +kernel
theorem dX5_isReady_9 : decode cX5_isReady 9 = .ok (.getfield 18, 3) := by decide +kernel
theorem dX5_isReady_12 : decode cX5_isReady 12 = .ok (.iconst 2, 1) := by decide +kernel
theorem dX5_isReady_13 : decode cX5_isReady 13 = .ok (.if_icmp .ne 7, 3) := by decide +kernel
theorem dX5_isReady_16 : decode cX5_isReady 16 = .ok (.iconst 1, 1) := by decide +kernel
theorem dX5_isReady_17 : decode cX5_isReady 17 = .ok (.goto 4, 3) := by decide +kernel
theorem dX5_isReady_20 : decode cX5_isReady 20 = .ok (.iconst 0, 1) := by decide +kernel
theorem dX5_isReady_21 : decode cX5_isReady 21 = .ok (.ireturn, 1) := by decide +kernel
theorem dX5_isSealedOn_0 : decode cX5_isSealedOn 0 = .ok (.iload_n 1, 1) := by decide +kernel
theorem dX5_isSealedOn_1 : decode cX5_isSealedOn 1 = .ok (.aload_n 0, 1) := by decide +kernel
theorem dX5_isSealedOn_2 : decode cX5_isSealedOn 2 = .ok (.getfield 59, 3) := by decide +kernel
theorem dX5_isSealedOn_5 : decode cX5_isSealedOn 5 = .ok (.if_icmp .ge 7, 3) := by decide +kernel
theorem dX5_isSealedOn_8 : decode cX5_isSealedOn 8 = .ok (.iconst 1, 1) := by decide +kernel
theorem dX5_isSealedOn_9 : decode cX5_isSealedOn 9 = .ok (.goto 4, 3) := by decide +kernel
theorem dX5_isSealedOn_12 : decode cX5_isSealedOn 12 = .ok (.iconst 0, 1) := by decide +kernel
theorem dX5_isSealedOn_13 : decode cX5_isSealedOn 13 = .ok (.ireturn, 1) := by decide +kernel
theorem dX5_coverDay_0 : decode cX5_coverDay 0 = .ok (.aload_n 0, 1) := by decide +kernel
theorem dX5_coverDay_1 : decode cX5_coverDay 1 = .ok (.getfield 47, 3) := by decide +kernel
theorem dX5_coverDay_4 : decode cX5_coverDay 4 = .ok (.aload_n 1, 1) := by decide +kernel
theorem dX5_coverDay_5 : decode cX5_coverDay 5 = .ok (.getfield 71, 3) := by decide +kernel
theorem dX5_coverDay_8 : decode cX5_coverDay 8 = .ok (.if_icmp .eq 5, 3) := by decide +kernel
theorem dX5_coverDay_11 : decode cX5_coverDay 11 = .ok (.iconst (-1), 1) := by decide +kernel
theorem dX5_coverDay_12 : decode cX5_coverDay 12 = .ok (.ireturn, 1) := by decide +kernel
theorem dX5_coverDay_13 : decode cX5_coverDay 13 = .ok (.aload_n 0, 1) := by decide +kernel
theorem dX5_coverDay_14 : decode cX5_coverDay 14 = .ok (.getfield 50, 3) := by decide +kernel
theorem dX5_coverDay_17 : decode cX5_coverDay 17 = .ok (.aload_n 1, 1) := by decide +kernel
theorem dX5_coverDay_18 : decode cX5_coverDay 18 = .ok (.getfield 74, 3) := by decide +kernel
theorem dX5_coverDay_21 : decode cX5_coverDay 21 = .ok (.iand, 1) := by decide +kernel
theorem dX5_coverDay_22 : decode cX5_coverDay 22 = .ok (.ifCond .eq 7, 3) := by decide +kernel
theorem dX5_coverDay_25 : decode cX5_coverDay 25 = .ok (.iconst 1, 1) := by decide +kernel
theorem dX5_coverDay_26 : decode cX5_coverDay 26 = .ok (.goto 4, 3) := by decide +kernel
theorem dX5_coverDay_29 : decode cX5_coverDay 29 = .ok (.iconst 0, 1) := by decide +kernel
theorem dX5_coverDay_30 : decode cX5_coverDay 30 = .ok (.istore_n 2, 1) := by decide +kernel
theorem dX5_coverDay_31 : decode cX5_coverDay 31 = .ok (.iconst 0, 1) := by decide +kernel
theorem dX5_coverDay_32 : decode cX5_coverDay 32 = .ok (.istore_n 3, 1) := by decide +kernel
theorem dX5_coverDay_33 : decode cX5_coverDay 33 = .ok (.iload_n 3, 1) := by decide +kernel
theorem dX5_coverDay_34 : decode cX5_coverDay 34 = .ok (.aload_n 0, 1) := by decide +kernel
theorem dX5_coverDay_35 : decode cX5_coverDay 35 = .ok (.getfield 12, 3) := by decide +kernel
theorem dX5_coverDay_38 : decode cX5_coverDay 38 = .ok (.invokevirtual 75, 3) := by decide +kernel
theorem dX5_coverDay_41 : decode cX5_coverDay 41 = .ok (.if_icmp .ge 51, 3) := by decide +kernel
theorem dX5_coverDay_44 : decode cX5_coverDay 44 = .ok (.aload_n 0, 1) := by decide +kernel
theorem dX5_coverDay_45 : decode cX5_coverDay 45 = .ok (.getfield 12, 3) := by decide +kernel
theorem dX5_coverDay_48 : decode cX5_coverDay 48 = .ok (.iload_n 3, 1) := by decide +kernel
theorem dX5_coverDay_49 : decode cX5_coverDay 49 = .ok (.invokevirtual 79, 3) := by decide +kernel
theorem dX5_coverDay_52 : decode cX5_coverDay 52 = .ok (.checkcast 62, 3) := by decide +kernel
theorem dX5_coverDay_55 : decode cX5_coverDay 55 = .ok (.astore 4, 2) := by decide +kernel
theorem dX5_coverDay_57 : decode cX5_coverDay 57 = .ok (.aload_n 1, 1) := by decide +kernel
theorem dX5_coverDay_58 : decode cX5_coverDay 58 = .ok (.aload 4, 2) := by decide +kernel
theorem dX5_coverDay_60 : decode cX5_coverDay 60 = .ok (.getfield 83, 3) := by decide +kernel
theorem dX5_coverDay_63 : decode cX5_coverDay 63 = .ok (.invokevirtual 84, 3) := by decide +kernel
theorem dX5_coverDay_66 : decode cX5_coverDay 66 = .ok (.ifCond .eq 20, 3) := by decide +kernel
theorem dX5_coverDay_69 : decode cX5_coverDay 69 = .ok (.iload_n 2, 1) := by decide +kernel
theorem dX5_coverDay_70 : decode cX5_coverDay 70 = .ok (.ifCond .eq 10, 3) := by decide +kernel
theorem dX5_coverDay_73 : decode cX5_coverDay 73 = .ok (.aload_n 0, 1) := by decide +kernel
theorem dX5_coverDay_74 : decode cX5_coverDay 74 = .ok (.getfield 53, 3) := by decide +kernel
theorem dX5_coverDay_77 : decode cX5_coverDay 77 = .ok (.goto 8, 3) := by decide +kernel
theorem dX5_coverDay_80 : decode cX5_coverDay 80 = .ok (.aload 4, 2) := by decide +kernel
theorem dX5_coverDay_82 : decode cX5_coverDay 82 = .ok (.getfield 88, 3) := by decide +kernel
theorem dX5_coverDay_85 : decode cX5_coverDay 85 = .ok (.ireturn, 1) := by decide +kernel
theorem dX5_coverDay_86 : decode cX5_coverDay 86 = .ok (.iinc 3 1, 3) := by decide +kernel
theorem dX5_coverDay_89 : decode cX5_coverDay 89 = .ok (.goto (-56), 3) := by decide +kernel
theorem dX5_coverDay_92 : decode cX5_coverDay 92 = .ok (.iconst (-1), 1) := by decide +kernel
theorem dX5_coverDay_93 : decode cX5_coverDay 93 = .ok (.ireturn, 1) := by decide +kernel
theorem dX6_init_0 : decode cX6_init 0 = .ok (.aload_n 0, 1) := by decide +kernel
theorem dX6_init_1 : decode cX6_init 1 = .ok (.invokespecial 3, 3) := by decide +kernel
theorem dX6_init_4 : decode cX6_init 4 = .ok (.aload_n 0, 1) := by decide +kernel
theorem dX6_init_5 : decode cX6_init 5 = .ok (.iconst 0, 1) := by decide +kernel
theorem dX6_init_6 : decode cX6_init 6 = .ok (.putfield 9, 3) := by decide +kernel
theorem dX6_init_9 : decode cX6_init 9 = .ok (.aload_n 0, 1) := by decide +kernel
theorem dX6_init_10 : decode cX6_init 10 = .ok (.iconst 0, 1) := by decide +kernel
theorem dX6_init_11 : decode cX6_init 11 = .ok (.putfield 15, 3) := by decide +kernel
theorem dX6_init_14 : decode cX6_init 14 = .ok (.aload_n 0, 1) := by decide +kernel
theorem dX6_init_15 : decode cX6_init 15 = .ok (.iconst (-1), 1) := by decide +kernel
theorem dX6_init_16 : decode cX6_init 16 = .ok (.putfield 18, 3) := by decide +kernel
theorem dX6_init_19 : decode cX6_init 19 = .ok (.aload_n 0, 1) := by decide +kernel
theorem dX6_init_20 : decode cX6_init 20 = .ok (.iconst 0, 1) := by decide +kernel
theorem dX6_init_21 : decode cX6_init 21 = .ok (.putfield 21, 3) := by decide +kernel
theorem dX6_init_24 : decode cX6_init 24 = .ok (.aload_n 0, 1) := by decide +kernel
theorem dX6_init_25 : decode cX6_init 25 = .ok (.iconst 0, 1) := by decide +kernel
theorem dX6_init_26 : decode cX6_init 26 = .ok (.putfield 24, 3) := by decide +kernel
theorem dX6_init_29 : decode cX6_init 29 = .ok (.aload_n 0, 1) := by decide +kernel
theorem dX6_init_30 : decode cX6_init 30 = .ok (.iconst 0, 1) := by decide +kernel
theorem dX6_init_31 : decode cX6_init 31 = .ok (.putfield 27, 3) := by decide +kernel
theorem dX6_init_34 : decode cX6_init 34 = .ok (.aload_n 0, 1) := by decide +kernel
theorem dX6_init_35 : decode cX6_init 35 = .ok (.iconst 0, 1) := by decide +kernel
theorem dX6_init_36 : decode cX6_init 36 = .ok (.putfield 30, 3) := by decide +kernel
theorem dX6_init_39 : decode cX6_init 39 = .ok (.return_, 1) := by decide +kernel
theorem dX6_knowsAll_0 : decode cX6_knowsAll 0 = .ok (.iload_n 1, 1) := by decide +kernel
theorem dX6_knowsAll_1 : decode cX6_knowsAll 1 = .ok (.aload_n 0, 1) := by decide +kernel
theorem dX6_knowsAll_2 : decode cX6_knowsAll 2 = .ok (.getfield 9, 3) := by decide +kernel
theorem dX6_knowsAll_5 : decode cX6_knowsAll 5 = .ok (.iconst (-1), 1) := by decide +kernel
theorem dX6_knowsAll_6 : decode cX6_knowsAll 6 = .ok (.ixor, 1) := by decide +kernel
theorem dX6_knowsAll_7 : decode cX6_knowsAll 7 = .ok (.iand, 1) := by decide +kernel
theorem dX6_knowsAll_8 : decode cX6_knowsAll 8 = .ok (.ifCond .ne 7, 3) := by decide +kernel
theorem dX6_knowsAll_11 : decode cX6_knowsAll 11 = .ok (.iconst 1, 1) := by decide +kernel
theorem dX6_knowsAll_12 : decode cX6_knowsAll 12 = .ok (.goto 4, 3) := by decide +kernel
theorem dX6_knowsAll_15 : decode cX6_knowsAll 15 = .ok (.iconst 0, 1) := by decide +kernel
theorem dX6_knowsAll_16 : decode cX6_knowsAll 16 = .ok (.ireturn, 1) := by decide +kernel
theorem dX7_init_0 : decode cX7_init 0 = .ok (.aload_n 0, 1) := by decide +kernel
theorem dX7_init_1 : decode cX7_init 1 = .ok (.invokespecial 1, 3) := by decide +kernel
theorem dX7_init_4 : decode cX7_init 4 = .ok (.aload_n 0, 1) := by decide +kernel
theorem dX7_init_5 : decode cX7_init 5 = .ok (.bipush 6, 2) := by decide +kernel
theorem dX7_init_7 : decode cX7_init 7 = .ok (.anewarray 9, 3) := by decide +kernel
theorem dX7_init_10 : decode cX7_init 10 = .ok (.putfield 11, 3) := by decide +kernel
theorem dX7_init_13 : decode cX7_init 13 = .ok (.aload_n 0, 1) := by decide +kernel
theorem dX7_init_14 : decode cX7_init 14 = .ok (.bipush 8, 2) := by decide +kernel
theorem dX7_init_16 : decode cX7_init 16 = .ok (.anewarray 15, 3) := by decide +kernel
theorem dX7_init_19 : decode cX7_init 19 = .ok (.putfield 17, 3) := by decide +kernel
theorem dX7_init_22 : decode cX7_init 22 = .ok (.aload_n 0, 1) := by decide +kernel
theorem dX7_init_23 : decode cX7_init 23 = .ok (.bipush 16, 2) := by decide +kernel
theorem dX7_init_25 : decode cX7_init 25 = .ok (.newarray .int, 2) := by decide +kernel
theorem dX7_init_27 : decode cX7_init 27 = .ok (.putfield 21, 3) := by decide +kernel
theorem dX7_init_30 : decode cX7_init 30 = .ok (.aload_n 0, 1) := by decide +kernel
theorem dX7_init_31 : decode cX7_init 31 = .ok (.new 25, 3) := by decide +kernel
theorem dX7_init_34 : decode cX7_init 34 = .ok (.dup, 1) := by decide +kernel
theorem dX7_init_35 : decode cX7_init 35 = .ok (.invokespecial 27, 3) := by decide +kernel
theorem dX7_init_38 : decode cX7_init 38 = .ok (.putfield 28, 3) := by decide +kernel
theorem dX7_init_41 : decode cX7_init 41 = .ok (.aload_n 0, 1) := by decide +kernel
theorem dX7_init_42 : decode cX7_init 42 = .ok (.new 25, 3) := by decide +kernel
theorem dX7_init_45 : decode cX7_init 45 = .ok (.dup, 1) := by decide +kernel
theorem dX7_init_46 : decode cX7_init 46 = .ok (.invokespecial 27, 3) := by decide +kernel
theorem dX7_init_49 : decode cX7_init 49 = .ok (.putfield 32, 3) := by decide +kernel
theorem dX7_init_52 : decode cX7_init 52 = .ok (.aload_n 0, 1) := by decide +kernel
theorem dX7_init_53 : decode cX7_init 53 = .ok (.new 25, 3) := by decide +kernel
theorem dX7_init_56 : decode cX7_init 56 = .ok (.dup, 1) := by decide +kernel
theorem dX7_init_57 : decode cX7_init 57 = .ok (.invokespecial 27, 3) := by decide +kernel
theorem dX7_init_60 : decode cX7_init 60 = .ok (.putfield 35, 3) := by decide +kernel
theorem dX7_init_63 : decode cX7_init 63 = .ok (.aload_n 0, 1) := by decide +kernel
theorem dX7_init_64 : decode cX7_init 64 = .ok (.new 25, 3) := by decide +kernel
theorem dX7_init_67 : decode cX7_init 67 = .ok (.dup, 1) := by decide +kernel
theorem dX7_init_68 : decode cX7_init 68 = .ok (.invokespecial 27, 3) := by decide +kernel
theorem dX7_init_71 : decode cX7_init 71 = .ok (.putfield 38, 3) := by decide +kernel
theorem dX7_init_74 : decode cX7_init 74 = .ok (.aload_n 0, 1) := by decide +kernel
theorem dX7_init_75 : decode cX7_init 75 = .ok (.bipush 52, 2) := by decide +kernel
theorem dX7_init_77 : decode cX7_init 77 = .ok (.newarray .int, 2) := by decide +kernel
theorem dX7_init_79 : decode cX7_init 79 = .ok (.putfield 41, 3) := by decide +kernel
theorem dX7_init_82 : decode cX7_init 82 = .ok (.aload_n 0, 1) := by decide +kernel
theorem dX7_init_83 : decode cX7_init 83 = .ok (.iconst 0, 1) := by decide +kernel
theorem dX7_init_84 : decode cX7_init 84 = .ok (.putfield 44, 3) := by decide +kernel
theorem dX7_init_87 : decode cX7_init 87 = .ok (.aload_n 0, 1) := by decide +kernel
theorem dX7_init_88 : decode cX7_init 88 = .ok (.iconst 0, 1) := by decide +kernel
theorem dX7_init_89 : decode cX7_init 89 = .ok (.putfield 48, 3) := by decide +kernel
theorem dX7_init_92 : decode cX7_init 92 = .ok (.aload_n 0, 1) := by decide +kernel
theorem dX7_init_93 : decode cX7_init 93 = .ok (.iconst 0, 1) := by decide +kernel
theorem dX7_init_94 : decode cX7_init 94 = .ok (.putfield 51, 3) := by decide +kernel
theorem dX7_init_97 : decode cX7_init 97 = .ok (.aload_n 0, 1) := by decide +kernel
theorem dX7_init_98 : decode cX7_init 98 = .ok (.iconst 0, 1) := by decide +kernel
theorem dX7_init_99 : decode cX7_init 99 = .ok (.putfield 54, 3) := by decide +kernel
theorem dX7_init_102 : decode cX7_init 102 = .ok (.iconst 0, 1) := by decide +kernel
theorem dX7_init_103 : decode cX7_init 103 = .ok (.istore_n 1, 1) := by decide +kernel
theorem dX7_init_104 : decode cX7_init 104 = .ok (.iload_n 1, 1) := by decide +kernel
theorem dX7_init_105 : decode cX7_init 105 = .ok (.bipush 6, 2) := by decide +kernel
theorem dX7_init_107 : decode cX7_init 107 = .ok (.if_icmp .ge 22, 3) := by decide +kernel
theorem dX7_init_110 : decode cX7_init 110 = .ok (.aload_n 0, 1) := by decide +kernel
theorem dX7_init_111 : decode cX7_init 111 = .ok (.getfield 11, 3) := by decide +kernel
theorem dX7_init_114 : decode cX7_init 114 = .ok (.iload_n 1, 1) := by decide +kernel
theorem dX7_init_115 : decode cX7_init 115 = .ok (.new 9, 3) := by decide +kernel
theorem dX7_init_118 : decode cX7_init 118 = .ok (.dup, 1) := by decide +kernel
theorem dX7_init_119 : decode cX7_init 119 = .ok (.invokespecial 57, 3) := by decide +kernel
theorem dX7_init_122 : decode cX7_init 122 = .ok (.aastore, 1) := by decide +kernel
theorem dX7_init_123 : decode cX7_init 123 = .ok (.iinc 1 1, 3) := by decide +kernel
theorem dX7_init_126 : decode cX7_init 126 = .ok (.goto (-22), 3) := by decide +kernel
theorem dX7_init_129 : decode cX7_init 129 = .ok (.iconst 0, 1) := by decide +kernel
theorem dX7_init_130 : decode cX7_init 130 = .ok (.istore_n 1, 1) := by decide +kernel
theorem dX7_init_131 : decode cX7_init 131 = .ok (.iload_n 1, 1) := by decide +kernel
theorem dX7_init_132 : decode cX7_init 132 = .ok (.bipush 8, 2) := by decide +kernel
theorem dX7_init_134 : decode cX7_init 134 = .ok (.if_icmp .ge 22, 3) := by decide +kernel
theorem dX7_init_137 : decode cX7_init 137 = .ok (.aload_n 0, 1) := by decide +kernel
theorem dX7_init_138 : decode cX7_init 138 = .ok (.getfield 17, 3) := by decide +kernel
theorem dX7_init_141 : decode cX7_init 141 = .ok (.iload_n 1, 1) := by decide +kernel
theorem dX7_init_142 : decode cX7_init 142 = .ok (.new 15, 3) := by decide +kernel
theorem dX7_init_145 : decode cX7_init 145 = .ok (.dup, 1) := by decide +kernel
theorem dX7_init_146 : decode cX7_init 146 = .ok (.invokespecial 58, 3) := by decide +kernel
theorem dX7_init_149 : decode cX7_init 149 = .ok (.aastore, 1) := by decide +kernel
theorem dX7_init_150 : decode cX7_init 150 = .ok (.iinc 1 1, 3) := by decide +kernel
theorem dX7_init_153 : decode cX7_init 153 = .ok (.goto (-22), 3) := by decide +kernel
theorem dX7_init_156 : decode cX7_init 156 = .ok (.aload_n 0, 1) := by decide +kernel
theorem dX7_init_157 : decode cX7_init 157 = .ok (.getfield 21, 3) := by decide +kernel
theorem dX7_init_160 : decode cX7_init 160 = .ok (.iconst (-1), 1) := by decide +kernel
theorem dX7_init_161 : decode cX7_init 161 = .ok (.invokestatic 59, 3) := by decide +kernel
theorem dX7_init_164 : decode cX7_init 164 = .ok (.return_, 1) := by decide +kernel
theorem dX7_fund_0 : decode cX7_fund 0 = .ok (.aload_n 0, 1) := by decide +kernel
theorem dX7_fund_1 : decode cX7_fund 1 = .ok (.iload_n 1, 1) := by decide +kernel
theorem dX7_fund_2 : decode cX7_fund 2 = .ok (.invokevirtual 65, 3) := by decide +kernel
theorem dX7_fund_5 : decode cX7_fund 5 = .ok (.astore_n 3, 1) := by decide +kernel
theorem dX7_fund_6 : decode cX7_fund 6 = .ok (.iload_n 2, 1) := by decide +kernel
theorem dX7_fund_7 : decode cX7_fund 7 = .ok (.iconst 1, 1) := by decide +kernel
theorem dX7_fund_8 : decode cX7_fund 8 = .ok (.ldc 69, 2) := by decide +kernel
theorem dX7_fund_10 : decode cX7_fund 10 = .ok (.invokestatic 70, 3) := by decide +kernel
theorem dX7_fund_13 : decode cX7_fund 13 = .ok (.aload_n 3, 1) := by decide +kernel
theorem dX7_fund_14 : decode cX7_fund 14 = .ok (.getfield 74, 3) := by decide +kernel
theorem dX7_fund_17 : decode cX7_fund 17 = .ok (.iload_n 2, 1) := by decide +kernel
theorem dX7_fund_18 : decode cX7_fund 18 = .ok (.iadd, 1) := by decide +kernel
theorem dX7_fund_19 : decode cX7_fund 19 = .ok (.ldc 77, 2) := by decide +kernel
theorem dX7_fund_21 : decode cX7_fund 21 = .ok (.if_icmp .gt 7, 3) := by decide +kernel
theorem dX7_fund_24 : decode cX7_fund 24 = .ok (.iconst 1, 1) := by decide +kernel
theorem dX7_fund_25 : decode cX7_fund 25 = .ok (.goto 4, 3) := by decide +kernel
theorem dX7_fund_28 : decode cX7_fund 28 = .ok (.iconst 0, 1) := by decide +kernel
theorem dX7_fund_29 : decode cX7_fund 29 = .ok (.invokestatic 78, 3) := by decide +kernel
theorem dX7_fund_32 : decode cX7_fund 32 = .ok (.aload_n 3, 1) := by decide +kernel
theorem dX7_fund_33 : decode cX7_fund 33 = .ok (.dup, 1) := by decide +kernel
theorem dX7_fund_34 : decode cX7_fund 34 = .ok (.getfield 74, 3) := by decide +kernel
theorem dX7_fund_37 : decode cX7_fund 37 = .ok (.iload_n 2, 1) := by decide +kernel
theorem dX7_fund_38 : decode cX7_fund 38 = .ok (.iadd, 1) := by decide +kernel
theorem dX7_fund_39 : decode cX7_fund 39 = .ok (.putfield 74, 3) := by decide +kernel
theorem dX7_fund_42 : decode cX7_fund 42 = .ok (.aload_n 3, 1) := by decide +kernel
theorem dX7_fund_43 : decode cX7_fund 43 = .ok (.dup, 1) := by decide +kernel
theorem dX7_fund_44 : decode cX7_fund 44 = .ok (.getfield 82, 3) := by decide +kernel
theorem dX7_fund_47 : decode cX7_fund 47 = .ok (.iload_n 2, 1) := by decide +kernel
theorem dX7_fund_48 : decode cX7_fund 48 = .ok (.iadd, 1) := by decide +kernel
theorem dX7_fund_49 : decode cX7_fund 49 = .ok (.putfield 82, 3) := by decide +kernel
theorem dX7_fund_52 : decode cX7_fund 52 = .ok (.aload_n 3, 1) := by decide +kernel
theorem dX7_fund_53 : decode cX7_fund 53 = .ok (.getfield 74, 3) := by decide +kernel
theorem dX7_fund_56 : decode cX7_fund 56 = .ok (.ireturn, 1) := by decide +kernel
theorem dX7_scheme_0 : decode cX7_scheme 0 = .ok (.iload_n 1, 1) := by decide +kernel
theorem dX7_scheme_1 : decode cX7_scheme 1 = .ok (.bipush 6, 2) := by decide +kernel
theorem dX7_scheme_3 : decode cX7_scheme 3 = .ok (.invokestatic 85, 3) := by decide +kernel
theorem dX7_scheme_6 : decode cX7_scheme 6 = .ok (.iload_n 2, 1) := by decide +kernel
theorem dX7_scheme_7 : decode cX7_scheme 7 = .ok (.iconst 1, 1) := by decide +kernel
theorem dX7_scheme_8 : decode cX7_scheme 8 = .ok (.ldc 89, 2) := by decide +kernel
theorem dX7_scheme_10 : decode cX7_scheme 10 = .ok (.invokestatic 70, 3) := by decide +kernel
theorem dX7_scheme_13 : decode cX7_scheme 13 = .ok (.iload_n 3, 1) := by decide +kernel
theorem dX7_scheme_14 : decode cX7_scheme 14 = .ok (.iconst 0, 1) := by decide +kernel
theorem dX7_scheme_15 : decode cX7_scheme 15 = .ok (.iconst 2, 1) := by decide +kernel
theorem dX7_scheme_16 : decode cX7_scheme 16 = .ok (.invokestatic 70, 3) := by decide +kernel
theorem dX7_scheme_19 : decode cX7_scheme 19 = .ok (.aload_n 0, 1) := by decide +kernel
theorem dX7_scheme_20 : decode cX7_scheme 20 = .ok (.getfield 28, 3) := by decide +kernel
theorem dX7_scheme_23 : decode cX7_scheme 23 = .ok (.invokevirtual 90, 3) := by decide +kernel
theorem dX7_scheme_26 : decode cX7_scheme 26 = .ok (.bipush 8, 2) := by decide +kernel
theorem dX7_scheme_28 : decode cX7_scheme 28 = .ok (.if_icmp .ge 7, 3) := by decide +kernel
theorem dX7_scheme_31 : decode cX7_scheme 31 = .ok (.iconst 1, 1) := by decide +kernel
theorem dX7_scheme_32 : decode cX7_scheme 32 = .ok (.goto 4, 3) := by decide +kernel
theorem dX7_scheme_35 : decode cX7_scheme 35 = .ok (.iconst 0, 1) := by decide +kernel
theorem dX7_scheme_36 : decode cX7_scheme 36 = .ok (.invokestatic 78, 3) := by decide +kernel
theorem dX7_scheme_39 : decode cX7_scheme 39 = .ok (.aload_n 0, 1) := by decide +kernel
theorem dX7_scheme_40 : decode cX7_scheme 40 = .ok (.getfield 28, 3) := by decide +kernel
theorem dX7_scheme_43 : decode cX7_scheme 43 = .ok (.new 94, 3) := by decide +kernel
theorem dX7_scheme_46 : decode cX7_scheme 46 = .ok (.dup, 1) := by decide +kernel
theorem dX7_scheme_47 : decode cX7_scheme 47 = .ok (.aload_n 0, 1) := by decide +kernel
theorem dX7_scheme_48 : decode cX7_scheme 48 = .ok (.getfield 28, 3) := by decide +kernel
theorem dX7_scheme_51 : decode cX7_scheme 51 = .ok (.invokevirtual 90, 3) := by decide +kernel
theorem dX7_scheme_54 : decode cX7_scheme 54 = .ok (.iload_n 1, 1) := by decide +kernel
theorem dX7_scheme_55 : decode cX7_scheme 55 = .ok (.iload_n 2, 1) := by decide +kernel
theorem dX7_scheme_56 : decode cX7_scheme 56 = .ok (.iload_n 3, 1) := by decide +kernel
theorem dX7_scheme_57 : decode cX7_scheme 57 = .ok (.invokespecial 96, 3) := by decide +kernel
theorem dX7_scheme_60 : decode cX7_scheme 60 = .ok (.invokevirtual 99, 3) := by decide +kernel
theorem dX7_scheme_63 : decode cX7_scheme 63 = .ok (.pop, 1) := by decide +kernel
theorem dX7_scheme_64 : decode cX7_scheme 64 = .ok (.aload_n 0, 1) := by decide +kernel
theorem dX7_scheme_65 : decode cX7_scheme 65 = .ok (.getfield 28, 3) := by decide +kernel
theorem dX7_scheme_68 : decode cX7_scheme 68 = .ok (.invokevirtual 90, 3) := by decide +kernel
theorem dX7_scheme_71 : decode cX7_scheme 71 = .ok (.iconst 1, 1) := by decide +kernel
theorem dX7_scheme_72 : decode cX7_scheme 72 = .ok (.isub, 1) := by decide +kernel
theorem dX7_scheme_73 : decode cX7_scheme 73 = .ok (.ireturn, 1) := by decide +kernel
theorem dX7_claim_0 : decode cX7_claim 0 = .ok (.iload_n 1, 1) := by decide +kernel
theorem dX7_claim_1 : decode cX7_claim 1 = .ok (.aload_n 0, 1) := by decide +kernel
theorem dX7_claim_2 : decode cX7_claim 2 = .ok (.getfield 28, 3) := by decide +kernel
theorem dX7_claim_5 : decode cX7_claim 5 = .ok (.invokevirtual 90, 3) := by decide +kernel
theorem dX7_claim_8 : decode cX7_claim 8 = .ok (.invokestatic 85, 3) := by decide +kernel
theorem dX7_claim_11 : decode cX7_claim 11 = .ok (.iload_n 2, 1) := by decide +kernel
theorem dX7_claim_12 : decode cX7_claim 12 = .ok (.iconst 1, 1) := by decide +kernel
theorem dX7_claim_13 : decode cX7_claim 13 = .ok (.sipush 9999, 3) := by decide +kernel
theorem dX7_claim_16 : decode cX7_claim 16 = .ok (.invokestatic 70, 3) := by decide +kernel
theorem dX7_claim_19 : decode cX7_claim 19 = .ok (.aload_n 0, 1) := by decide +kernel
theorem dX7_claim_20 : decode cX7_claim 20 = .ok (.getfield 32, 3) := by decide +kernel
theorem dX7_claim_23 : decode cX7_claim 23 = .ok (.invokevirtual 90, 3) := by decide +kernel
theorem dX7_claim_26 : decode cX7_claim 26 = .ok (.bipush 40, 2) := by decide +kernel
theorem dX7_claim_28 : decode cX7_claim 28 = .ok (.if_icmp .ge 7, 3) := by decide +kernel
theorem dX7_claim_31 : decode cX7_claim 31 = .ok (.iconst 1, 1) := by decide +kernel
theorem dX7_claim_32 : decode cX7_claim 32 = .ok (.goto 4, 3) := by decide +kernel
theorem dX7_claim_35 : decode cX7_claim 35 = .ok (.iconst 0, 1) := by decide +kernel
theorem dX7_claim_36 : decode cX7_claim 36 = .ok (.invokestatic 78, 3) := by decide +kernel
theorem dX7_claim_39 : decode cX7_claim 39 = .ok (.aload_n 0, 1) := by decide +kernel
theorem dX7_claim_40 : decode cX7_claim 40 = .ok (.getfield 32, 3) := by decide +kernel
theorem dX7_claim_43 : decode cX7_claim 43 = .ok (.new 103, 3) := by decide +kernel
theorem dX7_claim_46 : decode cX7_claim 46 = .ok (.dup, 1) := by decide +kernel
theorem dX7_claim_47 : decode cX7_claim 47 = .ok (.iload_n 1, 1) := by decide +kernel
theorem dX7_claim_48 : decode cX7_claim 48 = .ok (.iload_n 2, 1) := by decide +kernel
theorem dX7_claim_49 : decode cX7_claim 49 = .ok (.aload_n 0, 1) := by decide +kernel
theorem dX7_claim_50 : decode cX7_claim 50 = .ok (.getfield 51, 3) := by decide +kernel
theorem dX7_claim_53 : decode cX7_claim 53 = .ok (.invokespecial 105, 3) := by decide +kernel
theorem dX7_claim_56 : decode cX7_claim 56 = .ok (.invokevirtual 99, 3) := by decide +kernel
theorem dX7_claim_59 : decode cX7_claim 59 = .ok (.pop, 1) := by decide +kernel
theorem dX7_claim_60 : decode cX7_claim 60 = .ok (.aload_n 0, 1) := by decide +kernel
theorem dX7_claim_61 : decode cX7_claim 61 = .ok (.getfield 32, 3) := by decide +kernel
theorem dX7_claim_64 : decode cX7_claim 64 = .ok (.invokevirtual 90, 3) := by decide +kernel
theorem dX7_claim_67 : decode cX7_claim 67 = .ok (.iconst 1, 1) := by decide +kernel
theorem dX7_claim_68 : decode cX7_claim 68 = .ok (.isub, 1) := by decide +kernel
theorem dX7_claim_69 : decode cX7_claim 69 = .ok (.ireturn, 1) := by decide +kernel
theorem dX7_sample_0 : decode cX7_sample 0 = .ok (.aload_n 0, 1) := by decide +kernel
theorem dX7_sample_1 : decode cX7_sample 1 = .ok (.iload_n 1, 1) := by decide +kernel
theorem dX7_sample_2 : decode cX7_sample 2 = .ok (.invokevirtual 107, 3) := by decide +kernel
theorem dX7_sample_5 : decode cX7_sample 5 = .ok (.astore 4, 2) := by decide +kernel
theorem dX7_sample_7 : decode cX7_sample 7 = .ok (.iload_n 2, 1) := by decide +kernel
theorem dX7_sample_8 : decode cX7_sample 8 = .ok (.iconst 1, 1) := by decide +kernel
theorem dX7_sample_9 : decode cX7_sample 9 = .ok (.bipush 100, 2) := by decide +kernel
theorem dX7_sample_11 : decode cX7_sample 11 = .ok (.invokestatic 70, 3) := by decide +kernel
theorem dX7_sample_14 : decode cX7_sample 14 = .ok (.iload_n 3, 1) := by decide +kernel
theorem dX7_sample_15 : decode cX7_sample 15 = .ok (.iconst 0, 1) := by decide +kernel
theorem dX7_sample_16 : decode cX7_sample 16 = .ok (.iload_n 2, 1) := by decide +kernel
theorem dX7_sample_17 : decode cX7_sample 17 = .ok (.invokestatic 70, 3) := by decide +kernel
theorem dX7_sample_20 : decode cX7_sample 20 = .ok (.aload 4, 2) := by decide +kernel
theorem dX7_sample_22 : decode cX7_sample 22 = .ok (.iload_n 2, 1) := by decide +kernel
theorem dX7_sample_23 : decode cX7_sample 23 = .ok (.putfield 111, 3) := by decide +kernel
theorem dX7_sample_26 : decode cX7_sample 26 = .ok (.aload 4, 2) := by decide +kernel
theorem dX7_sample_28 : decode cX7_sample 28 = .ok (.iload_n 3, 1) := by decide +kernel
theorem dX7_sample_29 : decode cX7_sample 29 = .ok (.putfield 114, 3) := by decide +kernel
theorem dX7_sample_32 : decode cX7_sample 32 = .ok (.return_, 1) := by decide +kernel
theorem dX7_learn_0 : decode cX7_learn 0 = .ok (.aload_n 0, 1) := by decide +kernel
theorem dX7_learn_1 : decode cX7_learn 1 = .ok (.iload_n 1, 1) := by decide +kernel
theorem dX7_learn_2 : decode cX7_learn 2 = .ok (.invokevirtual 117, 3) := by decide +kernel
theorem dX7_learn_5 : decode cX7_learn 5 = .ok (.astore_n 3, 1) := by decide +kernel
theorem dX7_learn_6 : decode cX7_learn 6 = .ok (.iload_n 2, 1) := by decide +kernel
theorem dX7_learn_7 : decode cX7_learn 7 = .ok (.bipush 16, 2) := by decide +kernel
theorem dX7_learn_9 : decode cX7_learn 9 = .ok (.invokestatic 85, 3) := by decide +kernel
theorem dX7_learn_12 : decode cX7_learn 12 = .ok (.aload_n 3, 1) := by decide +kernel
theorem dX7_learn_13 : decode cX7_learn 13 = .ok (.dup, 1) := by decide +kernel
theorem dX7_learn_14 : decode cX7_learn 14 = .ok (.getfield 121, 3) := by decide +kernel
theorem dX7_learn_17 : decode cX7_learn 17 = .ok (.iconst 1, 1) := by decide +kernel
theorem dX7_learn_18 : decode cX7_learn 18 = .ok (.iload_n 2, 1) := by decide +kernel
theorem dX7_learn_19 : decode cX7_learn 19 = .ok (.ishl, 1) := by decide +kernel
theorem dX7_learn_20 : decode cX7_learn 20 = .ok (.ior, 1) := by decide +kernel
theorem dX7_learn_21 : decode cX7_learn 21 = .ok (.putfield 121, 3) := by decide +kernel
theorem dX7_learn_24 : decode cX7_learn 24 = .ok (.aload_n 3, 1) := by decide +kernel
theorem dX7_learn_25 : decode cX7_learn 25 = .ok (.getfield 121, 3) := by decide +kernel
theorem dX7_learn_28 : decode cX7_learn 28 = .ok (.invokestatic 124, 3) := by decide +kernel
theorem dX7_learn_31 : decode cX7_learn 31 = .ok (.ireturn, 1) := by decide +kernel
theorem dX7_publish_0 : decode cX7_publish 0 = .ok (.iload_n 1, 1) := by decide +kernel
theorem dX7_publish_1 : decode cX7_publish 1 = .ok (.bipush 16, 2) := by decide +kernel
theorem dX7_publish_3 : decode cX7_publish 3 = .ok (.invokestatic 85, 3) := by decide +kernel
theorem dX7_publish_6 : decode cX7_publish 6 = .ok (.aload_n 0, 1) := by decide +kernel
theorem dX7_publish_7 : decode cX7_publish 7 = .ok (.getfield 21, 3) := by decide +kernel
theorem dX7_publish_10 : decode cX7_publish 10 = .ok (.iload_n 1, 1) := by decide +kernel
theorem dX7_publish_11 : decode cX7_publish 11 = .ok (.iaload, 1) := by decide +kernel
theorem dX7_publish_12 : decode cX7_publish 12 = .ok (.iconst (-1), 1) := by decide +kernel
theorem dX7_publish_13 : decode cX7_publish 13 = .ok (.if_icmp .ne 13, 3) := by decide +kernel
theorem dX7_publish_16 : decode cX7_publish 16 = .ok (.aload_n 0, 1) := by decide +kernel
theorem dX7_publish_17 : decode cX7_publish 17 = .ok (.getfield 21, 3) := by decide +kernel
theorem dX7_publish_20 : decode cX7_publish 20 = .ok (.iload_n 1, 1) := by decide +kernel
theorem dX7_publish_21 : decode cX7_publish 21 = .ok (.aload_n 0, 1) := by decide +kernel
theorem dX7_publish_22 : decode cX7_publish 22 = .ok (.getfield 51, 3) := by decide +kernel
theorem dX7_publish_25 : decode cX7_publish 25 = .ok (.iastore, 1) := by decide +kernel
theorem dX7_publish_26 : decode cX7_publish 26 = .ok (.aload_n 0, 1) := by decide +kernel
theorem dX7_publish_27 : decode cX7_publish 27 = .ok (.aload_n 0, 1) := by decide +kernel
theorem dX7_publish_28 : decode cX7_publish 28 = .ok (.getfield 51, 3) := by decide +kernel
theorem dX7_publish_31 : decode cX7_publish 31 = .ok (.invokevirtual 130, 3) := by decide +kernel
theorem dX7_publish_34 : decode cX7_publish 34 = .ok (.invokestatic 124, 3) := by decide +kernel
theorem dX7_publish_37 : decode cX7_publish 37 = .ok (.ireturn, 1) := by decide +kernel
theorem dX7_plan_0 : decode cX7_plan 0 = .ok (.iload_n 1, 1) := by decide +kernel
theorem dX7_plan_1 : decode cX7_plan 1 = .ok (.bipush 8, 2) := by decide +kernel
theorem dX7_plan_3 : decode cX7_plan 3 = .ok (.invokestatic 85, 3) := by decide +kernel
theorem dX7_plan_6 : decode cX7_plan 6 = .ok (.aload_n 0, 1) := by decide +kernel
theorem dX7_plan_7 : decode cX7_plan 7 = .ok (.iload_n 2, 1) := by decide +kernel
theorem dX7_plan_8 : decode cX7_plan 8 = .ok (.invokevirtual 107, 3) := by decide +kernel
theorem dX7_plan_11 : decode cX7_plan 11 = .ok (.astore_n 3, 1) := by decide +kernel
theorem dX7_plan_12 : decode cX7_plan 12 = .ok (.aload_n 3, 1) := by decide +kernel
theorem dX7_plan_13 : decode cX7_plan 13 = .ok (.iload_n 1, 1) := by decide +kernel
theorem dX7_plan_14 : decode cX7_plan 14 = .ok (.invokevirtual 133, 3) := by decide +kernel
theorem dX7_plan_17 : decode cX7_plan 17 = .ok (.istore 4, 2) := by decide +kernel
theorem dX7_plan_19 : decode cX7_plan 19 = .ok (.aload_n 3, 1) := by decide +kernel
theorem dX7_plan_20 : decode cX7_plan 20 = .ok (.dup, 1) := by decide +kernel
theorem dX7_plan_21 : decode cX7_plan 21 = .ok (.getfield 137, 3) := by decide +kernel
theorem dX7_plan_24 : decode cX7_plan 24 = .ok (.iconst 1, 1) := by decide +kernel
theorem dX7_plan_25 : decode cX7_plan 25 = .ok (.iload_n 1, 1) := by decide +kernel
theorem dX7_plan_26 : decode cX7_plan 26 = .ok (.ishl, 1) := by decide +kernel
theorem dX7_plan_27 : decode cX7_plan 27 = .ok (.ior, 1) := by decide +kernel
theorem dX7_plan_28 : decode cX7_plan 28 = .ok (.putfield 137, 3) := by decide +kernel
theorem dX7_plan_31 : decode cX7_plan 31 = .ok (.iload 4, 2) := by decide +kernel
theorem dX7_plan_33 : decode cX7_plan 33 = .ok (.ireturn, 1) := by decide +kernel
theorem dX7_know_0 : decode cX7_know 0 = .ok (.aload_n 0, 1) := by decide +kernel
theorem dX7_know_1 : decode cX7_know 1 = .ok (.iload_n 1, 1) := by decide +kernel
theorem dX7_know_2 : decode cX7_know 2 = .ok (.invokevirtual 107, 3) := by decide +kernel
theorem dX7_know_5 : decode cX7_know 5 = .ok (.astore_n 2, 1) := by decide +kernel
theorem dX7_know_6 : decode cX7_know 6 = .ok (.aload_n 2, 1) := by decide +kernel
theorem dX7_know_7 : decode cX7_know 7 = .ok (.getfield 140, 3) := by decide +kernel
theorem dX7_know_10 : decode cX7_know 10 = .ok (.iconst (-1), 1) := by decide +kernel
theorem dX7_know_11 : decode cX7_know 11 = .ok (.if_icmp .eq 7, 3) := by decide +kernel
theorem dX7_know_14 : decode cX7_know 14 = .ok (.iconst 1, 1) := by decide +kernel
theorem dX7_know_15 : decode cX7_know 15 = .ok (.goto 4, 3) := by decide +kernel
theorem dX7_know_18 : decode cX7_know 18 = .ok (.iconst 0, 1) := by decide +kernel
theorem dX7_know_19 : decode cX7_know 19 = .ok (.istore_n 3, 1) := by decide +kernel
theorem dX7_know_20 : decode cX7_know 20 = .ok (.iload_n 3, 1) := by decide +kernel
theorem dX7_know_21 : decode cX7_know 21 = .ok (.ifCond .ne 11, 3) := by decide +kernel
theorem dX7_know_24 : decode cX7_know 24 = .ok (.aload_n 2, 1) := by decide +kernel
theorem dX7_know_25 : decode cX7_know 25 = .ok (.aload_n 0, 1) := by decide +kernel
theorem dX7_know_26 : decode cX7_know 26 = .ok (.getfield 51, 3) := by decide +kernel
theorem dX7_know_29 : decode cX7_know 29 = .ok (.putfield 140, 3) := by decide +kernel
theorem dX7_know_32 : decode cX7_know 32 = .ok (.iload_n 3, 1) := by decide +kernel
theorem dX7_know_33 : decode cX7_know 33 = .ok (.ireturn, 1) := by decide +kernel
theorem dX7_admit_0 : decode cX7_admit 0 = .ok (.aload_n 0, 1) := by decide +kernel
theorem dX7_admit_1 : decode cX7_admit 1 = .ok (.iload_n 1, 1) := by decide +kernel
theorem dX7_admit_2 : decode cX7_admit 2 = .ok (.invokevirtual 107, 3) := by decide +kernel
theorem dX7_admit_5 : decode cX7_admit 5 = .ok (.astore_n 2, 1) := by decide +kernel
theorem dX7_admit_6 : decode cX7_admit 6 = .ok (.aload_n 0, 1) := by decide +kernel
theorem dX7_admit_7 : decode cX7_admit 7 = .ok (.aload_n 2, 1) := by decide +kernel
theorem dX7_admit_8 : decode cX7_admit 8 = .ok (.invokevirtual 143, 3) := by decide +kernel
theorem dX7_admit_11 : decode cX7_admit 11 = .ok (.ifCond .ne 7, 3) := by decide +kernel
theorem dX7_admit_14 : decode cX7_admit 14 = .ok (.iconst 1, 1) := by decide +kernel
theorem dX7_admit_15 : decode cX7_admit 15 = .ok (.goto 4, 3) := by decide +kernel
theorem dX7_admit_18 : decode cX7_admit 18 = .ok (.iconst 0, 1) := by decide +kernel
theorem dX7_admit_19 : decode cX7_admit 19 = .ok (.invokestatic 78, 3) := by decide +kernel
theorem dX7_admit_22 : decode cX7_admit 22 = .ok (.aload_n 2, 1) := by decide +kernel
theorem dX7_admit_23 : decode cX7_admit 23 = .ok (.getfield 147, 3) := by decide +kernel
theorem dX7_admit_26 : decode cX7_admit 26 = .ok (.istore_n 3, 1) := by decide +kernel
theorem dX7_admit_27 : decode cX7_admit 27 = .ok (.aload_n 2, 1) := by decide +kernel
theorem dX7_admit_28 : decode cX7_admit 28 = .ok (.iconst 1, 1) := by decide +kernel
theorem dX7_admit_29 : decode cX7_admit 29 = .ok (.putfield 147, 3) := by decide +kernel
theorem dX7_admit_32 : decode cX7_admit 32 = .ok (.iload_n 3, 1) := by decide +kernel
theorem dX7_admit_33 : decode cX7_admit 33 = .ok (.ireturn, 1) := by decide +kernel
theorem dX7_deal_0 : decode cX7_deal 0 = .ok (.aload_n 0, 1) := by decide +kernel
theorem dX7_deal_1 : decode cX7_deal 1 = .ok (.iload_n 1, 1) := by decide +kernel
theorem dX7_deal_2 : decode cX7_deal 2 = .ok (.invokevirtual 117, 3) := by decide +kernel
theorem dX7_deal_5 : decode cX7_deal 5 = .ok (.astore 4, 2) := by decide +kernel
theorem dX7_deal_7 : decode cX7_deal 7 = .ok (.iload_n 2, 1) := by decide +kernel
theorem dX7_deal_8 : decode cX7_deal 8 = .ok (.bipush 8, 2) := by decide +kernel
theorem dX7_deal_10 : decode cX7_deal 10 = .ok (.invokestatic 85, 3) := by decide +kernel
theorem dX7_deal_13 : decode cX7_deal 13 = .ok (.iload_n 1, 1) := by decide +kernel
theorem dX7_deal_14 : decode cX7_deal 14 = .ok (.iload_n 2, 1) := by decide +kernel
theorem dX7_deal_15 : decode cX7_deal 15 = .ok (.if_icmp .eq 7, 3) := by decide +kernel
theorem dX7_deal_18 : decode cX7_deal 18 = .ok (.iconst 1, 1) := by decide +kernel
theorem dX7_deal_19 : decode cX7_deal 19 = .ok (.goto 4, 3) := by decide +kernel
theorem dX7_deal_22 : decode cX7_deal 22 = .ok (.iconst 0, 1) := by decide +kernel
theorem dX7_deal_23 : decode cX7_deal 23 = .ok (.invokestatic 151, 3) := by decide +kernel
theorem dX7_deal_26 : decode cX7_deal 26 = .ok (.iload_n 3, 1) := by decide +kernel
theorem dX7_deal_27 : decode cX7_deal 27 = .ok (.iconst 1, 1) := by decide +kernel
theorem dX7_deal_28 : decode cX7_deal 28 = .ok (.bipush 100, 2) := by decide +kernel
theorem dX7_deal_30 : decode cX7_deal 30 = .ok (.invokestatic 70, 3) := by decide +kernel
theorem dX7_deal_33 : decode cX7_deal 33 = .ok (.aload_n 0, 1) := by decide +kernel
theorem dX7_deal_34 : decode cX7_deal 34 = .ok (.getfield 35, 3) := by decide +kernel
theorem dX7_deal_37 : decode cX7_deal 37 = .ok (.invokevirtual 90, 3) := by decide +kernel
theorem dX7_deal_40 : decode cX7_deal 40 = .ok (.bipush 20, 2) := by decide +kernel
theorem dX7_deal_42 : decode cX7_deal 42 = .ok (.if_icmp .ge 7, 3) := by decide +kernel
theorem dX7_deal_45 : decode cX7_deal 45 = .ok (.iconst 1, 1) := by decide +kernel
theorem dX7_deal_46 : decode cX7_deal 46 = .ok (.goto 4, 3) := by decide +kernel
theorem dX7_deal_49 : decode cX7_deal 49 = .ok (.iconst 0, 1) := by decide +kernel
theorem dX7_deal_50 : decode cX7_deal 50 = .ok (.invokestatic 78, 3) := by decide +kernel
theorem dX7_deal_53 : decode cX7_deal 53 = .ok (.aload 4, 2) := by decide +kernel
theorem dX7_deal_55 : decode cX7_deal 55 = .ok (.getfield 154, 3) := by decide +kernel
theorem dX7_deal_58 : decode cX7_deal 58 = .ok (.iload_n 3, 1) := by decide +kernel
theorem dX7_deal_59 : decode cX7_deal 59 = .ok (.iadd, 1) := by decide +kernel
theorem dX7_deal_60 : decode cX7_deal 60 = .ok (.bipush 100, 2) := by decide +kernel
theorem dX7_deal_62 : decode cX7_deal 62 = .ok (.if_icmp .gt 7, 3) := by decide +kernel
theorem dX7_deal_65 : decode cX7_deal 65 = .ok (.iconst 1, 1) := by decide +kernel
theorem dX7_deal_66 : decode cX7_deal 66 = .ok (.goto 4, 3) := by decide +kernel
theorem dX7_deal_69 : decode cX7_deal 69 = .ok (.iconst 0, 1) := by decide +kernel
theorem dX7_deal_70 : decode cX7_deal 70 = .ok (.invokestatic 78, 3) := by decide +kernel
theorem dX7_deal_73 : decode cX7_deal 73 = .ok (.aload_n 0, 1) := by decide +kernel
theorem dX7_deal_74 : decode cX7_deal 74 = .ok (.getfield 35, 3) := by decide +kernel
theorem dX7_deal_77 : decode cX7_deal 77 = .ok (.new 157, 3) := by decide +kernel
theorem dX7_deal_80 : decode cX7_deal 80 = .ok (.dup, 1) := by decide +kernel
theorem dX7_deal_81 : decode cX7_deal 81 = .ok (.iload_n 1, 1) := by decide +kernel
theorem dX7_deal_82 : decode cX7_deal 82 = .ok (.iload_n 2, 1) := by decide +kernel
theorem dX7_deal_83 : decode cX7_deal 83 = .ok (.iload_n 3, 1) := by decide +kernel
theorem dX7_deal_84 : decode cX7_deal 84 = .ok (.aload_n 0, 1) := by decide +kernel
theorem dX7_deal_85 : decode cX7_deal 85 = .ok (.getfield 51, 3) := by decide +kernel
theorem dX7_deal_88 : decode cX7_deal 88 = .ok (.invokespecial 159, 3) := by decide +kernel
theorem dX7_deal_91 : decode cX7_deal 91 = .ok (.invokevirtual 99, 3) := by decide +kernel
theorem dX7_deal_94 : decode cX7_deal 94 = .ok (.pop, 1) := by decide +kernel
theorem dX7_deal_95 : decode cX7_deal 95 = .ok (.aload 4, 2) := by decide +kernel
theorem dX7_deal_97 : decode cX7_deal 97 = .ok (.dup, 1) := by decide +kernel
theorem dX7_deal_98 : decode cX7_deal 98 = .ok (.getfield 154, 3) := by decide +kernel
theorem dX7_deal_101 : decode cX7_deal 101 = .ok (.iload_n 3, 1) := by decide +kernel
theorem dX7_deal_102 : decode cX7_deal 102 = .ok (.iadd, 1) := by decide +kernel
theorem dX7_deal_103 : decode cX7_deal 103 = .ok (.putfield 154, 3) := by decide +kernel
theorem dX7_deal_106 : decode cX7_deal 106 = .ok (.aload 4, 2) := by decide +kernel
theorem dX7_deal_108 : decode cX7_deal 108 = .ok (.getfield 154, 3) := by decide +kernel
theorem dX7_deal_111 : decode cX7_deal 111 = .ok (.ireturn, 1) := by decide +kernel
theorem dX7_file_0 : decode cX7_file 0 = .ok (.aload_n 0, 1) := by decide +kernel
theorem dX7_file_1 : decode cX7_file 1 = .ok (.iload_n 1, 1) := by decide +kernel
theorem dX7_file_2 : decode cX7_file 2 = .ok (.invokevirtual 117, 3) := by decide +kernel
theorem dX7_file_5 : decode cX7_file 5 = .ok (.astore 4, 2) := by decide +kernel
theorem dX7_file_7 : decode cX7_file 7 = .ok (.iload_n 2, 1) := by decide +kernel
theorem dX7_file_8 : decode cX7_file 8 = .ok (.bipush 6, 2) := by decide +kernel
theorem dX7_file_10 : decode cX7_file 10 = .ok (.invokestatic 85, 3) := by decide +kernel
theorem dX7_file_13 : decode cX7_file 13 = .ok (.iload_n 3, 1) := by decide +kernel
theorem dX7_file_14 : decode cX7_file 14 = .ok (.iconst 1, 1) := by decide +kernel
theorem dX7_file_15 : decode cX7_file 15 = .ok (.ldc 89, 2) := by decide +kernel
theorem dX7_file_17 : decode cX7_file 17 = .ok (.invokestatic 70, 3) := by decide +kernel
theorem dX7_file_20 : decode cX7_file 20 = .ok (.aload 4, 2) := by decide +kernel
theorem dX7_file_22 : decode cX7_file 22 = .ok (.iload_n 3, 1) := by decide +kernel
theorem dX7_file_23 : decode cX7_file 23 = .ok (.invokevirtual 160, 3) := by decide +kernel
theorem dX7_file_26 : decode cX7_file 26 = .ok (.invokestatic 78, 3) := by decide +kernel
theorem dX7_file_29 : decode cX7_file 29 = .ok (.aload_n 0, 1) := by decide +kernel
theorem dX7_file_30 : decode cX7_file 30 = .ok (.getfield 38, 3) := by decide +kernel
theorem dX7_file_33 : decode cX7_file 33 = .ok (.invokevirtual 90, 3) := by decide +kernel
theorem dX7_file_36 : decode cX7_file 36 = .ok (.bipush 12, 2) := by decide +kernel
theorem dX7_file_38 : decode cX7_file 38 = .ok (.if_icmp .ge 7, 3) := by decide +kernel
theorem dX7_file_41 : decode cX7_file 41 = .ok (.iconst 1, 1) := by decide +kernel
theorem dX7_file_42 : decode cX7_file 42 = .ok (.goto 4, 3) := by decide +kernel
theorem dX7_file_45 : decode cX7_file 45 = .ok (.iconst 0, 1) := by decide +kernel
theorem dX7_file_46 : decode cX7_file 46 = .ok (.invokestatic 78, 3) := by decide +kernel
theorem dX7_file_49 : decode cX7_file 49 = .ok (.aload_n 0, 1) := by decide +kernel
theorem dX7_file_50 : decode cX7_file 50 = .ok (.getfield 38, 3) := by decide +kernel
theorem dX7_file_53 : decode cX7_file 53 = .ok (.new 163, 3) := by decide +kernel
theorem dX7_file_56 : decode cX7_file 56 = .ok (.dup, 1) := by decide +kernel
theorem dX7_file_57 : decode cX7_file 57 = .ok (.aload_n 0, 1) := by decide +kernel
theorem dX7_file_58 : decode cX7_file 58 = .ok (.getfield 38, 3) := by decide +kernel
theorem dX7_file_61 : decode cX7_file 61 = .ok (.invokevirtual 90, 3) := by decide +kernel
theorem dX7_file_64 : decode cX7_file 64 = .ok (.iload_n 1, 1) := by decide +kernel
theorem dX7_file_65 : decode cX7_file 65 = .ok (.iload_n 2, 1) := by decide +kernel
theorem dX7_file_66 : decode cX7_file 66 = .ok (.iload_n 3, 1) := by decide +kernel
theorem dX7_file_67 : decode cX7_file 67 = .ok (.aload_n 0, 1) := by decide +kernel
theorem dX7_file_68 : decode cX7_file 68 = .ok (.getfield 51, 3) := by decide +kernel
theorem dX7_file_71 : decode cX7_file 71 = .ok (.invokespecial 165, 3) := by decide +kernel
theorem dX7_file_74 : decode cX7_file 74 = .ok (.invokevirtual 99, 3) := by decide +kernel
theorem dX7_file_77 : decode cX7_file 77 = .ok (.pop, 1) := by decide +kernel
theorem dX7_file_78 : decode cX7_file 78 = .ok (.aload_n 0, 1) := by decide +kernel
theorem dX7_file_79 : decode cX7_file 79 = .ok (.invokevirtual 168, 3) := by decide +kernel
theorem dX7_file_82 : decode cX7_file 82 = .ok (.aload_n 0, 1) := by decide +kernel
theorem dX7_file_83 : decode cX7_file 83 = .ok (.getfield 38, 3) := by decide +kernel
theorem dX7_file_86 : decode cX7_file 86 = .ok (.invokevirtual 90, 3) := by decide +kernel
theorem dX7_file_89 : decode cX7_file 89 = .ok (.iconst 1, 1) := by decide +kernel
theorem dX7_file_90 : decode cX7_file 90 = .ok (.isub, 1) := by decide +kernel
theorem dX7_file_91 : decode cX7_file 91 = .ok (.ireturn, 1) := by decide +kernel
theorem dX7_amend_0 : decode cX7_amend 0 = .ok (.aload_n 0, 1) := by decide +kernel
theorem dX7_amend_1 : decode cX7_amend 1 = .ok (.iload_n 1, 1) := by decide +kernel
theorem dX7_amend_2 : decode cX7_amend 2 = .ok (.invokevirtual 171, 3) := by decide +kernel
theorem dX7_amend_5 : decode cX7_amend 5 = .ok (.astore_n 3, 1) := by decide +kernel
theorem dX7_amend_6 : decode cX7_amend 6 = .ok (.iload_n 2, 1) := by decide +kernel
theorem dX7_amend_7 : decode cX7_amend 7 = .ok (.iconst 1, 1) := by decide +kernel
theorem dX7_amend_8 : decode cX7_amend 8 = .ok (.ldc 89, 2) := by decide +kernel
theorem dX7_amend_10 : decode cX7_amend 10 = .ok (.invokestatic 70, 3) := by decide +kernel
theorem dX7_amend_13 : decode cX7_amend 13 = .ok (.aload_n 3, 1) := by decide +kernel
theorem dX7_amend_14 : decode cX7_amend 14 = .ok (.invokevirtual 175, 3) := by decide +kernel
theorem dX7_amend_17 : decode cX7_amend 17 = .ok (.ifCond .ne 7, 3) := by decide +kernel
theorem dX7_amend_20 : decode cX7_amend 20 = .ok (.iconst 1, 1) := by decide +kernel
theorem dX7_amend_21 : decode cX7_amend 21 = .ok (.goto 4, 3) := by decide +kernel
theorem dX7_amend_24 : decode cX7_amend 24 = .ok (.iconst 0, 1) := by decide +kernel
theorem dX7_amend_25 : decode cX7_amend 25 = .ok (.invokestatic 78, 3) := by decide +kernel
theorem dX7_amend_28 : decode cX7_amend 28 = .ok (.aload_n 0, 1) := by decide +kernel
theorem dX7_amend_29 : decode cX7_amend 29 = .ok (.aload_n 3, 1) := by decide +kernel
theorem dX7_amend_30 : decode cX7_amend 30 = .ok (.getfield 179, 3) := by decide +kernel
theorem dX7_amend_33 : decode cX7_amend 33 = .ok (.invokevirtual 117, 3) := by decide +kernel
theorem dX7_amend_36 : decode cX7_amend 36 = .ok (.iload_n 2, 1) := by decide +kernel
theorem dX7_amend_37 : decode cX7_amend 37 = .ok (.invokevirtual 160, 3) := by decide +kernel
theorem dX7_amend_40 : decode cX7_amend 40 = .ok (.invokestatic 78, 3) := by decide +kernel
theorem dX7_amend_43 : decode cX7_amend 43 = .ok (.aload_n 0, 1) := by decide +kernel
theorem dX7_amend_44 : decode cX7_amend 44 = .ok (.getfield 48, 3) := by decide +kernel
theorem dX7_amend_47 : decode cX7_amend 47 = .ok (.bipush 40, 2) := by decide +kernel
theorem dX7_amend_49 : decode cX7_amend 49 = .ok (.if_icmp .ge 7, 3) := by decide +kernel
theorem dX7_amend_52 : decode cX7_amend 52 = .ok (.iconst 1, 1) := by decide +kernel
theorem dX7_amend_53 : decode cX7_amend 53 = .ok (.goto 4, 3) := by decide +kernel
theorem dX7_amend_56 : decode cX7_amend 56 = .ok (.iconst 0, 1) := by decide +kernel
theorem dX7_amend_57 : decode cX7_amend 57 = .ok (.invokestatic 78, 3) := by decide +kernel
theorem dX7_amend_60 : decode cX7_amend 60 = .ok (.aload_n 3, 1) := by decide +kernel
theorem dX7_amend_61 : decode cX7_amend 61 = .ok (.iload_n 2, 1) := by decide +kernel
theorem dX7_amend_62 : decode cX7_amend 62 = .ok (.aload_n 0, 1) := by decide +kernel
theorem dX7_amend_63 : decode cX7_amend 63 = .ok (.getfield 51, 3) := by decide +kernel
theorem dX7_amend_66 : decode cX7_amend 66 = .ok (.invokevirtual 182, 3) := by decide +kernel
theorem dX7_amend_69 : decode cX7_amend 69 = .ok (.aload_n 0, 1) := by decide +kernel
theorem dX7_amend_70 : decode cX7_amend 70 = .ok (.dup, 1) := by decide +kernel
theorem dX7_amend_71 : decode cX7_amend 71 = .ok (.getfield 48, 3) := by decide +kernel
theorem dX7_amend_74 : decode cX7_amend 74 = .ok (.iconst 1, 1) := by decide +kernel
theorem dX7_amend_75 : decode cX7_amend 75 = .ok (.iadd, 1) := by decide +kernel
theorem dX7_amend_76 : decode cX7_amend 76 = .ok (.putfield 48, 3) := by decide +kernel
theorem dX7_amend_79 : decode cX7_amend 79 = .ok (.aload_n 0, 1) := by decide +kernel
theorem dX7_amend_80 : decode cX7_amend 80 = .ok (.invokevirtual 168, 3) := by decide +kernel
theorem dX7_amend_83 : decode cX7_amend 83 = .ok (.aload_n 3, 1) := by decide +kernel
theorem dX7_amend_84 : decode cX7_amend 84 = .ok (.getfield 185, 3) := by decide +kernel
theorem dX7_amend_87 : decode cX7_amend 87 = .ok (.invokestatic 124, 3) := by decide +kernel
theorem dX7_amend_90 : decode cX7_amend 90 = .ok (.ireturn, 1) := by decide +kernel
theorem dX7_extend_0 : decode cX7_extend 0 = .ok (.aload_n 0, 1) := by decide +kernel
theorem dX7_extend_1 : decode cX7_extend 1 = .ok (.iload_n 1, 1) := by decide +kernel
theorem dX7_extend_2 : decode cX7_extend 2 = .ok (.invokevirtual 171, 3) := by decide +kernel
theorem dX7_extend_5 : decode cX7_extend 5 = .ok (.astore_n 2, 1) := by decide +kernel
theorem dX7_extend_6 : decode cX7_extend 6 = .ok (.aload_n 2, 1) := by decide +kernel
theorem dX7_extend_7 : decode cX7_extend 7 = .ok (.aload_n 0, 1) := by decide +kernel
theorem dX7_extend_8 : decode cX7_extend 8 = .ok (.getfield 51, 3) := by decide +kernel
theorem dX7_extend_11 : decode cX7_extend 11 = .ok (.invokevirtual 186, 3) := by decide +kernel
theorem dX7_extend_14 : decode cX7_extend 14 = .ok (.invokestatic 78, 3) := by decide +kernel
theorem dX7_extend_17 : decode cX7_extend 17 = .ok (.aload_n 2, 1) := by decide +kernel
theorem dX7_extend_18 : decode cX7_extend 18 = .ok (.getfield 189, 3) := by decide +kernel
theorem dX7_extend_21 : decode cX7_extend 21 = .ok (.iconst 4, 1) := by decide +kernel
theorem dX7_extend_22 : decode cX7_extend 22 = .ok (.if_icmp .ge 7, 3) := by decide +kernel
theorem dX7_extend_25 : decode cX7_extend 25 = .ok (.iconst 1, 1) := by decide +kernel
theorem dX7_extend_26 : decode cX7_extend 26 = .ok (.goto 4, 3) := by decide +kernel
theorem dX7_extend_29 : decode cX7_extend 29 = .ok (.iconst 0, 1) := by decide +kernel
theorem dX7_extend_30 : decode cX7_extend 30 = .ok (.invokestatic 78, 3) := by decide +kernel
theorem dX7_extend_33 : decode cX7_extend 33 = .ok (.aload_n 2, 1) := by decide +kernel
theorem dX7_extend_34 : decode cX7_extend 34 = .ok (.dup, 1) := by decide +kernel
theorem dX7_extend_35 : decode cX7_extend 35 = .ok (.getfield 189, 3) := by decide +kernel
theorem dX7_extend_38 : decode cX7_extend 38 = .ok (.iconst 1, 1) := by decide +kernel
theorem dX7_extend_39 : decode cX7_extend 39 = .ok (.iadd, 1) := by decide +kernel
theorem dX7_extend_40 : decode cX7_extend 40 = .ok (.putfield 189, 3) := by decide +kernel
theorem dX7_extend_43 : decode cX7_extend 43 = .ok (.aload_n 2, 1) := by decide +kernel
theorem dX7_extend_44 : decode cX7_extend 44 = .ok (.dup, 1) := by decide +kernel
theorem dX7_extend_45 : decode cX7_extend 45 = .ok (.getfield 192, 3) := by decide +kernel
theorem dX7_extend_48 : decode cX7_extend 48 = .ok (.bipush 30, 2) := by decide +kernel
theorem dX7_extend_50 : decode cX7_extend 50 = .ok (.iadd, 1) := by decide +kernel
theorem dX7_extend_51 : decode cX7_extend 51 = .ok (.putfield 192, 3) := by decide +kernel
theorem dX7_extend_54 : decode cX7_extend 54 = .ok (.aload_n 2, 1) := by decide +kernel
theorem dX7_extend_55 : decode cX7_extend 55 = .ok (.getfield 192, 3) := by decide +kernel
theorem dX7_extend_58 : decode cX7_extend 58 = .ok (.ireturn, 1) := by decide +kernel
theorem dX7_choose_0 : decode cX7_choose 0 = .ok (.aload_n 0, 1) := by decide +kernel
theorem dX7_choose_1 : decode cX7_choose 1 = .ok (.iload_n 1, 1) := by decide +kernel
theorem dX7_choose_2 : decode cX7_choose 2 = .ok (.invokevirtual 171, 3) := by decide +kernel
theorem dX7_choose_5 : decode cX7_choose 5 = .ok (.astore_n 3, 1) := by decide +kernel
theorem dX7_choose_6 : decode cX7_choose 6 = .ok (.iload_n 2, 1) := by decide +kernel
theorem dX7_choose_7 : decode cX7_choose 7 = .ok (.iconst 1, 1) := by decide +kernel
theorem dX7_choose_8 : decode cX7_choose 8 = .ok (.iconst 3, 1) := by decide +kernel
theorem dX7_choose_9 : decode cX7_choose 9 = .ok (.invokestatic 70, 3) := by decide +kernel
theorem dX7_choose_12 : decode cX7_choose 12 = .ok (.aload_n 3, 1) := by decide +kernel
theorem dX7_choose_13 : decode cX7_choose 13 = .ok (.invokevirtual 175, 3) := by decide +kernel
theorem dX7_choose_16 : decode cX7_choose 16 = .ok (.ifCond .ne 7, 3) := by decide +kernel
theorem dX7_choose_19 : decode cX7_choose 19 = .ok (.iconst 1, 1) := by decide +kernel
theorem dX7_choose_20 : decode cX7_choose 20 = .ok (.goto 4, 3) := by decide +kernel
theorem dX7_choose_23 : decode cX7_choose 23 = .ok (.iconst 0, 1) := by decide +kernel
theorem dX7_choose_24 : decode cX7_choose 24 = .ok (.invokestatic 78, 3) := by decide +kernel
theorem dX7_choose_27 : decode cX7_choose 27 = .ok (.iload_n 2, 1) := by decide +kernel
theorem dX7_choose_28 : decode cX7_choose 28 = .ok (.iconst 2, 1) := by decide +kernel
theorem dX7_choose_29 : decode cX7_choose 29 = .ok (.if_icmp .ne 11, 3) := by decide +kernel
theorem dX7_choose_32 : decode cX7_choose 32 = .ok (.aload_n 3, 1) := by decide +kernel
theorem dX7_choose_33 : decode cX7_choose 33 = .ok (.getfield 195, 3) := by decide +kernel
theorem dX7_choose_36 : decode cX7_choose 36 = .ok (.iconst 1, 1) := by decide +kernel
theorem dX7_choose_37 : decode cX7_choose 37 = .ok (.if_icmp .eq 7, 3) := by decide +kernel
theorem dX7_choose_40 : decode cX7_choose 40 = .ok (.iconst 1, 1) := by decide +kernel
theorem dX7_choose_41 : decode cX7_choose 41 = .ok (.goto 4, 3) := by decide +kernel
theorem dX7_choose_44 : decode cX7_choose 44 = .ok (.iconst 0, 1) := by decide +kernel
theorem dX7_choose_45 : decode cX7_choose 45 = .ok (.invokestatic 78, 3) := by decide +kernel
theorem dX7_choose_48 : decode cX7_choose 48 = .ok (.aload_n 3, 1) := by decide +kernel
theorem dX7_choose_49 : decode cX7_choose 49 = .ok (.getfield 195, 3) := by decide +kernel
theorem dX7_choose_52 : decode cX7_choose 52 = .ok (.istore 4, 2) := by decide +kernel
theorem dX7_choose_54 : decode cX7_choose 54 = .ok (.aload_n 3, 1) := by decide +kernel
theorem dX7_choose_55 : decode cX7_choose 55 = .ok (.iload_n 2, 1) := by decide +kernel
theorem dX7_choose_56 : decode cX7_choose 56 = .ok (.putfield 195, 3) := by decide +kernel
theorem dX7_choose_59 : decode cX7_choose 59 = .ok (.aload_n 3, 1) := by decide +kernel
theorem dX7_choose_60 : decode cX7_choose 60 = .ok (.aload_n 3, 1) := by decide +kernel
theorem dX7_choose_61 : decode cX7_choose 61 = .ok (.getfield 198, 3) := by decide +kernel
theorem dX7_choose_64 : decode cX7_choose 64 = .ok (.ifCond .ne 8, 3) := by decide +kernel
theorem dX7_choose_67 : decode cX7_choose 67 = .ok (.iload_n 2, 1) := by decide +kernel
theorem dX7_choose_68 : decode cX7_choose 68 = .ok (.iconst 1, 1) := by decide +kernel
theorem dX7_choose_69 : decode cX7_choose 69 = .ok (.if_icmp .ne 7, 3) := by decide +kernel
theorem dX7_choose_72 : decode cX7_choose 72 = .ok (.iconst 1, 1) := by decide +kernel
theorem dX7_choose_73 : decode cX7_choose 73 = .ok (.goto 4, 3) := by decide +kernel
theorem dX7_choose_76 : decode cX7_choose 76 = .ok (.iconst 0, 1) := by decide +kernel
theorem dX7_choose_77 : decode cX7_choose 77 = .ok (.putfield 198, 3) := by decide +kernel
theorem dX7_choose_80 : decode cX7_choose 80 = .ok (.aload_n 3, 1) := by decide +kernel
theorem dX7_choose_81 : decode cX7_choose 81 = .ok (.aload_n 3, 1) := by decide +kernel
theorem dX7_choose_82 : decode cX7_choose 82 = .ok (.getfield 192, 3) := by decide +kernel
theorem dX7_choose_85 : decode cX7_choose 85 = .ok (.aload_n 0, 1) := by decide +kernel
theorem dX7_choose_86 : decode cX7_choose 86 = .ok (.getfield 51, 3) := by decide +kernel
theorem dX7_choose_89 : decode cX7_choose 89 = .ok (.invokestatic 201, 3) := by decide +kernel
theorem dX7_choose_92 : decode cX7_choose 92 = .ok (.putfield 192, 3) := by decide +kernel
theorem dX7_choose_95 : decode cX7_choose 95 = .ok (.iload 4, 2) := by decide +kernel
theorem dX7_choose_97 : decode cX7_choose 97 = .ok (.ireturn, 1) := by decide +kernel
theorem dX7_help_0 : decode cX7_help 0 = .ok (.aload_n 0, 1) := by decide +kernel
theorem dX7_help_1 : decode cX7_help 1 = .ok (.iload_n 1, 1) := by decide +kernel
theorem dX7_help_2 : decode cX7_help 2 = .ok (.invokevirtual 171, 3) := by decide +kernel
theorem dX7_help_5 : decode cX7_help 5 = .ok (.astore_n 3, 1) := by decide +kernel
theorem dX7_help_6 : decode cX7_help 6 = .ok (.iload_n 2, 1) := by decide +kernel
theorem dX7_help_7 : decode cX7_help 7 = .ok (.iconst 0, 1) := by decide +kernel
theorem dX7_help_8 : decode cX7_help 8 = .ok (.bipush 10, 2) := by decide +kernel
theorem dX7_help_10 : decode cX7_help 10 = .ok (.invokestatic 70, 3) := by decide +kernel
theorem dX7_help_13 : decode cX7_help 13 = .ok (.aload_n 3, 1) := by decide +kernel
theorem dX7_help_14 : decode cX7_help 14 = .ok (.invokevirtual 175, 3) := by decide +kernel
theorem dX7_help_17 : decode cX7_help 17 = .ok (.ifCond .ne 7, 3) := by decide +kernel
theorem dX7_help_20 : decode cX7_help 20 = .ok (.iconst 1, 1) := by decide +kernel
theorem dX7_help_21 : decode cX7_help 21 = .ok (.goto 4, 3) := by decide +kernel
theorem dX7_help_24 : decode cX7_help 24 = .ok (.iconst 0, 1) := by decide +kernel
theorem dX7_help_25 : decode cX7_help 25 = .ok (.invokestatic 78, 3) := by decide +kernel
theorem dX7_help_28 : decode cX7_help 28 = .ok (.aload_n 3, 1) := by decide +kernel
theorem dX7_help_29 : decode cX7_help 29 = .ok (.getfield 207, 3) := by decide +kernel
theorem dX7_help_32 : decode cX7_help 32 = .ok (.istore 4, 2) := by decide +kernel
theorem dX7_help_34 : decode cX7_help 34 = .ok (.aload_n 3, 1) := by decide +kernel
theorem dX7_help_35 : decode cX7_help 35 = .ok (.iload_n 2, 1) := by decide +kernel
theorem dX7_help_36 : decode cX7_help 36 = .ok (.putfield 207, 3) := by decide +kernel
theorem dX7_help_39 : decode cX7_help 39 = .ok (.iload 4, 2) := by decide +kernel
theorem dX7_help_41 : decode cX7_help 41 = .ok (.ireturn, 1) := by decide +kernel
theorem dX7_judge_0 : decode cX7_judge 0 = .ok (.aload_n 0, 1) := by decide +kernel
theorem dX7_judge_1 : decode cX7_judge 1 = .ok (.iload_n 1, 1) := by decide +kernel
theorem dX7_judge_2 : decode cX7_judge 2 = .ok (.invokevirtual 171, 3) := by decide +kernel
theorem dX7_judge_5 : decode cX7_judge 5 = .ok (.astore_n 2, 1) := by decide +kernel
theorem dX7_judge_6 : decode cX7_judge 6 = .ok (.aload_n 2, 1) := by decide +kernel
theorem dX7_judge_7 : decode cX7_judge 7 = .ok (.invokevirtual 210, 3) := by decide +kernel
theorem dX7_judge_10 : decode cX7_judge 10 = .ok (.invokestatic 78, 3) := by decide +kernel
theorem dX7_judge_13 : decode cX7_judge 13 = .ok (.aload_n 0, 1) := by decide +kernel
theorem dX7_judge_14 : decode cX7_judge 14 = .ok (.aload_n 2, 1) := by decide +kernel
theorem dX7_judge_15 : decode cX7_judge 15 = .ok (.aload_n 0, 1) := by decide +kernel
theorem dX7_judge_16 : decode cX7_judge 16 = .ok (.aload_n 2, 1) := by decide +kernel
theorem dX7_judge_17 : decode cX7_judge 17 = .ok (.invokevirtual 213, 3) := by decide +kernel
theorem dX7_judge_20 : decode cX7_judge 20 = .ok (.aload_n 0, 1) := by decide +kernel
theorem dX7_judge_21 : decode cX7_judge 21 = .ok (.aload_n 2, 1) := by decide +kernel
theorem dX7_judge_22 : decode cX7_judge 22 = .ok (.getfield 217, 3) := by decide +kernel
theorem dX7_judge_25 : decode cX7_judge 25 = .ok (.invokevirtual 65, 3) := by decide +kernel
theorem dX7_judge_28 : decode cX7_judge 28 = .ok (.getfield 74, 3) := by decide +kernel
theorem dX7_judge_31 : decode cX7_judge 31 = .ok (.invokestatic 201, 3) := by decide +kernel
theorem dX7_judge_34 : decode cX7_judge 34 = .ok (.invokevirtual 220, 3) := by decide +kernel
theorem dX7_judge_37 : decode cX7_judge 37 = .ok (.aload_n 2, 1) := by decide +kernel
theorem dX7_judge_38 : decode cX7_judge 38 = .ok (.getfield 224, 3) := by decide +kernel
theorem dX7_judge_41 : decode cX7_judge 41 = .ok (.ireturn, 1) := by decide +kernel
theorem dX7_settle_0 : decode cX7_settle 0 = .ok (.aload_n 0, 1) := by decide +kernel
theorem dX7_settle_1 : decode cX7_settle 1 = .ok (.iload_n 1, 1) := by decide +kernel
theorem dX7_settle_2 : decode cX7_settle 2 = .ok (.invokevirtual 171, 3) := by decide +kernel
theorem dX7_settle_5 : decode cX7_settle 5 = .ok (.astore_n 3, 1) := by decide +kernel
theorem dX7_settle_6 : decode cX7_settle 6 = .ok (.iload_n 2, 1) := by decide +kernel
theorem dX7_settle_7 : decode cX7_settle 7 = .ok (.iconst 0, 1) := by decide +kernel
theorem dX7_settle_8 : decode cX7_settle 8 = .ok (.ldc 77, 2) := by decide +kernel
theorem dX7_settle_10 : decode cX7_settle 10 = .ok (.invokestatic 70, 3) := by decide +kernel
theorem dX7_settle_13 : decode cX7_settle 13 = .ok (.aload_n 3, 1) := by decide +kernel
theorem dX7_settle_14 : decode cX7_settle 14 = .ok (.invokevirtual 210, 3) := by decide +kernel
theorem dX7_settle_17 : decode cX7_settle 17 = .ok (.invokestatic 78, 3) := by decide +kernel
theorem dX7_settle_20 : decode cX7_settle 20 = .ok (.iload_n 2, 1) := by decide +kernel
theorem dX7_settle_21 : decode cX7_settle 21 = .ok (.aload_n 0, 1) := by decide +kernel
theorem dX7_settle_22 : decode cX7_settle 22 = .ok (.aload_n 3, 1) := by decide +kernel
theorem dX7_settle_23 : decode cX7_settle 23 = .ok (.getfield 217, 3) := by decide +kernel
theorem dX7_settle_26 : decode cX7_settle 26 = .ok (.invokevirtual 65, 3) := by decide +kernel
theorem dX7_settle_29 : decode cX7_settle 29 = .ok (.getfield 74, 3) := by decide +kernel
theorem dX7_settle_32 : decode cX7_settle 32 = .ok (.if_icmp .gt 7, 3) := by decide +kernel
theorem dX7_settle_35 : decode cX7_settle 35 = .ok (.iconst 1, 1) := by decide +kernel
theorem dX7_settle_36 : decode cX7_settle 36 = .ok (.goto 4, 3) := by decide +kernel
theorem dX7_settle_39 : decode cX7_settle 39 = .ok (.iconst 0, 1) := by decide +kernel
theorem dX7_settle_40 : decode cX7_settle 40 = .ok (.invokestatic 78, 3) := by decide +kernel
theorem dX7_settle_43 : decode cX7_settle 43 = .ok (.aload_n 3, 1) := by decide +kernel
theorem dX7_settle_44 : decode cX7_settle 44 = .ok (.getfield 195, 3) := by decide +kernel
theorem dX7_settle_47 : decode cX7_settle 47 = .ok (.iconst 2, 1) := by decide +kernel
theorem dX7_settle_48 : decode cX7_settle 48 = .ok (.if_icmp .ne 14, 3) := by decide +kernel
theorem dX7_settle_51 : decode cX7_settle 51 = .ok (.iconst 5, 1) := by decide +kernel
theorem dX7_settle_52 : decode cX7_settle 52 = .ok (.iload_n 2, 1) := by decide +kernel
theorem dX7_settle_53 : decode cX7_settle 53 = .ok (.imul, 1) := by decide +kernel
theorem dX7_settle_54 : decode cX7_settle 54 = .ok (.aload_n 0, 1) := by decide +kernel
theorem dX7_settle_55 : decode cX7_settle 55 = .ok (.aload_n 3, 1) := by decide +kernel
theorem dX7_settle_56 : decode cX7_settle 56 = .ok (.invokevirtual 213, 3) := by decide +kernel
theorem dX7_settle_59 : decode cX7_settle 59 = .ok (.if_icmp .lt 7, 3) := by decide +kernel
theorem dX7_settle_62 : decode cX7_settle 62 = .ok (.iconst 1, 1) := by decide +kernel
theorem dX7_settle_63 : decode cX7_settle 63 = .ok (.goto 4, 3) := by decide +kernel
theorem dX7_settle_66 : decode cX7_settle 66 = .ok (.iconst 0, 1) := by decide +kernel
theorem dX7_settle_67 : decode cX7_settle 67 = .ok (.invokestatic 78, 3) := by decide +kernel
theorem dX7_settle_70 : decode cX7_settle 70 = .ok (.aload_n 0, 1) := by decide +kernel
theorem dX7_settle_71 : decode cX7_settle 71 = .ok (.aload_n 3, 1) := by decide +kernel
theorem dX7_settle_72 : decode cX7_settle 72 = .ok (.iload_n 2, 1) := by decide +kernel
theorem dX7_settle_73 : decode cX7_settle 73 = .ok (.invokevirtual 220, 3) := by decide +kernel
theorem dX7_settle_76 : decode cX7_settle 76 = .ok (.aload_n 3, 1) := by decide +kernel
theorem dX7_settle_77 : decode cX7_settle 77 = .ok (.getfield 227, 3) := by decide +kernel
theorem dX7_settle_80 : decode cX7_settle 80 = .ok (.ireturn, 1) := by decide +kernel
theorem dX7_work_0 : decode cX7_work 0 = .ok (.aload_n 0, 1) := by decide +kernel
theorem dX7_work_1 : decode cX7_work 1 = .ok (.iload_n 1, 1) := by decide +kernel
theorem dX7_work_2 : decode cX7_work 2 = .ok (.invokevirtual 117, 3) := by decide +kernel
theorem dX7_work_5 : decode cX7_work 5 = .ok (.astore 4, 2) := by decide +kernel
theorem dX7_work_7 : decode cX7_work 7 = .ok (.iload_n 2, 1) := by decide +kernel
theorem dX7_work_8 : decode cX7_work 8 = .ok (.bipush 6, 2) := by decide +kernel
theorem dX7_work_10 : decode cX7_work 10 = .ok (.invokestatic 85, 3) := by decide +kernel
theorem dX7_work_13 : decode cX7_work 13 = .ok (.iload_n 3, 1) := by decide +kernel
theorem dX7_work_14 : decode cX7_work 14 = .ok (.iconst 0, 1) := by decide +kernel
theorem dX7_work_15 : decode cX7_work 15 = .ok (.sipush 999, 3) := by decide +kernel
theorem dX7_work_18 : decode cX7_work 18 = .ok (.invokestatic 70, 3) := by decide +kernel
theorem dX7_work_21 : decode cX7_work 21 = .ok (.aload 4, 2) := by decide +kernel
theorem dX7_work_23 : decode cX7_work 23 = .ok (.getfield 230, 3) := by decide +kernel
theorem dX7_work_26 : decode cX7_work 26 = .ok (.istore 5, 2) := by decide +kernel
theorem dX7_work_28 : decode cX7_work 28 = .ok (.aload 4, 2) := by decide +kernel
theorem dX7_work_30 : decode cX7_work 30 = .ok (.iload_n 2, 1) := by decide +kernel
theorem dX7_work_31 : decode cX7_work 31 = .ok (.putfield 230, 3) := by decide +kernel
theorem dX7_work_34 : decode cX7_work 34 = .ok (.aload 4, 2) := by decide +kernel
theorem dX7_work_36 : decode cX7_work 36 = .ok (.iload_n 3, 1) := by decide +kernel
theorem dX7_work_37 : decode cX7_work 37 = .ok (.putfield 233, 3) := by decide +kernel
theorem dX7_work_40 : decode cX7_work 40 = .ok (.iload 5, 2) := by decide +kernel
theorem dX7_work_42 : decode cX7_work 42 = .ok (.ireturn, 1) := by decide +kernel
theorem dX7_tell_0 : decode cX7_tell 0 = .ok (.aload_n 0, 1) := by decide +kernel
theorem dX7_tell_1 : decode cX7_tell 1 = .ok (.iload_n 1, 1) := by decide +kernel
theorem dX7_tell_2 : decode cX7_tell 2 = .ok (.invokevirtual 65, 3) := by decide +kernel
theorem dX7_tell_5 : decode cX7_tell 5 = .ok (.astore_n 3, 1) := by decide +kernel
theorem dX7_tell_6 : decode cX7_tell 6 = .ok (.iload_n 2, 1) := by decide +kernel
theorem dX7_tell_7 : decode cX7_tell 7 = .ok (.bipush 8, 2) := by decide +kernel
theorem dX7_tell_9 : decode cX7_tell 9 = .ok (.invokestatic 85, 3) := by decide +kernel
theorem dX7_tell_12 : decode cX7_tell 12 = .ok (.aload_n 3, 1) := by decide +kernel
theorem dX7_tell_13 : decode cX7_tell 13 = .ok (.getfield 236, 3) := by decide +kernel
theorem dX7_tell_16 : decode cX7_tell 16 = .ok (.iload_n 2, 1) := by decide +kernel
theorem dX7_tell_17 : decode cX7_tell 17 = .ok (.iaload, 1) := by decide +kernel
theorem dX7_tell_18 : decode cX7_tell 18 = .ok (.iconst (-1), 1) := by decide +kernel
theorem dX7_tell_19 : decode cX7_tell 19 = .ok (.if_icmp .ne 13, 3) := by decide +kernel
theorem dX7_tell_22 : decode cX7_tell 22 = .ok (.aload_n 3, 1) := by decide +kernel
theorem dX7_tell_23 : decode cX7_tell 23 = .ok (.getfield 236, 3) := by decide +kernel
theorem dX7_tell_26 : decode cX7_tell 26 = .ok (.iload_n 2, 1) := by decide +kernel
theorem dX7_tell_27 : decode cX7_tell 27 = .ok (.aload_n 0, 1) := by decide +kernel
theorem dX7_tell_28 : decode cX7_tell 28 = .ok (.getfield 51, 3) := by decide +kernel
theorem dX7_tell_31 : decode cX7_tell 31 = .ok (.iastore, 1) := by decide +kernel
theorem dX7_tell_32 : decode cX7_tell 32 = .ok (.aload_n 0, 1) := by decide +kernel
theorem dX7_tell_33 : decode cX7_tell 33 = .ok (.iload_n 1, 1) := by decide +kernel
theorem dX7_tell_34 : decode cX7_tell 34 = .ok (.iload_n 2, 1) := by decide +kernel
theorem dX7_tell_35 : decode cX7_tell 35 = .ok (.invokevirtual 239, 3) := by decide +kernel
theorem dX7_tell_38 : decode cX7_tell 38 = .ok (.ireturn, 1) := by decide +kernel
theorem dX7_fire_0 : decode cX7_fire 0 = .ok (.aload_n 0, 1) := by decide +kernel
theorem dX7_fire_1 : decode cX7_fire 1 = .ok (.iload_n 1, 1) := by decide +kernel
theorem dX7_fire_2 : decode cX7_fire 2 = .ok (.invokevirtual 65, 3) := by decide +kernel
theorem dX7_fire_5 : decode cX7_fire 5 = .ok (.astore_n 3, 1) := by decide +kernel
theorem dX7_fire_6 : decode cX7_fire 6 = .ok (.aload_n 0, 1) := by decide +kernel
theorem dX7_fire_7 : decode cX7_fire 7 = .ok (.iload_n 2, 1) := by decide +kernel
theorem dX7_fire_8 : decode cX7_fire 8 = .ok (.invokevirtual 117, 3) := by decide +kernel
theorem dX7_fire_11 : decode cX7_fire 11 = .ok (.astore 4, 2) := by decide +kernel
theorem dX7_fire_13 : decode cX7_fire 13 = .ok (.aload 4, 2) := by decide +kernel
theorem dX7_fire_15 : decode cX7_fire 15 = .ok (.getfield 230, 3) := by decide +kernel
theorem dX7_fire_18 : decode cX7_fire 18 = .ok (.iload_n 1, 1) := by decide +kernel
theorem dX7_fire_19 : decode cX7_fire 19 = .ok (.if_icmp .ne 7, 3) := by decide +kernel
theorem dX7_fire_22 : decode cX7_fire 22 = .ok (.iconst 1, 1) := by decide +kernel
theorem dX7_fire_23 : decode cX7_fire 23 = .ok (.goto 4, 3) := by decide +kernel
theorem dX7_fire_26 : decode cX7_fire 26 = .ok (.iconst 0, 1) := by decide +kernel
theorem dX7_fire_27 : decode cX7_fire 27 = .ok (.invokestatic 78, 3) := by decide +kernel
theorem dX7_fire_30 : decode cX7_fire 30 = .ok (.aload_n 0, 1) := by decide +kernel
theorem dX7_fire_31 : decode cX7_fire 31 = .ok (.iload_n 1, 1) := by decide +kernel
theorem dX7_fire_32 : decode cX7_fire 32 = .ok (.iload_n 2, 1) := by decide +kernel
theorem dX7_fire_33 : decode cX7_fire 33 = .ok (.invokevirtual 242, 3) := by decide +kernel
theorem dX7_fire_36 : decode cX7_fire 36 = .ok (.istore 5, 2) := by decide +kernel
theorem dX7_fire_38 : decode cX7_fire 38 = .ok (.aload_n 3, 1) := by decide +kernel
theorem dX7_fire_39 : decode cX7_fire 39 = .ok (.getfield 246, 3) := by decide +kernel
theorem dX7_fire_42 : decode cX7_fire 42 = .ok (.iload_n 2, 1) := by decide +kernel
theorem dX7_fire_43 : decode cX7_fire 43 = .ok (.iload 5, 2) := by decide +kernel
theorem dX7_fire_45 : decode cX7_fire 45 = .ok (.ifCond .eq 10, 3) := by decide +kernel
theorem dX7_fire_48 : decode cX7_fire 48 = .ok (.aload_n 0, 1) := by decide +kernel
theorem dX7_fire_49 : decode cX7_fire 49 = .ok (.getfield 51, 3) := by decide +kernel
theorem dX7_fire_52 : decode cX7_fire 52 = .ok (.goto 4, 3) := by decide +kernel
theorem dX7_fire_55 : decode cX7_fire 55 = .ok (.iconst (-1), 1) := by decide +kernel
theorem dX7_fire_56 : decode cX7_fire 56 = .ok (.iastore, 1) := by decide +kernel
theorem dX7_fire_57 : decode cX7_fire 57 = .ok (.aload_n 3, 1) := by decide +kernel
theorem dX7_fire_58 : decode cX7_fire 58 = .ok (.getfield 249, 3) := by decide +kernel
theorem dX7_fire_61 : decode cX7_fire 61 = .ok (.iload_n 2, 1) := by decide +kernel
theorem dX7_fire_62 : decode cX7_fire 62 = .ok (.aload 4, 2) := by decide +kernel
theorem dX7_fire_64 : decode cX7_fire 64 = .ok (.getfield 233, 3) := by decide +kernel
theorem dX7_fire_67 : decode cX7_fire 67 = .ok (.iastore, 1) := by decide +kernel
theorem dX7_fire_68 : decode cX7_fire 68 = .ok (.aload 4, 2) := by decide +kernel
theorem dX7_fire_70 : decode cX7_fire 70 = .ok (.iconst (-1), 1) := by decide +kernel
theorem dX7_fire_71 : decode cX7_fire 71 = .ok (.putfield 230, 3) := by decide +kernel
theorem dX7_fire_74 : decode cX7_fire 74 = .ok (.iload 5, 2) := by decide +kernel
theorem dX7_fire_76 : decode cX7_fire 76 = .ok (.ireturn, 1) := by decide +kernel
theorem dX7_award_0 : decode cX7_award 0 = .ok (.aload_n 0, 1) := by decide +kernel
theorem dX7_award_1 : decode cX7_award 1 = .ok (.iload_n 1, 1) := by decide +kernel
theorem dX7_award_2 : decode cX7_award 2 = .ok (.invokevirtual 65, 3) := by decide +kernel
theorem dX7_award_5 : decode cX7_award 5 = .ok (.astore_n 3, 1) := by decide +kernel
theorem dX7_award_6 : decode cX7_award 6 = .ok (.aload_n 0, 1) := by decide +kernel
theorem dX7_award_7 : decode cX7_award 7 = .ok (.iload_n 2, 1) := by decide +kernel
theorem dX7_award_8 : decode cX7_award 8 = .ok (.invokevirtual 117, 3) := by decide +kernel
theorem dX7_award_11 : decode cX7_award 11 = .ok (.astore 4, 2) := by decide +kernel
theorem dX7_award_13 : decode cX7_award 13 = .ok (.aload_n 3, 1) := by decide +kernel
theorem dX7_award_14 : decode cX7_award 14 = .ok (.getfield 246, 3) := by decide +kernel
theorem dX7_award_17 : decode cX7_award 17 = .ok (.iload_n 2, 1) := by decide +kernel
theorem dX7_award_18 : decode cX7_award 18 = .ok (.iaload, 1) := by decide +kernel
theorem dX7_award_19 : decode cX7_award 19 = .ok (.iconst (-1), 1) := by decide +kernel
theorem dX7_award_20 : decode cX7_award 20 = .ok (.if_icmp .eq 7, 3) := by decide +kernel
theorem dX7_award_23 : decode cX7_award 23 = .ok (.iconst 1, 1) := by decide +kernel
theorem dX7_award_24 : decode cX7_award 24 = .ok (.goto 4, 3) := by decide +kernel
theorem dX7_award_27 : decode cX7_award 27 = .ok (.iconst 0, 1) := by decide +kernel
theorem dX7_award_28 : decode cX7_award 28 = .ok (.invokestatic 78, 3) := by decide +kernel
theorem dX7_award_31 : decode cX7_award 31 = .ok (.aload_n 0, 1) := by decide +kernel
theorem dX7_award_32 : decode cX7_award 32 = .ok (.getfield 51, 3) := by decide +kernel
theorem dX7_award_35 : decode cX7_award 35 = .ok (.aload_n 3, 1) := by decide +kernel
theorem dX7_award_36 : decode cX7_award 36 = .ok (.getfield 246, 3) := by decide +kernel
theorem dX7_award_39 : decode cX7_award 39 = .ok (.iload_n 2, 1) := by decide +kernel
theorem dX7_award_40 : decode cX7_award 40 = .ok (.iaload, 1) := by decide +kernel
theorem dX7_award_41 : decode cX7_award 41 = .ok (.isub, 1) := by decide +kernel
theorem dX7_award_42 : decode cX7_award 42 = .ok (.sipush 400, 3) := by decide +kernel
theorem dX7_award_45 : decode cX7_award 45 = .ok (.invokestatic 201, 3) := by decide +kernel
theorem dX7_award_48 : decode cX7_award 48 = .ok (.istore 5, 2) := by decide +kernel
theorem dX7_award_50 : decode cX7_award 50 = .ok (.iconst 2, 1) := by decide +kernel
theorem dX7_award_51 : decode cX7_award 51 = .ok (.iload 5, 2) := by decide +kernel
theorem dX7_award_53 : decode cX7_award 53 = .ok (.imul, 1) := by decide +kernel
theorem dX7_award_54 : decode cX7_award 54 = .ok (.aload_n 3, 1) := by decide +kernel
theorem dX7_award_55 : decode cX7_award 55 = .ok (.getfield 249, 3) := by decide +kernel
theorem dX7_award_58 : decode cX7_award 58 = .ok (.iload_n 2, 1) := by decide +kernel
theorem dX7_award_59 : decode cX7_award 59 = .ok (.iaload, 1) := by decide +kernel
theorem dX7_award_60 : decode cX7_award 60 = .ok (.imul, 1) := by decide +kernel
theorem dX7_award_61 : decode cX7_award 61 = .ok (.aload_n 3, 1) := by decide +kernel
theorem dX7_award_62 : decode cX7_award 62 = .ok (.getfield 74, 3) := by decide +kernel
theorem dX7_award_65 : decode cX7_award 65 = .ok (.invokestatic 201, 3) := by decide +kernel
theorem dX7_award_68 : decode cX7_award 68 = .ok (.istore 6, 2) := by decide +kernel
theorem dX7_award_70 : decode cX7_award 70 = .ok (.aload_n 3, 1) := by decide +kernel
theorem dX7_award_71 : decode cX7_award 71 = .ok (.getfield 246, 3) := by decide +kernel
theorem dX7_award_74 : decode cX7_award 74 = .ok (.iload_n 2, 1) := by decide +kernel
theorem dX7_award_75 : decode cX7_award 75 = .ok (.iconst (-1), 1) := by decide +kernel
theorem dX7_award_76 : decode cX7_award 76 = .ok (.iastore, 1) := by decide +kernel
theorem dX7_award_77 : decode cX7_award 77 = .ok (.aload_n 3, 1) := by decide +kernel
theorem dX7_award_78 : decode cX7_award 78 = .ok (.dup, 1) := by decide +kernel
theorem dX7_award_79 : decode cX7_award 79 = .ok (.getfield 74, 3) := by decide +kernel
theorem dX7_award_82 : decode cX7_award 82 = .ok (.iload 6, 2) := by decide +kernel
theorem dX7_award_84 : decode cX7_award 84 = .ok (.isub, 1) := by decide +kernel
theorem dX7_award_85 : decode cX7_award 85 = .ok (.putfield 74, 3) := by decide +kernel
theorem dX7_award_88 : decode cX7_award 88 = .ok (.aload_n 3, 1) := by decide +kernel
theorem dX7_award_89 : decode cX7_award 89 = .ok (.dup, 1) := by decide +kernel
theorem dX7_award_90 : decode cX7_award 90 = .ok (.getfield 252, 3) := by decide +kernel
theorem dX7_award_93 : decode cX7_award 93 = .ok (.iload 6, 2) := by decide +kernel
theorem dX7_award_95 : decode cX7_award 95 = .ok (.iadd, 1) := by decide +kernel
theorem dX7_award_96 : decode cX7_award 96 = .ok (.putfield 252, 3) := by decide +kernel
theorem dX7_award_99 : decode cX7_award 99 = .ok (.aload 4, 2) := by decide +kernel
theorem dX7_award_101 : decode cX7_award 101 = .ok (.dup, 1) := by decide +kernel
theorem dX7_award_102 : decode cX7_award 102 = .ok (.getfield 255, 3) := by decide +kernel
theorem dX7_award_105 : decode cX7_award 105 = .ok (.iload 6, 2) := by decide +kernel
theorem dX7_award_107 : decode cX7_award 107 = .ok (.iadd, 1) := by decide +kernel
theorem dX7_award_108 : decode cX7_award 108 = .ok (.putfield 255, 3) := by decide +kernel
theorem dX7_award_111 : decode cX7_award 111 = .ok (.iload 6, 2) := by decide +kernel
theorem dX7_award_113 : decode cX7_award 113 = .ok (.ireturn, 1) := by decide +kernel
theorem dX7_pass_0 : decode cX7_pass 0 = .ok (.iload_n 1, 1) := by decide +kernel
theorem dX7_pass_1 : decode cX7_pass 1 = .ok (.iconst 1, 1) := by decide +kernel
theorem dX7_pass_2 : decode cX7_pass 2 = .ok (.sipush 300, 3) := by decide +kernel
theorem dX7_pass_5 : decode cX7_pass 5 = .ok (.invokestatic 70, 3) := by decide +kernel
theorem dX7_pass_8 : decode cX7_pass 8 = .ok (.aload_n 0, 1) := by decide +kernel
theorem dX7_pass_9 : decode cX7_pass 9 = .ok (.getfield 51, 3) := by decide +kernel
theorem dX7_pass_12 : decode cX7_pass 12 = .ok (.iload_n 1, 1) := by decide +kernel
theorem dX7_pass_13 : decode cX7_pass 13 = .ok (.iadd, 1) := by decide +kernel
theorem dX7_pass_14 : decode cX7_pass 14 = .ok (.sipush 3000, 3) := by decide +kernel
theorem dX7_pass_17 : decode cX7_pass 17 = .ok (.if_icmp .gt 7, 3) := by decide +kernel
theorem dX7_pass_20 : decode cX7_pass 20 = .ok (.iconst 1, 1) := by decide +kernel
theorem dX7_pass_21 : decode cX7_pass 21 = .ok (.goto 4, 3) := by decide +kernel
theorem dX7_pass_24 : decode cX7_pass 24 = .ok (.iconst 0, 1) := by decide +kernel
theorem dX7_pass_25 : decode cX7_pass 25 = .ok (.invokestatic 78, 3) := by decide +kernel
theorem dX7_pass_28 : decode cX7_pass 28 = .ok (.aload_n 0, 1) := by decide +kernel
theorem dX7_pass_29 : decode cX7_pass 29 = .ok (.dup, 1) := by decide +kernel
theorem dX7_pass_30 : decode cX7_pass 30 = .ok (.getfield 51, 3) := by decide +kernel
theorem dX7_pass_33 : decode cX7_pass 33 = .ok (.iload_n 1, 1) := by decide +kernel
theorem dX7_pass_34 : decode cX7_pass 34 = .ok (.iadd, 1) := by decide +kernel
theorem dX7_pass_35 : decode cX7_pass 35 = .ok (.putfield 51, 3) := by decide +kernel
theorem dX7_pass_38 : decode cX7_pass 38 = .ok (.aload_n 0, 1) := by decide +kernel
theorem dX7_pass_39 : decode cX7_pass 39 = .ok (.getfield 51, 3) := by decide +kernel
theorem dX7_pass_42 : decode cX7_pass 42 = .ok (.ireturn, 1) := by decide +kernel
theorem dX7_covers_0 : decode cX7_covers 0 = .ok (.aload_n 0, 1) := by decide +kernel
theorem dX7_covers_1 : decode cX7_covers 1 = .ok (.iload_n 1, 1) := by decide +kernel
theorem dX7_covers_2 : decode cX7_covers 2 = .ok (.invokevirtual 171, 3) := by decide +kernel
theorem dX7_covers_5 : decode cX7_covers 5 = .ok (.aload_n 0, 1) := by decide +kernel
theorem dX7_covers_6 : decode cX7_covers 6 = .ok (.iload_n 2, 1) := by decide +kernel
theorem dX7_covers_7 : decode cX7_covers 7 = .ok (.invokevirtual 107, 3) := by decide +kernel
theorem dX7_covers_10 : decode cX7_covers 10 = .ok (.invokevirtual 258, 3) := by decide +kernel
theorem dX7_covers_13 : decode cX7_covers 13 = .ok (.ireturn, 1) := by decide +kernel
theorem dX7_bars_0 : decode cX7_bars 0 = .ok (.aload_n 0, 1) := by decide +kernel
theorem dX7_bars_1 : decode cX7_bars 1 = .ok (.aload_n 0, 1) := by decide +kernel
theorem dX7_bars_2 : decode cX7_bars 2 = .ok (.iload_n 1, 1) := by decide +kernel
theorem dX7_bars_3 : decode cX7_bars 3 = .ok (.invokevirtual 171, 3) := by decide +kernel
theorem dX7_bars_6 : decode cX7_bars 6 = .ok (.aload_n 0, 1) := by decide +kernel
theorem dX7_bars_7 : decode cX7_bars 7 = .ok (.iload_n 2, 1) := by decide +kernel
theorem dX7_bars_8 : decode cX7_bars 8 = .ok (.invokevirtual 107, 3) := by decide +kernel
theorem dX7_bars_11 : decode cX7_bars 11 = .ok (.invokevirtual 262, 3) := by decide +kernel
theorem dX7_bars_14 : decode cX7_bars 14 = .ok (.ireturn, 1) := by decide +kernel
theorem dX7_first_0 : decode cX7_first 0 = .ok (.aload_n 0, 1) := by decide +kernel
theorem dX7_first_1 : decode cX7_first 1 = .ok (.aload_n 0, 1) := by decide +kernel
theorem dX7_first_2 : decode cX7_first 2 = .ok (.iload_n 1, 1) := by decide +kernel
theorem dX7_first_3 : decode cX7_first 3 = .ok (.invokevirtual 107, 3) := by decide +kernel
theorem dX7_first_6 : decode cX7_first 6 = .ok (.invokevirtual 266, 3) := by decide +kernel
theorem dX7_first_9 : decode cX7_first 9 = .ok (.ireturn, 1) := by decide +kernel
theorem dX7_firstAnew_0 : decode cX7_firstAnew 0 = .ok (.aload_n 0, 1) := by decide +kernel
theorem dX7_firstAnew_1 : decode cX7_firstAnew 1 = .ok (.iload_n 1, 1) := by decide +kernel
theorem dX7_firstAnew_2 : decode cX7_firstAnew 2 = .ok (.invokevirtual 107, 3) := by decide +kernel
theorem dX7_firstAnew_5 : decode cX7_firstAnew 5 = .ok (.astore_n 2, 1) := by decide +kernel
theorem dX7_firstAnew_6 : decode cX7_firstAnew 6 = .ok (.iconst 0, 1) := by decide +kernel
theorem dX7_firstAnew_7 : decode cX7_firstAnew 7 = .ok (.istore_n 3, 1) := by decide +kernel
theorem dX7_firstAnew_8 : decode cX7_firstAnew 8 = .ok (.iload_n 3, 1) := by decide +kernel
theorem dX7_firstAnew_9 : decode cX7_firstAnew 9 = .ok (.aload_n 0, 1) := by decide +kernel
theorem dX7_firstAnew_10 : decode cX7_firstAnew 10 = .ok (.getfield 44, 3) := by decide +kernel
theorem dX7_firstAnew_13 : decode cX7_firstAnew 13 = .ok (.if_icmp .ge 31, 3) := by decide +kernel
theorem dX7_firstAnew_16 : decode cX7_firstAnew 16 = .ok (.aload_n 0, 1) := by decide +kernel
theorem dX7_firstAnew_17 : decode cX7_firstAnew 17 = .ok (.aload_n 0, 1) := by decide +kernel
theorem dX7_firstAnew_18 : decode cX7_firstAnew 18 = .ok (.getfield 41, 3) := by decide +kernel
theorem dX7_firstAnew_21 : decode cX7_firstAnew 21 = .ok (.iload_n 3, 1) := by decide +kernel
theorem dX7_firstAnew_22 : decode cX7_firstAnew 22 = .ok (.iaload, 1) := by decide +kernel
theorem dX7_firstAnew_23 : decode cX7_firstAnew 23 = .ok (.aload_n 2, 1) := by decide +kernel
theorem dX7_firstAnew_24 : decode cX7_firstAnew 24 = .ok (.invokevirtual 269, 3) := by decide +kernel
theorem dX7_firstAnew_27 : decode cX7_firstAnew 27 = .ok (.istore 4, 2) := by decide +kernel
theorem dX7_firstAnew_29 : decode cX7_firstAnew 29 = .ok (.iload 4, 2) := by decide +kernel
theorem dX7_firstAnew_31 : decode cX7_firstAnew 31 = .ok (.iconst (-1), 1) := by decide +kernel
theorem dX7_firstAnew_32 : decode cX7_firstAnew 32 = .ok (.if_icmp .eq 6, 3) := by decide +kernel
theorem dX7_firstAnew_35 : decode cX7_firstAnew 35 = .ok (.iload 4, 2) := by decide +kernel
theorem dX7_firstAnew_37 : decode cX7_firstAnew 37 = .ok (.ireturn, 1) := by decide +kernel
theorem dX7_firstAnew_38 : decode cX7_firstAnew 38 = .ok (.iinc 3 1, 3) := by decide +kernel
theorem dX7_firstAnew_41 : decode cX7_firstAnew 41 = .ok (.goto (-33), 3) := by decide +kernel
theorem dX7_firstAnew_44 : decode cX7_firstAnew 44 = .ok (.iconst (-1), 1) := by decide +kernel
theorem dX7_firstAnew_45 : decode cX7_firstAnew 45 = .ok (.ireturn, 1) := by decide +kernel
theorem dX7_due_0 : decode cX7_due 0 = .ok (.aload_n 0, 1) := by decide +kernel
theorem dX7_due_1 : decode cX7_due 1 = .ok (.aload_n 0, 1) := by decide +kernel
theorem dX7_due_2 : decode cX7_due 2 = .ok (.iload_n 1, 1) := by decide +kernel
theorem dX7_due_3 : decode cX7_due 3 = .ok (.invokevirtual 171, 3) := by decide +kernel
theorem dX7_due_6 : decode cX7_due 6 = .ok (.invokevirtual 213, 3) := by decide +kernel
theorem dX7_due_9 : decode cX7_due 9 = .ok (.ireturn, 1) := by decide +kernel
theorem dX7_sees_0 : decode cX7_sees 0 = .ok (.iload_n 1, 1) := by decide +kernel
theorem dX7_sees_1 : decode cX7_sees 1 = .ok (.bipush 8, 2) := by decide +kernel
theorem dX7_sees_3 : decode cX7_sees 3 = .ok (.invokestatic 85, 3) := by decide +kernel
theorem dX7_sees_6 : decode cX7_sees 6 = .ok (.aload_n 0, 1) := by decide +kernel
theorem dX7_sees_7 : decode cX7_sees 7 = .ok (.iload_n 2, 1) := by decide +kernel
theorem dX7_sees_8 : decode cX7_sees 8 = .ok (.invokevirtual 171, 3) := by decide +kernel
theorem dX7_sees_11 : decode cX7_sees 11 = .ok (.astore_n 3, 1) := by decide +kernel
theorem dX7_sees_12 : decode cX7_sees 12 = .ok (.aload_n 3, 1) := by decide +kernel
theorem dX7_sees_13 : decode cX7_sees 13 = .ok (.getfield 179, 3) := by decide +kernel
theorem dX7_sees_16 : decode cX7_sees 16 = .ok (.iload_n 1, 1) := by decide +kernel
theorem dX7_sees_17 : decode cX7_sees 17 = .ok (.if_icmp .eq 14, 3) := by decide +kernel
theorem dX7_sees_20 : decode cX7_sees 20 = .ok (.aload_n 3, 1) := by decide +kernel
theorem dX7_sees_21 : decode cX7_sees 21 = .ok (.aload_n 0, 1) := by decide +kernel
theorem dX7_sees_22 : decode cX7_sees 22 = .ok (.getfield 51, 3) := by decide +kernel
theorem dX7_sees_25 : decode cX7_sees 25 = .ok (.invokevirtual 186, 3) := by decide +kernel
theorem dX7_sees_28 : decode cX7_sees 28 = .ok (.ifCond .ne 7, 3) := by decide +kernel
theorem dX7_sees_31 : decode cX7_sees 31 = .ok (.iconst 1, 1) := by decide +kernel
theorem dX7_sees_32 : decode cX7_sees 32 = .ok (.goto 4, 3) := by decide +kernel
theorem dX7_sees_35 : decode cX7_sees 35 = .ok (.iconst 0, 1) := by decide +kernel
theorem dX7_sees_36 : decode cX7_sees 36 = .ok (.ireturn, 1) := by decide +kernel
theorem dX7_ofSuit_0 : decode cX7_ofSuit 0 = .ok (.aload_n 0, 1) := by decide +kernel
theorem dX7_ofSuit_1 : decode cX7_ofSuit 1 = .ok (.iload_n 1, 1) := by decide +kernel
theorem dX7_ofSuit_2 : decode cX7_ofSuit 2 = .ok (.invokevirtual 171, 3) := by decide +kernel
theorem dX7_ofSuit_5 : decode cX7_ofSuit 5 = .ok (.astore_n 3, 1) := by decide +kernel
theorem dX7_ofSuit_6 : decode cX7_ofSuit 6 = .ok (.iload_n 2, 1) := by decide +kernel
theorem dX7_ofSuit_7 : decode cX7_ofSuit 7 = .ok (.tableswitch 104 0 9 #[53, 58, 63, 68, 73, 78, 83, 88, 93, 98], 53) := by decide +kernel
theorem dX7_ofSuit_60 : decode cX7_ofSuit 60 = .ok (.aload_n 3, 1) := by decide +kernel
theorem dX7_ofSuit_61 : decode cX7_ofSuit 61 = .ok (.getfield 179, 3) := by decide +kernel
theorem dX7_ofSuit_64 : decode cX7_ofSuit 64 = .ok (.ireturn, 1) := by decide +kernel
theorem dX7_ofSuit_65 : decode cX7_ofSuit 65 = .ok (.aload_n 3, 1) := by decide +kernel
theorem dX7_ofSuit_66 : decode cX7_ofSuit 66 = .ok (.getfield 217, 3) := by decide +kernel
theorem dX7_ofSuit_69 : decode cX7_ofSuit 69 = .ok (.ireturn, 1) := by decide +kernel
theorem dX7_ofSuit_70 : decode cX7_ofSuit 70 = .ok (.aload_n 3, 1) := by decide +kernel
theorem dX7_ofSuit_71 : decode cX7_ofSuit 71 = .ok (.getfield 185, 3) := by decide +kernel
theorem dX7_ofSuit_74 : decode cX7_ofSuit 74 = .ok (.ireturn, 1) := by decide +kernel
theorem dX7_ofSuit_75 : decode cX7_ofSuit 75 = .ok (.aload_n 3, 1) := by decide +kernel
theorem dX7_ofSuit_76 : decode cX7_ofSuit 76 = .ok (.getfield 273, 3) := by decide +kernel
theorem dX7_ofSuit_79 : decode cX7_ofSuit 79 = .ok (.ireturn, 1) := by decide +kernel
theorem dX7_ofSuit_80 : decode cX7_ofSuit 80 = .ok (.aload_n 3, 1) := by decide +kernel
theorem dX7_ofSuit_81 : decode cX7_ofSuit 81 = .ok (.getfield 195, 3) := by decide +kernel
theorem dX7_ofSuit_84 : decode cX7_ofSuit 84 = .ok (.ireturn, 1) := by decide +kernel
theorem dX7_ofSuit_85 : decode cX7_ofSuit 85 = .ok (.aload_n 3, 1) := by decide +kernel
theorem dX7_ofSuit_86 : decode cX7_ofSuit 86 = .ok (.getfield 192, 3) := by decide +kernel
theorem dX7_ofSuit_89 : decode cX7_ofSuit 89 = .ok (.ireturn, 1) := by decide +kernel
theorem dX7_ofSuit_90 : decode cX7_ofSuit 90 = .ok (.aload_n 3, 1) := by decide +kernel
theorem dX7_ofSuit_91 : decode cX7_ofSuit 91 = .ok (.getfield 207, 3) := by decide +kernel
theorem dX7_ofSuit_94 : decode cX7_ofSuit 94 = .ok (.ireturn, 1) := by decide +kernel
theorem dX7_ofSuit_95 : decode cX7_ofSuit 95 = .ok (.aload_n 3, 1) := by decide +kernel
theorem dX7_ofSuit_96 : decode cX7_ofSuit 96 = .ok (.getfield 224, 3) := by decide +kernel
theorem dX7_ofSuit_99 : decode cX7_ofSuit 99 = .ok (.ireturn, 1) := by decide +kernel
theorem dX7_ofSuit_100 : decode cX7_ofSuit 100 = .ok (.aload_n 3, 1) := by decide +kernel
theorem dX7_ofSuit_101 : decode cX7_ofSuit 101 = .ok (.getfield 227, 3) := by decide +kernel
theorem dX7_ofSuit_104 : decode cX7_ofSuit 104 = .ok (.ireturn, 1) := by decide +kernel
theorem dX7_ofSuit_105 : decode cX7_ofSuit 105 = .ok (.aload_n 0, 1) := by decide +kernel
theorem dX7_ofSuit_106 : decode cX7_ofSuit 106 = .ok (.aload_n 3, 1) := by decide +kernel
theorem dX7_ofSuit_107 : decode cX7_ofSuit 107 = .ok (.invokevirtual 276, 3) := by decide +kernel
theorem dX7_ofSuit_110 : decode cX7_ofSuit 110 = .ok (.ireturn, 1) := by decide +kernel
theorem dX7_ofSuit_111 : decode cX7_ofSuit 111 = .ok (.new 279, 3) := by decide +kernel
theorem dX7_ofSuit_114 : decode cX7_ofSuit 114 = .ok (.dup, 1) := by decide +kernel
theorem dX7_ofSuit_115 : decode cX7_ofSuit 115 = .ok (.ldc_w 281, 3) := by decide +kernel
theorem dX7_ofSuit_118 : decode cX7_ofSuit 118 = .ok (.invokespecial 283, 3) := by decide +kernel
theorem dX7_ofSuit_121 : decode cX7_ofSuit 121 = .ok (.athrow, 1) := by decide +kernel
theorem dX7_ofClaim_0 : decode cX7_ofClaim 0 = .ok (.iload_n 1, 1) := by decide +kernel
theorem dX7_ofClaim_1 : decode cX7_ofClaim 1 = .ok (.aload_n 0, 1) := by decide +kernel
theorem dX7_ofClaim_2 : decode cX7_ofClaim 2 = .ok (.getfield 32, 3) := by decide +kernel
theorem dX7_ofClaim_5 : decode cX7_ofClaim 5 = .ok (.invokevirtual 90, 3) := by decide +kernel
theorem dX7_ofClaim_8 : decode cX7_ofClaim 8 = .ok (.invokestatic 85, 3) := by decide +kernel
theorem dX7_ofClaim_11 : decode cX7_ofClaim 11 = .ok (.aload_n 0, 1) := by decide +kernel
theorem dX7_ofClaim_12 : decode cX7_ofClaim 12 = .ok (.getfield 32, 3) := by decide +kernel
theorem dX7_ofClaim_15 : decode cX7_ofClaim 15 = .ok (.iload_n 1, 1) := by decide +kernel
theorem dX7_ofClaim_16 : decode cX7_ofClaim 16 = .ok (.invokevirtual 286, 3) := by decide +kernel
theorem dX7_ofClaim_19 : decode cX7_ofClaim 19 = .ok (.checkcast 103, 3) := by decide +kernel
theorem dX7_ofClaim_22 : decode cX7_ofClaim 22 = .ok (.astore_n 3, 1) := by decide +kernel
theorem dX7_ofClaim_23 : decode cX7_ofClaim 23 = .ok (.iload_n 2, 1) := by decide +kernel
theorem dX7_ofClaim_24 : decode cX7_ofClaim 24 = .ok (.tableswitch 52 0 3 #[32, 37, 42, 47], 32) := by decide +kernel
theorem dX7_ofClaim_56 : decode cX7_ofClaim 56 = .ok (.aload_n 3, 1) := by decide +kernel
theorem dX7_ofClaim_57 : decode cX7_ofClaim 57 = .ok (.getfield 290, 3) := by decide +kernel
theorem dX7_ofClaim_60 : decode cX7_ofClaim 60 = .ok (.ireturn, 1) := by decide +kernel
theorem dX7_ofClaim_61 : decode cX7_ofClaim 61 = .ok (.aload_n 3, 1) := by decide +kernel
theorem dX7_ofClaim_62 : decode cX7_ofClaim 62 = .ok (.getfield 293, 3) := by decide +kernel
theorem dX7_ofClaim_65 : decode cX7_ofClaim 65 = .ok (.ireturn, 1) := by decide +kernel
theorem dX7_ofClaim_66 : decode cX7_ofClaim 66 = .ok (.aload_n 3, 1) := by decide +kernel
theorem dX7_ofClaim_67 : decode cX7_ofClaim 67 = .ok (.getfield 296, 3) := by decide +kernel
theorem dX7_ofClaim_70 : decode cX7_ofClaim 70 = .ok (.ireturn, 1) := by decide +kernel
theorem dX7_ofClaim_71 : decode cX7_ofClaim 71 = .ok (.aload_n 3, 1) := by decide +kernel
theorem dX7_ofClaim_72 : decode cX7_ofClaim 72 = .ok (.getfield 299, 3) := by decide +kernel
theorem dX7_ofClaim_75 : decode cX7_ofClaim 75 = .ok (.ireturn, 1) := by decide +kernel
theorem dX7_ofClaim_76 : decode cX7_ofClaim 76 = .ok (.new 279, 3) := by decide +kernel
theorem dX7_ofClaim_79 : decode cX7_ofClaim 79 = .ok (.dup, 1) := by decide +kernel
theorem dX7_ofClaim_80 : decode cX7_ofClaim 80 = .ok (.ldc_w 302, 3) := by decide +kernel
theorem dX7_ofClaim_83 : decode cX7_ofClaim 83 = .ok (.invokespecial 283, 3) := by decide +kernel
theorem dX7_ofClaim_86 : decode cX7_ofClaim 86 = .ok (.athrow, 1) := by decide +kernel
theorem dX7_got_0 : decode cX7_got 0 = .ok (.aload_n 0, 1) := by decide +kernel
theorem dX7_got_1 : decode cX7_got 1 = .ok (.iload_n 1, 1) := by decide +kernel
theorem dX7_got_2 : decode cX7_got 2 = .ok (.invokevirtual 117, 3) := by decide +kernel
theorem dX7_got_5 : decode cX7_got 5 = .ok (.astore_n 3, 1) := by decide +kernel
theorem dX7_got_6 : decode cX7_got 6 = .ok (.iload_n 2, 1) := by decide +kernel
theorem dX7_got_7 : decode cX7_got 7 = .ok (.tableswitch 40 0 2 #[25, 30, 35], 25) := by decide +kernel
theorem dX7_got_32 : decode cX7_got 32 = .ok (.aload_n 3, 1) := by decide +kernel
theorem dX7_got_33 : decode cX7_got 33 = .ok (.getfield 304, 3) := by decide +kernel
theorem dX7_got_36 : decode cX7_got 36 = .ok (.ireturn, 1) := by decide +kernel
theorem dX7_got_37 : decode cX7_got 37 = .ok (.aload_n 3, 1) := by decide +kernel
theorem dX7_got_38 : decode cX7_got 38 = .ok (.getfield 307, 3) := by decide +kernel
theorem dX7_got_41 : decode cX7_got 41 = .ok (.ireturn, 1) := by decide +kernel
theorem dX7_got_42 : decode cX7_got 42 = .ok (.aload_n 3, 1) := by decide +kernel
theorem dX7_got_43 : decode cX7_got 43 = .ok (.getfield 255, 3) := by decide +kernel
theorem dX7_got_46 : decode cX7_got 46 = .ok (.ireturn, 1) := by decide +kernel
theorem dX7_got_47 : decode cX7_got 47 = .ok (.new 279, 3) := by decide +kernel
theorem dX7_got_50 : decode cX7_got 50 = .ok (.dup, 1) := by decide +kernel
theorem dX7_got_51 : decode cX7_got 51 = .ok (.ldc_w 310, 3) := by decide +kernel
theorem dX7_got_54 : decode cX7_got 54 = .ok (.invokespecial 283, 3) := by decide +kernel
theorem dX7_got_57 : decode cX7_got 57 = .ok (.athrow, 1) := by decide +kernel
theorem dX7_ofFirm_0 : decode cX7_ofFirm 0 = .ok (.aload_n 0, 1) := by decide +kernel
theorem dX7_ofFirm_1 : decode cX7_ofFirm 1 = .ok (.iload_n 1, 1) := by decide +kernel
theorem dX7_ofFirm_2 : decode cX7_ofFirm 2 = .ok (.invokevirtual 65, 3) := by decide +kernel
theorem dX7_ofFirm_5 : decode cX7_ofFirm 5 = .ok (.astore_n 3, 1) := by decide +kernel
theorem dX7_ofFirm_6 : decode cX7_ofFirm 6 = .ok (.iload_n 2, 1) := by decide +kernel
theorem dX7_ofFirm_7 : decode cX7_ofFirm 7 = .ok (.tableswitch 49 0 3 #[29, 34, 39, 44], 29) := by decide +kernel
theorem dX7_ofFirm_36 : decode cX7_ofFirm 36 = .ok (.aload_n 3, 1) := by decide +kernel
theorem dX7_ofFirm_37 : decode cX7_ofFirm 37 = .ok (.getfield 74, 3) := by decide +kernel
theorem dX7_ofFirm_40 : decode cX7_ofFirm 40 = .ok (.ireturn, 1) := by decide +kernel
theorem dX7_ofFirm_41 : decode cX7_ofFirm 41 = .ok (.aload_n 3, 1) := by decide +kernel
theorem dX7_ofFirm_42 : decode cX7_ofFirm 42 = .ok (.getfield 82, 3) := by decide +kernel
theorem dX7_ofFirm_45 : decode cX7_ofFirm 45 = .ok (.ireturn, 1) := by decide +kernel
theorem dX7_ofFirm_46 : decode cX7_ofFirm 46 = .ok (.aload_n 3, 1) := by decide +kernel
theorem dX7_ofFirm_47 : decode cX7_ofFirm 47 = .ok (.getfield 312, 3) := by decide +kernel
theorem dX7_ofFirm_50 : decode cX7_ofFirm 50 = .ok (.ireturn, 1) := by decide +kernel
theorem dX7_ofFirm_51 : decode cX7_ofFirm 51 = .ok (.aload_n 3, 1) := by decide +kernel
theorem dX7_ofFirm_52 : decode cX7_ofFirm 52 = .ok (.getfield 252, 3) := by decide +kernel
theorem dX7_ofFirm_55 : decode cX7_ofFirm 55 = .ok (.ireturn, 1) := by decide +kernel
theorem dX7_ofFirm_56 : decode cX7_ofFirm 56 = .ok (.new 279, 3) := by decide +kernel
theorem dX7_ofFirm_59 : decode cX7_ofFirm 59 = .ok (.dup, 1) := by decide +kernel
theorem dX7_ofFirm_60 : decode cX7_ofFirm 60 = .ok (.ldc_w 315, 3) := by decide +kernel
theorem dX7_ofFirm_63 : decode cX7_ofFirm 63 = .ok (.invokespecial 283, 3) := by decide +kernel
theorem dX7_ofFirm_66 : decode cX7_ofFirm 66 = .ok (.athrow, 1) := by decide +kernel
theorem dX7_all_0 : decode cX7_all 0 = .ok (.iload_n 1, 1) := by decide +kernel
theorem dX7_all_1 : decode cX7_all 1 = .ok (.tableswitch 58 0 3 #[31, 36, 41, 53], 31) := by decide +kernel
theorem dX7_all_32 : decode cX7_all 32 = .ok (.aload_n 0, 1) := by decide +kernel
theorem dX7_all_33 : decode cX7_all 33 = .ok (.getfield 51, 3) := by decide +kernel
theorem dX7_all_36 : decode cX7_all 36 = .ok (.ireturn, 1) := by decide +kernel
theorem dX7_all_37 : decode cX7_all 37 = .ok (.aload_n 0, 1) := by decide +kernel
theorem dX7_all_38 : decode cX7_all 38 = .ok (.getfield 54, 3) := by decide +kernel
theorem dX7_all_41 : decode cX7_all 41 = .ok (.ireturn, 1) := by decide +kernel
theorem dX7_all_42 : decode cX7_all 42 = .ok (.aload_n 0, 1) := by decide +kernel
theorem dX7_all_43 : decode cX7_all 43 = .ok (.aload_n 0, 1) := by decide +kernel
theorem dX7_all_44 : decode cX7_all 44 = .ok (.getfield 51, 3) := by decide +kernel
theorem dX7_all_47 : decode cX7_all 47 = .ok (.invokevirtual 130, 3) := by decide +kernel
theorem dX7_all_50 : decode cX7_all 50 = .ok (.invokestatic 124, 3) := by decide +kernel
theorem dX7_all_53 : decode cX7_all 53 = .ok (.ireturn, 1) := by decide +kernel
theorem dX7_all_54 : decode cX7_all 54 = .ok (.aload_n 0, 1) := by decide +kernel
theorem dX7_all_55 : decode cX7_all 55 = .ok (.invokevirtual 317, 3) := by decide +kernel
theorem dX7_all_58 : decode cX7_all 58 = .ok (.ireturn, 1) := by decide +kernel
theorem dX7_all_59 : decode cX7_all 59 = .ok (.new 279, 3) := by decide +kernel
theorem dX7_all_62 : decode cX7_all 62 = .ok (.dup, 1) := by decide +kernel
theorem dX7_all_63 : decode cX7_all 63 = .ok (.ldc_w 320, 3) := by decide +kernel
theorem dX7_all_66 : decode cX7_all 66 = .ok (.invokespecial 283, 3) := by decide +kernel
theorem dX7_all_69 : decode cX7_all 69 = .ok (.athrow, 1) := by decide +kernel
theorem dX7_checkIndex_0 : decode cX7_checkIndex 0 = .ok (.iload_n 0, 1) := by decide +kernel
theorem dX7_checkIndex_1 : decode cX7_checkIndex 1 = .ok (.ifCond .lt 8, 3) := by decide +kernel
theorem dX7_checkIndex_4 : decode cX7_checkIndex 4 = .ok (.iload_n 0, 1) := by decide +kernel
theorem dX7_checkIndex_5 : decode cX7_checkIndex 5 = .ok (.iload_n 1, 1) := by decide +kernel
theorem dX7_checkIndex_6 : decode cX7_checkIndex 6 = .ok (.if_icmp .lt 14, 3) := by decide +kernel
theorem dX7_checkIndex_9 : decode cX7_checkIndex 9 = .ok (.new 279, 3) := by decide +kernel
theorem dX7_checkIndex_12 : decode cX7_checkIndex 12 = .ok (.dup, 1) := by decide +kernel
theorem dX7_checkIndex_13 : decode cX7_checkIndex 13 = .ok (.ldc_w 322, 3) := by decide +kernel
theorem dX7_checkIndex_16 : decode cX7_checkIndex 16 = .ok (.invokespecial 283, 3) := by decide +kernel
theorem dX7_checkIndex_19 : decode cX7_checkIndex 19 = .ok (.athrow, 1) := by decide +kernel
theorem dX7_checkIndex_20 : decode cX7_checkIndex 20 = .ok (.return_, 1) := by decide +kernel
theorem dX7_checkRange_0 : decode cX7_checkRange 0 = .ok (.iload_n 0, 1) := by decide +kernel
theorem dX7_checkRange_1 : decode cX7_checkRange 1 = .ok (.iload_n 1, 1) := by decide +kernel
theorem dX7_checkRange_2 : decode cX7_checkRange 2 = .ok (.if_icmp .lt 12, 3) := by decide +kernel
theorem dX7_checkRange_5 : decode cX7_checkRange 5 = .ok (.iload_n 0, 1) := by decide +kernel
theorem dX7_checkRange_6 : decode cX7_checkRange 6 = .ok (.iload_n 2, 1) := by decide +kernel
theorem dX7_checkRange_7 : decode cX7_checkRange 7 = .ok (.if_icmp .gt 7, 3) := by decide +kernel
theorem dX7_checkRange_10 : decode cX7_checkRange 10 = .ok (.iconst 1, 1) := by decide +kernel
theorem dX7_checkRange_11 : decode cX7_checkRange 11 = .ok (.goto 4, 3) := by decide +kernel
theorem dX7_checkRange_14 : decode cX7_checkRange 14 = .ok (.iconst 0, 1) := by decide +kernel
theorem dX7_checkRange_15 : decode cX7_checkRange 15 = .ok (.invokestatic 151, 3) := by decide +kernel
theorem dX7_checkRange_18 : decode cX7_checkRange 18 = .ok (.return_, 1) := by decide +kernel
theorem dX7_checkArgument_0 : decode cX7_checkArgument 0 = .ok (.iload_n 0, 1) := by decide +kernel
theorem dX7_checkArgument_1 : decode cX7_checkArgument 1 = .ok (.ifCond .ne 14, 3) := by decide +kernel
theorem dX7_checkArgument_4 : decode cX7_checkArgument 4 = .ok (.new 324, 3) := by decide +kernel
theorem dX7_checkArgument_7 : decode cX7_checkArgument 7 = .ok (.dup, 1) := by decide +kernel
theorem dX7_checkArgument_8 : decode cX7_checkArgument 8 = .ok (.ldc_w 326, 3) := by decide +kernel
theorem dX7_checkArgument_11 : decode cX7_checkArgument 11 = .ok (.invokespecial 328, 3) := by decide +kernel
theorem dX7_checkArgument_14 : decode cX7_checkArgument 14 = .ok (.athrow, 1) := by decide +kernel
theorem dX7_checkArgument_15 : decode cX7_checkArgument 15 = .ok (.return_, 1) := by decide +kernel
theorem dX7_checkState_0 : decode cX7_checkState 0 = .ok (.iload_n 0, 1) := by decide +kernel
theorem dX7_checkState_1 : decode cX7_checkState 1 = .ok (.ifCond .ne 14, 3) := by decide +kernel
theorem dX7_checkState_4 : decode cX7_checkState 4 = .ok (.new 329, 3) := by decide +kernel
theorem dX7_checkState_7 : decode cX7_checkState 7 = .ok (.dup, 1) := by decide +kernel
theorem dX7_checkState_8 : decode cX7_checkState 8 = .ok (.ldc_w 331, 3) := by decide +kernel
theorem dX7_checkState_11 : decode cX7_checkState 11 = .ok (.invokespecial 333, 3) := by decide +kernel
theorem dX7_checkState_14 : decode cX7_checkState 14 = .ok (.athrow, 1) := by decide +kernel
theorem dX7_checkState_15 : decode cX7_checkState 15 = .ok (.return_, 1) := by decide +kernel
theorem dX7_firmAt_0 : decode cX7_firmAt 0 = .ok (.iload_n 1, 1) := by decide +kernel
theorem dX7_firmAt_1 : decode cX7_firmAt 1 = .ok (.bipush 6, 2) := by decide +kernel
theorem dX7_firmAt_3 : decode cX7_firmAt 3 = .ok (.invokestatic 85, 3) := by decide +kernel
theorem dX7_firmAt_6 : decode cX7_firmAt 6 = .ok (.aload_n 0, 1) := by decide +kernel
theorem dX7_firmAt_7 : decode cX7_firmAt 7 = .ok (.getfield 11, 3) := by decide +kernel
theorem dX7_firmAt_10 : decode cX7_firmAt 10 = .ok (.iload_n 1, 1) := by decide +kernel
theorem dX7_firmAt_11 : decode cX7_firmAt 11 = .ok (.aaload, 1) := by decide +kernel
theorem dX7_firmAt_12 : decode cX7_firmAt 12 = .ok (.areturn, 1) := by decide +kernel
theorem dX7_tellerAt_0 : decode cX7_tellerAt 0 = .ok (.iload_n 1, 1) := by decide +kernel
theorem dX7_tellerAt_1 : decode cX7_tellerAt 1 = .ok (.bipush 8, 2) := by decide +kernel
theorem dX7_tellerAt_3 : decode cX7_tellerAt 3 = .ok (.invokestatic 85, 3) := by decide +kernel
theorem dX7_tellerAt_6 : decode cX7_tellerAt 6 = .ok (.aload_n 0, 1) := by decide +kernel
theorem dX7_tellerAt_7 : decode cX7_tellerAt 7 = .ok (.getfield 17, 3) := by decide +kernel
theorem dX7_tellerAt_10 : decode cX7_tellerAt 10 = .ok (.iload_n 1, 1) := by decide +kernel
theorem dX7_tellerAt_11 : decode cX7_tellerAt 11 = .ok (.aaload, 1) := by decide +kernel
theorem dX7_tellerAt_12 : decode cX7_tellerAt 12 = .ok (.areturn, 1) := by decide +kernel
theorem dX7_schemeAt_0 : decode cX7_schemeAt 0 = .ok (.iload_n 1, 1) := by decide +kernel
theorem dX7_schemeAt_1 : decode cX7_schemeAt 1 = .ok (.aload_n 0, 1) := by decide +kernel
theorem dX7_schemeAt_2 : decode cX7_schemeAt 2 = .ok (.getfield 28, 3) := by decide +kernel
theorem dX7_schemeAt_5 : decode cX7_schemeAt 5 = .ok (.invokevirtual 90, 3) := by decide +kernel
theorem dX7_schemeAt_8 : decode cX7_schemeAt 8 = .ok (.invokestatic 85, 3) := by decide +kernel
theorem dX7_schemeAt_11 : decode cX7_schemeAt 11 = .ok (.aload_n 0, 1) := by decide +kernel
theorem dX7_schemeAt_12 : decode cX7_schemeAt 12 = .ok (.getfield 28, 3) := by decide +kernel
theorem dX7_schemeAt_15 : decode cX7_schemeAt 15 = .ok (.iload_n 1, 1) := by decide +kernel
theorem dX7_schemeAt_16 : decode cX7_schemeAt 16 = .ok (.invokevirtual 286, 3) := by decide +kernel
theorem dX7_schemeAt_19 : decode cX7_schemeAt 19 = .ok (.checkcast 94, 3) := by decide +kernel
theorem dX7_schemeAt_22 : decode cX7_schemeAt 22 = .ok (.areturn, 1) := by decide +kernel
theorem dX7_suitAt_0 : decode cX7_suitAt 0 = .ok (.iload_n 1, 1) := by decide +kernel
theorem dX7_suitAt_1 : decode cX7_suitAt 1 = .ok (.aload_n 0, 1) := by decide +kernel
theorem dX7_suitAt_2 : decode cX7_suitAt 2 = .ok (.getfield 38, 3) := by decide +kernel
theorem dX7_suitAt_5 : decode cX7_suitAt 5 = .ok (.invokevirtual 90, 3) := by decide +kernel
theorem dX7_suitAt_8 : decode cX7_suitAt 8 = .ok (.invokestatic 85, 3) := by decide +kernel
theorem dX7_suitAt_11 : decode cX7_suitAt 11 = .ok (.aload_n 0, 1) := by decide +kernel
theorem dX7_suitAt_12 : decode cX7_suitAt 12 = .ok (.getfield 38, 3) := by decide +kernel
theorem dX7_suitAt_15 : decode cX7_suitAt 15 = .ok (.iload_n 1, 1) := by decide +kernel
theorem dX7_suitAt_16 : decode cX7_suitAt 16 = .ok (.invokevirtual 286, 3) := by decide +kernel
theorem dX7_suitAt_19 : decode cX7_suitAt 19 = .ok (.checkcast 163, 3) := by decide +kernel
theorem dX7_suitAt_22 : decode cX7_suitAt 22 = .ok (.areturn, 1) := by decide +kernel
theorem dX7_notePaperDay_0 : decode cX7_notePaperDay 0 = .ok (.aload_n 0, 1) := by decide +kernel
theorem dX7_notePaperDay_1 : decode cX7_notePaperDay 1 = .ok (.getfield 44, 3) := by decide +kernel
theorem dX7_notePaperDay_4 : decode cX7_notePaperDay 4 = .ok (.ifCond .eq 21, 3) := by decide +kernel
theorem dX7_notePaperDay_7 : decode cX7_notePaperDay 7 = .ok (.aload_n 0, 1) := by decide +kernel
theorem dX7_notePaperDay_8 : decode cX7_notePaperDay 8 = .ok (.getfield 41, 3) := by decide +kernel
theorem dX7_notePaperDay_11 : decode cX7_notePaperDay 11 = .ok (.aload_n 0, 1) := by decide +kernel
theorem dX7_notePaperDay_12 : decode cX7_notePaperDay 12 = .ok (.getfield 44, 3) := by decide +kernel
theorem dX7_notePaperDay_15 : decode cX7_notePaperDay 15 = .ok (.iconst 1, 1) := by decide +kernel
theorem dX7_notePaperDay_16 : decode cX7_notePaperDay 16 = .ok (.isub, 1) := by decide +kernel
theorem dX7_notePaperDay_17 : decode cX7_notePaperDay 17 = .ok (.iaload, 1) := by decide +kernel
theorem dX7_notePaperDay_18 : decode cX7_notePaperDay 18 = .ok (.aload_n 0, 1) := by decide +kernel
theorem dX7_notePaperDay_19 : decode cX7_notePaperDay 19 = .ok (.getfield 51, 3) := by decide +kernel
theorem dX7_notePaperDay_22 : decode cX7_notePaperDay 22 = .ok (.if_icmp .eq 7, 3) := by decide +kernel
theorem dX7_notePaperDay_25 : decode cX7_notePaperDay 25 = .ok (.iconst 1, 1) := by decide +kernel
theorem dX7_notePaperDay_26 : decode cX7_notePaperDay 26 = .ok (.goto 4, 3) := by decide +kernel
theorem dX7_notePaperDay_29 : decode cX7_notePaperDay 29 = .ok (.iconst 0, 1) := by decide +kernel
theorem dX7_notePaperDay_30 : decode cX7_notePaperDay 30 = .ok (.istore_n 1, 1) := by decide +kernel
theorem dX7_notePaperDay_31 : decode cX7_notePaperDay 31 = .ok (.iload_n 1, 1) := by decide +kernel
theorem dX7_notePaperDay_32 : decode cX7_notePaperDay 32 = .ok (.ifCond .eq 38, 3) := by decide +kernel
theorem dX7_notePaperDay_35 : decode cX7_notePaperDay 35 = .ok (.aload_n 0, 1) := by decide +kernel
theorem dX7_notePaperDay_36 : decode cX7_notePaperDay 36 = .ok (.getfield 44, 3) := by decide +kernel
theorem dX7_notePaperDay_39 : decode cX7_notePaperDay 39 = .ok (.aload_n 0, 1) := by decide +kernel
theorem dX7_notePaperDay_40 : decode cX7_notePaperDay 40 = .ok (.getfield 41, 3) := by decide +kernel
theorem dX7_notePaperDay_43 : decode cX7_notePaperDay 43 = .ok (.arraylength, 1) := by decide +kernel
theorem dX7_notePaperDay_44 : decode cX7_notePaperDay 44 = .ok (.if_icmp .ge 26, 3) := by decide +kernel
theorem dX7_notePaperDay_47 : decode cX7_notePaperDay 47 = .ok (.aload_n 0, 1) := by decide +kernel
theorem dX7_notePaperDay_48 : decode cX7_notePaperDay 48 = .ok (.getfield 41, 3) := by decide +kernel
theorem dX7_notePaperDay_51 : decode cX7_notePaperDay 51 = .ok (.aload_n 0, 1) := by decide +kernel
theorem dX7_notePaperDay_52 : decode cX7_notePaperDay 52 = .ok (.getfield 44, 3) := by decide +kernel
theorem dX7_notePaperDay_55 : decode cX7_notePaperDay 55 = .ok (.aload_n 0, 1) := by decide +kernel
theorem dX7_notePaperDay_56 : decode cX7_notePaperDay 56 = .ok (.getfield 51, 3) := by decide +kernel
theorem dX7_notePaperDay_59 : decode cX7_notePaperDay 59 = .ok (.iastore, 1) := by decide +kernel
theorem dX7_notePaperDay_60 : decode cX7_notePaperDay 60 = .ok (.aload_n 0, 1) := by decide +kernel
theorem dX7_notePaperDay_61 : decode cX7_notePaperDay 61 = .ok (.dup, 1) := by decide +kernel
theorem dX7_notePaperDay_62 : decode cX7_notePaperDay 62 = .ok (.getfield 44, 3) := by decide +kernel
theorem dX7_notePaperDay_65 : decode cX7_notePaperDay 65 = .ok (.iconst 1, 1) := by decide +kernel
theorem dX7_notePaperDay_66 : decode cX7_notePaperDay 66 = .ok (.iadd, 1) := by decide +kernel
theorem dX7_notePaperDay_67 : decode cX7_notePaperDay 67 = .ok (.putfield 44, 3) := by decide +kernel
theorem dX7_notePaperDay_70 : decode cX7_notePaperDay 70 = .ok (.return_, 1) := by decide +kernel
theorem dX7_isCoveredInTheOpen_0 : decode cX7_isCoveredInTheOpen 0 = .ok (.iconst 0, 1) := by decide +kernel
theorem dX7_isCoveredInTheOpen_1 : decode cX7_isCoveredInTheOpen 1 = .ok (.istore_n 2, 1) := by decide +kernel
theorem dX7_isCoveredInTheOpen_2 : decode cX7_isCoveredInTheOpen 2 = .ok (.iload_n 2, 1) := by decide +kernel
theorem dX7_isCoveredInTheOpen_3 : decode cX7_isCoveredInTheOpen 3 = .ok (.aload_n 0, 1) := by decide +kernel
theorem dX7_isCoveredInTheOpen_4 : decode cX7_isCoveredInTheOpen 4 = .ok (.getfield 38, 3) := by decide +kernel
theorem dX7_isCoveredInTheOpen_7 : decode cX7_isCoveredInTheOpen 7 = .ok (.invokevirtual 90, 3) := by decide +kernel
theorem dX7_isCoveredInTheOpen_10 : decode cX7_isCoveredInTheOpen 10 = .ok (.if_icmp .ge 63, 3) := by decide +kernel
theorem dX7_isCoveredInTheOpen_13 : decode cX7_isCoveredInTheOpen 13 = .ok (.aload_n 0, 1) := by decide +kernel
theorem dX7_isCoveredInTheOpen_14 : decode cX7_isCoveredInTheOpen 14 = .ok (.getfield 38, 3) := by decide +kernel
theorem dX7_isCoveredInTheOpen_17 : decode cX7_isCoveredInTheOpen 17 = .ok (.iload_n 2, 1) := by decide +kernel
theorem dX7_isCoveredInTheOpen_18 : decode cX7_isCoveredInTheOpen 18 = .ok (.invokevirtual 286, 3) := by decide +kernel
theorem dX7_isCoveredInTheOpen_21 : decode cX7_isCoveredInTheOpen 21 = .ok (.checkcast 163, 3) := by decide +kernel
theorem dX7_isCoveredInTheOpen_24 : decode cX7_isCoveredInTheOpen 24 = .ok (.astore_n 3, 1) := by decide +kernel
theorem dX7_isCoveredInTheOpen_25 : decode cX7_isCoveredInTheOpen 25 = .ok (.aload_n 3, 1) := by decide +kernel
theorem dX7_isCoveredInTheOpen_26 : decode cX7_isCoveredInTheOpen 26 = .ok (.getfield 195, 3) := by decide +kernel
theorem dX7_isCoveredInTheOpen_29 : decode cX7_isCoveredInTheOpen 29 = .ok (.iconst 3, 1) := by decide +kernel
theorem dX7_isCoveredInTheOpen_30 : decode cX7_isCoveredInTheOpen 30 = .ok (.if_icmp .eq 18, 3) := by decide +kernel
theorem dX7_isCoveredInTheOpen_33 : decode cX7_isCoveredInTheOpen 33 = .ok (.aload_n 3, 1) := by decide +kernel
theorem dX7_isCoveredInTheOpen_34 : decode cX7_isCoveredInTheOpen 34 = .ok (.aload_n 0, 1) := by decide +kernel
theorem dX7_isCoveredInTheOpen_35 : decode cX7_isCoveredInTheOpen 35 = .ok (.getfield 51, 3) := by decide +kernel
theorem dX7_isCoveredInTheOpen_38 : decode cX7_isCoveredInTheOpen 38 = .ok (.invokevirtual 186, 3) := by decide +kernel
theorem dX7_isCoveredInTheOpen_41 : decode cX7_isCoveredInTheOpen 41 = .ok (.ifCond .ne 7, 3) := by decide +kernel
theorem dX7_isCoveredInTheOpen_44 : decode cX7_isCoveredInTheOpen 44 = .ok (.iconst 1, 1) := by decide +kernel
theorem dX7_isCoveredInTheOpen_45 : decode cX7_isCoveredInTheOpen 45 = .ok (.goto 4, 3) := by decide +kernel
theorem dX7_isCoveredInTheOpen_48 : decode cX7_isCoveredInTheOpen 48 = .ok (.iconst 0, 1) := by decide +kernel
theorem dX7_isCoveredInTheOpen_49 : decode cX7_isCoveredInTheOpen 49 = .ok (.istore 4, 2) := by decide +kernel
theorem dX7_isCoveredInTheOpen_51 : decode cX7_isCoveredInTheOpen 51 = .ok (.iload 4, 2) := by decide +kernel
theorem dX7_isCoveredInTheOpen_53 : decode cX7_isCoveredInTheOpen 53 = .ok (.ifCond .eq 14, 3) := by decide +kernel
theorem dX7_isCoveredInTheOpen_56 : decode cX7_isCoveredInTheOpen 56 = .ok (.aload_n 3, 1) := by decide +kernel
theorem dX7_isCoveredInTheOpen_57 : decode cX7_isCoveredInTheOpen 57 = .ok (.aload_n 1, 1) := by decide +kernel
theorem dX7_isCoveredInTheOpen_58 : decode cX7_isCoveredInTheOpen 58 = .ok (.invokevirtual 258, 3) := by decide +kernel
theorem dX7_isCoveredInTheOpen_61 : decode cX7_isCoveredInTheOpen 61 = .ok (.iconst (-1), 1) := by decide +kernel
theorem dX7_isCoveredInTheOpen_62 : decode cX7_isCoveredInTheOpen 62 = .ok (.if_icmp .eq 5, 3) := by decide +kernel
theorem dX7_isCoveredInTheOpen_65 : decode cX7_isCoveredInTheOpen 65 = .ok (.iconst 1, 1) := by decide +kernel
theorem dX7_isCoveredInTheOpen_66 : decode cX7_isCoveredInTheOpen 66 = .ok (.ireturn, 1) := by decide +kernel
theorem dX7_isCoveredInTheOpen_67 : decode cX7_isCoveredInTheOpen 67 = .ok (.iinc 2 1, 3) := by decide +kernel
theorem dX7_isCoveredInTheOpen_70 : decode cX7_isCoveredInTheOpen 70 = .ok (.goto (-68), 3) := by decide +kernel
theorem dX7_isCoveredInTheOpen_73 : decode cX7_isCoveredInTheOpen 73 = .ok (.iconst 0, 1) := by decide +kernel
theorem dX7_isCoveredInTheOpen_74 : decode cX7_isCoveredInTheOpen 74 = .ok (.ireturn, 1) := by decide +kernel
theorem dX7_firstFor_0 : decode cX7_firstFor 0 = .ok (.iconst (-1), 1) := by decide +kernel
theorem dX7_firstFor_1 : decode cX7_firstFor 1 = .ok (.istore_n 2, 1) := by decide +kernel
theorem dX7_firstFor_2 : decode cX7_firstFor 2 = .ok (.iconst (-1), 1) := by decide +kernel
theorem dX7_firstFor_3 : decode cX7_firstFor 3 = .ok (.istore_n 3, 1) := by decide +kernel
theorem dX7_firstFor_4 : decode cX7_firstFor 4 = .ok (.iconst 0, 1) := by decide +kernel
theorem dX7_firstFor_5 : decode cX7_firstFor 5 = .ok (.istore 4, 2) := by decide +kernel
theorem dX7_firstFor_7 : decode cX7_firstFor 7 = .ok (.iload 4, 2) := by decide +kernel
theorem dX7_firstFor_9 : decode cX7_firstFor 9 = .ok (.aload_n 0, 1) := by decide +kernel
theorem dX7_firstFor_10 : decode cX7_firstFor 10 = .ok (.getfield 38, 3) := by decide +kernel
theorem dX7_firstFor_13 : decode cX7_firstFor 13 = .ok (.invokevirtual 90, 3) := by decide +kernel
theorem dX7_firstFor_16 : decode cX7_firstFor 16 = .ok (.if_icmp .ge 67, 3) := by decide +kernel
theorem dX7_firstFor_19 : decode cX7_firstFor 19 = .ok (.aload_n 0, 1) := by decide +kernel
theorem dX7_firstFor_20 : decode cX7_firstFor 20 = .ok (.getfield 38, 3) := by decide +kernel
theorem dX7_firstFor_23 : decode cX7_firstFor 23 = .ok (.iload 4, 2) := by decide +kernel
theorem dX7_firstFor_25 : decode cX7_firstFor 25 = .ok (.invokevirtual 286, 3) := by decide +kernel
theorem dX7_firstFor_28 : decode cX7_firstFor 28 = .ok (.checkcast 163, 3) := by decide +kernel
theorem dX7_firstFor_31 : decode cX7_firstFor 31 = .ok (.astore 5, 2) := by decide +kernel
theorem dX7_firstFor_33 : decode cX7_firstFor 33 = .ok (.aload 5, 2) := by decide +kernel
theorem dX7_firstFor_35 : decode cX7_firstFor 35 = .ok (.getfield 195, 3) := by decide +kernel
theorem dX7_firstFor_38 : decode cX7_firstFor 38 = .ok (.iconst 3, 1) := by decide +kernel
theorem dX7_firstFor_39 : decode cX7_firstFor 39 = .ok (.if_icmp .ne 7, 3) := by decide +kernel
theorem dX7_firstFor_42 : decode cX7_firstFor 42 = .ok (.iconst (-1), 1) := by decide +kernel
theorem dX7_firstFor_43 : decode cX7_firstFor 43 = .ok (.goto 9, 3) := by decide +kernel
theorem dX7_firstFor_46 : decode cX7_firstFor 46 = .ok (.aload 5, 2) := by decide +kernel
theorem dX7_firstFor_48 : decode cX7_firstFor 48 = .ok (.aload_n 1, 1) := by decide +kernel
theorem dX7_firstFor_49 : decode cX7_firstFor 49 = .ok (.invokevirtual 258, 3) := by decide +kernel
theorem dX7_firstFor_52 : decode cX7_firstFor 52 = .ok (.istore 6, 2) := by decide +kernel
theorem dX7_firstFor_54 : decode cX7_firstFor 54 = .ok (.iload 6, 2) := by decide +kernel
theorem dX7_firstFor_56 : decode cX7_firstFor 56 = .ok (.iconst (-1), 1) := by decide +kernel
theorem dX7_firstFor_57 : decode cX7_firstFor 57 = .ok (.if_icmp .eq 20, 3) := by decide +kernel
theorem dX7_firstFor_60 : decode cX7_firstFor 60 = .ok (.iload_n 2, 1) := by decide +kernel
theorem dX7_firstFor_61 : decode cX7_firstFor 61 = .ok (.iconst (-1), 1) := by decide +kernel
theorem dX7_firstFor_62 : decode cX7_firstFor 62 = .ok (.if_icmp .eq 9, 3) := by decide +kernel
theorem dX7_firstFor_65 : decode cX7_firstFor 65 = .ok (.iload 6, 2) := by decide +kernel
theorem dX7_firstFor_67 : decode cX7_firstFor 67 = .ok (.iload_n 3, 1) := by decide +kernel
theorem dX7_firstFor_68 : decode cX7_firstFor 68 = .ok (.if_icmp .ge 9, 3) := by decide +kernel
theorem dX7_firstFor_71 : decode cX7_firstFor 71 = .ok (.iload 4, 2) := by decide +kernel
theorem dX7_firstFor_73 : decode cX7_firstFor 73 = .ok (.istore_n 2, 1) := by decide +kernel
theorem dX7_firstFor_74 : decode cX7_firstFor 74 = .ok (.iload 6, 2) := by decide +kernel
theorem dX7_firstFor_76 : decode cX7_firstFor 76 = .ok (.istore_n 3, 1) := by decide +kernel
theorem dX7_firstFor_77 : decode cX7_firstFor 77 = .ok (.iinc 4 1, 3) := by decide +kernel
theorem dX7_firstFor_80 : decode cX7_firstFor 80 = .ok (.goto (-73), 3) := by decide +kernel
theorem dX7_firstFor_83 : decode cX7_firstFor 83 = .ok (.iload_n 2, 1) := by decide +kernel
theorem dX7_firstFor_84 : decode cX7_firstFor 84 = .ok (.ireturn, 1) := by decide +kernel
theorem dX7_lowestCoveringFrom_0 : decode cX7_lowestCoveringFrom 0 = .ok (.iconst 0, 1) := by decide +kernel
theorem dX7_lowestCoveringFrom_1 : decode cX7_lowestCoveringFrom 1 = .ok (.istore_n 3, 1) := by decide +kernel
theorem dX7_lowestCoveringFrom_2 : decode cX7_lowestCoveringFrom 2 = .ok (.iload_n 3, 1) := by decide +kernel
theorem dX7_lowestCoveringFrom_3 : decode cX7_lowestCoveringFrom 3 = .ok (.aload_n 0, 1) := by decide +kernel
theorem dX7_lowestCoveringFrom_4 : decode cX7_lowestCoveringFrom 4 = .ok (.getfield 38, 3) := by decide +kernel
theorem dX7_lowestCoveringFrom_7 : decode cX7_lowestCoveringFrom 7 = .ok (.invokevirtual 90, 3) := by decide +kernel
theorem dX7_lowestCoveringFrom_10 : decode cX7_lowestCoveringFrom 10 = .ok (.if_icmp .ge 43, 3) := by decide +kernel
theorem dX7_lowestCoveringFrom_13 : decode cX7_lowestCoveringFrom 13 = .ok (.aload_n 0, 1) := by decide +kernel
theorem dX7_lowestCoveringFrom_14 : decode cX7_lowestCoveringFrom 14 = .ok (.getfield 38, 3) := by decide +kernel
theorem dX7_lowestCoveringFrom_17 : decode cX7_lowestCoveringFrom 17 = .ok (.iload_n 3, 1) := by decide +kernel
theorem dX7_lowestCoveringFrom_18 : decode cX7_lowestCoveringFrom 18 = .ok (.invokevirtual 286, 3) := by decide +kernel
theorem dX7_lowestCoveringFrom_21 : decode cX7_lowestCoveringFrom 21 = .ok (.checkcast 163, 3) := by decide +kernel
theorem dX7_lowestCoveringFrom_24 : decode cX7_lowestCoveringFrom 24 = .ok (.astore 4, 2) := by decide +kernel
theorem dX7_lowestCoveringFrom_26 : decode cX7_lowestCoveringFrom 26 = .ok (.aload 4, 2) := by decide +kernel
theorem dX7_lowestCoveringFrom_28 : decode cX7_lowestCoveringFrom 28 = .ok (.getfield 195, 3) := by decide +kernel
theorem dX7_lowestCoveringFrom_31 : decode cX7_lowestCoveringFrom 31 = .ok (.iconst 3, 1) := by decide +kernel
theorem dX7_lowestCoveringFrom_32 : decode cX7_lowestCoveringFrom 32 = .ok (.if_icmp .eq 15, 3) := by decide +kernel
theorem dX7_lowestCoveringFrom_35 : decode cX7_lowestCoveringFrom 35 = .ok (.aload 4, 2) := by decide +kernel
theorem dX7_lowestCoveringFrom_37 : decode cX7_lowestCoveringFrom 37 = .ok (.aload_n 2, 1) := by decide +kernel
theorem dX7_lowestCoveringFrom_38 : decode cX7_lowestCoveringFrom 38 = .ok (.invokevirtual 258, 3) := by decide +kernel
theorem dX7_lowestCoveringFrom_41 : decode cX7_lowestCoveringFrom 41 = .ok (.iload_n 1, 1) := by decide +kernel
theorem dX7_lowestCoveringFrom_42 : decode cX7_lowestCoveringFrom 42 = .ok (.if_icmp .ne 5, 3) := by decide +kernel
theorem dX7_lowestCoveringFrom_45 : decode cX7_lowestCoveringFrom 45 = .ok (.iload_n 3, 1) := by decide +kernel
theorem dX7_lowestCoveringFrom_46 : decode cX7_lowestCoveringFrom 46 = .ok (.ireturn, 1) := by decide +kernel
theorem dX7_lowestCoveringFrom_47 : decode cX7_lowestCoveringFrom 47 = .ok (.iinc 3 1, 3) := by decide +kernel
theorem dX7_lowestCoveringFrom_50 : decode cX7_lowestCoveringFrom 50 = .ok (.goto (-48), 3) := by decide +kernel
theorem dX7_lowestCoveringFrom_53 : decode cX7_lowestCoveringFrom 53 = .ok (.iconst (-1), 1) := by decide +kernel
theorem dX7_lowestCoveringFrom_54 : decode cX7_lowestCoveringFrom 54 = .ok (.ireturn, 1) := by decide +kernel
theorem dX7_barOf_0 : decode cX7_barOf 0 = .ok (.aload_n 1, 1) := by decide +kernel
theorem dX7_barOf_1 : decode cX7_barOf 1 = .ok (.aload_n 2, 1) := by decide +kernel
theorem dX7_barOf_2 : decode cX7_barOf 2 = .ok (.invokevirtual 258, 3) := by decide +kernel
theorem dX7_barOf_5 : decode cX7_barOf 5 = .ok (.istore_n 3, 1) := by decide +kernel
theorem dX7_barOf_6 : decode cX7_barOf 6 = .ok (.iload_n 3, 1) := by decide +kernel
theorem dX7_barOf_7 : decode cX7_barOf 7 = .ok (.iconst (-1), 1) := by decide +kernel
theorem dX7_barOf_8 : decode cX7_barOf 8 = .ok (.if_icmp .ne 5, 3) := by decide +kernel
theorem dX7_barOf_11 : decode cX7_barOf 11 = .ok (.iconst 1, 1) := by decide +kernel
theorem dX7_barOf_12 : decode cX7_barOf 12 = .ok (.ireturn, 1) := by decide +kernel
theorem dX7_barOf_13 : decode cX7_barOf 13 = .ok (.aload_n 0, 1) := by decide +kernel
theorem dX7_barOf_14 : decode cX7_barOf 14 = .ok (.aload_n 2, 1) := by decide +kernel
theorem dX7_barOf_15 : decode cX7_barOf 15 = .ok (.invokevirtual 266, 3) := by decide +kernel
theorem dX7_barOf_18 : decode cX7_barOf 18 = .ok (.aload_n 1, 1) := by decide +kernel
theorem dX7_barOf_19 : decode cX7_barOf 19 = .ok (.getfield 334, 3) := by decide +kernel
theorem dX7_barOf_22 : decode cX7_barOf 22 = .ok (.if_icmp .eq 5, 3) := by decide +kernel
theorem dX7_barOf_25 : decode cX7_barOf 25 = .ok (.iconst 2, 1) := by decide +kernel
theorem dX7_barOf_26 : decode cX7_barOf 26 = .ok (.ireturn, 1) := by decide +kernel
theorem dX7_barOf_27 : decode cX7_barOf 27 = .ok (.aload_n 0, 1) := by decide +kernel
theorem dX7_barOf_28 : decode cX7_barOf 28 = .ok (.aload_n 1, 1) := by decide +kernel
theorem dX7_barOf_29 : decode cX7_barOf 29 = .ok (.aload_n 2, 1) := by decide +kernel
theorem dX7_barOf_30 : decode cX7_barOf 30 = .ok (.iload_n 3, 1) := by decide +kernel
theorem dX7_barOf_31 : decode cX7_barOf 31 = .ok (.invokevirtual 337, 3) := by decide +kernel
theorem dX7_barOf_34 : decode cX7_barOf 34 = .ok (.ifCond .eq 7, 3) := by decide +kernel
theorem dX7_barOf_37 : decode cX7_barOf 37 = .ok (.iconst 3, 1) := by decide +kernel
theorem dX7_barOf_38 : decode cX7_barOf 38 = .ok (.goto 4, 3) := by decide +kernel
theorem dX7_barOf_41 : decode cX7_barOf 41 = .ok (.iconst 0, 1) := by decide +kernel
theorem dX7_barOf_42 : decode cX7_barOf 42 = .ok (.ireturn, 1) := by decide +kernel
theorem dX7_restsOnThePublic_0 : decode cX7_restsOnThePublic 0 = .ok (.aload_n 0, 1) := by decide +kernel
theorem dX7_restsOnThePublic_1 : decode cX7_restsOnThePublic 1 = .ok (.iload_n 3, 1) := by decide +kernel
theorem dX7_restsOnThePublic_2 : decode cX7_restsOnThePublic 2 = .ok (.invokevirtual 130, 3) := by decide +kernel
theorem dX7_restsOnThePublic_5 : decode cX7_restsOnThePublic 5 = .ok (.istore 4, 2) := by decide +kernel
theorem dX7_restsOnThePublic_7 : decode cX7_restsOnThePublic 7 = .ok (.aload_n 2, 1) := by decide +kernel
theorem dX7_restsOnThePublic_8 : decode cX7_restsOnThePublic 8 = .ok (.getfield 341, 3) := by decide +kernel
theorem dX7_restsOnThePublic_11 : decode cX7_restsOnThePublic 11 = .ok (.iload 4, 2) := by decide +kernel
theorem dX7_restsOnThePublic_13 : decode cX7_restsOnThePublic 13 = .ok (.iconst (-1), 1) := by decide +kernel
theorem dX7_restsOnThePublic_14 : decode cX7_restsOnThePublic 14 = .ok (.ixor, 1) := by decide +kernel
theorem dX7_restsOnThePublic_15 : decode cX7_restsOnThePublic 15 = .ok (.iand, 1) := by decide +kernel
theorem dX7_restsOnThePublic_16 : decode cX7_restsOnThePublic 16 = .ok (.istore 5, 2) := by decide +kernel
theorem dX7_restsOnThePublic_18 : decode cX7_restsOnThePublic 18 = .ok (.aload_n 2, 1) := by decide +kernel
theorem dX7_restsOnThePublic_19 : decode cX7_restsOnThePublic 19 = .ok (.iload 4, 2) := by decide +kernel
theorem dX7_restsOnThePublic_21 : decode cX7_restsOnThePublic 21 = .ok (.invokevirtual 342, 3) := by decide +kernel
theorem dX7_restsOnThePublic_24 : decode cX7_restsOnThePublic 24 = .ok (.ifCond .eq 24, 3) := by decide +kernel
theorem dX7_restsOnThePublic_27 : decode cX7_restsOnThePublic 27 = .ok (.aload_n 1, 1) := by decide +kernel
theorem dX7_restsOnThePublic_28 : decode cX7_restsOnThePublic 28 = .ok (.getfield 185, 3) := by decide +kernel
theorem dX7_restsOnThePublic_31 : decode cX7_restsOnThePublic 31 = .ok (.iload 5, 2) := by decide +kernel
theorem dX7_restsOnThePublic_33 : decode cX7_restsOnThePublic 33 = .ok (.iand, 1) := by decide +kernel
theorem dX7_restsOnThePublic_34 : decode cX7_restsOnThePublic 34 = .ok (.ifCond .ne 14, 3) := by decide +kernel
theorem dX7_restsOnThePublic_37 : decode cX7_restsOnThePublic 37 = .ok (.aload_n 1, 1) := by decide +kernel
theorem dX7_restsOnThePublic_38 : decode cX7_restsOnThePublic 38 = .ok (.getfield 198, 3) := by decide +kernel
theorem dX7_restsOnThePublic_41 : decode cX7_restsOnThePublic 41 = .ok (.ifCond .ne 7, 3) := by decide +kernel
theorem dX7_restsOnThePublic_44 : decode cX7_restsOnThePublic 44 = .ok (.iconst 1, 1) := by decide +kernel
theorem dX7_restsOnThePublic_45 : decode cX7_restsOnThePublic 45 = .ok (.goto 4, 3) := by decide +kernel
theorem dX7_restsOnThePublic_48 : decode cX7_restsOnThePublic 48 = .ok (.iconst 0, 1) := by decide +kernel
theorem dX7_restsOnThePublic_49 : decode cX7_restsOnThePublic 49 = .ok (.ireturn, 1) := by decide +kernel
theorem dX7_publicBy_0 : decode cX7_publicBy 0 = .ok (.iconst 0, 1) := by decide +kernel
theorem dX7_publicBy_1 : decode cX7_publicBy 1 = .ok (.istore_n 2, 1) := by decide +kernel
theorem dX7_publicBy_2 : decode cX7_publicBy 2 = .ok (.iconst 0, 1) := by decide +kernel
theorem dX7_publicBy_3 : decode cX7_publicBy 3 = .ok (.istore_n 3, 1) := by decide +kernel
theorem dX7_publicBy_4 : decode cX7_publicBy 4 = .ok (.iload_n 3, 1) := by decide +kernel
theorem dX7_publicBy_5 : decode cX7_publicBy 5 = .ok (.bipush 16, 2) := by decide +kernel
theorem dX7_publicBy_7 : decode cX7_publicBy 7 = .ok (.if_icmp .ge 35, 3) := by decide +kernel
theorem dX7_publicBy_10 : decode cX7_publicBy 10 = .ok (.aload_n 0, 1) := by decide +kernel
theorem dX7_publicBy_11 : decode cX7_publicBy 11 = .ok (.getfield 21, 3) := by decide +kernel
theorem dX7_publicBy_14 : decode cX7_publicBy 14 = .ok (.iload_n 3, 1) := by decide +kernel
theorem dX7_publicBy_15 : decode cX7_publicBy 15 = .ok (.iaload, 1) := by decide +kernel
theorem dX7_publicBy_16 : decode cX7_publicBy 16 = .ok (.iconst (-1), 1) := by decide +kernel
theorem dX7_publicBy_17 : decode cX7_publicBy 17 = .ok (.if_icmp .eq 19, 3) := by decide +kernel
theorem dX7_publicBy_20 : decode cX7_publicBy 20 = .ok (.aload_n 0, 1) := by decide +kernel
theorem dX7_publicBy_21 : decode cX7_publicBy 21 = .ok (.getfield 21, 3) := by decide +kernel
theorem dX7_publicBy_24 : decode cX7_publicBy 24 = .ok (.iload_n 3, 1) := by decide +kernel
theorem dX7_publicBy_25 : decode cX7_publicBy 25 = .ok (.iaload, 1) := by decide +kernel
theorem dX7_publicBy_26 : decode cX7_publicBy 26 = .ok (.iload_n 1, 1) := by decide +kernel
theorem dX7_publicBy_27 : decode cX7_publicBy 27 = .ok (.if_icmp .gt 9, 3) := by decide +kernel
theorem dX7_publicBy_30 : decode cX7_publicBy 30 = .ok (.iload_n 2, 1) := by decide +kernel
theorem dX7_publicBy_31 : decode cX7_publicBy 31 = .ok (.iconst 1, 1) := by decide +kernel
theorem dX7_publicBy_32 : decode cX7_publicBy 32 = .ok (.iload_n 3, 1) := by decide +kernel
theorem dX7_publicBy_33 : decode cX7_publicBy 33 = .ok (.ishl, 1) := by decide +kernel
theorem dX7_publicBy_34 : decode cX7_publicBy 34 = .ok (.ior, 1) := by decide +kernel
theorem dX7_publicBy_35 : decode cX7_publicBy 35 = .ok (.istore_n 2, 1) := by decide +kernel
theorem dX7_publicBy_36 : decode cX7_publicBy 36 = .ok (.iinc 3 1, 3) := by decide +kernel
theorem dX7_publicBy_39 : decode cX7_publicBy 39 = .ok (.goto (-35), 3) := by decide +kernel
theorem dX7_publicBy_42 : decode cX7_publicBy 42 = .ok (.iload_n 2, 1) := by decide +kernel
theorem dX7_publicBy_43 : decode cX7_publicBy 43 = .ok (.ireturn, 1) := by decide +kernel
theorem dX7_sealedSuits_0 : decode cX7_sealedSuits 0 = .ok (.iconst 0, 1) := by decide +kernel
theorem dX7_sealedSuits_1 : decode cX7_sealedSuits 1 = .ok (.istore_n 1, 1) := by decide +kernel
theorem dX7_sealedSuits_2 : decode cX7_sealedSuits 2 = .ok (.iconst 0, 1) := by decide +kernel
theorem dX7_sealedSuits_3 : decode cX7_sealedSuits 3 = .ok (.istore_n 2, 1) := by decide +kernel
theorem dX7_sealedSuits_4 : decode cX7_sealedSuits 4 = .ok (.iload_n 2, 1) := by decide +kernel
theorem dX7_sealedSuits_5 : decode cX7_sealedSuits 5 = .ok (.aload_n 0, 1) := by decide +kernel
theorem dX7_sealedSuits_6 : decode cX7_sealedSuits 6 = .ok (.getfield 38, 3) := by decide +kernel
theorem dX7_sealedSuits_9 : decode cX7_sealedSuits 9 = .ok (.invokevirtual 90, 3) := by decide +kernel
theorem dX7_sealedSuits_12 : decode cX7_sealedSuits 12 = .ok (.if_icmp .ge 33, 3) := by decide +kernel
theorem dX7_sealedSuits_15 : decode cX7_sealedSuits 15 = .ok (.aload_n 0, 1) := by decide +kernel
theorem dX7_sealedSuits_16 : decode cX7_sealedSuits 16 = .ok (.getfield 38, 3) := by decide +kernel
theorem dX7_sealedSuits_19 : decode cX7_sealedSuits 19 = .ok (.iload_n 2, 1) := by decide +kernel
theorem dX7_sealedSuits_20 : decode cX7_sealedSuits 20 = .ok (.invokevirtual 286, 3) := by decide +kernel
theorem dX7_sealedSuits_23 : decode cX7_sealedSuits 23 = .ok (.checkcast 163, 3) := by decide +kernel
theorem dX7_sealedSuits_26 : decode cX7_sealedSuits 26 = .ok (.aload_n 0, 1) := by decide +kernel
theorem dX7_sealedSuits_27 : decode cX7_sealedSuits 27 = .ok (.getfield 51, 3) := by decide +kernel
theorem dX7_sealedSuits_30 : decode cX7_sealedSuits 30 = .ok (.invokevirtual 186, 3) := by decide +kernel
theorem dX7_sealedSuits_33 : decode cX7_sealedSuits 33 = .ok (.ifCond .eq 6, 3) := by decide +kernel
theorem dX7_sealedSuits_36 : decode cX7_sealedSuits 36 = .ok (.iinc 1 1, 3) := by decide +kernel
theorem dX7_sealedSuits_39 : decode cX7_sealedSuits 39 = .ok (.iinc 2 1, 3) := by decide +kernel
theorem dX7_sealedSuits_42 : decode cX7_sealedSuits 42 = .ok (.goto (-38), 3) := by decide +kernel
theorem dX7_sealedSuits_45 : decode cX7_sealedSuits 45 = .ok (.iload_n 1, 1) := by decide +kernel
theorem dX7_sealedSuits_46 : decode cX7_sealedSuits 46 = .ok (.ireturn, 1) := by decide +kernel
theorem dX7_dueBy_0 : decode cX7_dueBy 0 = .ok (.aload_n 1, 1) := by decide +kernel
theorem dX7_dueBy_1 : decode cX7_dueBy 1 = .ok (.invokevirtual 175, 3) := by decide +kernel
theorem dX7_dueBy_4 : decode cX7_dueBy 4 = .ok (.ifCond .eq 5, 3) := by decide +kernel
theorem dX7_dueBy_7 : decode cX7_dueBy 7 = .ok (.iconst 0, 1) := by decide +kernel
theorem dX7_dueBy_8 : decode cX7_dueBy 8 = .ok (.ireturn, 1) := by decide +kernel
theorem dX7_dueBy_9 : decode cX7_dueBy 9 = .ok (.iconst 0, 1) := by decide +kernel
theorem dX7_dueBy_10 : decode cX7_dueBy 10 = .ok (.istore_n 2, 1) := by decide +kernel
theorem dX7_dueBy_11 : decode cX7_dueBy 11 = .ok (.iconst 0, 1) := by decide +kernel
theorem dX7_dueBy_12 : decode cX7_dueBy 12 = .ok (.istore_n 3, 1) := by decide +kernel
theorem dX7_dueBy_13 : decode cX7_dueBy 13 = .ok (.iload_n 3, 1) := by decide +kernel
theorem dX7_dueBy_14 : decode cX7_dueBy 14 = .ok (.aload_n 0, 1) := by decide +kernel
theorem dX7_dueBy_15 : decode cX7_dueBy 15 = .ok (.getfield 28, 3) := by decide +kernel
theorem dX7_dueBy_18 : decode cX7_dueBy 18 = .ok (.invokevirtual 90, 3) := by decide +kernel
theorem dX7_dueBy_21 : decode cX7_dueBy 21 = .ok (.if_icmp .ge 42, 3) := by decide +kernel
theorem dX7_dueBy_24 : decode cX7_dueBy 24 = .ok (.aload_n 0, 1) := by decide +kernel
theorem dX7_dueBy_25 : decode cX7_dueBy 25 = .ok (.getfield 28, 3) := by decide +kernel
theorem dX7_dueBy_28 : decode cX7_dueBy 28 = .ok (.iload_n 3, 1) := by decide +kernel
theorem dX7_dueBy_29 : decode cX7_dueBy 29 = .ok (.invokevirtual 286, 3) := by decide +kernel
theorem dX7_dueBy_32 : decode cX7_dueBy 32 = .ok (.checkcast 94, 3) := by decide +kernel
theorem dX7_dueBy_35 : decode cX7_dueBy 35 = .ok (.astore 4, 2) := by decide +kernel
theorem dX7_dueBy_37 : decode cX7_dueBy 37 = .ok (.aload_n 0, 1) := by decide +kernel
theorem dX7_dueBy_38 : decode cX7_dueBy 38 = .ok (.aload_n 1, 1) := by decide +kernel
theorem dX7_dueBy_39 : decode cX7_dueBy 39 = .ok (.aload 4, 2) := by decide +kernel
theorem dX7_dueBy_41 : decode cX7_dueBy 41 = .ok (.invokevirtual 262, 3) := by decide +kernel
theorem dX7_dueBy_44 : decode cX7_dueBy 44 = .ok (.ifCond .ne 13, 3) := by decide +kernel
theorem dX7_dueBy_47 : decode cX7_dueBy 47 = .ok (.iload_n 2, 1) := by decide +kernel
theorem dX7_dueBy_48 : decode cX7_dueBy 48 = .ok (.aload_n 0, 1) := by decide +kernel
theorem dX7_dueBy_49 : decode cX7_dueBy 49 = .ok (.aload_n 1, 1) := by decide +kernel
theorem dX7_dueBy_50 : decode cX7_dueBy 50 = .ok (.aload 4, 2) := by decide +kernel
theorem dX7_dueBy_52 : decode cX7_dueBy 52 = .ok (.invokevirtual 345, 3) := by decide +kernel
theorem dX7_dueBy_55 : decode cX7_dueBy 55 = .ok (.iadd, 1) := by decide +kernel
theorem dX7_dueBy_56 : decode cX7_dueBy 56 = .ok (.istore_n 2, 1) := by decide +kernel
theorem dX7_dueBy_57 : decode cX7_dueBy 57 = .ok (.iinc 3 1, 3) := by decide +kernel
theorem dX7_dueBy_60 : decode cX7_dueBy 60 = .ok (.goto (-47), 3) := by decide +kernel
theorem dX7_dueBy_63 : decode cX7_dueBy 63 = .ok (.iload_n 2, 1) := by decide +kernel
theorem dX7_dueBy_64 : decode cX7_dueBy 64 = .ok (.ireturn, 1) := by decide +kernel
theorem dX7_sumFor_0 : decode cX7_sumFor 0 = .ok (.aload_n 1, 1) := by decide +kernel
theorem dX7_sumFor_1 : decode cX7_sumFor 1 = .ok (.aload_n 2, 1) := by decide +kernel
theorem dX7_sumFor_2 : decode cX7_sumFor 2 = .ok (.invokevirtual 258, 3) := by decide +kernel
theorem dX7_sumFor_5 : decode cX7_sumFor 5 = .ok (.istore_n 3, 1) := by decide +kernel
theorem dX7_sumFor_6 : decode cX7_sumFor 6 = .ok (.iconst 0, 1) := by decide +kernel
theorem dX7_sumFor_7 : decode cX7_sumFor 7 = .ok (.istore 4, 2) := by decide +kernel
theorem dX7_sumFor_9 : decode cX7_sumFor 9 = .ok (.iconst 0, 1) := by decide +kernel
theorem dX7_sumFor_10 : decode cX7_sumFor 10 = .ok (.istore 5, 2) := by decide +kernel
theorem dX7_sumFor_12 : decode cX7_sumFor 12 = .ok (.iconst 0, 1) := by decide +kernel
theorem dX7_sumFor_13 : decode cX7_sumFor 13 = .ok (.istore 6, 2) := by decide +kernel
theorem dX7_sumFor_15 : decode cX7_sumFor 15 = .ok (.iload 6, 2) := by decide +kernel
theorem dX7_sumFor_17 : decode cX7_sumFor 17 = .ok (.aload_n 0, 1) := by decide +kernel
theorem dX7_sumFor_18 : decode cX7_sumFor 18 = .ok (.getfield 32, 3) := by decide +kernel
theorem dX7_sumFor_21 : decode cX7_sumFor 21 = .ok (.invokevirtual 90, 3) := by decide +kernel
theorem dX7_sumFor_24 : decode cX7_sumFor 24 = .ok (.if_icmp .ge 46, 3) := by decide +kernel
theorem dX7_sumFor_27 : decode cX7_sumFor 27 = .ok (.aload_n 0, 1) := by decide +kernel
theorem dX7_sumFor_28 : decode cX7_sumFor 28 = .ok (.getfield 32, 3) := by decide +kernel
theorem dX7_sumFor_31 : decode cX7_sumFor 31 = .ok (.iload 6, 2) := by decide +kernel
theorem dX7_sumFor_33 : decode cX7_sumFor 33 = .ok (.invokevirtual 286, 3) := by decide +kernel
theorem dX7_sumFor_36 : decode cX7_sumFor 36 = .ok (.checkcast 103, 3) := by decide +kernel
theorem dX7_sumFor_39 : decode cX7_sumFor 39 = .ok (.astore 7, 2) := by decide +kernel
theorem dX7_sumFor_41 : decode cX7_sumFor 41 = .ok (.aload 7, 2) := by decide +kernel
theorem dX7_sumFor_43 : decode cX7_sumFor 43 = .ok (.aload_n 2, 1) := by decide +kernel
theorem dX7_sumFor_44 : decode cX7_sumFor 44 = .ok (.iload_n 3, 1) := by decide +kernel
theorem dX7_sumFor_45 : decode cX7_sumFor 45 = .ok (.invokestatic 348, 3) := by decide +kernel
theorem dX7_sumFor_48 : decode cX7_sumFor 48 = .ok (.ifCond .eq 16, 3) := by decide +kernel
theorem dX7_sumFor_51 : decode cX7_sumFor 51 = .ok (.iload 4, 2) := by decide +kernel
theorem dX7_sumFor_53 : decode cX7_sumFor 53 = .ok (.aload 7, 2) := by decide +kernel
theorem dX7_sumFor_55 : decode cX7_sumFor 55 = .ok (.getfield 293, 3) := by decide +kernel
theorem dX7_sumFor_58 : decode cX7_sumFor 58 = .ok (.iadd, 1) := by decide +kernel
theorem dX7_sumFor_59 : decode cX7_sumFor 59 = .ok (.istore 4, 2) := by decide +kernel
theorem dX7_sumFor_61 : decode cX7_sumFor 61 = .ok (.iinc 5 1, 3) := by decide +kernel
theorem dX7_sumFor_64 : decode cX7_sumFor 64 = .ok (.iinc 6 1, 3) := by decide +kernel
theorem dX7_sumFor_67 : decode cX7_sumFor 67 = .ok (.goto (-52), 3) := by decide +kernel
theorem dX7_sumFor_70 : decode cX7_sumFor 70 = .ok (.aload_n 2, 1) := by decide +kernel
theorem dX7_sumFor_71 : decode cX7_sumFor 71 = .ok (.getfield 147, 3) := by decide +kernel
theorem dX7_sumFor_74 : decode cX7_sumFor 74 = .ok (.ifCond .eq 7, 3) := by decide +kernel
theorem dX7_sumFor_77 : decode cX7_sumFor 77 = .ok (.iconst 2, 1) := by decide +kernel
theorem dX7_sumFor_78 : decode cX7_sumFor 78 = .ok (.goto 4, 3) := by decide +kernel
theorem dX7_sumFor_81 : decode cX7_sumFor 81 = .ok (.iconst 3, 1) := by decide +kernel
theorem dX7_sumFor_82 : decode cX7_sumFor 82 = .ok (.istore 6, 2) := by decide +kernel
theorem dX7_sumFor_84 : decode cX7_sumFor 84 = .ok (.aload_n 2, 1) := by decide +kernel
theorem dX7_sumFor_85 : decode cX7_sumFor 85 = .ok (.iload 4, 2) := by decide +kernel
theorem dX7_sumFor_87 : decode cX7_sumFor 87 = .ok (.invokevirtual 352, 3) := by decide +kernel
theorem dX7_sumFor_90 : decode cX7_sumFor 90 = .ok (.iload 6, 2) := by decide +kernel
theorem dX7_sumFor_92 : decode cX7_sumFor 92 = .ok (.imul, 1) := by decide +kernel
theorem dX7_sumFor_93 : decode cX7_sumFor 93 = .ok (.aload_n 2, 1) := by decide +kernel
theorem dX7_sumFor_94 : decode cX7_sumFor 94 = .ok (.iload 5, 2) := by decide +kernel
theorem dX7_sumFor_96 : decode cX7_sumFor 96 = .ok (.invokevirtual 352, 3) := by decide +kernel
theorem dX7_sumFor_99 : decode cX7_sumFor 99 = .ok (.aload_n 2, 1) := by decide +kernel
theorem dX7_sumFor_100 : decode cX7_sumFor 100 = .ok (.invokevirtual 355, 3) := by decide +kernel
theorem dX7_sumFor_103 : decode cX7_sumFor 103 = .ok (.imul, 1) := by decide +kernel
theorem dX7_sumFor_104 : decode cX7_sumFor 104 = .ok (.iadd, 1) := by decide +kernel
theorem dX7_sumFor_105 : decode cX7_sumFor 105 = .ok (.ireturn, 1) := by decide +kernel
theorem dX7_counts_0 : decode cX7_counts 0 = .ok (.aload_n 0, 1) := by decide +kernel
theorem dX7_counts_1 : decode cX7_counts 1 = .ok (.getfield 290, 3) := by decide +kernel
theorem dX7_counts_4 : decode cX7_counts 4 = .ok (.aload_n 1, 1) := by decide +kernel
theorem dX7_counts_5 : decode cX7_counts 5 = .ok (.getfield 358, 3) := by decide +kernel
theorem dX7_counts_8 : decode cX7_counts 8 = .ok (.if_icmp .ne 46, 3) := by decide +kernel
theorem dX7_counts_11 : decode cX7_counts 11 = .ok (.aload_n 0, 1) := by decide +kernel
theorem dX7_counts_12 : decode cX7_counts 12 = .ok (.getfield 299, 3) := by decide +kernel
theorem dX7_counts_15 : decode cX7_counts 15 = .ok (.iconst (-1), 1) := by decide +kernel
theorem dX7_counts_16 : decode cX7_counts 16 = .ok (.if_icmp .ne 38, 3) := by decide +kernel
theorem dX7_counts_19 : decode cX7_counts 19 = .ok (.aload_n 0, 1) := by decide +kernel
theorem dX7_counts_20 : decode cX7_counts 20 = .ok (.getfield 296, 3) := by decide +kernel
theorem dX7_counts_23 : decode cX7_counts 23 = .ok (.iload_n 2, 1) := by decide +kernel
theorem dX7_counts_24 : decode cX7_counts 24 = .ok (.sipush 600, 3) := by decide +kernel
theorem dX7_counts_27 : decode cX7_counts 27 = .ok (.isub, 1) := by decide +kernel
theorem dX7_counts_28 : decode cX7_counts 28 = .ok (.if_icmp .lt 26, 3) := by decide +kernel
theorem dX7_counts_31 : decode cX7_counts 31 = .ok (.aload_n 1, 1) := by decide +kernel
theorem dX7_counts_32 : decode cX7_counts 32 = .ok (.getfield 140, 3) := by decide +kernel
theorem dX7_counts_35 : decode cX7_counts 35 = .ok (.iconst (-1), 1) := by decide +kernel
theorem dX7_counts_36 : decode cX7_counts 36 = .ok (.if_icmp .eq 14, 3) := by decide +kernel
theorem dX7_counts_39 : decode cX7_counts 39 = .ok (.aload_n 0, 1) := by decide +kernel
theorem dX7_counts_40 : decode cX7_counts 40 = .ok (.getfield 296, 3) := by decide +kernel
theorem dX7_counts_43 : decode cX7_counts 43 = .ok (.aload_n 1, 1) := by decide +kernel
theorem dX7_counts_44 : decode cX7_counts 44 = .ok (.getfield 140, 3) := by decide +kernel
theorem dX7_counts_47 : decode cX7_counts 47 = .ok (.if_icmp .ge 7, 3) := by decide +kernel
theorem dX7_counts_50 : decode cX7_counts 50 = .ok (.iconst 1, 1) := by decide +kernel
theorem dX7_counts_51 : decode cX7_counts 51 = .ok (.goto 4, 3) := by decide +kernel
theorem dX7_counts_54 : decode cX7_counts 54 = .ok (.iconst 0, 1) := by decide +kernel
theorem dX7_counts_55 : decode cX7_counts 55 = .ok (.ireturn, 1) := by decide +kernel
theorem dX7_hundredthsOf_0 : decode cX7_hundredthsOf 0 = .ok (.aload_n 1, 1) := by decide +kernel
theorem dX7_hundredthsOf_1 : decode cX7_hundredthsOf 1 = .ok (.getfield 195, 3) := by decide +kernel
theorem dX7_hundredthsOf_4 : decode cX7_hundredthsOf 4 = .ok (.iconst 4, 1) := by decide +kernel
theorem dX7_hundredthsOf_5 : decode cX7_hundredthsOf 5 = .ok (.if_icmp .ne 8, 3) := by decide +kernel
theorem dX7_hundredthsOf_8 : decode cX7_hundredthsOf 8 = .ok (.aload_n 1, 1) := by decide +kernel
theorem dX7_hundredthsOf_9 : decode cX7_hundredthsOf 9 = .ok (.getfield 359, 3) := by decide +kernel
theorem dX7_hundredthsOf_12 : decode cX7_hundredthsOf 12 = .ok (.ireturn, 1) := by decide +kernel
theorem dX7_hundredthsOf_13 : decode cX7_hundredthsOf 13 = .ok (.aload_n 1, 1) := by decide +kernel
theorem dX7_hundredthsOf_14 : decode cX7_hundredthsOf 14 = .ok (.invokevirtual 210, 3) := by decide +kernel
theorem dX7_hundredthsOf_17 : decode cX7_hundredthsOf 17 = .ok (.ifCond .ne 5, 3) := by decide +kernel
theorem dX7_hundredthsOf_20 : decode cX7_hundredthsOf 20 = .ok (.iconst 0, 1) := by decide +kernel
theorem dX7_hundredthsOf_21 : decode cX7_hundredthsOf 21 = .ok (.ireturn, 1) := by decide +kernel
theorem dX7_hundredthsOf_22 : decode cX7_hundredthsOf 22 = .ok (.aload_n 1, 1) := by decide +kernel
theorem dX7_hundredthsOf_23 : decode cX7_hundredthsOf 23 = .ok (.getfield 195, 3) := by decide +kernel
theorem dX7_hundredthsOf_26 : decode cX7_hundredthsOf 26 = .ok (.iconst 1, 1) := by decide +kernel
theorem dX7_hundredthsOf_27 : decode cX7_hundredthsOf 27 = .ok (.if_icmp .ne 13, 3) := by decide +kernel
theorem dX7_hundredthsOf_30 : decode cX7_hundredthsOf 30 = .ok (.bipush 15, 2) := by decide +kernel
theorem dX7_hundredthsOf_32 : decode cX7_hundredthsOf 32 = .ok (.aload_n 1, 1) := by decide +kernel
theorem dX7_hundredthsOf_33 : decode cX7_hundredthsOf 33 = .ok (.getfield 207, 3) := by decide +kernel
theorem dX7_hundredthsOf_36 : decode cX7_hundredthsOf 36 = .ok (.iadd, 1) := by decide +kernel
theorem dX7_hundredthsOf_37 : decode cX7_hundredthsOf 37 = .ok (.goto 12, 3) := by decide +kernel
theorem dX7_hundredthsOf_40 : decode cX7_hundredthsOf 40 = .ok (.bipush 25, 2) := by decide +kernel
theorem dX7_hundredthsOf_42 : decode cX7_hundredthsOf 42 = .ok (.aload_n 1, 1) := by decide +kernel
theorem dX7_hundredthsOf_43 : decode cX7_hundredthsOf 43 = .ok (.getfield 207, 3) := by decide +kernel
theorem dX7_hundredthsOf_46 : decode cX7_hundredthsOf 46 = .ok (.iconst 2, 1) := by decide +kernel
theorem dX7_hundredthsOf_47 : decode cX7_hundredthsOf 47 = .ok (.idiv, 1) := by decide +kernel
theorem dX7_hundredthsOf_48 : decode cX7_hundredthsOf 48 = .ok (.iadd, 1) := by decide +kernel
theorem dX7_hundredthsOf_49 : decode cX7_hundredthsOf 49 = .ok (.istore_n 2, 1) := by decide +kernel
theorem dX7_hundredthsOf_50 : decode cX7_hundredthsOf 50 = .ok (.iconst 0, 1) := by decide +kernel
theorem dX7_hundredthsOf_51 : decode cX7_hundredthsOf 51 = .ok (.istore_n 3, 1) := by decide +kernel
theorem dX7_hundredthsOf_52 : decode cX7_hundredthsOf 52 = .ok (.iload_n 3, 1) := by decide +kernel
theorem dX7_hundredthsOf_53 : decode cX7_hundredthsOf 53 = .ok (.aload_n 0, 1) := by decide +kernel
theorem dX7_hundredthsOf_54 : decode cX7_hundredthsOf 54 = .ok (.getfield 28, 3) := by decide +kernel
theorem dX7_hundredthsOf_57 : decode cX7_hundredthsOf 57 = .ok (.invokevirtual 90, 3) := by decide +kernel
theorem dX7_hundredthsOf_60 : decode cX7_hundredthsOf 60 = .ok (.if_icmp .ge 48, 3) := by decide +kernel
theorem dX7_hundredthsOf_63 : decode cX7_hundredthsOf 63 = .ok (.aload_n 0, 1) := by decide +kernel
theorem dX7_hundredthsOf_64 : decode cX7_hundredthsOf 64 = .ok (.getfield 28, 3) := by decide +kernel
theorem dX7_hundredthsOf_67 : decode cX7_hundredthsOf 67 = .ok (.iload_n 3, 1) := by decide +kernel
theorem dX7_hundredthsOf_68 : decode cX7_hundredthsOf 68 = .ok (.invokevirtual 286, 3) := by decide +kernel
theorem dX7_hundredthsOf_71 : decode cX7_hundredthsOf 71 = .ok (.checkcast 94, 3) := by decide +kernel
theorem dX7_hundredthsOf_74 : decode cX7_hundredthsOf 74 = .ok (.astore 4, 2) := by decide +kernel
theorem dX7_hundredthsOf_76 : decode cX7_hundredthsOf 76 = .ok (.aload 4, 2) := by decide +kernel
theorem dX7_hundredthsOf_78 : decode cX7_hundredthsOf 78 = .ok (.aload_n 1, 1) := by decide +kernel
theorem dX7_hundredthsOf_79 : decode cX7_hundredthsOf 79 = .ok (.getfield 179, 3) := by decide +kernel
theorem dX7_hundredthsOf_82 : decode cX7_hundredthsOf 82 = .ok (.invokevirtual 133, 3) := by decide +kernel
theorem dX7_hundredthsOf_85 : decode cX7_hundredthsOf 85 = .ok (.ifCond .eq 17, 3) := by decide +kernel
theorem dX7_hundredthsOf_88 : decode cX7_hundredthsOf 88 = .ok (.aload_n 0, 1) := by decide +kernel
theorem dX7_hundredthsOf_89 : decode cX7_hundredthsOf 89 = .ok (.aload_n 1, 1) := by decide +kernel
theorem dX7_hundredthsOf_90 : decode cX7_hundredthsOf 90 = .ok (.aload 4, 2) := by decide +kernel
theorem dX7_hundredthsOf_92 : decode cX7_hundredthsOf 92 = .ok (.invokevirtual 262, 3) := by decide +kernel
theorem dX7_hundredthsOf_95 : decode cX7_hundredthsOf 95 = .ok (.ifCond .ne 7, 3) := by decide +kernel
theorem dX7_hundredthsOf_98 : decode cX7_hundredthsOf 98 = .ok (.iload_n 2, 1) := by decide +kernel
theorem dX7_hundredthsOf_99 : decode cX7_hundredthsOf 99 = .ok (.iconst 2, 1) := by decide +kernel
theorem dX7_hundredthsOf_100 : decode cX7_hundredthsOf 100 = .ok (.idiv, 1) := by decide +kernel
theorem dX7_hundredthsOf_101 : decode cX7_hundredthsOf 101 = .ok (.ireturn, 1) := by decide +kernel
theorem dX7_hundredthsOf_102 : decode cX7_hundredthsOf 102 = .ok (.iinc 3 1, 3) := by decide +kernel
theorem dX7_hundredthsOf_105 : decode cX7_hundredthsOf 105 = .ok (.goto (-53), 3) := by decide +kernel
theorem dX7_hundredthsOf_108 : decode cX7_hundredthsOf 108 = .ok (.iload_n 2, 1) := by decide +kernel
theorem dX7_hundredthsOf_109 : decode cX7_hundredthsOf 109 = .ok (.ireturn, 1) := by decide +kernel
theorem dX7_win_0 : decode cX7_win 0 = .ok (.aload_n 1, 1) := by decide +kernel
theorem dX7_win_1 : decode cX7_win 1 = .ok (.aload_n 0, 1) := by decide +kernel
theorem dX7_win_2 : decode cX7_win 2 = .ok (.aload_n 1, 1) := by decide +kernel
theorem dX7_win_3 : decode cX7_win 3 = .ok (.invokevirtual 276, 3) := by decide +kernel
theorem dX7_win_6 : decode cX7_win 6 = .ok (.putfield 359, 3) := by decide +kernel
theorem dX7_win_9 : decode cX7_win 9 = .ok (.aload_n 0, 1) := by decide +kernel
theorem dX7_win_10 : decode cX7_win 10 = .ok (.aload_n 1, 1) := by decide +kernel
theorem dX7_win_11 : decode cX7_win 11 = .ok (.invokevirtual 362, 3) := by decide +kernel
theorem dX7_win_14 : decode cX7_win 14 = .ok (.aload_n 1, 1) := by decide +kernel
theorem dX7_win_15 : decode cX7_win 15 = .ok (.iconst 4, 1) := by decide +kernel
theorem dX7_win_16 : decode cX7_win 16 = .ok (.putfield 195, 3) := by decide +kernel
theorem dX7_win_19 : decode cX7_win 19 = .ok (.aload_n 1, 1) := by decide +kernel
theorem dX7_win_20 : decode cX7_win 20 = .ok (.iload_n 2, 1) := by decide +kernel
theorem dX7_win_21 : decode cX7_win 21 = .ok (.putfield 224, 3) := by decide +kernel
theorem dX7_win_24 : decode cX7_win 24 = .ok (.aload_n 1, 1) := by decide +kernel
theorem dX7_win_25 : decode cX7_win 25 = .ok (.iload_n 2, 1) := by decide +kernel
theorem dX7_win_26 : decode cX7_win 26 = .ok (.aload_n 1, 1) := by decide +kernel
theorem dX7_win_27 : decode cX7_win 27 = .ok (.getfield 359, 3) := by decide +kernel
theorem dX7_win_30 : decode cX7_win 30 = .ok (.invokestatic 366, 3) := by decide +kernel
theorem dX7_win_33 : decode cX7_win 33 = .ok (.putfield 227, 3) := by decide +kernel
theorem dX7_win_36 : decode cX7_win 36 = .ok (.aload_n 0, 1) := by decide +kernel
theorem dX7_win_37 : decode cX7_win 37 = .ok (.aload_n 1, 1) := by decide +kernel
theorem dX7_win_38 : decode cX7_win 38 = .ok (.getfield 217, 3) := by decide +kernel
theorem dX7_win_41 : decode cX7_win 41 = .ok (.invokevirtual 65, 3) := by decide +kernel
theorem dX7_win_44 : decode cX7_win 44 = .ok (.astore_n 3, 1) := by decide +kernel
theorem dX7_win_45 : decode cX7_win 45 = .ok (.aload_n 3, 1) := by decide +kernel
theorem dX7_win_46 : decode cX7_win 46 = .ok (.dup, 1) := by decide +kernel
theorem dX7_win_47 : decode cX7_win 47 = .ok (.getfield 74, 3) := by decide +kernel
theorem dX7_win_50 : decode cX7_win 50 = .ok (.iload_n 2, 1) := by decide +kernel
theorem dX7_win_51 : decode cX7_win 51 = .ok (.isub, 1) := by decide +kernel
theorem dX7_win_52 : decode cX7_win 52 = .ok (.putfield 74, 3) := by decide +kernel
theorem dX7_win_55 : decode cX7_win 55 = .ok (.aload_n 3, 1) := by decide +kernel
theorem dX7_win_56 : decode cX7_win 56 = .ok (.dup, 1) := by decide +kernel
theorem dX7_win_57 : decode cX7_win 57 = .ok (.getfield 312, 3) := by decide +kernel
theorem dX7_win_60 : decode cX7_win 60 = .ok (.iload_n 2, 1) := by decide +kernel
theorem dX7_win_61 : decode cX7_win 61 = .ok (.iadd, 1) := by decide +kernel
theorem dX7_win_62 : decode cX7_win 62 = .ok (.putfield 312, 3) := by decide +kernel
theorem dX7_win_65 : decode cX7_win 65 = .ok (.aload_n 0, 1) := by decide +kernel
theorem dX7_win_66 : decode cX7_win 66 = .ok (.dup, 1) := by decide +kernel
theorem dX7_win_67 : decode cX7_win 67 = .ok (.getfield 54, 3) := by decide +kernel
theorem dX7_win_70 : decode cX7_win 70 = .ok (.iload_n 2, 1) := by decide +kernel
theorem dX7_win_71 : decode cX7_win 71 = .ok (.aload_n 1, 1) := by decide +kernel
theorem dX7_win_72 : decode cX7_win 72 = .ok (.getfield 227, 3) := by decide +kernel
theorem dX7_win_75 : decode cX7_win 75 = .ok (.isub, 1) := by decide +kernel
theorem dX7_win_76 : decode cX7_win 76 = .ok (.iadd, 1) := by decide +kernel
theorem dX7_win_77 : decode cX7_win 77 = .ok (.putfield 54, 3) := by decide +kernel
theorem dX7_win_80 : decode cX7_win 80 = .ok (.aload_n 0, 1) := by decide +kernel
theorem dX7_win_81 : decode cX7_win 81 = .ok (.aload_n 1, 1) := by decide +kernel
theorem dX7_win_82 : decode cX7_win 82 = .ok (.invokevirtual 369, 3) := by decide +kernel
theorem dX7_win_85 : decode cX7_win 85 = .ok (.return_, 1) := by decide +kernel
theorem dX7_payClaims_0 : decode cX7_payClaims 0 = .ok (.iconst 0, 1) := by decide +kernel
theorem dX7_payClaims_1 : decode cX7_payClaims 1 = .ok (.istore_n 2, 1) := by decide +kernel
theorem dX7_payClaims_2 : decode cX7_payClaims 2 = .ok (.iload_n 2, 1) := by decide +kernel
theorem dX7_payClaims_3 : decode cX7_payClaims 3 = .ok (.aload_n 0, 1) := by decide +kernel
theorem dX7_payClaims_4 : decode cX7_payClaims 4 = .ok (.getfield 28, 3) := by decide +kernel
theorem dX7_payClaims_7 : decode cX7_payClaims 7 = .ok (.invokevirtual 90, 3) := by decide +kernel
theorem dX7_payClaims_10 : decode cX7_payClaims 10 = .ok (.if_icmp .ge 36, 3) := by decide +kernel
theorem dX7_payClaims_13 : decode cX7_payClaims 13 = .ok (.aload_n 0, 1) := by decide +kernel
theorem dX7_payClaims_14 : decode cX7_payClaims 14 = .ok (.getfield 28, 3) := by decide +kernel
theorem dX7_payClaims_17 : decode cX7_payClaims 17 = .ok (.iload_n 2, 1) := by decide +kernel
theorem dX7_payClaims_18 : decode cX7_payClaims 18 = .ok (.invokevirtual 286, 3) := by decide +kernel
theorem dX7_payClaims_21 : decode cX7_payClaims 21 = .ok (.checkcast 94, 3) := by decide +kernel
theorem dX7_payClaims_24 : decode cX7_payClaims 24 = .ok (.astore_n 3, 1) := by decide +kernel
theorem dX7_payClaims_25 : decode cX7_payClaims 25 = .ok (.aload_n 0, 1) := by decide +kernel
theorem dX7_payClaims_26 : decode cX7_payClaims 26 = .ok (.aload_n 1, 1) := by decide +kernel
theorem dX7_payClaims_27 : decode cX7_payClaims 27 = .ok (.aload_n 3, 1) := by decide +kernel
theorem dX7_payClaims_28 : decode cX7_payClaims 28 = .ok (.invokevirtual 262, 3) := by decide +kernel
theorem dX7_payClaims_31 : decode cX7_payClaims 31 = .ok (.ifCond .ne 9, 3) := by decide +kernel
theorem dX7_payClaims_34 : decode cX7_payClaims 34 = .ok (.aload_n 0, 1) := by decide +kernel
theorem dX7_payClaims_35 : decode cX7_payClaims 35 = .ok (.aload_n 3, 1) := by decide +kernel
theorem dX7_payClaims_36 : decode cX7_payClaims 36 = .ok (.aload_n 1, 1) := by decide +kernel
theorem dX7_payClaims_37 : decode cX7_payClaims 37 = .ok (.invokevirtual 372, 3) := by decide +kernel
theorem dX7_payClaims_40 : decode cX7_payClaims 40 = .ok (.iinc 2 1, 3) := by decide +kernel
theorem dX7_payClaims_43 : decode cX7_payClaims 43 = .ok (.goto (-41), 3) := by decide +kernel
theorem dX7_payClaims_46 : decode cX7_payClaims 46 = .ok (.return_, 1) := by decide +kernel
theorem dX7_payClaimsOf_0 : decode cX7_payClaimsOf 0 = .ok (.aload_n 2, 1) := by decide +kernel
theorem dX7_payClaimsOf_1 : decode cX7_payClaimsOf 1 = .ok (.aload_n 1, 1) := by decide +kernel
theorem dX7_payClaimsOf_2 : decode cX7_payClaimsOf 2 = .ok (.invokevirtual 258, 3) := by decide +kernel
theorem dX7_payClaimsOf_5 : decode cX7_payClaimsOf 5 = .ok (.istore_n 3, 1) := by decide +kernel
theorem dX7_payClaimsOf_6 : decode cX7_payClaimsOf 6 = .ok (.iconst 0, 1) := by decide +kernel
theorem dX7_payClaimsOf_7 : decode cX7_payClaimsOf 7 = .ok (.istore 4, 2) := by decide +kernel
theorem dX7_payClaimsOf_9 : decode cX7_payClaimsOf 9 = .ok (.iload 4, 2) := by decide +kernel
theorem dX7_payClaimsOf_11 : decode cX7_payClaimsOf 11 = .ok (.aload_n 0, 1) := by decide +kernel
theorem dX7_payClaimsOf_12 : decode cX7_payClaimsOf 12 = .ok (.getfield 32, 3) := by decide +kernel
theorem dX7_payClaimsOf_15 : decode cX7_payClaimsOf 15 = .ok (.invokevirtual 90, 3) := by decide +kernel
theorem dX7_payClaimsOf_18 : decode cX7_payClaimsOf 18 = .ok (.if_icmp .ge 42, 3) := by decide +kernel
theorem dX7_payClaimsOf_21 : decode cX7_payClaimsOf 21 = .ok (.aload_n 0, 1) := by decide +kernel
theorem dX7_payClaimsOf_22 : decode cX7_payClaimsOf 22 = .ok (.getfield 32, 3) := by decide +kernel
theorem dX7_payClaimsOf_25 : decode cX7_payClaimsOf 25 = .ok (.iload 4, 2) := by decide +kernel
theorem dX7_payClaimsOf_27 : decode cX7_payClaimsOf 27 = .ok (.invokevirtual 286, 3) := by decide +kernel
theorem dX7_payClaimsOf_30 : decode cX7_payClaimsOf 30 = .ok (.checkcast 103, 3) := by decide +kernel
theorem dX7_payClaimsOf_33 : decode cX7_payClaimsOf 33 = .ok (.astore 5, 2) := by decide +kernel
theorem dX7_payClaimsOf_35 : decode cX7_payClaimsOf 35 = .ok (.aload 5, 2) := by decide +kernel
theorem dX7_payClaimsOf_37 : decode cX7_payClaimsOf 37 = .ok (.aload_n 1, 1) := by decide +kernel
theorem dX7_payClaimsOf_38 : decode cX7_payClaimsOf 38 = .ok (.iload_n 3, 1) := by decide +kernel
theorem dX7_payClaimsOf_39 : decode cX7_payClaimsOf 39 = .ok (.invokestatic 348, 3) := by decide +kernel
theorem dX7_payClaimsOf_42 : decode cX7_payClaimsOf 42 = .ok (.ifCond .eq 12, 3) := by decide +kernel
theorem dX7_payClaimsOf_45 : decode cX7_payClaimsOf 45 = .ok (.aload 5, 2) := by decide +kernel
theorem dX7_payClaimsOf_47 : decode cX7_payClaimsOf 47 = .ok (.aload_n 2, 1) := by decide +kernel
theorem dX7_payClaimsOf_48 : decode cX7_payClaimsOf 48 = .ok (.getfield 334, 3) := by decide +kernel
theorem dX7_payClaimsOf_51 : decode cX7_payClaimsOf 51 = .ok (.putfield 299, 3) := by decide +kernel
theorem dX7_payClaimsOf_54 : decode cX7_payClaimsOf 54 = .ok (.iinc 4 1, 3) := by decide +kernel
theorem dX7_payClaimsOf_57 : decode cX7_payClaimsOf 57 = .ok (.goto (-48), 3) := by decide +kernel
theorem dX7_payClaimsOf_60 : decode cX7_payClaimsOf 60 = .ok (.return_, 1) := by decide +kernel
theorem dX7_partShare_0 : decode cX7_partShare 0 = .ok (.aload_n 1, 1) := by decide +kernel
theorem dX7_partShare_1 : decode cX7_partShare 1 = .ok (.getfield 227, 3) := by decide +kernel
theorem dX7_partShare_4 : decode cX7_partShare 4 = .ok (.istore_n 2, 1) := by decide +kernel
theorem dX7_partShare_5 : decode cX7_partShare 5 = .ok (.iconst 0, 1) := by decide +kernel
theorem dX7_partShare_6 : decode cX7_partShare 6 = .ok (.istore_n 3, 1) := by decide +kernel
theorem dX7_partShare_7 : decode cX7_partShare 7 = .ok (.iload_n 3, 1) := by decide +kernel
theorem dX7_partShare_8 : decode cX7_partShare 8 = .ok (.aload_n 0, 1) := by decide +kernel
theorem dX7_partShare_9 : decode cX7_partShare 9 = .ok (.getfield 35, 3) := by decide +kernel
theorem dX7_partShare_12 : decode cX7_partShare 12 = .ok (.invokevirtual 90, 3) := by decide +kernel
theorem dX7_partShare_15 : decode cX7_partShare 15 = .ok (.if_icmp .ge 84, 3) := by decide +kernel
theorem dX7_partShare_18 : decode cX7_partShare 18 = .ok (.aload_n 0, 1) := by decide +kernel
theorem dX7_partShare_19 : decode cX7_partShare 19 = .ok (.getfield 35, 3) := by decide +kernel
theorem dX7_partShare_22 : decode cX7_partShare 22 = .ok (.iload_n 3, 1) := by decide +kernel
theorem dX7_partShare_23 : decode cX7_partShare 23 = .ok (.invokevirtual 286, 3) := by decide +kernel
theorem dX7_partShare_26 : decode cX7_partShare 26 = .ok (.checkcast 157, 3) := by decide +kernel
theorem dX7_partShare_29 : decode cX7_partShare 29 = .ok (.astore 4, 2) := by decide +kernel
theorem dX7_partShare_31 : decode cX7_partShare 31 = .ok (.aload 4, 2) := by decide +kernel
theorem dX7_partShare_33 : decode cX7_partShare 33 = .ok (.getfield 376, 3) := by decide +kernel
theorem dX7_partShare_36 : decode cX7_partShare 36 = .ok (.aload_n 1, 1) := by decide +kernel
theorem dX7_partShare_37 : decode cX7_partShare 37 = .ok (.getfield 179, 3) := by decide +kernel
theorem dX7_partShare_40 : decode cX7_partShare 40 = .ok (.if_icmp .ne 53, 3) := by decide +kernel
theorem dX7_partShare_43 : decode cX7_partShare 43 = .ok (.aload 4, 2) := by decide +kernel
theorem dX7_partShare_45 : decode cX7_partShare 45 = .ok (.getfield 377, 3) := by decide +kernel
theorem dX7_partShare_48 : decode cX7_partShare 48 = .ok (.aload_n 1, 1) := by decide +kernel
theorem dX7_partShare_49 : decode cX7_partShare 49 = .ok (.getfield 273, 3) := by decide +kernel
theorem dX7_partShare_52 : decode cX7_partShare 52 = .ok (.if_icmp .ge 41, 3) := by decide +kernel
theorem dX7_partShare_55 : decode cX7_partShare 55 = .ok (.aload_n 1, 1) := by decide +kernel
theorem dX7_partShare_56 : decode cX7_partShare 56 = .ok (.getfield 227, 3) := by decide +kernel
theorem dX7_partShare_59 : decode cX7_partShare 59 = .ok (.aload 4, 2) := by decide +kernel
theorem dX7_partShare_61 : decode cX7_partShare 61 = .ok (.getfield 378, 3) := by decide +kernel
theorem dX7_partShare_64 : decode cX7_partShare 64 = .ok (.invokestatic 366, 3) := by decide +kernel
theorem dX7_partShare_67 : decode cX7_partShare 67 = .ok (.istore 5, 2) := by decide +kernel
theorem dX7_partShare_69 : decode cX7_partShare 69 = .ok (.aload_n 0, 1) := by decide +kernel
theorem dX7_partShare_70 : decode cX7_partShare 70 = .ok (.aload 4, 2) := by decide +kernel
theorem dX7_partShare_72 : decode cX7_partShare 72 = .ok (.getfield 379, 3) := by decide +kernel
theorem dX7_partShare_75 : decode cX7_partShare 75 = .ok (.invokevirtual 117, 3) := by decide +kernel
theorem dX7_partShare_78 : decode cX7_partShare 78 = .ok (.dup, 1) := by decide +kernel
theorem dX7_partShare_79 : decode cX7_partShare 79 = .ok (.getfield 307, 3) := by decide +kernel
theorem dX7_partShare_82 : decode cX7_partShare 82 = .ok (.iload 5, 2) := by decide +kernel
theorem dX7_partShare_84 : decode cX7_partShare 84 = .ok (.iadd, 1) := by decide +kernel
theorem dX7_partShare_85 : decode cX7_partShare 85 = .ok (.putfield 307, 3) := by decide +kernel
theorem dX7_partShare_88 : decode cX7_partShare 88 = .ok (.iload_n 2, 1) := by decide +kernel
theorem dX7_partShare_89 : decode cX7_partShare 89 = .ok (.iload 5, 2) := by decide +kernel
theorem dX7_partShare_91 : decode cX7_partShare 91 = .ok (.isub, 1) := by decide +kernel
theorem dX7_partShare_92 : decode cX7_partShare 92 = .ok (.istore_n 2, 1) := by decide +kernel
theorem dX7_partShare_93 : decode cX7_partShare 93 = .ok (.iinc 3 1, 3) := by decide +kernel
theorem dX7_partShare_96 : decode cX7_partShare 96 = .ok (.goto (-89), 3) := by decide +kernel
theorem dX7_partShare_99 : decode cX7_partShare 99 = .ok (.aload_n 0, 1) := by decide +kernel
theorem dX7_partShare_100 : decode cX7_partShare 100 = .ok (.aload_n 1, 1) := by decide +kernel
theorem dX7_partShare_101 : decode cX7_partShare 101 = .ok (.getfield 179, 3) := by decide +kernel
theorem dX7_partShare_104 : decode cX7_partShare 104 = .ok (.invokevirtual 117, 3) := by decide +kernel
theorem dX7_partShare_107 : decode cX7_partShare 107 = .ok (.dup, 1) := by decide +kernel
theorem dX7_partShare_108 : decode cX7_partShare 108 = .ok (.getfield 304, 3) := by decide +kernel
theorem dX7_partShare_111 : decode cX7_partShare 111 = .ok (.iload_n 2, 1) := by decide +kernel
theorem dX7_partShare_112 : decode cX7_partShare 112 = .ok (.iadd, 1) := by decide +kernel
theorem dX7_partShare_113 : decode cX7_partShare 113 = .ok (.putfield 304, 3) := by decide +kernel
theorem dX7_partShare_116 : decode cX7_partShare 116 = .ok (.return_, 1) := by decide +kernel
theorem dX7_hundredthsFrom_0 : decode cX7_hundredthsFrom 0 = .ok (.iload_n 0, 1) := by decide +kernel
theorem dX7_hundredthsFrom_1 : decode cX7_hundredthsFrom 1 = .ok (.i2l, 1) := by decide +kernel
theorem dX7_hundredthsFrom_2 : decode cX7_hundredthsFrom 2 = .ok (.iload_n 1, 1) := by decide +kernel
theorem dX7_hundredthsFrom_3 : decode cX7_hundredthsFrom 3 = .ok (.i2l, 1) := by decide +kernel
theorem dX7_hundredthsFrom_4 : decode cX7_hundredthsFrom 4 = .ok (.lmul, 1) := by decide +kernel
theorem dX7_hundredthsFrom_5 : decode cX7_hundredthsFrom 5 = .ok (.ldc2_w 382, 3) := by decide +kernel
theorem dX7_hundredthsFrom_8 : decode cX7_hundredthsFrom 8 = .ok (.ldiv, 1) := by decide +kernel
theorem dX7_hundredthsFrom_9 : decode cX7_hundredthsFrom 9 = .ok (.l2i, 1) := by decide +kernel
theorem dX7_hundredthsFrom_10 : decode cX7_hundredthsFrom 10 = .ok (.ireturn, 1) := by decide +kernel
theorem dX7_dayOfKnowing_0 : decode cX7_dayOfKnowing 0 = .ok (.aload_n 0, 1) := by decide +kernel
theorem dX7_dayOfKnowing_1 : decode cX7_dayOfKnowing 1 = .ok (.iload_n 1, 1) := by decide +kernel
theorem dX7_dayOfKnowing_2 : decode cX7_dayOfKnowing 2 = .ok (.invokevirtual 65, 3) := by decide +kernel
theorem dX7_dayOfKnowing_5 : decode cX7_dayOfKnowing 5 = .ok (.getfield 236, 3) := by decide +kernel
theorem dX7_dayOfKnowing_8 : decode cX7_dayOfKnowing 8 = .ok (.iload_n 2, 1) := by decide +kernel
theorem dX7_dayOfKnowing_9 : decode cX7_dayOfKnowing 9 = .ok (.iaload, 1) := by decide +kernel
theorem dX7_dayOfKnowing_10 : decode cX7_dayOfKnowing 10 = .ok (.istore_n 3, 1) := by decide +kernel
theorem dX7_dayOfKnowing_11 : decode cX7_dayOfKnowing 11 = .ok (.iconst 0, 1) := by decide +kernel
theorem dX7_dayOfKnowing_12 : decode cX7_dayOfKnowing 12 = .ok (.istore 4, 2) := by decide +kernel
theorem dX7_dayOfKnowing_14 : decode cX7_dayOfKnowing 14 = .ok (.iload 4, 2) := by decide +kernel
theorem dX7_dayOfKnowing_16 : decode cX7_dayOfKnowing 16 = .ok (.aload_n 0, 1) := by decide +kernel
theorem dX7_dayOfKnowing_17 : decode cX7_dayOfKnowing 17 = .ok (.getfield 38, 3) := by decide +kernel
theorem dX7_dayOfKnowing_20 : decode cX7_dayOfKnowing 20 = .ok (.invokevirtual 90, 3) := by decide +kernel
theorem dX7_dayOfKnowing_23 : decode cX7_dayOfKnowing 23 = .ok (.if_icmp .ge 73, 3) := by decide +kernel
theorem dX7_dayOfKnowing_26 : decode cX7_dayOfKnowing 26 = .ok (.aload_n 0, 1) := by decide +kernel
theorem dX7_dayOfKnowing_27 : decode cX7_dayOfKnowing 27 = .ok (.getfield 38, 3) := by decide +kernel
theorem dX7_dayOfKnowing_30 : decode cX7_dayOfKnowing 30 = .ok (.iload 4, 2) := by decide +kernel
theorem dX7_dayOfKnowing_32 : decode cX7_dayOfKnowing 32 = .ok (.invokevirtual 286, 3) := by decide +kernel
theorem dX7_dayOfKnowing_35 : decode cX7_dayOfKnowing 35 = .ok (.checkcast 163, 3) := by decide +kernel
theorem dX7_dayOfKnowing_38 : decode cX7_dayOfKnowing 38 = .ok (.astore 5, 2) := by decide +kernel
theorem dX7_dayOfKnowing_40 : decode cX7_dayOfKnowing 40 = .ok (.aload 5, 2) := by decide +kernel
theorem dX7_dayOfKnowing_42 : decode cX7_dayOfKnowing 42 = .ok (.getfield 179, 3) := by decide +kernel
theorem dX7_dayOfKnowing_45 : decode cX7_dayOfKnowing 45 = .ok (.iload_n 2, 1) := by decide +kernel
theorem dX7_dayOfKnowing_46 : decode cX7_dayOfKnowing 46 = .ok (.if_icmp .ne 16, 3) := by decide +kernel
theorem dX7_dayOfKnowing_49 : decode cX7_dayOfKnowing 49 = .ok (.aload 5, 2) := by decide +kernel
theorem dX7_dayOfKnowing_51 : decode cX7_dayOfKnowing 51 = .ok (.getfield 217, 3) := by decide +kernel
theorem dX7_dayOfKnowing_54 : decode cX7_dayOfKnowing 54 = .ok (.iload_n 1, 1) := by decide +kernel
theorem dX7_dayOfKnowing_55 : decode cX7_dayOfKnowing 55 = .ok (.if_icmp .ne 7, 3) := by decide +kernel
theorem dX7_dayOfKnowing_58 : decode cX7_dayOfKnowing 58 = .ok (.iconst 1, 1) := by decide +kernel
theorem dX7_dayOfKnowing_59 : decode cX7_dayOfKnowing 59 = .ok (.goto 4, 3) := by decide +kernel
theorem dX7_dayOfKnowing_62 : decode cX7_dayOfKnowing 62 = .ok (.iconst 0, 1) := by decide +kernel
theorem dX7_dayOfKnowing_63 : decode cX7_dayOfKnowing 63 = .ok (.istore 6, 2) := by decide +kernel
theorem dX7_dayOfKnowing_65 : decode cX7_dayOfKnowing 65 = .ok (.iload 6, 2) := by decide +kernel
theorem dX7_dayOfKnowing_67 : decode cX7_dayOfKnowing 67 = .ok (.ifCond .eq 23, 3) := by decide +kernel
theorem dX7_dayOfKnowing_70 : decode cX7_dayOfKnowing 70 = .ok (.iload_n 3, 1) := by decide +kernel
theorem dX7_dayOfKnowing_71 : decode cX7_dayOfKnowing 71 = .ok (.iconst (-1), 1) := by decide +kernel
theorem dX7_dayOfKnowing_72 : decode cX7_dayOfKnowing 72 = .ok (.if_icmp .eq 12, 3) := by decide +kernel
theorem dX7_dayOfKnowing_75 : decode cX7_dayOfKnowing 75 = .ok (.aload 5, 2) := by decide +kernel
theorem dX7_dayOfKnowing_77 : decode cX7_dayOfKnowing 77 = .ok (.getfield 192, 3) := by decide +kernel
theorem dX7_dayOfKnowing_80 : decode cX7_dayOfKnowing 80 = .ok (.iload_n 3, 1) := by decide +kernel
theorem dX7_dayOfKnowing_81 : decode cX7_dayOfKnowing 81 = .ok (.if_icmp .ge 9, 3) := by decide +kernel
theorem dX7_dayOfKnowing_84 : decode cX7_dayOfKnowing 84 = .ok (.aload 5, 2) := by decide +kernel
theorem dX7_dayOfKnowing_86 : decode cX7_dayOfKnowing 86 = .ok (.getfield 192, 3) := by decide +kernel
theorem dX7_dayOfKnowing_89 : decode cX7_dayOfKnowing 89 = .ok (.istore_n 3, 1) := by decide +kernel
theorem dX7_dayOfKnowing_90 : decode cX7_dayOfKnowing 90 = .ok (.iinc 4 1, 3) := by decide +kernel
theorem dX7_dayOfKnowing_93 : decode cX7_dayOfKnowing 93 = .ok (.goto (-79), 3) := by decide +kernel
theorem dX7_dayOfKnowing_96 : decode cX7_dayOfKnowing 96 = .ok (.iload_n 3, 1) := by decide +kernel
theorem dX7_dayOfKnowing_97 : decode cX7_dayOfKnowing 97 = .ok (.ireturn, 1) := by decide +kernel
theorem dX7_wouldFireForTelling_0 : decode cX7_wouldFireForTelling 0 = .ok (.aload_n 0, 1) := by decide +kernel
theorem dX7_wouldFireForTelling_1 : decode cX7_wouldFireForTelling 1 = .ok (.iload_n 1, 1) := by decide +kernel
theorem dX7_wouldFireForTelling_2 : decode cX7_wouldFireForTelling 2 = .ok (.iload_n 2, 1) := by decide +kernel
theorem dX7_wouldFireForTelling_3 : decode cX7_wouldFireForTelling 3 = .ok (.invokevirtual 239, 3) := by decide +kernel
theorem dX7_wouldFireForTelling_6 : decode cX7_wouldFireForTelling 6 = .ok (.istore_n 3, 1) := by decide +kernel
theorem dX7_wouldFireForTelling_7 : decode cX7_wouldFireForTelling 7 = .ok (.iload_n 3, 1) := by decide +kernel
theorem dX7_wouldFireForTelling_8 : decode cX7_wouldFireForTelling 8 = .ok (.iconst (-1), 1) := by decide +kernel
theorem dX7_wouldFireForTelling_9 : decode cX7_wouldFireForTelling 9 = .ok (.if_icmp .eq 26, 3) := by decide +kernel
theorem dX7_wouldFireForTelling_12 : decode cX7_wouldFireForTelling 12 = .ok (.iload_n 3, 1) := by decide +kernel
theorem dX7_wouldFireForTelling_13 : decode cX7_wouldFireForTelling 13 = .ok (.aload_n 0, 1) := by decide +kernel
theorem dX7_wouldFireForTelling_14 : decode cX7_wouldFireForTelling 14 = .ok (.getfield 51, 3) := by decide +kernel
theorem dX7_wouldFireForTelling_17 : decode cX7_wouldFireForTelling 17 = .ok (.if_icmp .gt 18, 3) := by decide +kernel
theorem dX7_wouldFireForTelling_20 : decode cX7_wouldFireForTelling 20 = .ok (.aload_n 0, 1) := by decide +kernel
theorem dX7_wouldFireForTelling_21 : decode cX7_wouldFireForTelling 21 = .ok (.getfield 51, 3) := by decide +kernel
theorem dX7_wouldFireForTelling_24 : decode cX7_wouldFireForTelling 24 = .ok (.iload_n 3, 1) := by decide +kernel
theorem dX7_wouldFireForTelling_25 : decode cX7_wouldFireForTelling 25 = .ok (.isub, 1) := by decide +kernel
theorem dX7_wouldFireForTelling_26 : decode cX7_wouldFireForTelling 26 = .ok (.bipush 90, 2) := by decide +kernel
theorem dX7_wouldFireForTelling_28 : decode cX7_wouldFireForTelling 28 = .ok (.if_icmp .gt 7, 3) := by decide +kernel
theorem dX7_wouldFireForTelling_31 : decode cX7_wouldFireForTelling 31 = .ok (.iconst 1, 1) := by decide +kernel
theorem dX7_wouldFireForTelling_32 : decode cX7_wouldFireForTelling 32 = .ok (.goto 4, 3) := by decide +kernel
theorem dX7_wouldFireForTelling_35 : decode cX7_wouldFireForTelling 35 = .ok (.iconst 0, 1) := by decide +kernel
theorem dX7_wouldFireForTelling_36 : decode cX7_wouldFireForTelling 36 = .ok (.ireturn, 1) := by decide +kernel
theorem dJ6_bitCount_0f7a4_0 : decode cJ6_bitCount_0f7a4 0 = .ok (.iload_n 0, 1) := by decide +kernel
theorem dJ6_bitCount_0f7a4_1 : decode cJ6_bitCount_0f7a4 1 = .ok (.iload_n 0, 1) := by decide +kernel
theorem dJ6_bitCount_0f7a4_2 : decode cJ6_bitCount_0f7a4 2 = .ok (.iconst 1, 1) := by decide +kernel
theorem dJ6_bitCount_0f7a4_3 : decode cJ6_bitCount_0f7a4 3 = .ok (.iushr, 1) := by decide +kernel
theorem dJ6_bitCount_0f7a4_4 : decode cJ6_bitCount_0f7a4 4 = .ok (.ldc_w 265, 3) := by decide +kernel
theorem dJ6_bitCount_0f7a4_7 : decode cJ6_bitCount_0f7a4 7 = .ok (.iand, 1) := by decide +kernel
theorem dJ6_bitCount_0f7a4_8 : decode cJ6_bitCount_0f7a4 8 = .ok (.isub, 1) := by decide +kernel
theorem dJ6_bitCount_0f7a4_9 : decode cJ6_bitCount_0f7a4 9 = .ok (.istore_n 0, 1) := by decide +kernel
theorem dJ6_bitCount_0f7a4_10 : decode cJ6_bitCount_0f7a4 10 = .ok (.iload_n 0, 1) := by decide +kernel
theorem dJ6_bitCount_0f7a4_11 : decode cJ6_bitCount_0f7a4 11 = .ok (.ldc_w 266, 3) := by decide +kernel
theorem dJ6_bitCount_0f7a4_14 : decode cJ6_bitCount_0f7a4 14 = .ok (.iand, 1) := by decide +kernel
theorem dJ6_bitCount_0f7a4_15 : decode cJ6_bitCount_0f7a4 15 = .ok (.iload_n 0, 1) := by decide +kernel
theorem dJ6_bitCount_0f7a4_16 : decode cJ6_bitCount_0f7a4 16 = .ok (.iconst 2, 1) := by decide +kernel
theorem dJ6_bitCount_0f7a4_17 : decode cJ6_bitCount_0f7a4 17 = .ok (.iushr, 1) := by decide +kernel
theorem dJ6_bitCount_0f7a4_18 : decode cJ6_bitCount_0f7a4 18 = .ok (.ldc_w 266, 3) := by decide +kernel
theorem dJ6_bitCount_0f7a4_21 : decode cJ6_bitCount_0f7a4 21 = .ok (.iand, 1) := by decide +kernel
theorem dJ6_bitCount_0f7a4_22 : decode cJ6_bitCount_0f7a4 22 = .ok (.iadd, 1) := by decide +kernel
theorem dJ6_bitCount_0f7a4_23 : decode cJ6_bitCount_0f7a4 23 = .ok (.istore_n 0, 1) := by decide +kernel
theorem dJ6_bitCount_0f7a4_24 : decode cJ6_bitCount_0f7a4 24 = .ok (.iload_n 0, 1) := by decide +kernel
theorem dJ6_bitCount_0f7a4_25 : decode cJ6_bitCount_0f7a4 25 = .ok (.iload_n 0, 1) := by decide +kernel
theorem dJ6_bitCount_0f7a4_26 : decode cJ6_bitCount_0f7a4 26 = .ok (.iconst 4, 1) := by decide +kernel
theorem dJ6_bitCount_0f7a4_27 : decode cJ6_bitCount_0f7a4 27 = .ok (.iushr, 1) := by decide +kernel
theorem dJ6_bitCount_0f7a4_28 : decode cJ6_bitCount_0f7a4 28 = .ok (.iadd, 1) := by decide +kernel
theorem dJ6_bitCount_0f7a4_29 : decode cJ6_bitCount_0f7a4 29 = .ok (.ldc_w 267, 3) := by decide +kernel
theorem dJ6_bitCount_0f7a4_32 : decode cJ6_bitCount_0f7a4 32 = .ok (.iand, 1) := by decide +kernel
theorem dJ6_bitCount_0f7a4_33 : decode cJ6_bitCount_0f7a4 33 = .ok (.istore_n 0, 1) := by decide +kernel
theorem dJ6_bitCount_0f7a4_34 : decode cJ6_bitCount_0f7a4 34 = .ok (.iload_n 0, 1) := by decide +kernel
theorem dJ6_bitCount_0f7a4_35 : decode cJ6_bitCount_0f7a4 35 = .ok (.iload_n 0, 1) := by decide +kernel
theorem dJ6_bitCount_0f7a4_36 : decode cJ6_bitCount_0f7a4 36 = .ok (.bipush 8, 2) := by decide +kernel
theorem dJ6_bitCount_0f7a4_38 : decode cJ6_bitCount_0f7a4 38 = .ok (.iushr, 1) := by decide +kernel
theorem dJ6_bitCount_0f7a4_39 : decode cJ6_bitCount_0f7a4 39 = .ok (.iadd, 1) := by decide +kernel
theorem dJ6_bitCount_0f7a4_40 : decode cJ6_bitCount_0f7a4 40 = .ok (.istore_n 0, 1) := by decide +kernel
theorem dJ6_bitCount_0f7a4_41 : decode cJ6_bitCount_0f7a4 41 = .ok (.iload_n 0, 1) := by decide +kernel
theorem dJ6_bitCount_0f7a4_42 : decode cJ6_bitCount_0f7a4 42 = .ok (.iload_n 0, 1) := by decide +kernel
theorem dJ6_bitCount_0f7a4_43 : decode cJ6_bitCount_0f7a4 43 = .ok (.bipush 16, 2) := by decide +kernel
theorem dJ6_bitCount_0f7a4_45 : decode cJ6_bitCount_0f7a4 45 = .ok (.iushr, 1) := by decide +kernel
theorem dJ6_bitCount_0f7a4_46 : decode cJ6_bitCount_0f7a4 46 = .ok (.iadd, 1) := by decide +kernel
theorem dJ6_bitCount_0f7a4_47 : decode cJ6_bitCount_0f7a4 47 = .ok (.istore_n 0, 1) := by decide +kernel
theorem dJ6_bitCount_0f7a4_48 : decode cJ6_bitCount_0f7a4 48 = .ok (.iload_n 0, 1) := by decide +kernel
theorem dJ6_bitCount_0f7a4_49 : decode cJ6_bitCount_0f7a4 49 = .ok (.bipush 63, 2) := by decide +kernel
theorem dJ6_bitCount_0f7a4_51 : decode cJ6_bitCount_0f7a4 51 = .ok (.iand, 1) := by decide +kernel
theorem dJ6_bitCount_0f7a4_52 : decode cJ6_bitCount_0f7a4 52 = .ok (.ireturn, 1) := by decide +kernel
theorem dJ9_max_7cf53_0 : decode cJ9_max_7cf53 0 = .ok (.iload_n 0, 1) := by decide +kernel
theorem dJ9_max_7cf53_1 : decode cJ9_max_7cf53 1 = .ok (.iload_n 1, 1) := by decide +kernel
theorem dJ9_max_7cf53_2 : decode cJ9_max_7cf53 2 = .ok (.if_icmp .lt 7, 3) := by decide +kernel
theorem dJ9_max_7cf53_5 : decode cJ9_max_7cf53 5 = .ok (.iload_n 0, 1) := by decide +kernel
theorem dJ9_max_7cf53_6 : decode cJ9_max_7cf53 6 = .ok (.goto 4, 3) := by decide +kernel
theorem dJ9_max_7cf53_9 : decode cJ9_max_7cf53 9 = .ok (.iload_n 1, 1) := by decide +kernel
theorem dJ9_max_7cf53_10 : decode cJ9_max_7cf53 10 = .ok (.ireturn, 1) := by decide +kernel
theorem dJ9_min_7cf53_0 : decode cJ9_min_7cf53 0 = .ok (.iload_n 0, 1) := by decide +kernel
theorem dJ9_min_7cf53_1 : decode cJ9_min_7cf53 1 = .ok (.iload_n 1, 1) := by decide +kernel
theorem dJ9_min_7cf53_2 : decode cJ9_min_7cf53 2 = .ok (.if_icmp .gt 7, 3) := by decide +kernel
theorem dJ9_min_7cf53_5 : decode cJ9_min_7cf53 5 = .ok (.iload_n 0, 1) := by decide +kernel
theorem dJ9_min_7cf53_6 : decode cJ9_min_7cf53 6 = .ok (.goto 4, 3) := by decide +kernel
theorem dJ9_min_7cf53_9 : decode cJ9_min_7cf53 9 = .ok (.iload_n 1, 1) := by decide +kernel
theorem dJ9_min_7cf53_10 : decode cJ9_min_7cf53 10 = .ok (.ireturn, 1) := by decide +kernel
theorem dJxa1e45_init_da8c8_0 : decode cJxa1e45_init_da8c8 0 = .ok (.aload_n 0, 1) := by decide +kernel
theorem dJxa1e45_init_da8c8_1 : decode cJxa1e45_init_da8c8 1 = .ok (.invokespecial 1, 3) := by decide +kernel
theorem dJxa1e45_init_da8c8_4 : decode cJxa1e45_init_da8c8 4 = .ok (.return_, 1) := by decide +kernel
theorem dJxc12de_init_da8c8_0 : decode cJxc12de_init_da8c8 0 = .ok (.aload_n 0, 1) := by decide +kernel
theorem dJxc12de_init_da8c8_1 : decode cJxc12de_init_da8c8 1 = .ok (.invokespecial 1, 3) := by decide +kernel
theorem dJxc12de_init_da8c8_4 : decode cJxc12de_init_da8c8 4 = .ok (.aload_n 0, 1) := by decide +kernel
theorem dJxc12de_init_da8c8_5 : decode cJxc12de_init_da8c8 5 = .ok (.iconst 0, 1) := by decide +kernel
theorem dJxc12de_init_da8c8_6 : decode cJxc12de_init_da8c8 6 = .ok (.putfield 7, 3) := by decide +kernel
theorem dJxc12de_init_da8c8_9 : decode cJxc12de_init_da8c8 9 = .ok (.return_, 1) := by decide +kernel
theorem dJx4a65c_init_da8c8_0 : decode cJx4a65c_init_da8c8 0 = .ok (.aload_n 0, 1) := by decide +kernel
theorem dJx4a65c_init_da8c8_1 : decode cJx4a65c_init_da8c8 1 = .ok (.invokespecial 1, 3) := by decide +kernel
theorem dJx4a65c_init_da8c8_4 : decode cJx4a65c_init_da8c8 4 = .ok (.aload_n 0, 1) := by decide +kernel
theorem dJx4a65c_init_da8c8_5 : decode cJx4a65c_init_da8c8 5 = .ok (.getstatic 39, 3) := by decide +kernel
theorem dJx4a65c_init_da8c8_8 : decode cJx4a65c_init_da8c8 8 = .ok (.putfield 9, 3) := by decide +kernel
theorem dJx4a65c_init_da8c8_11 : decode cJx4a65c_init_da8c8 11 = .ok (.return_, 1) := by decide +kernel
theorem dJx4a65c_grow_92f84_0 : decode cJx4a65c_grow_92f84 0 = .ok (.aload_n 0, 1) := by decide +kernel
theorem dJx4a65c_grow_92f84_1 : decode cJx4a65c_grow_92f84 1 = .ok (.getfield 9, 3) := by decide +kernel
theorem dJx4a65c_grow_92f84_4 : decode cJx4a65c_grow_92f84 4 = .ok (.arraylength, 1) := by decide +kernel
theorem dJx4a65c_grow_92f84_5 : decode cJx4a65c_grow_92f84 5 = .ok (.istore_n 2, 1) := by decide +kernel
theorem dJx4a65c_grow_92f84_6 : decode cJx4a65c_grow_92f84 6 = .ok (.iload_n 2, 1) := by decide +kernel
theorem dJx4a65c_grow_92f84_7 : decode cJx4a65c_grow_92f84 7 = .ok (.ifCond .gt 13, 3) := by decide +kernel
theorem dJx4a65c_grow_92f84_10 : decode cJx4a65c_grow_92f84 10 = .ok (.aload_n 0, 1) := by decide +kernel
theorem dJx4a65c_grow_92f84_11 : decode cJx4a65c_grow_92f84 11 = .ok (.getfield 9, 3) := by decide +kernel
theorem dJx4a65c_grow_92f84_14 : decode cJx4a65c_grow_92f84 14 = .ok (.getstatic 39, 3) := by decide +kernel
theorem dJx4a65c_grow_92f84_17 : decode cJx4a65c_grow_92f84 17 = .ok (.if_acmp .eq 28, 3) := by decide +kernel
theorem dJx4a65c_grow_92f84_20 : decode cJx4a65c_grow_92f84 20 = .ok (.iload_n 2, 1) := by decide +kernel
theorem dJx4a65c_grow_92f84_21 : decode cJx4a65c_grow_92f84 21 = .ok (.iload_n 1, 1) := by decide +kernel
theorem dJx4a65c_grow_92f84_22 : decode cJx4a65c_grow_92f84 22 = .ok (.iload_n 2, 1) := by decide +kernel
theorem dJx4a65c_grow_92f84_23 : decode cJx4a65c_grow_92f84 23 = .ok (.isub, 1) := by decide +kernel
theorem dJx4a65c_grow_92f84_24 : decode cJx4a65c_grow_92f84 24 = .ok (.iload_n 2, 1) := by decide +kernel
theorem dJx4a65c_grow_92f84_25 : decode cJx4a65c_grow_92f84 25 = .ok (.iconst 1, 1) := by decide +kernel
theorem dJx4a65c_grow_92f84_26 : decode cJx4a65c_grow_92f84 26 = .ok (.ishr, 1) := by decide +kernel
theorem dJx4a65c_grow_92f84_27 : decode cJx4a65c_grow_92f84 27 = .ok (.invokestatic 73, 3) := by decide +kernel
theorem dJx4a65c_grow_92f84_30 : decode cJx4a65c_grow_92f84 30 = .ok (.istore_n 3, 1) := by decide +kernel
theorem dJx4a65c_grow_92f84_31 : decode cJx4a65c_grow_92f84 31 = .ok (.aload_n 0, 1) := by decide +kernel
theorem dJx4a65c_grow_92f84_32 : decode cJx4a65c_grow_92f84 32 = .ok (.aload_n 0, 1) := by decide +kernel
theorem dJx4a65c_grow_92f84_33 : decode cJx4a65c_grow_92f84 33 = .ok (.getfield 9, 3) := by decide +kernel
theorem dJx4a65c_grow_92f84_36 : decode cJx4a65c_grow_92f84 36 = .ok (.iload_n 3, 1) := by decide +kernel
theorem dJx4a65c_grow_92f84_37 : decode cJx4a65c_grow_92f84 37 = .ok (.invokestatic 66, 3) := by decide +kernel
theorem dJx4a65c_grow_92f84_40 : decode cJx4a65c_grow_92f84 40 = .ok (.dup_x1, 1) := by decide +kernel
theorem dJx4a65c_grow_92f84_41 : decode cJx4a65c_grow_92f84 41 = .ok (.putfield 9, 3) := by decide +kernel
theorem dJx4a65c_grow_92f84_44 : decode cJx4a65c_grow_92f84 44 = .ok (.areturn, 1) := by decide +kernel
theorem dJx4a65c_grow_92f84_45 : decode cJx4a65c_grow_92f84 45 = .ok (.aload_n 0, 1) := by decide +kernel
theorem dJx4a65c_grow_92f84_46 : decode cJx4a65c_grow_92f84 46 = .ok (.bipush 10, 2) := by decide +kernel
theorem dJx4a65c_grow_92f84_48 : decode cJx4a65c_grow_92f84 48 = .ok (.iload_n 1, 1) := by decide +kernel
theorem dJx4a65c_grow_92f84_49 : decode cJx4a65c_grow_92f84 49 = .ok (.invokestatic 79, 3) := by decide +kernel
theorem dJx4a65c_grow_92f84_52 : decode cJx4a65c_grow_92f84 52 = .ok (.anewarray 7, 3) := by decide +kernel
theorem dJx4a65c_grow_92f84_55 : decode cJx4a65c_grow_92f84 55 = .ok (.dup_x1, 1) := by decide +kernel
theorem dJx4a65c_grow_92f84_56 : decode cJx4a65c_grow_92f84 56 = .ok (.putfield 9, 3) := by decide +kernel
theorem dJx4a65c_grow_92f84_59 : decode cJx4a65c_grow_92f84 59 = .ok (.areturn, 1) := by decide +kernel
theorem dJx4a65c_grow_d5877_0 : decode cJx4a65c_grow_d5877 0 = .ok (.aload_n 0, 1) := by decide +kernel
theorem dJx4a65c_grow_d5877_1 : decode cJx4a65c_grow_d5877 1 = .ok (.aload_n 0, 1) := by decide +kernel
theorem dJx4a65c_grow_d5877_2 : decode cJx4a65c_grow_d5877 2 = .ok (.getfield 48, 3) := by decide +kernel
theorem dJx4a65c_grow_d5877_5 : decode cJx4a65c_grow_d5877 5 = .ok (.iconst 1, 1) := by decide +kernel
theorem dJx4a65c_grow_d5877_6 : decode cJx4a65c_grow_d5877 6 = .ok (.iadd, 1) := by decide +kernel
theorem dJx4a65c_grow_d5877_7 : decode cJx4a65c_grow_d5877 7 = .ok (.invokevirtual 69, 3) := by decide +kernel
theorem dJx4a65c_grow_d5877_10 : decode cJx4a65c_grow_d5877 10 = .ok (.areturn, 1) := by decide +kernel
theorem dJx4a65c_size_8abf5_0 : decode cJx4a65c_size_8abf5 0 = .ok (.aload_n 0, 1) := by decide +kernel
theorem dJx4a65c_size_8abf5_1 : decode cJx4a65c_size_8abf5 1 = .ok (.getfield 48, 3) := by decide +kernel
theorem dJx4a65c_size_8abf5_4 : decode cJx4a65c_size_8abf5 4 = .ok (.ireturn, 1) := by decide +kernel
theorem dJx4a65c_elementData_915e3_0 : decode cJx4a65c_elementData_915e3 0 = .ok (.aload_n 0, 1) := by decide +kernel
theorem dJx4a65c_elementData_915e3_1 : decode cJx4a65c_elementData_915e3 1 = .ok (.getfield 9, 3) := by decide +kernel
theorem dJx4a65c_elementData_915e3_4 : decode cJx4a65c_elementData_915e3 4 = .ok (.iload_n 1, 1) := by decide +kernel
theorem dJx4a65c_elementData_915e3_5 : decode cJx4a65c_elementData_915e3 5 = .ok (.aaload, 1) := by decide +kernel
theorem dJx4a65c_elementData_915e3_6 : decode cJx4a65c_elementData_915e3 6 = .ok (.areturn, 1) := by decide +kernel
theorem dJx4a65c_get_915e3_0 : decode cJx4a65c_get_915e3 0 = .ok (.iload_n 1, 1) := by decide +kernel
theorem dJx4a65c_get_915e3_1 : decode cJx4a65c_get_915e3 1 = .ok (.aload_n 0, 1) := by decide +kernel
theorem dJx4a65c_get_915e3_2 : decode cJx4a65c_get_915e3 2 = .ok (.getfield 48, 3) := by decide +kernel
theorem dJx4a65c_get_915e3_5 : decode cJx4a65c_get_915e3 5 = .ok (.invokestatic 118, 3) := by decide +kernel
theorem dJx4a65c_get_915e3_8 : decode cJx4a65c_get_915e3 8 = .ok (.pop, 1) := by decide +kernel
theorem dJx4a65c_get_915e3_9 : decode cJx4a65c_get_915e3 9 = .ok (.aload_n 0, 1) := by decide +kernel
theorem dJx4a65c_get_915e3_10 : decode cJx4a65c_get_915e3 10 = .ok (.iload_n 1, 1) := by decide +kernel
theorem dJx4a65c_get_915e3_11 : decode cJx4a65c_get_915e3 11 = .ok (.invokevirtual 123, 3) := by decide +kernel
theorem dJx4a65c_get_915e3_14 : decode cJx4a65c_get_915e3 14 = .ok (.areturn, 1) := by decide +kernel
theorem dJx4a65c_add_72be8_0 : decode cJx4a65c_add_72be8 0 = .ok (.iload_n 3, 1) := by decide +kernel
theorem dJx4a65c_add_72be8_1 : decode cJx4a65c_add_72be8 1 = .ok (.aload_n 2, 1) := by decide +kernel
theorem dJx4a65c_add_72be8_2 : decode cJx4a65c_add_72be8 2 = .ok (.arraylength, 1) := by decide +kernel
theorem dJx4a65c_add_72be8_3 : decode cJx4a65c_add_72be8 3 = .ok (.if_icmp .ne 8, 3) := by decide +kernel
theorem dJx4a65c_add_72be8_6 : decode cJx4a65c_add_72be8 6 = .ok (.aload_n 0, 1) := by decide +kernel
theorem dJx4a65c_add_72be8_7 : decode cJx4a65c_add_72be8 7 = .ok (.invokevirtual 129, 3) := by decide +kernel
theorem dJx4a65c_add_72be8_10 : decode cJx4a65c_add_72be8 10 = .ok (.astore_n 2, 1) := by decide +kernel
theorem dJx4a65c_add_72be8_11 : decode cJx4a65c_add_72be8 11 = .ok (.aload_n 2, 1) := by decide +kernel
theorem dJx4a65c_add_72be8_12 : decode cJx4a65c_add_72be8 12 = .ok (.iload_n 3, 1) := by decide +kernel
theorem dJx4a65c_add_72be8_13 : decode cJx4a65c_add_72be8 13 = .ok (.aload_n 1, 1) := by decide +kernel
theorem dJx4a65c_add_72be8_14 : decode cJx4a65c_add_72be8 14 = .ok (.aastore, 1) := by decide +kernel
theorem dJx4a65c_add_72be8_15 : decode cJx4a65c_add_72be8 15 = .ok (.aload_n 0, 1) := by decide +kernel
theorem dJx4a65c_add_72be8_16 : decode cJx4a65c_add_72be8 16 = .ok (.iload_n 3, 1) := by decide +kernel
theorem dJx4a65c_add_72be8_17 : decode cJx4a65c_add_72be8 17 = .ok (.iconst 1, 1) := by decide +kernel
theorem dJx4a65c_add_72be8_18 : decode cJx4a65c_add_72be8 18 = .ok (.iadd, 1) := by decide +kernel
theorem dJx4a65c_add_72be8_19 : decode cJx4a65c_add_72be8 19 = .ok (.putfield 48, 3) := by decide +kernel
theorem dJx4a65c_add_72be8_22 : decode cJx4a65c_add_72be8 22 = .ok (.return_, 1) := by decide +kernel
theorem dJx4a65c_add_9ea2d_0 : decode cJx4a65c_add_9ea2d 0 = .ok (.aload_n 0, 1) := by decide +kernel
theorem dJx4a65c_add_9ea2d_1 : decode cJx4a65c_add_9ea2d 1 = .ok (.dup, 1) := by decide +kernel
theorem dJx4a65c_add_9ea2d_2 : decode cJx4a65c_add_9ea2d 2 = .ok (.getfield 63, 3) := by decide +kernel
theorem dJx4a65c_add_9ea2d_5 : decode cJx4a65c_add_9ea2d 5 = .ok (.iconst 1, 1) := by decide +kernel
theorem dJx4a65c_add_9ea2d_6 : decode cJx4a65c_add_9ea2d 6 = .ok (.iadd, 1) := by decide +kernel
theorem dJx4a65c_add_9ea2d_7 : decode cJx4a65c_add_9ea2d 7 = .ok (.putfield 63, 3) := by decide +kernel
theorem dJx4a65c_add_9ea2d_10 : decode cJx4a65c_add_9ea2d 10 = .ok (.aload_n 0, 1) := by decide +kernel
theorem dJx4a65c_add_9ea2d_11 : decode cJx4a65c_add_9ea2d 11 = .ok (.aload_n 1, 1) := by decide +kernel
theorem dJx4a65c_add_9ea2d_12 : decode cJx4a65c_add_9ea2d 12 = .ok (.aload_n 0, 1) := by decide +kernel
theorem dJx4a65c_add_9ea2d_13 : decode cJx4a65c_add_9ea2d 13 = .ok (.getfield 9, 3) := by decide +kernel
theorem dJx4a65c_add_9ea2d_16 : decode cJx4a65c_add_9ea2d 16 = .ok (.aload_n 0, 1) := by decide +kernel
theorem dJx4a65c_add_9ea2d_17 : decode cJx4a65c_add_9ea2d 17 = .ok (.getfield 48, 3) := by decide +kernel
theorem dJx4a65c_add_9ea2d_20 : decode cJx4a65c_add_9ea2d 20 = .ok (.invokevirtual 131, 3) := by decide +kernel
theorem dJx4a65c_add_9ea2d_23 : decode cJx4a65c_add_9ea2d 23 = .ok (.iconst 1, 1) := by decide +kernel
theorem dJx4a65c_add_9ea2d_24 : decode cJx4a65c_add_9ea2d 24 = .ok (.ireturn, 1) := by decide +kernel
theorem dJ7_fill_53178_0 : decode cJ7_fill_53178 0 = .ok (.iconst 0, 1) := by decide +kernel
theorem dJ7_fill_53178_1 : decode cJ7_fill_53178 1 = .ok (.istore_n 2, 1) := by decide +kernel
theorem dJ7_fill_53178_2 : decode cJ7_fill_53178 2 = .ok (.aload_n 0, 1) := by decide +kernel
theorem dJ7_fill_53178_3 : decode cJ7_fill_53178 3 = .ok (.arraylength, 1) := by decide +kernel
theorem dJ7_fill_53178_4 : decode cJ7_fill_53178 4 = .ok (.istore_n 3, 1) := by decide +kernel
theorem dJ7_fill_53178_5 : decode cJ7_fill_53178 5 = .ok (.iload_n 2, 1) := by decide +kernel
theorem dJ7_fill_53178_6 : decode cJ7_fill_53178 6 = .ok (.iload_n 3, 1) := by decide +kernel
theorem dJ7_fill_53178_7 : decode cJ7_fill_53178 7 = .ok (.if_icmp .ge 13, 3) := by decide +kernel
theorem dJ7_fill_53178_10 : decode cJ7_fill_53178 10 = .ok (.aload_n 0, 1) := by decide +kernel
theorem dJ7_fill_53178_11 : decode cJ7_fill_53178 11 = .ok (.iload_n 2, 1) := by decide +kernel
theorem dJ7_fill_53178_12 : decode cJ7_fill_53178 12 = .ok (.iload_n 1, 1) := by decide +kernel
theorem dJ7_fill_53178_13 : decode cJ7_fill_53178 13 = .ok (.iastore, 1) := by decide +kernel
theorem dJ7_fill_53178_14 : decode cJ7_fill_53178 14 = .ok (.iinc 2 1, 3) := by decide +kernel
theorem dJ7_fill_53178_17 : decode cJ7_fill_53178 17 = .ok (.goto (-12), 3) := by decide +kernel
theorem dJ7_fill_53178_20 : decode cJ7_fill_53178 20 = .ok (.return_, 1) := by decide +kernel
theorem dJ7_copyOf_1904c_0 : decode cJ7_copyOf_1904c 0 = .ok (.aload_n 0, 1) := by decide +kernel
theorem dJ7_copyOf_1904c_1 : decode cJ7_copyOf_1904c 1 = .ok (.iload_n 1, 1) := by decide +kernel
theorem dJ7_copyOf_1904c_2 : decode cJ7_copyOf_1904c 2 = .ok (.aload_n 0, 1) := by decide +kernel
theorem dJ7_copyOf_1904c_3 : decode cJ7_copyOf_1904c 3 = .ok (.invokevirtual 86, 3) := by decide +kernel
theorem dJ7_copyOf_1904c_6 : decode cJ7_copyOf_1904c 6 = .ok (.invokestatic 300, 3) := by decide +kernel
theorem dJ7_copyOf_1904c_9 : decode cJ7_copyOf_1904c 9 = .ok (.areturn, 1) := by decide +kernel
theorem dJ7_copyOf_6403c_0 : decode cJ7_copyOf_6403c 0 = .ok (.aload_n 2, 1) := by decide +kernel
theorem dJ7_copyOf_6403c_1 : decode cJ7_copyOf_6403c 1 = .ok (.ldc 110, 2) := by decide +kernel
theorem dJ7_copyOf_6403c_3 : decode cJ7_copyOf_6403c 3 = .ok (.if_acmp .ne 10, 3) := by decide +kernel
theorem dJ7_copyOf_6403c_6 : decode cJ7_copyOf_6403c 6 = .ok (.iload_n 1, 1) := by decide +kernel
theorem dJ7_copyOf_6403c_7 : decode cJ7_copyOf_6403c 7 = .ok (.anewarray 2, 3) := by decide +kernel
theorem dJ7_copyOf_6403c_10 : decode cJ7_copyOf_6403c 10 = .ok (.goto 14, 3) := by decide +kernel
theorem dJ7_copyOf_6403c_13 : decode cJ7_copyOf_6403c 13 = .ok (.aload_n 2, 1) := by decide +kernel
theorem dJ7_copyOf_6403c_14 : decode cJ7_copyOf_6403c 14 = .ok (.invokevirtual 90, 3) := by decide +kernel
theorem dJ7_copyOf_6403c_17 : decode cJ7_copyOf_6403c 17 = .ok (.iload_n 1, 1) := by decide +kernel
theorem dJ7_copyOf_6403c_18 : decode cJ7_copyOf_6403c 18 = .ok (.invokestatic 95, 3) := by decide +kernel
theorem dJ7_copyOf_6403c_21 : decode cJ7_copyOf_6403c 21 = .ok (.checkcast 110, 3) := by decide +kernel
theorem dJ7_copyOf_6403c_24 : decode cJ7_copyOf_6403c 24 = .ok (.astore_n 3, 1) := by decide +kernel
theorem dJ7_copyOf_6403c_25 : decode cJ7_copyOf_6403c 25 = .ok (.aload_n 0, 1) := by decide +kernel
theorem dJ7_copyOf_6403c_26 : decode cJ7_copyOf_6403c 26 = .ok (.iconst 0, 1) := by decide +kernel
theorem dJ7_copyOf_6403c_27 : decode cJ7_copyOf_6403c 27 = .ok (.aload_n 3, 1) := by decide +kernel
theorem dJ7_copyOf_6403c_28 : decode cJ7_copyOf_6403c 28 = .ok (.iconst 0, 1) := by decide +kernel
theorem dJ7_copyOf_6403c_29 : decode cJ7_copyOf_6403c 29 = .ok (.aload_n 0, 1) := by decide +kernel
theorem dJ7_copyOf_6403c_30 : decode cJ7_copyOf_6403c 30 = .ok (.arraylength, 1) := by decide +kernel
theorem dJ7_copyOf_6403c_31 : decode cJ7_copyOf_6403c 31 = .ok (.iload_n 1, 1) := by decide +kernel
theorem dJ7_copyOf_6403c_32 : decode cJ7_copyOf_6403c 32 = .ok (.invokestatic 304, 3) := by decide +kernel
theorem dJ7_copyOf_6403c_35 : decode cJ7_copyOf_6403c 35 = .ok (.invokestatic 150, 3) := by decide +kernel
theorem dJ7_copyOf_6403c_38 : decode cJ7_copyOf_6403c 38 = .ok (.aload_n 3, 1) := by decide +kernel
theorem dJ7_copyOf_6403c_39 : decode cJ7_copyOf_6403c 39 = .ok (.areturn, 1) := by decide +kernel
theorem dJ15_checkIndex_7cf53_0 : decode cJ15_checkIndex_7cf53 0 = .ok (.iload_n 0, 1) := by decide +kernel
theorem dJ15_checkIndex_7cf53_1 : decode cJ15_checkIndex_7cf53 1 = .ok (.iload_n 1, 1) := by decide +kernel
theorem dJ15_checkIndex_7cf53_2 : decode cJ15_checkIndex_7cf53 2 = .ok (.aconst_null, 1) := by decide +kernel
theorem dJ15_checkIndex_7cf53_3 : decode cJ15_checkIndex_7cf53 3 = .ok (.invokestatic 105, 3) := by decide +kernel
theorem dJ15_checkIndex_7cf53_6 : decode cJ15_checkIndex_7cf53 6 = .ok (.ireturn, 1) := by decide +kernel
theorem dJ8_newLength_cabcc_0 : decode cJ8_newLength_cabcc 0 = .ok (.iload_n 0, 1) := by decide +kernel
theorem dJ8_newLength_cabcc_1 : decode cJ8_newLength_cabcc 1 = .ok (.iload_n 1, 1) := by decide +kernel
theorem dJ8_newLength_cabcc_2 : decode cJ8_newLength_cabcc 2 = .ok (.iload_n 2, 1) := by decide +kernel
theorem dJ8_newLength_cabcc_3 : decode cJ8_newLength_cabcc 3 = .ok (.invokestatic 194, 3) := by decide +kernel
theorem dJ8_newLength_cabcc_6 : decode cJ8_newLength_cabcc 6 = .ok (.iadd, 1) := by decide +kernel
theorem dJ8_newLength_cabcc_7 : decode cJ8_newLength_cabcc 7 = .ok (.istore_n 3, 1) := by decide +kernel
theorem dJ8_newLength_cabcc_8 : decode cJ8_newLength_cabcc 8 = .ok (.iconst 0, 1) := by decide +kernel
theorem dJ8_newLength_cabcc_9 : decode cJ8_newLength_cabcc 9 = .ok (.iload_n 3, 1) := by decide +kernel
theorem dJ8_newLength_cabcc_10 : decode cJ8_newLength_cabcc 10 = .ok (.if_icmp .ge 11, 3) := by decide +kernel
theorem dJ8_newLength_cabcc_13 : decode cJ8_newLength_cabcc 13 = .ok (.iload_n 3, 1) := by decide +kernel
theorem dJ8_newLength_cabcc_14 : decode cJ8_newLength_cabcc 14 = .ok (.ldc 200, 2) := by decide +kernel
theorem dJ8_newLength_cabcc_16 : decode cJ8_newLength_cabcc 16 = .ok (.if_icmp .gt 5, 3) := by decide +kernel
theorem dJ8_newLength_cabcc_19 : decode cJ8_newLength_cabcc 19 = .ok (.iload_n 3, 1) := by decide +kernel
theorem dJ8_newLength_cabcc_20 : decode cJ8_newLength_cabcc 20 = .ok (.ireturn, 1) := by decide +kernel
theorem dJ8_newLength_cabcc_21 : decode cJ8_newLength_cabcc 21 = .ok (.iload_n 0, 1) := by decide +kernel
theorem dJ8_newLength_cabcc_22 : decode cJ8_newLength_cabcc 22 = .ok (.iload_n 1, 1) := by decide +kernel
theorem dJ8_newLength_cabcc_23 : decode cJ8_newLength_cabcc 23 = .ok (.invokestatic 201, 3) := by decide +kernel
theorem dJ8_newLength_cabcc_26 : decode cJ8_newLength_cabcc 26 = .ok (.ireturn, 1) := by decide +kernel
theorem dJ8_hugeLength_7cf53_0 : decode cJ8_hugeLength_7cf53 0 = .ok (.iload_n 0, 1) := by decide +kernel
theorem dJ8_hugeLength_7cf53_1 : decode cJ8_hugeLength_7cf53 1 = .ok (.iload_n 1, 1) := by decide +kernel
theorem dJ8_hugeLength_7cf53_2 : decode cJ8_hugeLength_7cf53 2 = .ok (.iadd, 1) := by decide +kernel
theorem dJ8_hugeLength_7cf53_3 : decode cJ8_hugeLength_7cf53 3 = .ok (.istore_n 2, 1) := by decide +kernel
theorem dJ8_hugeLength_7cf53_4 : decode cJ8_hugeLength_7cf53 4 = .ok (.iload_n 2, 1) := by decide +kernel
theorem dJ8_hugeLength_7cf53_5 : decode cJ8_hugeLength_7cf53 5 = .ok (.ifCond .ge 44, 3) := by decide +kernel
theorem dJ8_hugeLength_7cf53_8 : decode cJ8_hugeLength_7cf53 8 = .ok (.new 204, 3) := by decide +kernel
theorem dJ8_hugeLength_7cf53_11 : decode cJ8_hugeLength_7cf53 11 = .ok (.dup, 1) := by decide +kernel
theorem dJ8_hugeLength_7cf53_12 : decode cJ8_hugeLength_7cf53 12 = .ok (.new 89, 3) := by decide +kernel
theorem dJ8_hugeLength_7cf53_15 : decode cJ8_hugeLength_7cf53 15 = .ok (.dup, 1) := by decide +kernel
theorem dJ8_hugeLength_7cf53_16 : decode cJ8_hugeLength_7cf53 16 = .ok (.invokespecial 91, 3) := by decide +kernel
theorem dJ8_hugeLength_7cf53_19 : decode cJ8_hugeLength_7cf53 19 = .ok (.ldc 206, 2) := by decide +kernel
theorem dJ8_hugeLength_7cf53_21 : decode cJ8_hugeLength_7cf53 21 = .ok (.invokevirtual 94, 3) := by decide +kernel
theorem dJ8_hugeLength_7cf53_24 : decode cJ8_hugeLength_7cf53 24 = .ok (.iload_n 0, 1) := by decide +kernel
theorem dJ8_hugeLength_7cf53_25 : decode cJ8_hugeLength_7cf53 25 = .ok (.invokevirtual 98, 3) := by decide +kernel
theorem dJ8_hugeLength_7cf53_28 : decode cJ8_hugeLength_7cf53 28 = .ok (.ldc 208, 2) := by decide +kernel
theorem dJ8_hugeLength_7cf53_30 : decode cJ8_hugeLength_7cf53 30 = .ok (.invokevirtual 94, 3) := by decide +kernel
theorem dJ8_hugeLength_7cf53_33 : decode cJ8_hugeLength_7cf53 33 = .ok (.iload_n 1, 1) := by decide +kernel
theorem dJ8_hugeLength_7cf53_34 : decode cJ8_hugeLength_7cf53 34 = .ok (.invokevirtual 98, 3) := by decide +kernel
theorem dJ8_hugeLength_7cf53_37 : decode cJ8_hugeLength_7cf53 37 = .ok (.ldc 210, 2) := by decide +kernel
theorem dJ8_hugeLength_7cf53_39 : decode cJ8_hugeLength_7cf53 39 = .ok (.invokevirtual 94, 3) := by decide +kernel
theorem dJ8_hugeLength_7cf53_42 : decode cJ8_hugeLength_7cf53 42 = .ok (.invokevirtual 101, 3) := by decide +kernel
theorem dJ8_hugeLength_7cf53_45 : decode cJ8_hugeLength_7cf53 45 = .ok (.invokespecial 212, 3) := by decide +kernel
theorem dJ8_hugeLength_7cf53_48 : decode cJ8_hugeLength_7cf53 48 = .ok (.athrow, 1) := by decide +kernel
theorem dJ8_hugeLength_7cf53_49 : decode cJ8_hugeLength_7cf53 49 = .ok (.iload_n 2, 1) := by decide +kernel
theorem dJ8_hugeLength_7cf53_50 : decode cJ8_hugeLength_7cf53 50 = .ok (.ldc 200, 2) := by decide +kernel
theorem dJ8_hugeLength_7cf53_52 : decode cJ8_hugeLength_7cf53 52 = .ok (.if_icmp .gt 6, 3) := by decide +kernel
theorem dJ8_hugeLength_7cf53_55 : decode cJ8_hugeLength_7cf53 55 = .ok (.ldc 200, 2) := by decide +kernel
theorem dJ8_hugeLength_7cf53_57 : decode cJ8_hugeLength_7cf53 57 = .ok (.ireturn, 1) := by decide +kernel
theorem dJ8_hugeLength_7cf53_58 : decode cJ8_hugeLength_7cf53 58 = .ok (.iload_n 2, 1) := by decide +kernel
theorem dJ8_hugeLength_7cf53_59 : decode cJ8_hugeLength_7cf53 59 = .ok (.ireturn, 1) := by decide +kernel
theorem dJ3_checkIndex_8e157_0 : decode cJ3_checkIndex_8e157 0 = .ok (.iload_n 0, 1) := by decide +kernel
theorem dJ3_checkIndex_8e157_1 : decode cJ3_checkIndex_8e157 1 = .ok (.ifCond .lt 8, 3) := by decide +kernel
theorem dJ3_checkIndex_8e157_4 : decode cJ3_checkIndex_8e157 4 = .ok (.iload_n 0, 1) := by decide +kernel
theorem dJ3_checkIndex_8e157_5 : decode cJ3_checkIndex_8e157 5 = .ok (.iload_n 1, 1) := by decide +kernel
theorem dJ3_checkIndex_8e157_6 : decode cJ3_checkIndex_8e157 6 = .ok (.if_icmp .lt 10, 3) := by decide +kernel
theorem dJ3_checkIndex_8e157_9 : decode cJ3_checkIndex_8e157 9 = .ok (.aload_n 2, 1) := by decide +kernel
theorem dJ3_checkIndex_8e157_10 : decode cJ3_checkIndex_8e157 10 = .ok (.iload_n 0, 1) := by decide +kernel
theorem dJ3_checkIndex_8e157_11 : decode cJ3_checkIndex_8e157 11 = .ok (.iload_n 1, 1) := by decide +kernel
theorem dJ3_checkIndex_8e157_12 : decode cJ3_checkIndex_8e157 12 = .ok (.invokestatic 95, 3) := by decide +kernel
theorem dJ3_checkIndex_8e157_15 : decode cJ3_checkIndex_8e157 15 = .ok (.athrow, 1) := by decide +kernel
theorem dJ3_checkIndex_8e157_16 : decode cJ3_checkIndex_8e157 16 = .ok (.iload_n 0, 1) := by decide +kernel
theorem dJ3_checkIndex_8e157_17 : decode cJ3_checkIndex_8e157 17 = .ok (.ireturn, 1) := by decide +kernel
