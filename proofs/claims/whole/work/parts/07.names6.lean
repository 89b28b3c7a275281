theorem dX10_oneDay_22 : decode cX10_oneDay 22 = .ok (.aload_n 0, 1) := by decide +kernel
theorem dX10_oneDay_23 : decode cX10_oneDay 23 = .ok (.iload_n 1, 1) := by decide +kernel
theorem dX10_oneDay_24 : decode cX10_oneDay 24 = .ok (.iconst 5, 1) := by decide +kernel
theorem dX10_oneDay_25 : decode cX10_oneDay 25 = .ok (.aload_n 0, 1) := by decide +kernel
theorem dX10_oneDay_26 : decode cX10_oneDay 26 = .ok (.iload_n 1, 1) := by decide +kernel
theorem dX10_oneDay_27 : decode cX10_oneDay 27 = .ok (.iconst 5, 1) := by decide +kernel
theorem dX10_oneDay_28 : decode cX10_oneDay 28 = .ok (.invokevirtual 65, 3) := by decide +kernel
theorem dX10_oneDay_31 : decode cX10_oneDay 31 = .ok (.aload_n 0, 1) := by decide +kernel
theorem dX10_oneDay_32 : decode cX10_oneDay 32 = .ok (.iload_n 1, 1) := by decide +kernel
theorem dX10_oneDay_33 : decode cX10_oneDay 33 = .ok (.invokevirtual 187, 3) := by decide +kernel
theorem dX10_oneDay_36 : decode cX10_oneDay 36 = .ok (.iadd, 1) := by decide +kernel
theorem dX10_oneDay_37 : decode cX10_oneDay 37 = .ok (.iconst 0, 1) := by decide +kernel
theorem dX10_oneDay_38 : decode cX10_oneDay 38 = .ok (.sipush 999, 3) := by decide +kernel
theorem dX10_oneDay_41 : decode cX10_oneDay 41 = .ok (.invokestatic 153, 3) := by decide +kernel
theorem dX10_oneDay_44 : decode cX10_oneDay 44 = .ok (.invokevirtual 57, 3) := by decide +kernel
theorem dX10_oneDay_47 : decode cX10_oneDay 47 = .ok (.aload_n 0, 1) := by decide +kernel
theorem dX10_oneDay_48 : decode cX10_oneDay 48 = .ok (.iload_n 1, 1) := by decide +kernel
theorem dX10_oneDay_49 : decode cX10_oneDay 49 = .ok (.iconst 2, 1) := by decide +kernel
theorem dX10_oneDay_50 : decode cX10_oneDay 50 = .ok (.aload_n 0, 1) := by decide +kernel
theorem dX10_oneDay_51 : decode cX10_oneDay 51 = .ok (.iload_n 1, 1) := by decide +kernel
theorem dX10_oneDay_52 : decode cX10_oneDay 52 = .ok (.iconst 2, 1) := by decide +kernel
theorem dX10_oneDay_53 : decode cX10_oneDay 53 = .ok (.invokevirtual 65, 3) := by decide +kernel
theorem dX10_oneDay_56 : decode cX10_oneDay 56 = .ok (.aload_n 0, 1) := by decide +kernel
theorem dX10_oneDay_57 : decode cX10_oneDay 57 = .ok (.iconst 1, 1) := by decide +kernel
theorem dX10_oneDay_58 : decode cX10_oneDay 58 = .ok (.aload_n 0, 1) := by decide +kernel
theorem dX10_oneDay_59 : decode cX10_oneDay 59 = .ok (.iload_n 1, 1) := by decide +kernel
theorem dX10_oneDay_60 : decode cX10_oneDay 60 = .ok (.iconst 2, 1) := by decide +kernel
theorem dX10_oneDay_61 : decode cX10_oneDay 61 = .ok (.invokevirtual 65, 3) := by decide +kernel
theorem dX10_oneDay_64 : decode cX10_oneDay 64 = .ok (.aload_n 0, 1) := by decide +kernel
theorem dX10_oneDay_65 : decode cX10_oneDay 65 = .ok (.iload_n 1, 1) := by decide +kernel
theorem dX10_oneDay_66 : decode cX10_oneDay 66 = .ok (.iconst 5, 1) := by decide +kernel
theorem dX10_oneDay_67 : decode cX10_oneDay 67 = .ok (.invokevirtual 65, 3) := by decide +kernel
theorem dX10_oneDay_70 : decode cX10_oneDay 70 = .ok (.aload_n 0, 1) := by decide +kernel
theorem dX10_oneDay_71 : decode cX10_oneDay 71 = .ok (.getfield 7, 3) := by decide +kernel
theorem dX10_oneDay_74 : decode cX10_oneDay 74 = .ok (.iconst 0, 1) := by decide +kernel
theorem dX10_oneDay_75 : decode cX10_oneDay 75 = .ok (.iaload, 1) := by decide +kernel
theorem dX10_oneDay_76 : decode cX10_oneDay 76 = .ok (.bipush 7, 2) := by decide +kernel
theorem dX10_oneDay_78 : decode cX10_oneDay 78 = .ok (.irem, 1) := by decide +kernel
theorem dX10_oneDay_79 : decode cX10_oneDay 79 = .ok (.invokevirtual 157, 3) := by decide +kernel
theorem dX10_oneDay_82 : decode cX10_oneDay 82 = .ok (.isub, 1) := by decide +kernel
theorem dX10_oneDay_83 : decode cX10_oneDay 83 = .ok (.iconst 0, 1) := by decide +kernel
theorem dX10_oneDay_84 : decode cX10_oneDay 84 = .ok (.sipush 9999, 3) := by decide +kernel
theorem dX10_oneDay_87 : decode cX10_oneDay 87 = .ok (.invokestatic 153, 3) := by decide +kernel
theorem dX10_oneDay_90 : decode cX10_oneDay 90 = .ok (.invokevirtual 57, 3) := by decide +kernel
theorem dX10_oneDay_93 : decode cX10_oneDay 93 = .ok (.iinc 1 1, 3) := by decide +kernel
theorem dX10_oneDay_96 : decode cX10_oneDay 96 = .ok (.goto (-94), 3) := by decide +kernel
theorem dX10_oneDay_99 : decode cX10_oneDay 99 = .ok (.aload_n 0, 1) := by decide +kernel
theorem dX10_oneDay_100 : decode cX10_oneDay 100 = .ok (.getfield 7, 3) := by decide +kernel
theorem dX10_oneDay_103 : decode cX10_oneDay 103 = .ok (.iconst 0, 1) := by decide +kernel
theorem dX10_oneDay_104 : decode cX10_oneDay 104 = .ok (.dup2, 1) := by decide +kernel
theorem dX10_oneDay_105 : decode cX10_oneDay 105 = .ok (.iaload, 1) := by decide +kernel
theorem dX10_oneDay_106 : decode cX10_oneDay 106 = .ok (.iconst 1, 1) := by decide +kernel
theorem dX10_oneDay_107 : decode cX10_oneDay 107 = .ok (.iadd, 1) := by decide +kernel
theorem dX10_oneDay_108 : decode cX10_oneDay 108 = .ok (.iastore, 1) := by decide +kernel
theorem dX10_oneDay_109 : decode cX10_oneDay 109 = .ok (.return_, 1) := by decide +kernel
theorem dX10_passes_0 : decode cX10_passes 0 = .ok (.iconst 0, 1) := by decide +kernel
theorem dX10_passes_1 : decode cX10_passes 1 = .ok (.istore_n 2, 1) := by decide +kernel
theorem dX10_passes_2 : decode cX10_passes 2 = .ok (.iload_n 2, 1) := by decide +kernel
theorem dX10_passes_3 : decode cX10_passes 3 = .ok (.iload_n 1, 1) := by decide +kernel
theorem dX10_passes_4 : decode cX10_passes 4 = .ok (.if_icmp .ge 13, 3) := by decide +kernel
theorem dX10_passes_7 : decode cX10_passes 7 = .ok (.aload_n 0, 1) := by decide +kernel
theorem dX10_passes_8 : decode cX10_passes 8 = .ok (.invokevirtual 190, 3) := by decide +kernel
theorem dX10_passes_11 : decode cX10_passes 11 = .ok (.iinc 2 1, 3) := by decide +kernel
theorem dX10_passes_14 : decode cX10_passes 14 = .ok (.goto (-12), 3) := by decide +kernel
theorem dX10_passes_17 : decode cX10_passes 17 = .ok (.return_, 1) := by decide +kernel
theorem dX10_allDebt_0 : decode cX10_allDebt 0 = .ok (.iconst 0, 1) := by decide +kernel
theorem dX10_allDebt_1 : decode cX10_allDebt 1 = .ok (.istore_n 1, 1) := by decide +kernel
theorem dX10_allDebt_2 : decode cX10_allDebt 2 = .ok (.iconst 0, 1) := by decide +kernel
theorem dX10_allDebt_3 : decode cX10_allDebt 3 = .ok (.istore_n 2, 1) := by decide +kernel
theorem dX10_allDebt_4 : decode cX10_allDebt 4 = .ok (.iload_n 2, 1) := by decide +kernel
theorem dX10_allDebt_5 : decode cX10_allDebt 5 = .ok (.aload_n 0, 1) := by decide +kernel
theorem dX10_allDebt_6 : decode cX10_allDebt 6 = .ok (.getfield 7, 3) := by decide +kernel
theorem dX10_allDebt_9 : decode cX10_allDebt 9 = .ok (.iconst 2, 1) := by decide +kernel
theorem dX10_allDebt_10 : decode cX10_allDebt 10 = .ok (.iaload, 1) := by decide +kernel
theorem dX10_allDebt_11 : decode cX10_allDebt 11 = .ok (.if_icmp .ge 18, 3) := by decide +kernel
theorem dX10_allDebt_14 : decode cX10_allDebt 14 = .ok (.iload_n 1, 1) := by decide +kernel
theorem dX10_allDebt_15 : decode cX10_allDebt 15 = .ok (.aload_n 0, 1) := by decide +kernel
theorem dX10_allDebt_16 : decode cX10_allDebt 16 = .ok (.iload_n 2, 1) := by decide +kernel
theorem dX10_allDebt_17 : decode cX10_allDebt 17 = .ok (.iconst 2, 1) := by decide +kernel
theorem dX10_allDebt_18 : decode cX10_allDebt 18 = .ok (.invokevirtual 65, 3) := by decide +kernel
theorem dX10_allDebt_21 : decode cX10_allDebt 21 = .ok (.iadd, 1) := by decide +kernel
theorem dX10_allDebt_22 : decode cX10_allDebt 22 = .ok (.istore_n 1, 1) := by decide +kernel
theorem dX10_allDebt_23 : decode cX10_allDebt 23 = .ok (.iinc 2 1, 3) := by decide +kernel
theorem dX10_allDebt_26 : decode cX10_allDebt 26 = .ok (.goto (-22), 3) := by decide +kernel
theorem dX10_allDebt_29 : decode cX10_allDebt 29 = .ok (.iload_n 1, 1) := by decide +kernel
theorem dX10_allDebt_30 : decode cX10_allDebt 30 = .ok (.ireturn, 1) := by decide +kernel
theorem dX10_days_0 : decode cX10_days 0 = .ok (.iload_n 1, 1) := by decide +kernel
theorem dX10_days_1 : decode cX10_days 1 = .ok (.iconst 1, 1) := by decide +kernel
theorem dX10_days_2 : decode cX10_days 2 = .ok (.bipush 60, 2) := by decide +kernel
theorem dX10_days_4 : decode cX10_days 4 = .ok (.invokestatic 47, 3) := by decide +kernel
theorem dX10_days_7 : decode cX10_days 7 = .ok (.ifCond .ne 10, 3) := by decide +kernel
theorem dX10_days_10 : decode cX10_days 10 = .ok (.aload_n 0, 1) := by decide +kernel
theorem dX10_days_11 : decode cX10_days 11 = .ok (.ldc 51, 2) := by decide +kernel
theorem dX10_days_13 : decode cX10_days 13 = .ok (.invokevirtual 52, 3) := by decide +kernel
theorem dX10_days_16 : decode cX10_days 16 = .ok (.ireturn, 1) := by decide +kernel
theorem dX10_days_17 : decode cX10_days 17 = .ok (.aload_n 0, 1) := by decide +kernel
theorem dX10_days_18 : decode cX10_days 18 = .ok (.getfield 7, 3) := by decide +kernel
theorem dX10_days_21 : decode cX10_days 21 = .ok (.iconst 0, 1) := by decide +kernel
theorem dX10_days_22 : decode cX10_days 22 = .ok (.iaload, 1) := by decide +kernel
theorem dX10_days_23 : decode cX10_days 23 = .ok (.iload_n 1, 1) := by decide +kernel
theorem dX10_days_24 : decode cX10_days 24 = .ok (.iadd, 1) := by decide +kernel
theorem dX10_days_25 : decode cX10_days 25 = .ok (.sipush 9999, 3) := by decide +kernel
theorem dX10_days_28 : decode cX10_days 28 = .ok (.if_icmp .le 10, 3) := by decide +kernel
theorem dX10_days_31 : decode cX10_days 31 = .ok (.aload_n 0, 1) := by decide +kernel
theorem dX10_days_32 : decode cX10_days 32 = .ok (.ldc 183, 2) := by decide +kernel
theorem dX10_days_34 : decode cX10_days 34 = .ok (.invokevirtual 52, 3) := by decide +kernel
theorem dX10_days_37 : decode cX10_days 37 = .ok (.ireturn, 1) := by decide +kernel
theorem dX10_days_38 : decode cX10_days 38 = .ok (.aload_n 0, 1) := by decide +kernel
theorem dX10_days_39 : decode cX10_days 39 = .ok (.iload_n 1, 1) := by decide +kernel
theorem dX10_days_40 : decode cX10_days 40 = .ok (.invokevirtual 193, 3) := by decide +kernel
theorem dX10_days_43 : decode cX10_days 43 = .ok (.aload_n 0, 1) := by decide +kernel
theorem dX10_days_44 : decode cX10_days 44 = .ok (.invokevirtual 196, 3) := by decide +kernel
theorem dX10_days_47 : decode cX10_days 47 = .ok (.ireturn, 1) := by decide +kernel
theorem dX10_drawn_0 : decode cX10_drawn 0 = .ok (.aload_n 0, 1) := by decide +kernel
theorem dX10_drawn_1 : decode cX10_drawn 1 = .ok (.getfield 7, 3) := by decide +kernel
theorem dX10_drawn_4 : decode cX10_drawn 4 = .ok (.iconst 1, 1) := by decide +kernel
theorem dX10_drawn_5 : decode cX10_drawn 5 = .ok (.aload_n 0, 1) := by decide +kernel
theorem dX10_drawn_6 : decode cX10_drawn 6 = .ok (.getfield 7, 3) := by decide +kernel
theorem dX10_drawn_9 : decode cX10_drawn 9 = .ok (.iconst 1, 1) := by decide +kernel
theorem dX10_drawn_10 : decode cX10_drawn 10 = .ok (.iaload, 1) := by decide +kernel
theorem dX10_drawn_11 : decode cX10_drawn 11 = .ok (.ldc 199, 2) := by decide +kernel
theorem dX10_drawn_13 : decode cX10_drawn 13 = .ok (.imul, 1) := by decide +kernel
theorem dX10_drawn_14 : decode cX10_drawn 14 = .ok (.sipush 12345, 3) := by decide +kernel
theorem dX10_drawn_17 : decode cX10_drawn 17 = .ok (.iadd, 1) := by decide +kernel
theorem dX10_drawn_18 : decode cX10_drawn 18 = .ok (.iastore, 1) := by decide +kernel
theorem dX10_drawn_19 : decode cX10_drawn 19 = .ok (.aload_n 0, 1) := by decide +kernel
theorem dX10_drawn_20 : decode cX10_drawn 20 = .ok (.getfield 7, 3) := by decide +kernel
theorem dX10_drawn_23 : decode cX10_drawn 23 = .ok (.iconst 1, 1) := by decide +kernel
theorem dX10_drawn_24 : decode cX10_drawn 24 = .ok (.iaload, 1) := by decide +kernel
theorem dX10_drawn_25 : decode cX10_drawn 25 = .ok (.bipush 8, 2) := by decide +kernel
theorem dX10_drawn_27 : decode cX10_drawn 27 = .ok (.iushr, 1) := by decide +kernel
theorem dX10_drawn_28 : decode cX10_drawn 28 = .ok (.iload_n 1, 1) := by decide +kernel
theorem dX10_drawn_29 : decode cX10_drawn 29 = .ok (.irem, 1) := by decide +kernel
theorem dX10_drawn_30 : decode cX10_drawn 30 = .ok (.ireturn, 1) := by decide +kernel
theorem dX10_loose_0 : decode cX10_loose 0 = .ok (.iload_n 1, 1) := by decide +kernel
theorem dX10_loose_1 : decode cX10_loose 1 = .ok (.iconst 1, 1) := by decide +kernel
theorem dX10_loose_2 : decode cX10_loose 2 = .ok (.bipush 40, 2) := by decide +kernel
theorem dX10_loose_4 : decode cX10_loose 4 = .ok (.invokestatic 47, 3) := by decide +kernel
theorem dX10_loose_7 : decode cX10_loose 7 = .ok (.ifCond .ne 10, 3) := by decide +kernel
theorem dX10_loose_10 : decode cX10_loose 10 = .ok (.aload_n 0, 1) := by decide +kernel
theorem dX10_loose_11 : decode cX10_loose 11 = .ok (.ldc 51, 2) := by decide +kernel
theorem dX10_loose_13 : decode cX10_loose 13 = .ok (.invokevirtual 52, 3) := by decide +kernel
theorem dX10_loose_16 : decode cX10_loose 16 = .ok (.ireturn, 1) := by decide +kernel
theorem dX10_loose_17 : decode cX10_loose 17 = .ok (.aload_n 0, 1) := by decide +kernel
theorem dX10_loose_18 : decode cX10_loose 18 = .ok (.getfield 7, 3) := by decide +kernel
theorem dX10_loose_21 : decode cX10_loose 21 = .ok (.iconst 0, 1) := by decide +kernel
theorem dX10_loose_22 : decode cX10_loose 22 = .ok (.iaload, 1) := by decide +kernel
theorem dX10_loose_23 : decode cX10_loose 23 = .ok (.iload_n 1, 1) := by decide +kernel
theorem dX10_loose_24 : decode cX10_loose 24 = .ok (.iadd, 1) := by decide +kernel
theorem dX10_loose_25 : decode cX10_loose 25 = .ok (.sipush 9999, 3) := by decide +kernel
theorem dX10_loose_28 : decode cX10_loose 28 = .ok (.if_icmp .le 10, 3) := by decide +kernel
theorem dX10_loose_31 : decode cX10_loose 31 = .ok (.aload_n 0, 1) := by decide +kernel
theorem dX10_loose_32 : decode cX10_loose 32 = .ok (.ldc 183, 2) := by decide +kernel
theorem dX10_loose_34 : decode cX10_loose 34 = .ok (.invokevirtual 52, 3) := by decide +kernel
theorem dX10_loose_37 : decode cX10_loose 37 = .ok (.ireturn, 1) := by decide +kernel
theorem dX10_loose_38 : decode cX10_loose 38 = .ok (.iconst 0, 1) := by decide +kernel
theorem dX10_loose_39 : decode cX10_loose 39 = .ok (.istore_n 2, 1) := by decide +kernel
theorem dX10_loose_40 : decode cX10_loose 40 = .ok (.iload_n 2, 1) := by decide +kernel
theorem dX10_loose_41 : decode cX10_loose 41 = .ok (.iload_n 1, 1) := by decide +kernel
theorem dX10_loose_42 : decode cX10_loose 42 = .ok (.if_icmp .ge 26, 3) := by decide +kernel
theorem dX10_loose_45 : decode cX10_loose 45 = .ok (.aload_n 0, 1) := by decide +kernel
theorem dX10_loose_46 : decode cX10_loose 46 = .ok (.getfield 7, 3) := by decide +kernel
theorem dX10_loose_49 : decode cX10_loose 49 = .ok (.bipush 7, 2) := by decide +kernel
theorem dX10_loose_51 : decode cX10_loose 51 = .ok (.aload_n 0, 1) := by decide +kernel
theorem dX10_loose_52 : decode cX10_loose 52 = .ok (.bipush 10, 2) := by decide +kernel
theorem dX10_loose_54 : decode cX10_loose 54 = .ok (.invokevirtual 200, 3) := by decide +kernel
theorem dX10_loose_57 : decode cX10_loose 57 = .ok (.iastore, 1) := by decide +kernel
theorem dX10_loose_58 : decode cX10_loose 58 = .ok (.aload_n 0, 1) := by decide +kernel
theorem dX10_loose_59 : decode cX10_loose 59 = .ok (.invokevirtual 190, 3) := by decide +kernel
theorem dX10_loose_62 : decode cX10_loose 62 = .ok (.iinc 2 1, 3) := by decide +kernel
theorem dX10_loose_65 : decode cX10_loose 65 = .ok (.goto (-25), 3) := by decide +kernel
theorem dX10_loose_68 : decode cX10_loose 68 = .ok (.aload_n 0, 1) := by decide +kernel
theorem dX10_loose_69 : decode cX10_loose 69 = .ok (.invokevirtual 196, 3) := by decide +kernel
theorem dX10_loose_72 : decode cX10_loose 72 = .ok (.ireturn, 1) := by decide +kernel
theorem dX10_setOf_0 : decode cX10_setOf 0 = .ok (.iconst 0, 1) := by decide +kernel
theorem dX10_setOf_1 : decode cX10_setOf 1 = .ok (.istore_n 2, 1) := by decide +kernel
theorem dX10_setOf_2 : decode cX10_setOf 2 = .ok (.iconst 0, 1) := by decide +kernel
theorem dX10_setOf_3 : decode cX10_setOf 3 = .ok (.istore_n 3, 1) := by decide +kernel
theorem dX10_setOf_4 : decode cX10_setOf 4 = .ok (.iload_n 3, 1) := by decide +kernel
theorem dX10_setOf_5 : decode cX10_setOf 5 = .ok (.aload_n 0, 1) := by decide +kernel
theorem dX10_setOf_6 : decode cX10_setOf 6 = .ok (.getfield 7, 3) := by decide +kernel
theorem dX10_setOf_9 : decode cX10_setOf 9 = .ok (.iconst 2, 1) := by decide +kernel
theorem dX10_setOf_10 : decode cX10_setOf 10 = .ok (.iaload, 1) := by decide +kernel
theorem dX10_setOf_11 : decode cX10_setOf 11 = .ok (.if_icmp .ge 44, 3) := by decide +kernel
theorem dX10_setOf_14 : decode cX10_setOf 14 = .ok (.iload_n 2, 1) := by decide +kernel
theorem dX10_setOf_15 : decode cX10_setOf 15 = .ok (.aload_n 0, 1) := by decide +kernel
theorem dX10_setOf_16 : decode cX10_setOf 16 = .ok (.iload_n 3, 1) := by decide +kernel
theorem dX10_setOf_17 : decode cX10_setOf 17 = .ok (.iconst 4, 1) := by decide +kernel
theorem dX10_setOf_18 : decode cX10_setOf 18 = .ok (.invokevirtual 65, 3) := by decide +kernel
theorem dX10_setOf_21 : decode cX10_setOf 21 = .ok (.iconst 1, 1) := by decide +kernel
theorem dX10_setOf_22 : decode cX10_setOf 22 = .ok (.if_icmp .ne 24, 3) := by decide +kernel
theorem dX10_setOf_25 : decode cX10_setOf 25 = .ok (.iload_n 1, 1) := by decide +kernel
theorem dX10_setOf_26 : decode cX10_setOf 26 = .ok (.ifCond .eq 14, 3) := by decide +kernel
theorem dX10_setOf_29 : decode cX10_setOf 29 = .ok (.aload_n 0, 1) := by decide +kernel
theorem dX10_setOf_30 : decode cX10_setOf 30 = .ok (.iload_n 3, 1) := by decide +kernel
theorem dX10_setOf_31 : decode cX10_setOf 31 = .ok (.iconst 5, 1) := by decide +kernel
theorem dX10_setOf_32 : decode cX10_setOf 32 = .ok (.invokevirtual 65, 3) := by decide +kernel
theorem dX10_setOf_35 : decode cX10_setOf 35 = .ok (.bipush 100, 2) := by decide +kernel
theorem dX10_setOf_37 : decode cX10_setOf 37 = .ok (.if_icmp .lt 9, 3) := by decide +kernel
theorem dX10_setOf_40 : decode cX10_setOf 40 = .ok (.iconst 1, 1) := by decide +kernel
theorem dX10_setOf_41 : decode cX10_setOf 41 = .ok (.iload_n 3, 1) := by decide +kernel
theorem dX10_setOf_42 : decode cX10_setOf 42 = .ok (.ishl, 1) := by decide +kernel
theorem dX10_setOf_43 : decode cX10_setOf 43 = .ok (.goto 4, 3) := by decide +kernel
theorem dX10_setOf_46 : decode cX10_setOf 46 = .ok (.iconst 0, 1) := by decide +kernel
theorem dX10_setOf_47 : decode cX10_setOf 47 = .ok (.ior, 1) := by decide +kernel
theorem dX10_setOf_48 : decode cX10_setOf 48 = .ok (.istore_n 2, 1) := by decide +kernel
theorem dX10_setOf_49 : decode cX10_setOf 49 = .ok (.iinc 3 1, 3) := by decide +kernel
theorem dX10_setOf_52 : decode cX10_setOf 52 = .ok (.goto (-48), 3) := by decide +kernel
theorem dX10_setOf_55 : decode cX10_setOf 55 = .ok (.iload_n 2, 1) := by decide +kernel
theorem dX10_setOf_56 : decode cX10_setOf 56 = .ok (.ireturn, 1) := by decide +kernel
theorem dX10_then_0 : decode cX10_then 0 = .ok (.iload_n 1, 1) := by decide +kernel
theorem dX10_then_1 : decode cX10_then 1 = .ok (.iconst 0, 1) := by decide +kernel
theorem dX10_then_2 : decode cX10_then 2 = .ok (.bipush 60, 2) := by decide +kernel
theorem dX10_then_4 : decode cX10_then 4 = .ok (.invokestatic 47, 3) := by decide +kernel
theorem dX10_then_7 : decode cX10_then 7 = .ok (.ifCond .eq 20, 3) := by decide +kernel
theorem dX10_then_10 : decode cX10_then 10 = .ok (.aload_n 0, 1) := by decide +kernel
theorem dX10_then_11 : decode cX10_then 11 = .ok (.iload_n 2, 1) := by decide +kernel
theorem dX10_then_12 : decode cX10_then 12 = .ok (.invokevirtual 61, 3) := by decide +kernel
theorem dX10_then_15 : decode cX10_then 15 = .ok (.ifCond .eq 12, 3) := by decide +kernel
theorem dX10_then_18 : decode cX10_then 18 = .ok (.iload_n 3, 1) := by decide +kernel
theorem dX10_then_19 : decode cX10_then 19 = .ok (.iconst 0, 1) := by decide +kernel
theorem dX10_then_20 : decode cX10_then 20 = .ok (.iconst 1, 1) := by decide +kernel
theorem dX10_then_21 : decode cX10_then 21 = .ok (.invokestatic 47, 3) := by decide +kernel
theorem dX10_then_24 : decode cX10_then 24 = .ok (.ifCond .ne 10, 3) := by decide +kernel
theorem dX10_then_27 : decode cX10_then 27 = .ok (.aload_n 0, 1) := by decide +kernel
theorem dX10_then_28 : decode cX10_then 28 = .ok (.ldc 51, 2) := by decide +kernel
theorem dX10_then_30 : decode cX10_then 30 = .ok (.invokevirtual 52, 3) := by decide +kernel
theorem dX10_then_33 : decode cX10_then 33 = .ok (.ireturn, 1) := by decide +kernel
theorem dX10_then_34 : decode cX10_then 34 = .ok (.aload_n 0, 1) := by decide +kernel
theorem dX10_then_35 : decode cX10_then 35 = .ok (.aload_n 0, 1) := by decide +kernel
theorem dX10_then_36 : decode cX10_then 36 = .ok (.getfield 7, 3) := by decide +kernel
theorem dX10_then_39 : decode cX10_then 39 = .ok (.aload_n 0, 1) := by decide +kernel
theorem dX10_then_40 : decode cX10_then 40 = .ok (.getfield 16, 3) := by decide +kernel
theorem dX10_then_43 : decode cX10_then 43 = .ok (.invokevirtual 162, 3) := by decide +kernel
theorem dX10_then_46 : decode cX10_then 46 = .ok (.aload_n 0, 1) := by decide +kernel
theorem dX10_then_47 : decode cX10_then 47 = .ok (.iload_n 1, 1) := by decide +kernel
theorem dX10_then_48 : decode cX10_then 48 = .ok (.invokevirtual 193, 3) := by decide +kernel
theorem dX10_then_51 : decode cX10_then 51 = .ok (.aload_n 0, 1) := by decide +kernel
theorem dX10_then_52 : decode cX10_then 52 = .ok (.iload_n 2, 1) := by decide +kernel
theorem dX10_then_53 : decode cX10_then 53 = .ok (.iload_n 3, 1) := by decide +kernel
theorem dX10_then_54 : decode cX10_then 54 = .ok (.ifCond .ne 7, 3) := by decide +kernel
theorem dX10_then_57 : decode cX10_then 57 = .ok (.iconst 5, 1) := by decide +kernel
theorem dX10_then_58 : decode cX10_then 58 = .ok (.goto 4, 3) := by decide +kernel
theorem dX10_then_61 : decode cX10_then 61 = .ok (.iconst 2, 1) := by decide +kernel
theorem dX10_then_62 : decode cX10_then 62 = .ok (.invokevirtual 65, 3) := by decide +kernel
theorem dX10_then_65 : decode cX10_then 65 = .ok (.istore 4, 2) := by decide +kernel
theorem dX10_then_67 : decode cX10_then 67 = .ok (.aload_n 0, 1) := by decide +kernel
theorem dX10_then_68 : decode cX10_then 68 = .ok (.aload_n 0, 1) := by decide +kernel
theorem dX10_then_69 : decode cX10_then 69 = .ok (.getfield 16, 3) := by decide +kernel
theorem dX10_then_72 : decode cX10_then 72 = .ok (.aload_n 0, 1) := by decide +kernel
theorem dX10_then_73 : decode cX10_then 73 = .ok (.getfield 7, 3) := by decide +kernel
theorem dX10_then_76 : decode cX10_then 76 = .ok (.invokevirtual 162, 3) := by decide +kernel
theorem dX10_then_79 : decode cX10_then 79 = .ok (.iload 4, 2) := by decide +kernel
theorem dX10_then_81 : decode cX10_then 81 = .ok (.ireturn, 1) := by decide +kernel
theorem dX10_first_0 : decode cX10_first 0 = .ok (.iload_n 1, 1) := by decide +kernel
theorem dX10_first_1 : decode cX10_first 1 = .ok (.iconst 0, 1) := by decide +kernel
theorem dX10_first_2 : decode cX10_first 2 = .ok (.iconst 1, 1) := by decide +kernel
theorem dX10_first_3 : decode cX10_first 3 = .ok (.invokestatic 47, 3) := by decide +kernel
theorem dX10_first_6 : decode cX10_first 6 = .ok (.ifCond .ne 10, 3) := by decide +kernel
theorem dX10_first_9 : decode cX10_first 9 = .ok (.aload_n 0, 1) := by decide +kernel
theorem dX10_first_10 : decode cX10_first 10 = .ok (.ldc 51, 2) := by decide +kernel
theorem dX10_first_12 : decode cX10_first 12 = .ok (.invokevirtual 52, 3) := by decide +kernel
theorem dX10_first_15 : decode cX10_first 15 = .ok (.ireturn, 1) := by decide +kernel
theorem dX10_first_16 : decode cX10_first 16 = .ok (.aload_n 0, 1) := by decide +kernel
theorem dX10_first_17 : decode cX10_first 17 = .ok (.iconst 1, 1) := by decide +kernel
theorem dX10_first_18 : decode cX10_first 18 = .ok (.invokevirtual 203, 3) := by decide +kernel
theorem dX10_first_21 : decode cX10_first 21 = .ok (.istore_n 2, 1) := by decide +kernel
theorem dX10_first_22 : decode cX10_first 22 = .ok (.aload_n 0, 1) := by decide +kernel
theorem dX10_first_23 : decode cX10_first 23 = .ok (.aload_n 0, 1) := by decide +kernel
theorem dX10_first_24 : decode cX10_first 24 = .ok (.getfield 7, 3) := by decide +kernel
theorem dX10_first_27 : decode cX10_first 27 = .ok (.aload_n 0, 1) := by decide +kernel
theorem dX10_first_28 : decode cX10_first 28 = .ok (.getfield 16, 3) := by decide +kernel
theorem dX10_first_31 : decode cX10_first 31 = .ok (.invokevirtual 162, 3) := by decide +kernel
theorem dX10_first_34 : decode cX10_first 34 = .ok (.iconst 0, 1) := by decide +kernel
theorem dX10_first_35 : decode cX10_first 35 = .ok (.istore_n 3, 1) := by decide +kernel
theorem dX10_first_36 : decode cX10_first 36 = .ok (.iload_n 3, 1) := by decide +kernel
theorem dX10_first_37 : decode cX10_first 37 = .ok (.bipush 60, 2) := by decide +kernel
theorem dX10_first_39 : decode cX10_first 39 = .ok (.if_icmp .gt 22, 3) := by decide +kernel
theorem dX10_first_42 : decode cX10_first 42 = .ok (.aload_n 0, 1) := by decide +kernel
theorem dX10_first_43 : decode cX10_first 43 = .ok (.iconst 1, 1) := by decide +kernel
theorem dX10_first_44 : decode cX10_first 44 = .ok (.invokevirtual 203, 3) := by decide +kernel
theorem dX10_first_47 : decode cX10_first 47 = .ok (.iload_n 2, 1) := by decide +kernel
theorem dX10_first_48 : decode cX10_first 48 = .ok (.if_icmp .ne 13, 3) := by decide +kernel
theorem dX10_first_51 : decode cX10_first 51 = .ok (.aload_n 0, 1) := by decide +kernel
theorem dX10_first_52 : decode cX10_first 52 = .ok (.invokevirtual 190, 3) := by decide +kernel
theorem dX10_first_55 : decode cX10_first 55 = .ok (.iinc 3 1, 3) := by decide +kernel
theorem dX10_first_58 : decode cX10_first 58 = .ok (.goto (-22), 3) := by decide +kernel
theorem dX10_first_61 : decode cX10_first 61 = .ok (.aload_n 0, 1) := by decide +kernel
theorem dX10_first_62 : decode cX10_first 62 = .ok (.iconst 1, 1) := by decide +kernel
theorem dX10_first_63 : decode cX10_first 63 = .ok (.invokevirtual 203, 3) := by decide +kernel
theorem dX10_first_66 : decode cX10_first 66 = .ok (.iload_n 2, 1) := by decide +kernel
theorem dX10_first_67 : decode cX10_first 67 = .ok (.iconst (-1), 1) := by decide +kernel
theorem dX10_first_68 : decode cX10_first 68 = .ok (.ixor, 1) := by decide +kernel
theorem dX10_first_69 : decode cX10_first 69 = .ok (.iand, 1) := by decide +kernel
theorem dX10_first_70 : decode cX10_first 70 = .ok (.istore 4, 2) := by decide +kernel
theorem dX10_first_72 : decode cX10_first 72 = .ok (.aload_n 0, 1) := by decide +kernel
theorem dX10_first_73 : decode cX10_first 73 = .ok (.aload_n 0, 1) := by decide +kernel
theorem dX10_first_74 : decode cX10_first 74 = .ok (.getfield 16, 3) := by decide +kernel
theorem dX10_first_77 : decode cX10_first 77 = .ok (.aload_n 0, 1) := by decide +kernel
theorem dX10_first_78 : decode cX10_first 78 = .ok (.getfield 7, 3) := by decide +kernel
theorem dX10_first_81 : decode cX10_first 81 = .ok (.invokevirtual 162, 3) := by decide +kernel
theorem dX10_first_84 : decode cX10_first 84 = .ok (.iload_n 3, 1) := by decide +kernel
theorem dX10_first_85 : decode cX10_first 85 = .ok (.bipush 60, 2) := by decide +kernel
theorem dX10_first_87 : decode cX10_first 87 = .ok (.if_icmp .le 10, 3) := by decide +kernel
theorem dX10_first_90 : decode cX10_first 90 = .ok (.aload_n 0, 1) := by decide +kernel
theorem dX10_first_91 : decode cX10_first 91 = .ok (.ldc 182, 2) := by decide +kernel
theorem dX10_first_93 : decode cX10_first 93 = .ok (.invokevirtual 52, 3) := by decide +kernel
theorem dX10_first_96 : decode cX10_first 96 = .ok (.ireturn, 1) := by decide +kernel
theorem dX10_first_97 : decode cX10_first 97 = .ok (.iconst 0, 1) := by decide +kernel
theorem dX10_first_98 : decode cX10_first 98 = .ok (.istore 5, 2) := by decide +kernel
theorem dX10_first_100 : decode cX10_first 100 = .ok (.iload 4, 2) := by decide +kernel
theorem dX10_first_102 : decode cX10_first 102 = .ok (.iload 5, 2) := by decide +kernel
theorem dX10_first_104 : decode cX10_first 104 = .ok (.ishr, 1) := by decide +kernel
theorem dX10_first_105 : decode cX10_first 105 = .ok (.iconst 1, 1) := by decide +kernel
theorem dX10_first_106 : decode cX10_first 106 = .ok (.iand, 1) := by decide +kernel
theorem dX10_first_107 : decode cX10_first 107 = .ok (.ifCond .ne 9, 3) := by decide +kernel
theorem dX10_first_110 : decode cX10_first 110 = .ok (.iinc 5 1, 3) := by decide +kernel
theorem dX10_first_113 : decode cX10_first 113 = .ok (.goto (-13), 3) := by decide +kernel
theorem dX10_first_116 : decode cX10_first 116 = .ok (.iload_n 1, 1) := by decide +kernel
theorem dX10_first_117 : decode cX10_first 117 = .ok (.ifCond .ne 7, 3) := by decide +kernel
theorem dX10_first_120 : decode cX10_first 120 = .ok (.iload_n 3, 1) := by decide +kernel
theorem dX10_first_121 : decode cX10_first 121 = .ok (.goto 5, 3) := by decide +kernel
theorem dX10_first_124 : decode cX10_first 124 = .ok (.iload 5, 2) := by decide +kernel
theorem dX10_first_126 : decode cX10_first 126 = .ok (.ireturn, 1) := by decide +kernel
theorem dX10_best_0 : decode cX10_best 0 = .ok (.aload_n 0, 1) := by decide +kernel
theorem dX10_best_1 : decode cX10_best 1 = .ok (.iload_n 1, 1) := by decide +kernel
theorem dX10_best_2 : decode cX10_best 2 = .ok (.invokevirtual 61, 3) := by decide +kernel
theorem dX10_best_5 : decode cX10_best 5 = .ok (.ifCond .eq 22, 3) := by decide +kernel
theorem dX10_best_8 : decode cX10_best 8 = .ok (.iload_n 2, 1) := by decide +kernel
theorem dX10_best_9 : decode cX10_best 9 = .ok (.iconst 0, 1) := by decide +kernel
theorem dX10_best_10 : decode cX10_best 10 = .ok (.bipush 60, 2) := by decide +kernel
theorem dX10_best_12 : decode cX10_best 12 = .ok (.invokestatic 47, 3) := by decide +kernel
theorem dX10_best_15 : decode cX10_best 15 = .ok (.ifCond .eq 12, 3) := by decide +kernel
theorem dX10_best_18 : decode cX10_best 18 = .ok (.iload_n 3, 1) := by decide +kernel
theorem dX10_best_19 : decode cX10_best 19 = .ok (.iconst 0, 1) := by decide +kernel
theorem dX10_best_20 : decode cX10_best 20 = .ok (.iconst 1, 1) := by decide +kernel
theorem dX10_best_21 : decode cX10_best 21 = .ok (.invokestatic 47, 3) := by decide +kernel
theorem dX10_best_24 : decode cX10_best 24 = .ok (.ifCond .ne 10, 3) := by decide +kernel
theorem dX10_best_27 : decode cX10_best 27 = .ok (.aload_n 0, 1) := by decide +kernel
theorem dX10_best_28 : decode cX10_best 28 = .ok (.ldc 51, 2) := by decide +kernel
theorem dX10_best_30 : decode cX10_best 30 = .ok (.invokevirtual 52, 3) := by decide +kernel
theorem dX10_best_33 : decode cX10_best 33 = .ok (.ireturn, 1) := by decide +kernel
theorem dX10_best_34 : decode cX10_best 34 = .ok (.iconst (-1), 1) := by decide +kernel
theorem dX10_best_35 : decode cX10_best 35 = .ok (.istore 4, 2) := by decide +kernel
theorem dX10_best_37 : decode cX10_best 37 = .ok (.iconst (-1), 1) := by decide +kernel
theorem dX10_best_38 : decode cX10_best 38 = .ok (.istore 5, 2) := by decide +kernel
theorem dX10_best_40 : decode cX10_best 40 = .ok (.aload_n 0, 1) := by decide +kernel
theorem dX10_best_41 : decode cX10_best 41 = .ok (.aload_n 0, 1) := by decide +kernel
theorem dX10_best_42 : decode cX10_best 42 = .ok (.getfield 7, 3) := by decide +kernel
theorem dX10_best_45 : decode cX10_best 45 = .ok (.aload_n 0, 1) := by decide +kernel
theorem dX10_best_46 : decode cX10_best 46 = .ok (.getfield 16, 3) := by decide +kernel
theorem dX10_best_49 : decode cX10_best 49 = .ok (.invokevirtual 162, 3) := by decide +kernel
theorem dX10_best_52 : decode cX10_best 52 = .ok (.iconst 0, 1) := by decide +kernel
theorem dX10_best_53 : decode cX10_best 53 = .ok (.istore 6, 2) := by decide +kernel
theorem dX10_best_55 : decode cX10_best 55 = .ok (.iload 6, 2) := by decide +kernel
theorem dX10_best_57 : decode cX10_best 57 = .ok (.bipush 127, 2) := by decide +kernel
theorem dX10_best_59 : decode cX10_best 59 = .ok (.if_icmp .gt 105, 3) := by decide +kernel
theorem dX10_best_62 : decode cX10_best 62 = .ok (.aload_n 0, 1) := by decide +kernel
theorem dX10_best_63 : decode cX10_best 63 = .ok (.iload_n 1, 1) := by decide +kernel
theorem dX10_best_64 : decode cX10_best 64 = .ok (.iload 6, 2) := by decide +kernel
theorem dX10_best_66 : decode cX10_best 66 = .ok (.invokevirtual 78, 3) := by decide +kernel
theorem dX10_best_69 : decode cX10_best 69 = .ok (.ifCond .eq 89, 3) := by decide +kernel
theorem dX10_best_72 : decode cX10_best 72 = .ok (.aload_n 0, 1) := by decide +kernel
theorem dX10_best_73 : decode cX10_best 73 = .ok (.iload 6, 2) := by decide +kernel
theorem dX10_best_75 : decode cX10_best 75 = .ok (.invokevirtual 72, 3) := by decide +kernel
theorem dX10_best_78 : decode cX10_best 78 = .ok (.aload_n 0, 1) := by decide +kernel
theorem dX10_best_79 : decode cX10_best 79 = .ok (.iload_n 1, 1) := by decide +kernel
theorem dX10_best_80 : decode cX10_best 80 = .ok (.invokevirtual 75, 3) := by decide +kernel
theorem dX10_best_83 : decode cX10_best 83 = .ok (.if_icmp .gt 75, 3) := by decide +kernel
theorem dX10_best_86 : decode cX10_best 86 = .ok (.aload_n 0, 1) := by decide +kernel
theorem dX10_best_87 : decode cX10_best 87 = .ok (.iload_n 1, 1) := by decide +kernel
theorem dX10_best_88 : decode cX10_best 88 = .ok (.iconst 3, 1) := by decide +kernel
theorem dX10_best_89 : decode cX10_best 89 = .ok (.iload 6, 2) := by decide +kernel
theorem dX10_best_91 : decode cX10_best 91 = .ok (.invokevirtual 57, 3) := by decide +kernel
theorem dX10_best_94 : decode cX10_best 94 = .ok (.aload_n 0, 1) := by decide +kernel
theorem dX10_best_95 : decode cX10_best 95 = .ok (.iload_n 1, 1) := by decide +kernel
theorem dX10_best_96 : decode cX10_best 96 = .ok (.iconst 4, 1) := by decide +kernel
theorem dX10_best_97 : decode cX10_best 97 = .ok (.iconst 1, 1) := by decide +kernel
theorem dX10_best_98 : decode cX10_best 98 = .ok (.invokevirtual 57, 3) := by decide +kernel
theorem dX10_best_101 : decode cX10_best 101 = .ok (.aload_n 0, 1) := by decide +kernel
theorem dX10_best_102 : decode cX10_best 102 = .ok (.iload_n 2, 1) := by decide +kernel
theorem dX10_best_103 : decode cX10_best 103 = .ok (.invokevirtual 193, 3) := by decide +kernel
theorem dX10_best_106 : decode cX10_best 106 = .ok (.aload_n 0, 1) := by decide +kernel
theorem dX10_best_107 : decode cX10_best 107 = .ok (.iload_n 1, 1) := by decide +kernel
theorem dX10_best_108 : decode cX10_best 108 = .ok (.iconst 5, 1) := by decide +kernel
theorem dX10_best_109 : decode cX10_best 109 = .ok (.invokevirtual 65, 3) := by decide +kernel
theorem dX10_best_112 : decode cX10_best 112 = .ok (.istore 7, 2) := by decide +kernel
theorem dX10_best_114 : decode cX10_best 114 = .ok (.aload_n 0, 1) := by decide +kernel
theorem dX10_best_115 : decode cX10_best 115 = .ok (.aload_n 0, 1) := by decide +kernel
theorem dX10_best_116 : decode cX10_best 116 = .ok (.getfield 16, 3) := by decide +kernel
theorem dX10_best_119 : decode cX10_best 119 = .ok (.aload_n 0, 1) := by decide +kernel
theorem dX10_best_120 : decode cX10_best 120 = .ok (.getfield 7, 3) := by decide +kernel
theorem dX10_best_123 : decode cX10_best 123 = .ok (.invokevirtual 162, 3) := by decide +kernel
theorem dX10_best_126 : decode cX10_best 126 = .ok (.iload 7, 2) := by decide +kernel
theorem dX10_best_128 : decode cX10_best 128 = .ok (.iload 5, 2) := by decide +kernel
theorem dX10_best_130 : decode cX10_best 130 = .ok (.if_icmp .le 8, 3) := by decide +kernel
theorem dX10_best_133 : decode cX10_best 133 = .ok (.iload 6, 2) := by decide +kernel
theorem dX10_best_135 : decode cX10_best 135 = .ok (.goto 5, 3) := by decide +kernel
theorem dX10_best_138 : decode cX10_best 138 = .ok (.iload 4, 2) := by decide +kernel
theorem dX10_best_140 : decode cX10_best 140 = .ok (.istore 4, 2) := by decide +kernel
theorem dX10_best_142 : decode cX10_best 142 = .ok (.iload 7, 2) := by decide +kernel
theorem dX10_best_144 : decode cX10_best 144 = .ok (.iload 5, 2) := by decide +kernel
theorem dX10_best_146 : decode cX10_best 146 = .ok (.if_icmp .le 8, 3) := by decide +kernel
theorem dX10_best_149 : decode cX10_best 149 = .ok (.iload 7, 2) := by decide +kernel
theorem dX10_best_151 : decode cX10_best 151 = .ok (.goto 5, 3) := by decide +kernel
theorem dX10_best_154 : decode cX10_best 154 = .ok (.iload 5, 2) := by decide +kernel
theorem dX10_best_156 : decode cX10_best 156 = .ok (.istore 5, 2) := by decide +kernel
theorem dX10_best_158 : decode cX10_best 158 = .ok (.iinc 6 1, 3) := by decide +kernel
theorem dX10_best_161 : decode cX10_best 161 = .ok (.goto (-106), 3) := by decide +kernel
theorem dX10_best_164 : decode cX10_best 164 = .ok (.iload 4, 2) := by decide +kernel
theorem dX10_best_166 : decode cX10_best 166 = .ok (.ifCond .ge 10, 3) := by decide +kernel
theorem dX10_best_169 : decode cX10_best 169 = .ok (.aload_n 0, 1) := by decide +kernel
theorem dX10_best_170 : decode cX10_best 170 = .ok (.ldc 182, 2) := by decide +kernel
theorem dX10_best_172 : decode cX10_best 172 = .ok (.invokevirtual 52, 3) := by decide +kernel
theorem dX10_best_175 : decode cX10_best 175 = .ok (.ireturn, 1) := by decide +kernel
theorem dX10_best_176 : decode cX10_best 176 = .ok (.iload_n 3, 1) := by decide +kernel
theorem dX10_best_177 : decode cX10_best 177 = .ok (.ifCond .ne 8, 3) := by decide +kernel
theorem dX10_best_180 : decode cX10_best 180 = .ok (.iload 4, 2) := by decide +kernel
theorem dX10_best_182 : decode cX10_best 182 = .ok (.goto 5, 3) := by decide +kernel
theorem dX10_best_185 : decode cX10_best 185 = .ok (.iload 5, 2) := by decide +kernel
theorem dX10_best_187 : decode cX10_best 187 = .ok (.ireturn, 1) := by decide +kernel
theorem dX10_isSheet_0 : decode cX10_isSheet 0 = .ok (.iload_n 0, 1) := by decide +kernel
theorem dX10_isSheet_1 : decode cX10_isSheet 1 = .ok (.iconst 0, 1) := by decide +kernel
theorem dX10_isSheet_2 : decode cX10_isSheet 2 = .ok (.iconst 3, 1) := by decide +kernel
theorem dX10_isSheet_3 : decode cX10_isSheet 3 = .ok (.invokestatic 47, 3) := by decide +kernel
theorem dX10_isSheet_6 : decode cX10_isSheet 6 = .ok (.ireturn, 1) := by decide +kernel
theorem dX10_isFarSo_0 : decode cX10_isFarSo 0 = .ok (.iconst 1, 1) := by decide +kernel
theorem dX10_isFarSo_1 : decode cX10_isFarSo 1 = .ok (.istore_n 3, 1) := by decide +kernel
theorem dX10_isFarSo_2 : decode cX10_isFarSo 2 = .ok (.aload_n 0, 1) := by decide +kernel
theorem dX10_isFarSo_3 : decode cX10_isFarSo 3 = .ok (.iload_n 2, 1) := by decide +kernel
theorem dX10_isFarSo_4 : decode cX10_isFarSo 4 = .ok (.invokevirtual 193, 3) := by decide +kernel
theorem dX10_isFarSo_7 : decode cX10_isFarSo 7 = .ok (.iconst 0, 1) := by decide +kernel
theorem dX10_isFarSo_8 : decode cX10_isFarSo 8 = .ok (.istore 4, 2) := by decide +kernel
theorem dX10_isFarSo_10 : decode cX10_isFarSo 10 = .ok (.iload 4, 2) := by decide +kernel
theorem dX10_isFarSo_12 : decode cX10_isFarSo 12 = .ok (.aload_n 0, 1) := by decide +kernel
theorem dX10_isFarSo_13 : decode cX10_isFarSo 13 = .ok (.getfield 7, 3) := by decide +kernel
theorem dX10_isFarSo_16 : decode cX10_isFarSo 16 = .ok (.iconst 2, 1) := by decide +kernel
theorem dX10_isFarSo_17 : decode cX10_isFarSo 17 = .ok (.iaload, 1) := by decide +kernel
theorem dX10_isFarSo_18 : decode cX10_isFarSo 18 = .ok (.if_icmp .ge 41, 3) := by decide +kernel
theorem dX10_isFarSo_21 : decode cX10_isFarSo 21 = .ok (.iload_n 3, 1) := by decide +kernel
theorem dX10_isFarSo_22 : decode cX10_isFarSo 22 = .ok (.ifCond .eq 29, 3) := by decide +kernel
theorem dX10_isFarSo_25 : decode cX10_isFarSo 25 = .ok (.aload_n 0, 1) := by decide +kernel
theorem dX10_isFarSo_26 : decode cX10_isFarSo 26 = .ok (.iload 4, 2) := by decide +kernel
theorem dX10_isFarSo_28 : decode cX10_isFarSo 28 = .ok (.iconst 5, 1) := by decide +kernel
theorem dX10_isFarSo_29 : decode cX10_isFarSo 29 = .ok (.invokevirtual 65, 3) := by decide +kernel
theorem dX10_isFarSo_32 : decode cX10_isFarSo 32 = .ok (.aload_n 0, 1) := by decide +kernel
theorem dX10_isFarSo_33 : decode cX10_isFarSo 33 = .ok (.getfield 37, 3) := by decide +kernel
theorem dX10_isFarSo_36 : decode cX10_isFarSo 36 = .ok (.bipush 40, 2) := by decide +kernel
theorem dX10_isFarSo_38 : decode cX10_isFarSo 38 = .ok (.iload_n 1, 1) := by decide +kernel
theorem dX10_isFarSo_39 : decode cX10_isFarSo 39 = .ok (.imul, 1) := by decide +kernel
theorem dX10_isFarSo_40 : decode cX10_isFarSo 40 = .ok (.iload 4, 2) := by decide +kernel
theorem dX10_isFarSo_42 : decode cX10_isFarSo 42 = .ok (.iadd, 1) := by decide +kernel
theorem dX10_isFarSo_43 : decode cX10_isFarSo 43 = .ok (.iaload, 1) := by decide +kernel
theorem dX10_isFarSo_44 : decode cX10_isFarSo 44 = .ok (.if_icmp .ne 7, 3) := by decide +kernel
theorem dX10_isFarSo_47 : decode cX10_isFarSo 47 = .ok (.iconst 1, 1) := by decide +kernel
theorem dX10_isFarSo_48 : decode cX10_isFarSo 48 = .ok (.goto 4, 3) := by decide +kernel
theorem dX10_isFarSo_51 : decode cX10_isFarSo 51 = .ok (.iconst 0, 1) := by decide +kernel
theorem dX10_isFarSo_52 : decode cX10_isFarSo 52 = .ok (.istore_n 3, 1) := by decide +kernel
theorem dX10_isFarSo_53 : decode cX10_isFarSo 53 = .ok (.iinc 4 1, 3) := by decide +kernel
theorem dX10_isFarSo_56 : decode cX10_isFarSo 56 = .ok (.goto (-46), 3) := by decide +kernel
theorem dX10_isFarSo_59 : decode cX10_isFarSo 59 = .ok (.iload_n 3, 1) := by decide +kernel
theorem dX10_isFarSo_60 : decode cX10_isFarSo 60 = .ok (.ireturn, 1) := by decide +kernel
theorem dX10_fits_0 : decode cX10_fits 0 = .ok (.iload_n 1, 1) := by decide +kernel
theorem dX10_fits_1 : decode cX10_fits 1 = .ok (.invokestatic 207, 3) := by decide +kernel
theorem dX10_fits_4 : decode cX10_fits 4 = .ok (.ifCond .eq 12, 3) := by decide +kernel
theorem dX10_fits_7 : decode cX10_fits 7 = .ok (.iload_n 2, 1) := by decide +kernel
theorem dX10_fits_8 : decode cX10_fits 8 = .ok (.iconst 0, 1) := by decide +kernel
theorem dX10_fits_9 : decode cX10_fits 9 = .ok (.iconst 1, 1) := by decide +kernel
theorem dX10_fits_10 : decode cX10_fits 10 = .ok (.invokestatic 47, 3) := by decide +kernel
theorem dX10_fits_13 : decode cX10_fits 13 = .ok (.ifCond .ne 10, 3) := by decide +kernel
theorem dX10_fits_16 : decode cX10_fits 16 = .ok (.aload_n 0, 1) := by decide +kernel
theorem dX10_fits_17 : decode cX10_fits 17 = .ok (.ldc 51, 2) := by decide +kernel
theorem dX10_fits_19 : decode cX10_fits 19 = .ok (.invokevirtual 52, 3) := by decide +kernel
theorem dX10_fits_22 : decode cX10_fits 22 = .ok (.ireturn, 1) := by decide +kernel
theorem dX10_fits_23 : decode cX10_fits 23 = .ok (.aload_n 0, 1) := by decide +kernel
theorem dX10_fits_24 : decode cX10_fits 24 = .ok (.getfield 7, 3) := by decide +kernel
theorem dX10_fits_27 : decode cX10_fits 27 = .ok (.iconst 2, 1) := by decide +kernel
theorem dX10_fits_28 : decode cX10_fits 28 = .ok (.iaload, 1) := by decide +kernel
theorem dX10_fits_29 : decode cX10_fits 29 = .ok (.istore_n 3, 1) := by decide +kernel
theorem dX10_fits_30 : decode cX10_fits 30 = .ok (.aload_n 0, 1) := by decide +kernel
theorem dX10_fits_31 : decode cX10_fits 31 = .ok (.getfield 31, 3) := by decide +kernel
theorem dX10_fits_34 : decode cX10_fits 34 = .ok (.iload_n 1, 1) := by decide +kernel
theorem dX10_fits_35 : decode cX10_fits 35 = .ok (.iaload, 1) := by decide +kernel
theorem dX10_fits_36 : decode cX10_fits 36 = .ok (.ifCond .eq 35, 3) := by decide +kernel
theorem dX10_fits_39 : decode cX10_fits 39 = .ok (.aload_n 0, 1) := by decide +kernel
theorem dX10_fits_40 : decode cX10_fits 40 = .ok (.getfield 34, 3) := by decide +kernel
theorem dX10_fits_43 : decode cX10_fits 43 = .ok (.iload_n 1, 1) := by decide +kernel
theorem dX10_fits_44 : decode cX10_fits 44 = .ok (.iaload, 1) := by decide +kernel
theorem dX10_fits_45 : decode cX10_fits 45 = .ok (.iload_n 3, 1) := by decide +kernel
theorem dX10_fits_46 : decode cX10_fits 46 = .ok (.iconst 1, 1) := by decide +kernel
theorem dX10_fits_47 : decode cX10_fits 47 = .ok (.iadd, 1) := by decide +kernel
theorem dX10_fits_48 : decode cX10_fits 48 = .ok (.if_icmp .ne 23, 3) := by decide +kernel
theorem dX10_fits_51 : decode cX10_fits 51 = .ok (.aload_n 0, 1) := by decide +kernel
theorem dX10_fits_52 : decode cX10_fits 52 = .ok (.getfield 37, 3) := by decide +kernel
theorem dX10_fits_55 : decode cX10_fits 55 = .ok (.bipush 40, 2) := by decide +kernel
theorem dX10_fits_57 : decode cX10_fits 57 = .ok (.iload_n 1, 1) := by decide +kernel
theorem dX10_fits_58 : decode cX10_fits 58 = .ok (.imul, 1) := by decide +kernel
theorem dX10_fits_59 : decode cX10_fits 59 = .ok (.iload_n 3, 1) := by decide +kernel
theorem dX10_fits_60 : decode cX10_fits 60 = .ok (.iadd, 1) := by decide +kernel
theorem dX10_fits_61 : decode cX10_fits 61 = .ok (.iaload, 1) := by decide +kernel
theorem dX10_fits_62 : decode cX10_fits 62 = .ok (.iconst 0, 1) := by decide +kernel
theorem dX10_fits_63 : decode cX10_fits 63 = .ok (.bipush 60, 2) := by decide +kernel
theorem dX10_fits_65 : decode cX10_fits 65 = .ok (.invokestatic 47, 3) := by decide +kernel
theorem dX10_fits_68 : decode cX10_fits 68 = .ok (.ifCond .ne 10, 3) := by decide +kernel
theorem dX10_fits_71 : decode cX10_fits 71 = .ok (.aload_n 0, 1) := by decide +kernel
theorem dX10_fits_72 : decode cX10_fits 72 = .ok (.ldc 182, 2) := by decide +kernel
theorem dX10_fits_74 : decode cX10_fits 74 = .ok (.invokevirtual 52, 3) := by decide +kernel
theorem dX10_fits_77 : decode cX10_fits 77 = .ok (.ireturn, 1) := by decide +kernel
theorem dX10_fits_78 : decode cX10_fits 78 = .ok (.iconst 0, 1) := by decide +kernel
theorem dX10_fits_79 : decode cX10_fits 79 = .ok (.istore 4, 2) := by decide +kernel
theorem dX10_fits_81 : decode cX10_fits 81 = .ok (.aload_n 0, 1) := by decide +kernel
theorem dX10_fits_82 : decode cX10_fits 82 = .ok (.aload_n 0, 1) := by decide +kernel
theorem dX10_fits_83 : decode cX10_fits 83 = .ok (.getfield 7, 3) := by decide +kernel
theorem dX10_fits_86 : decode cX10_fits 86 = .ok (.aload_n 0, 1) := by decide +kernel
theorem dX10_fits_87 : decode cX10_fits 87 = .ok (.getfield 16, 3) := by decide +kernel
theorem dX10_fits_90 : decode cX10_fits 90 = .ok (.invokevirtual 162, 3) := by decide +kernel
theorem dX10_fits_93 : decode cX10_fits 93 = .ok (.iconst 0, 1) := by decide +kernel
theorem dX10_fits_94 : decode cX10_fits 94 = .ok (.istore 5, 2) := by decide +kernel
theorem dX10_fits_96 : decode cX10_fits 96 = .ok (.iload 5, 2) := by decide +kernel
theorem dX10_fits_98 : decode cX10_fits 98 = .ok (.bipush 10, 2) := by decide +kernel
theorem dX10_fits_100 : decode cX10_fits 100 = .ok (.if_icmp .ge 62, 3) := by decide +kernel
theorem dX10_fits_103 : decode cX10_fits 103 = .ok (.aload_n 0, 1) := by decide +kernel
theorem dX10_fits_104 : decode cX10_fits 104 = .ok (.getfield 7, 3) := by decide +kernel
theorem dX10_fits_107 : decode cX10_fits 107 = .ok (.bipush 7, 2) := by decide +kernel
theorem dX10_fits_109 : decode cX10_fits 109 = .ok (.iload 5, 2) := by decide +kernel
theorem dX10_fits_111 : decode cX10_fits 111 = .ok (.iastore, 1) := by decide +kernel
theorem dX10_fits_112 : decode cX10_fits 112 = .ok (.iload 4, 2) := by decide +kernel
theorem dX10_fits_114 : decode cX10_fits 114 = .ok (.aload_n 0, 1) := by decide +kernel
theorem dX10_fits_115 : decode cX10_fits 115 = .ok (.iload_n 1, 1) := by decide +kernel
theorem dX10_fits_116 : decode cX10_fits 116 = .ok (.aload_n 0, 1) := by decide +kernel
theorem dX10_fits_117 : decode cX10_fits 117 = .ok (.getfield 37, 3) := by decide +kernel
theorem dX10_fits_120 : decode cX10_fits 120 = .ok (.bipush 40, 2) := by decide +kernel
theorem dX10_fits_122 : decode cX10_fits 122 = .ok (.iload_n 1, 1) := by decide +kernel
theorem dX10_fits_123 : decode cX10_fits 123 = .ok (.imul, 1) := by decide +kernel
theorem dX10_fits_124 : decode cX10_fits 124 = .ok (.iload_n 3, 1) := by decide +kernel
theorem dX10_fits_125 : decode cX10_fits 125 = .ok (.iadd, 1) := by decide +kernel
theorem dX10_fits_126 : decode cX10_fits 126 = .ok (.iaload, 1) := by decide +kernel
theorem dX10_fits_127 : decode cX10_fits 127 = .ok (.invokevirtual 210, 3) := by decide +kernel
theorem dX10_fits_130 : decode cX10_fits 130 = .ok (.ifCond .eq 10, 3) := by decide +kernel
theorem dX10_fits_133 : decode cX10_fits 133 = .ok (.iconst 1, 1) := by decide +kernel
theorem dX10_fits_134 : decode cX10_fits 134 = .ok (.iload 5, 2) := by decide +kernel
theorem dX10_fits_136 : decode cX10_fits 136 = .ok (.ishl, 1) := by decide +kernel
theorem dX10_fits_137 : decode cX10_fits 137 = .ok (.goto 4, 3) := by decide +kernel
theorem dX10_fits_140 : decode cX10_fits 140 = .ok (.iconst 0, 1) := by decide +kernel
theorem dX10_fits_141 : decode cX10_fits 141 = .ok (.ior, 1) := by decide +kernel
theorem dX10_fits_142 : decode cX10_fits 142 = .ok (.istore 4, 2) := by decide +kernel
theorem dX10_fits_144 : decode cX10_fits 144 = .ok (.aload_n 0, 1) := by decide +kernel
theorem dX10_fits_145 : decode cX10_fits 145 = .ok (.aload_n 0, 1) := by decide +kernel
theorem dX10_fits_146 : decode cX10_fits 146 = .ok (.getfield 16, 3) := by decide +kernel
theorem dX10_fits_149 : decode cX10_fits 149 = .ok (.aload_n 0, 1) := by decide +kernel
theorem dX10_fits_150 : decode cX10_fits 150 = .ok (.getfield 7, 3) := by decide +kernel
theorem dX10_fits_153 : decode cX10_fits 153 = .ok (.invokevirtual 162, 3) := by decide +kernel
theorem dX10_fits_156 : decode cX10_fits 156 = .ok (.iinc 5 1, 3) := by decide +kernel
theorem dX10_fits_159 : decode cX10_fits 159 = .ok (.goto (-63), 3) := by decide +kernel
theorem dX10_fits_162 : decode cX10_fits 162 = .ok (.iload_n 2, 1) := by decide +kernel
theorem dX10_fits_163 : decode cX10_fits 163 = .ok (.ifCond .ne 8, 3) := by decide +kernel
theorem dX10_fits_166 : decode cX10_fits 166 = .ok (.iload 4, 2) := by decide +kernel
theorem dX10_fits_168 : decode cX10_fits 168 = .ok (.goto 8, 3) := by decide +kernel
theorem dX10_fits_171 : decode cX10_fits 171 = .ok (.iload 4, 2) := by decide +kernel
theorem dX10_fits_173 : decode cX10_fits 173 = .ok (.invokestatic 179, 3) := by decide +kernel
theorem dX10_fits_176 : decode cX10_fits 176 = .ok (.ireturn, 1) := by decide +kernel
theorem dX10_owed_0 : decode cX10_owed 0 = .ok (.iload_n 1, 1) := by decide +kernel
theorem dX10_owed_1 : decode cX10_owed 1 = .ok (.iconst 0, 1) := by decide +kernel
theorem dX10_owed_2 : decode cX10_owed 2 = .ok (.bipush 60, 2) := by decide +kernel
theorem dX10_owed_4 : decode cX10_owed 4 = .ok (.invokestatic 47, 3) := by decide +kernel
theorem dX10_owed_7 : decode cX10_owed 7 = .ok (.ifCond .ne 10, 3) := by decide +kernel
theorem dX10_owed_10 : decode cX10_owed 10 = .ok (.aload_n 0, 1) := by decide +kernel
theorem dX10_owed_11 : decode cX10_owed 11 = .ok (.ldc 51, 2) := by decide +kernel
theorem dX10_owed_13 : decode cX10_owed 13 = .ok (.invokevirtual 52, 3) := by decide +kernel
theorem dX10_owed_16 : decode cX10_owed 16 = .ok (.ireturn, 1) := by decide +kernel
theorem dX10_owed_17 : decode cX10_owed 17 = .ok (.aload_n 0, 1) := by decide +kernel
theorem dX10_owed_18 : decode cX10_owed 18 = .ok (.aload_n 0, 1) := by decide +kernel
theorem dX10_owed_19 : decode cX10_owed 19 = .ok (.getfield 7, 3) := by decide +kernel
theorem dX10_owed_22 : decode cX10_owed 22 = .ok (.aload_n 0, 1) := by decide +kernel
theorem dX10_owed_23 : decode cX10_owed 23 = .ok (.getfield 16, 3) := by decide +kernel
theorem dX10_owed_26 : decode cX10_owed 26 = .ok (.invokevirtual 162, 3) := by decide +kernel
theorem dX10_owed_29 : decode cX10_owed 29 = .ok (.aload_n 0, 1) := by decide +kernel
theorem dX10_owed_30 : decode cX10_owed 30 = .ok (.iload_n 1, 1) := by decide +kernel
theorem dX10_owed_31 : decode cX10_owed 31 = .ok (.invokevirtual 193, 3) := by decide +kernel
theorem dX10_owed_34 : decode cX10_owed 34 = .ok (.aload_n 0, 1) := by decide +kernel
theorem dX10_owed_35 : decode cX10_owed 35 = .ok (.invokevirtual 196, 3) := by decide +kernel
theorem dX10_owed_38 : decode cX10_owed 38 = .ok (.istore_n 2, 1) := by decide +kernel
theorem dX10_owed_39 : decode cX10_owed 39 = .ok (.aload_n 0, 1) := by decide +kernel
theorem dX10_owed_40 : decode cX10_owed 40 = .ok (.aload_n 0, 1) := by decide +kernel
theorem dX10_owed_41 : decode cX10_owed 41 = .ok (.getfield 16, 3) := by decide +kernel
theorem dX10_owed_44 : decode cX10_owed 44 = .ok (.aload_n 0, 1) := by decide +kernel
theorem dX10_owed_45 : decode cX10_owed 45 = .ok (.getfield 7, 3) := by decide +kernel
theorem dX10_owed_48 : decode cX10_owed 48 = .ok (.invokevirtual 162, 3) := by decide +kernel
theorem dX10_owed_51 : decode cX10_owed 51 = .ok (.iload_n 2, 1) := by decide +kernel
theorem dX10_owed_52 : decode cX10_owed 52 = .ok (.ireturn, 1) := by decide +kernel
theorem dX10_debtor_0 : decode cX10_debtor 0 = .ok (.iload_n 1, 1) := by decide +kernel
theorem dX10_debtor_1 : decode cX10_debtor 1 = .ok (.iconst 0, 1) := by decide +kernel
theorem dX10_debtor_2 : decode cX10_debtor 2 = .ok (.bipush 30, 2) := by decide +kernel
theorem dX10_debtor_4 : decode cX10_debtor 4 = .ok (.invokestatic 47, 3) := by decide +kernel
theorem dX10_debtor_7 : decode cX10_debtor 7 = .ok (.ifCond .ne 10, 3) := by decide +kernel
theorem dX10_debtor_10 : decode cX10_debtor 10 = .ok (.aload_n 0, 1) := by decide +kernel
theorem dX10_debtor_11 : decode cX10_debtor 11 = .ok (.ldc 51, 2) := by decide +kernel
theorem dX10_debtor_13 : decode cX10_debtor 13 = .ok (.invokevirtual 52, 3) := by decide +kernel
theorem dX10_debtor_16 : decode cX10_debtor 16 = .ok (.ireturn, 1) := by decide +kernel
theorem dX10_debtor_17 : decode cX10_debtor 17 = .ok (.iconst (-1), 1) := by decide +kernel
theorem dX10_debtor_18 : decode cX10_debtor 18 = .ok (.istore_n 2, 1) := by decide +kernel
theorem dX10_debtor_19 : decode cX10_debtor 19 = .ok (.iconst 0, 1) := by decide +kernel
theorem dX10_debtor_20 : decode cX10_debtor 20 = .ok (.istore_n 3, 1) := by decide +kernel
theorem dX10_debtor_21 : decode cX10_debtor 21 = .ok (.aload_n 0, 1) := by decide +kernel
theorem dX10_debtor_22 : decode cX10_debtor 22 = .ok (.aload_n 0, 1) := by decide +kernel
theorem dX10_debtor_23 : decode cX10_debtor 23 = .ok (.getfield 7, 3) := by decide +kernel
theorem dX10_debtor_26 : decode cX10_debtor 26 = .ok (.aload_n 0, 1) := by decide +kernel
theorem dX10_debtor_27 : decode cX10_debtor 27 = .ok (.getfield 16, 3) := by decide +kernel
theorem dX10_debtor_30 : decode cX10_debtor 30 = .ok (.invokevirtual 162, 3) := by decide +kernel
theorem dX10_debtor_33 : decode cX10_debtor 33 = .ok (.iconst 0, 1) := by decide +kernel
theorem dX10_debtor_34 : decode cX10_debtor 34 = .ok (.istore 4, 2) := by decide +kernel
theorem dX10_debtor_36 : decode cX10_debtor 36 = .ok (.iload 4, 2) := by decide +kernel
theorem dX10_debtor_38 : decode cX10_debtor 38 = .ok (.aload_n 0, 1) := by decide +kernel
theorem dX10_debtor_39 : decode cX10_debtor 39 = .ok (.getfield 16, 3) := by decide +kernel
theorem dX10_debtor_42 : decode cX10_debtor 42 = .ok (.iconst 2, 1) := by decide +kernel
theorem dX10_debtor_43 : decode cX10_debtor 43 = .ok (.iaload, 1) := by decide +kernel
theorem dX10_debtor_44 : decode cX10_debtor 44 = .ok (.if_icmp .ge 56, 3) := by decide +kernel
theorem dX10_debtor_47 : decode cX10_debtor 47 = .ok (.aload_n 0, 1) := by decide +kernel
theorem dX10_debtor_48 : decode cX10_debtor 48 = .ok (.iload 4, 2) := by decide +kernel
theorem dX10_debtor_50 : decode cX10_debtor 50 = .ok (.iconst 4, 1) := by decide +kernel
theorem dX10_debtor_51 : decode cX10_debtor 51 = .ok (.iconst 1, 1) := by decide +kernel
theorem dX10_debtor_52 : decode cX10_debtor 52 = .ok (.invokevirtual 57, 3) := by decide +kernel
theorem dX10_debtor_55 : decode cX10_debtor 55 = .ok (.aload_n 0, 1) := by decide +kernel
theorem dX10_debtor_56 : decode cX10_debtor 56 = .ok (.iload_n 1, 1) := by decide +kernel
theorem dX10_debtor_57 : decode cX10_debtor 57 = .ok (.invokevirtual 193, 3) := by decide +kernel
theorem dX10_debtor_60 : decode cX10_debtor 60 = .ok (.aload_n 0, 1) := by decide +kernel
theorem dX10_debtor_61 : decode cX10_debtor 61 = .ok (.invokevirtual 196, 3) := by decide +kernel
theorem dX10_debtor_64 : decode cX10_debtor 64 = .ok (.istore 5, 2) := by decide +kernel
theorem dX10_debtor_66 : decode cX10_debtor 66 = .ok (.aload_n 0, 1) := by decide +kernel
theorem dX10_debtor_67 : decode cX10_debtor 67 = .ok (.aload_n 0, 1) := by decide +kernel
theorem dX10_debtor_68 : decode cX10_debtor 68 = .ok (.getfield 16, 3) := by decide +kernel
theorem dX10_debtor_71 : decode cX10_debtor 71 = .ok (.aload_n 0, 1) := by decide +kernel
theorem dX10_debtor_72 : decode cX10_debtor 72 = .ok (.getfield 7, 3) := by decide +kernel
theorem dX10_debtor_75 : decode cX10_debtor 75 = .ok (.invokevirtual 162, 3) := by decide +kernel
theorem dX10_debtor_78 : decode cX10_debtor 78 = .ok (.iload_n 2, 1) := by decide +kernel
theorem dX10_debtor_79 : decode cX10_debtor 79 = .ok (.ifCond .lt 9, 3) := by decide +kernel
theorem dX10_debtor_82 : decode cX10_debtor 82 = .ok (.iload 5, 2) := by decide +kernel
theorem dX10_debtor_84 : decode cX10_debtor 84 = .ok (.iload_n 3, 1) := by decide +kernel
theorem dX10_debtor_85 : decode cX10_debtor 85 = .ok (.if_icmp .ge 9, 3) := by decide +kernel
theorem dX10_debtor_88 : decode cX10_debtor 88 = .ok (.iload 4, 2) := by decide +kernel
theorem dX10_debtor_90 : decode cX10_debtor 90 = .ok (.istore_n 2, 1) := by decide +kernel
theorem dX10_debtor_91 : decode cX10_debtor 91 = .ok (.iload 5, 2) := by decide +kernel
theorem dX10_debtor_93 : decode cX10_debtor 93 = .ok (.istore_n 3, 1) := by decide +kernel
theorem dX10_debtor_94 : decode cX10_debtor 94 = .ok (.iinc 4 1, 3) := by decide +kernel
theorem dX10_debtor_97 : decode cX10_debtor 97 = .ok (.goto (-61), 3) := by decide +kernel
theorem dX10_debtor_100 : decode cX10_debtor 100 = .ok (.iload_n 2, 1) := by decide +kernel
theorem dX10_debtor_101 : decode cX10_debtor 101 = .ok (.ifCond .ge 12, 3) := by decide +kernel
theorem dX10_debtor_104 : decode cX10_debtor 104 = .ok (.aload_n 0, 1) := by decide +kernel
theorem dX10_debtor_105 : decode cX10_debtor 105 = .ok (.ldc 182, 2) := by decide +kernel
theorem dX10_debtor_107 : decode cX10_debtor 107 = .ok (.invokevirtual 52, 3) := by decide +kernel
theorem dX10_debtor_110 : decode cX10_debtor 110 = .ok (.goto 4, 3) := by decide +kernel
theorem dX10_debtor_113 : decode cX10_debtor 113 = .ok (.iload_n 2, 1) := by decide +kernel
theorem dX10_debtor_114 : decode cX10_debtor 114 = .ok (.ireturn, 1) := by decide +kernel
theorem dX10_divisor_0 : decode cX10_divisor 0 = .ok (.iload_n 0, 1) := by decide +kernel
theorem dX10_divisor_1 : decode cX10_divisor 1 = .ok (.istore_n 2, 1) := by decide +kernel
theorem dX10_divisor_2 : decode cX10_divisor 2 = .ok (.iload_n 1, 1) := by decide +kernel
theorem dX10_divisor_3 : decode cX10_divisor 3 = .ok (.istore_n 3, 1) := by decide +kernel
theorem dX10_divisor_4 : decode cX10_divisor 4 = .ok (.iload_n 3, 1) := by decide +kernel
theorem dX10_divisor_5 : decode cX10_divisor 5 = .ok (.ifCond .eq 16, 3) := by decide +kernel
theorem dX10_divisor_8 : decode cX10_divisor 8 = .ok (.iload_n 2, 1) := by decide +kernel
theorem dX10_divisor_9 : decode cX10_divisor 9 = .ok (.iload_n 3, 1) := by decide +kernel
theorem dX10_divisor_10 : decode cX10_divisor 10 = .ok (.irem, 1) := by decide +kernel
theorem dX10_divisor_11 : decode cX10_divisor 11 = .ok (.istore 4, 2) := by decide +kernel
theorem dX10_divisor_13 : decode cX10_divisor 13 = .ok (.iload_n 3, 1) := by decide +kernel
theorem dX10_divisor_14 : decode cX10_divisor 14 = .ok (.istore_n 2, 1) := by decide +kernel
theorem dX10_divisor_15 : decode cX10_divisor 15 = .ok (.iload 4, 2) := by decide +kernel
theorem dX10_divisor_17 : decode cX10_divisor 17 = .ok (.istore_n 3, 1) := by decide +kernel
theorem dX10_divisor_18 : decode cX10_divisor 18 = .ok (.goto (-14), 3) := by decide +kernel
theorem dX10_divisor_21 : decode cX10_divisor 21 = .ok (.iload_n 2, 1) := by decide +kernel
theorem dX10_divisor_22 : decode cX10_divisor 22 = .ok (.ireturn, 1) := by decide +kernel
theorem dX10_odds_0 : decode cX10_odds 0 = .ok (.aload_n 0, 1) := by decide +kernel
theorem dX10_odds_1 : decode cX10_odds 1 = .ok (.iload_n 1, 1) := by decide +kernel
theorem dX10_odds_2 : decode cX10_odds 2 = .ok (.invokevirtual 61, 3) := by decide +kernel
theorem dX10_odds_5 : decode cX10_odds 5 = .ok (.ifCond .eq 12, 3) := by decide +kernel
theorem dX10_odds_8 : decode cX10_odds 8 = .ok (.iload_n 2, 1) := by decide +kernel
theorem dX10_odds_9 : decode cX10_odds 9 = .ok (.iconst 0, 1) := by decide +kernel
theorem dX10_odds_10 : decode cX10_odds 10 = .ok (.iconst 1, 1) := by decide +kernel
theorem dX10_odds_11 : decode cX10_odds 11 = .ok (.invokestatic 47, 3) := by decide +kernel
theorem dX10_odds_14 : decode cX10_odds 14 = .ok (.ifCond .ne 10, 3) := by decide +kernel
theorem dX10_odds_17 : decode cX10_odds 17 = .ok (.aload_n 0, 1) := by decide +kernel
theorem dX10_odds_18 : decode cX10_odds 18 = .ok (.ldc 51, 2) := by decide +kernel
theorem dX10_odds_20 : decode cX10_odds 20 = .ok (.invokevirtual 52, 3) := by decide +kernel
theorem dX10_odds_23 : decode cX10_odds 23 = .ok (.ireturn, 1) := by decide +kernel
theorem dX10_odds_24 : decode cX10_odds 24 = .ok (.iconst 0, 1) := by decide +kernel
theorem dX10_odds_25 : decode cX10_odds 25 = .ok (.istore_n 3, 1) := by decide +kernel
theorem dX10_odds_26 : decode cX10_odds 26 = .ok (.iconst 0, 1) := by decide +kernel
theorem dX10_odds_27 : decode cX10_odds 27 = .ok (.istore 4, 2) := by decide +kernel
theorem dX10_odds_29 : decode cX10_odds 29 = .ok (.iconst 0, 1) := by decide +kernel
theorem dX10_odds_30 : decode cX10_odds 30 = .ok (.istore 5, 2) := by decide +kernel
theorem dX10_odds_32 : decode cX10_odds 32 = .ok (.iload 5, 2) := by decide +kernel
theorem dX10_odds_34 : decode cX10_odds 34 = .ok (.bipush 127, 2) := by decide +kernel
theorem dX10_odds_36 : decode cX10_odds 36 = .ok (.if_icmp .gt 68, 3) := by decide +kernel
theorem dX10_odds_39 : decode cX10_odds 39 = .ok (.aload_n 0, 1) := by decide +kernel
theorem dX10_odds_40 : decode cX10_odds 40 = .ok (.iload 5, 2) := by decide +kernel
theorem dX10_odds_42 : decode cX10_odds 42 = .ok (.invokevirtual 72, 3) := by decide +kernel
theorem dX10_odds_45 : decode cX10_odds 45 = .ok (.aload_n 0, 1) := by decide +kernel
theorem dX10_odds_46 : decode cX10_odds 46 = .ok (.iload_n 1, 1) := by decide +kernel
theorem dX10_odds_47 : decode cX10_odds 47 = .ok (.invokevirtual 75, 3) := by decide +kernel
theorem dX10_odds_50 : decode cX10_odds 50 = .ok (.if_icmp .gt 7, 3) := by decide +kernel
theorem dX10_odds_53 : decode cX10_odds 53 = .ok (.iconst 1, 1) := by decide +kernel
theorem dX10_odds_54 : decode cX10_odds 54 = .ok (.goto 4, 3) := by decide +kernel
theorem dX10_odds_57 : decode cX10_odds 57 = .ok (.iconst 0, 1) := by decide +kernel
theorem dX10_odds_58 : decode cX10_odds 58 = .ok (.istore 6, 2) := by decide +kernel
theorem dX10_odds_60 : decode cX10_odds 60 = .ok (.iload 4, 2) := by decide +kernel
theorem dX10_odds_62 : decode cX10_odds 62 = .ok (.iload 6, 2) := by decide +kernel
theorem dX10_odds_64 : decode cX10_odds 64 = .ok (.ifCond .eq 7, 3) := by decide +kernel
theorem dX10_odds_67 : decode cX10_odds 67 = .ok (.iconst 1, 1) := by decide +kernel
theorem dX10_odds_68 : decode cX10_odds 68 = .ok (.goto 4, 3) := by decide +kernel
theorem dX10_odds_71 : decode cX10_odds 71 = .ok (.iconst 0, 1) := by decide +kernel
theorem dX10_odds_72 : decode cX10_odds 72 = .ok (.iadd, 1) := by decide +kernel
theorem dX10_odds_73 : decode cX10_odds 73 = .ok (.istore 4, 2) := by decide +kernel
theorem dX10_odds_75 : decode cX10_odds 75 = .ok (.iload_n 3, 1) := by decide +kernel
theorem dX10_odds_76 : decode cX10_odds 76 = .ok (.iload 6, 2) := by decide +kernel
theorem dX10_odds_78 : decode cX10_odds 78 = .ok (.ifCond .eq 17, 3) := by decide +kernel
theorem dX10_odds_81 : decode cX10_odds 81 = .ok (.aload_n 0, 1) := by decide +kernel
theorem dX10_odds_82 : decode cX10_odds 82 = .ok (.iload_n 1, 1) := by decide +kernel
theorem dX10_odds_83 : decode cX10_odds 83 = .ok (.iload 5, 2) := by decide +kernel
theorem dX10_odds_85 : decode cX10_odds 85 = .ok (.invokevirtual 78, 3) := by decide +kernel
theorem dX10_odds_88 : decode cX10_odds 88 = .ok (.ifCond .eq 7, 3) := by decide +kernel
theorem dX10_odds_91 : decode cX10_odds 91 = .ok (.iconst 1, 1) := by decide +kernel
theorem dX10_odds_92 : decode cX10_odds 92 = .ok (.goto 4, 3) := by decide +kernel
theorem dX10_odds_95 : decode cX10_odds 95 = .ok (.iconst 0, 1) := by decide +kernel
theorem dX10_odds_96 : decode cX10_odds 96 = .ok (.iadd, 1) := by decide +kernel
theorem dX10_odds_97 : decode cX10_odds 97 = .ok (.istore_n 3, 1) := by decide +kernel
theorem dX10_odds_98 : decode cX10_odds 98 = .ok (.iinc 5 1, 3) := by decide +kernel
theorem dX10_odds_101 : decode cX10_odds 101 = .ok (.goto (-69), 3) := by decide +kernel
theorem dX10_odds_104 : decode cX10_odds 104 = .ok (.iload_n 3, 1) := by decide +kernel
theorem dX10_odds_105 : decode cX10_odds 105 = .ok (.iload 4, 2) := by decide +kernel
theorem dX10_odds_107 : decode cX10_odds 107 = .ok (.invokestatic 213, 3) := by decide +kernel
theorem dX10_odds_110 : decode cX10_odds 110 = .ok (.istore 5, 2) := by decide +kernel
theorem dX10_odds_112 : decode cX10_odds 112 = .ok (.iload_n 2, 1) := by decide +kernel
theorem dX10_odds_113 : decode cX10_odds 113 = .ok (.ifCond .ne 10, 3) := by decide +kernel
theorem dX10_odds_116 : decode cX10_odds 116 = .ok (.iload_n 3, 1) := by decide +kernel
theorem dX10_odds_117 : decode cX10_odds 117 = .ok (.iload 5, 2) := by decide +kernel
theorem dX10_odds_119 : decode cX10_odds 119 = .ok (.idiv, 1) := by decide +kernel
theorem dX10_odds_120 : decode cX10_odds 120 = .ok (.goto 8, 3) := by decide +kernel
theorem dX10_odds_123 : decode cX10_odds 123 = .ok (.iload 4, 2) := by decide +kernel
theorem dX10_odds_125 : decode cX10_odds 125 = .ok (.iload 5, 2) := by decide +kernel
theorem dX10_odds_127 : decode cX10_odds 127 = .ok (.idiv, 1) := by decide +kernel
theorem dX10_odds_128 : decode cX10_odds 128 = .ok (.ireturn, 1) := by decide +kernel
theorem dX10_seed_0 : decode cX10_seed 0 = .ok (.aload_n 0, 1) := by decide +kernel
theorem dX10_seed_1 : decode cX10_seed 1 = .ok (.getfield 7, 3) := by decide +kernel
theorem dX10_seed_4 : decode cX10_seed 4 = .ok (.iconst 1, 1) := by decide +kernel
theorem dX10_seed_5 : decode cX10_seed 5 = .ok (.iaload, 1) := by decide +kernel
theorem dX10_seed_6 : decode cX10_seed 6 = .ok (.istore_n 2, 1) := by decide +kernel
theorem dX10_seed_7 : decode cX10_seed 7 = .ok (.aload_n 0, 1) := by decide +kernel
theorem dX10_seed_8 : decode cX10_seed 8 = .ok (.getfield 7, 3) := by decide +kernel
theorem dX10_seed_11 : decode cX10_seed 11 = .ok (.iconst 1, 1) := by decide +kernel
theorem dX10_seed_12 : decode cX10_seed 12 = .ok (.iload_n 1, 1) := by decide +kernel
theorem dX10_seed_13 : decode cX10_seed 13 = .ok (.iastore, 1) := by decide +kernel
theorem dX10_seed_14 : decode cX10_seed 14 = .ok (.iload_n 2, 1) := by decide +kernel
theorem dX10_seed_15 : decode cX10_seed 15 = .ok (.ireturn, 1) := by decide +kernel
theorem dX10_ran_0 : decode cX10_ran 0 = .ok (.aload_n 0, 1) := by decide +kernel
theorem dX10_ran_1 : decode cX10_ran 1 = .ok (.getfield 216, 3) := by decide +kernel
theorem dX10_ran_4 : decode cX10_ran 4 = .ok (.bipush 40, 2) := by decide +kernel
theorem dX10_ran_6 : decode cX10_ran 6 = .ok (.if_icmp .ge 23, 3) := by decide +kernel
theorem dX10_ran_9 : decode cX10_ran 9 = .ok (.aload_n 0, 1) := by decide +kernel
theorem dX10_ran_10 : decode cX10_ran 10 = .ok (.getfield 43, 3) := by decide +kernel
theorem dX10_ran_13 : decode cX10_ran 13 = .ok (.aload_n 0, 1) := by decide +kernel
theorem dX10_ran_14 : decode cX10_ran 14 = .ok (.getfield 216, 3) := by decide +kernel
theorem dX10_ran_17 : decode cX10_ran 17 = .ok (.iload_n 1, 1) := by decide +kernel
theorem dX10_ran_18 : decode cX10_ran 18 = .ok (.iastore, 1) := by decide +kernel
theorem dX10_ran_19 : decode cX10_ran 19 = .ok (.aload_n 0, 1) := by decide +kernel
theorem dX10_ran_20 : decode cX10_ran 20 = .ok (.dup, 1) := by decide +kernel
theorem dX10_ran_21 : decode cX10_ran 21 = .ok (.getfield 216, 3) := by decide +kernel
theorem dX10_ran_24 : decode cX10_ran 24 = .ok (.iconst 1, 1) := by decide +kernel
theorem dX10_ran_25 : decode cX10_ran 25 = .ok (.iadd, 1) := by decide +kernel
theorem dX10_ran_26 : decode cX10_ran 26 = .ok (.putfield 216, 3) := by decide +kernel
theorem dX10_ran_29 : decode cX10_ran 29 = .ok (.return_, 1) := by decide +kernel
theorem dX10_creasesIn_0 : decode cX10_creasesIn 0 = .ok (.iload_n 1, 1) := by decide +kernel
theorem dX10_creasesIn_1 : decode cX10_creasesIn 1 = .ok (.ifCond .ne 16, 3) := by decide +kernel
theorem dX10_creasesIn_4 : decode cX10_creasesIn 4 = .ok (.aload_n 0, 1) := by decide +kernel
theorem dX10_creasesIn_5 : decode cX10_creasesIn 5 = .ok (.bipush 10, 2) := by decide +kernel
theorem dX10_creasesIn_7 : decode cX10_creasesIn 7 = .ok (.invokevirtual 219, 3) := by decide +kernel
theorem dX10_creasesIn_10 : decode cX10_creasesIn 10 = .ok (.iload_n 2, 1) := by decide +kernel
theorem dX10_creasesIn_11 : decode cX10_creasesIn 11 = .ok (.aload_n 0, 1) := by decide +kernel
theorem dX10_creasesIn_12 : decode cX10_creasesIn 12 = .ok (.getfield 222, 3) := by decide +kernel
theorem dX10_creasesIn_15 : decode cX10_creasesIn 15 = .ok (.iadd, 1) := by decide +kernel
theorem dX10_creasesIn_16 : decode cX10_creasesIn 16 = .ok (.ireturn, 1) := by decide +kernel
theorem dX10_creasesIn_17 : decode cX10_creasesIn 17 = .ok (.iload_n 1, 1) := by decide +kernel
theorem dX10_creasesIn_18 : decode cX10_creasesIn 18 = .ok (.iconst 1, 1) := by decide +kernel
theorem dX10_creasesIn_19 : decode cX10_creasesIn 19 = .ok (.if_icmp .ne 18, 3) := by decide +kernel
theorem dX10_creasesIn_22 : decode cX10_creasesIn 22 = .ok (.aload_n 0, 1) := by decide +kernel
theorem dX10_creasesIn_23 : decode cX10_creasesIn 23 = .ok (.bipush 20, 2) := by decide +kernel
theorem dX10_creasesIn_25 : decode cX10_creasesIn 25 = .ok (.invokevirtual 219, 3) := by decide +kernel
theorem dX10_creasesIn_28 : decode cX10_creasesIn 28 = .ok (.aload_n 0, 1) := by decide +kernel
theorem dX10_creasesIn_29 : decode cX10_creasesIn 29 = .ok (.iconst 0, 1) := by decide +kernel
theorem dX10_creasesIn_30 : decode cX10_creasesIn 30 = .ok (.iload_n 2, 1) := by decide +kernel
theorem dX10_creasesIn_31 : decode cX10_creasesIn 31 = .ok (.invokevirtual 225, 3) := by decide +kernel
theorem dX10_creasesIn_34 : decode cX10_creasesIn 34 = .ok (.iconst 3, 1) := by decide +kernel
theorem dX10_creasesIn_35 : decode cX10_creasesIn 35 = .ok (.imul, 1) := by decide +kernel
theorem dX10_creasesIn_36 : decode cX10_creasesIn 36 = .ok (.ireturn, 1) := by decide +kernel
theorem dX10_creasesIn_37 : decode cX10_creasesIn 37 = .ok (.aload_n 0, 1) := by decide +kernel
theorem dX10_creasesIn_38 : decode cX10_creasesIn 38 = .ok (.iload_n 1, 1) := by decide +kernel
theorem dX10_creasesIn_39 : decode cX10_creasesIn 39 = .ok (.invokestatic 85, 3) := by decide +kernel
theorem dX10_creasesIn_42 : decode cX10_creasesIn 42 = .ok (.iload_n 2, 1) := by decide +kernel
theorem dX10_creasesIn_43 : decode cX10_creasesIn 43 = .ok (.invokevirtual 225, 3) := by decide +kernel
theorem dX10_creasesIn_46 : decode cX10_creasesIn 46 = .ok (.ireturn, 1) := by decide +kernel
theorem dX10_restsIn_0 : decode cX10_restsIn 0 = .ok (.iload_n 1, 1) := by decide +kernel
theorem dX10_restsIn_1 : decode cX10_restsIn 1 = .ok (.ifCond .ne 16, 3) := by decide +kernel
theorem dX10_restsIn_4 : decode cX10_restsIn 4 = .ok (.aload_n 0, 1) := by decide +kernel
theorem dX10_restsIn_5 : decode cX10_restsIn 5 = .ok (.bipush 12, 2) := by decide +kernel
theorem dX10_restsIn_7 : decode cX10_restsIn 7 = .ok (.invokevirtual 219, 3) := by decide +kernel
theorem dX10_restsIn_10 : decode cX10_restsIn 10 = .ok (.iload_n 2, 1) := by decide +kernel
theorem dX10_restsIn_11 : decode cX10_restsIn 11 = .ok (.aload_n 0, 1) := by decide +kernel
theorem dX10_restsIn_12 : decode cX10_restsIn 12 = .ok (.getfield 228, 3) := by decide +kernel
theorem dX10_restsIn_15 : decode cX10_restsIn 15 = .ok (.isub, 1) := by decide +kernel
theorem dX10_restsIn_16 : decode cX10_restsIn 16 = .ok (.ireturn, 1) := by decide +kernel
theorem dX10_restsIn_17 : decode cX10_restsIn 17 = .ok (.iload_n 1, 1) := by decide +kernel
theorem dX10_restsIn_18 : decode cX10_restsIn 18 = .ok (.iconst 3, 1) := by decide +kernel
theorem dX10_restsIn_19 : decode cX10_restsIn 19 = .ok (.if_icmp .ne 17, 3) := by decide +kernel
theorem dX10_restsIn_22 : decode cX10_restsIn 22 = .ok (.aload_n 0, 1) := by decide +kernel
theorem dX10_restsIn_23 : decode cX10_restsIn 23 = .ok (.bipush 40, 2) := by decide +kernel
theorem dX10_restsIn_25 : decode cX10_restsIn 25 = .ok (.invokevirtual 219, 3) := by decide +kernel
theorem dX10_restsIn_28 : decode cX10_restsIn 28 = .ok (.aload_n 0, 1) := by decide +kernel
theorem dX10_restsIn_29 : decode cX10_restsIn 29 = .ok (.iconst 0, 1) := by decide +kernel
theorem dX10_restsIn_30 : decode cX10_restsIn 30 = .ok (.iload_n 2, 1) := by decide +kernel
theorem dX10_restsIn_31 : decode cX10_restsIn 31 = .ok (.invokevirtual 231, 3) := by decide +kernel
theorem dX10_restsIn_34 : decode cX10_restsIn 34 = .ok (.ineg, 1) := by decide +kernel
theorem dX10_restsIn_35 : decode cX10_restsIn 35 = .ok (.ireturn, 1) := by decide +kernel
theorem dX10_restsIn_36 : decode cX10_restsIn 36 = .ok (.iload_n 1, 1) := by decide +kernel
theorem dX10_restsIn_37 : decode cX10_restsIn 37 = .ok (.bipush 6, 2) := by decide +kernel
theorem dX10_restsIn_39 : decode cX10_restsIn 39 = .ok (.if_icmp .ne 21, 3) := by decide +kernel
theorem dX10_restsIn_42 : decode cX10_restsIn 42 = .ok (.aload_n 0, 1) := by decide +kernel
theorem dX10_restsIn_43 : decode cX10_restsIn 43 = .ok (.bipush 70, 2) := by decide +kernel
theorem dX10_restsIn_45 : decode cX10_restsIn 45 = .ok (.invokevirtual 219, 3) := by decide +kernel
theorem dX10_restsIn_48 : decode cX10_restsIn 48 = .ok (.aload_n 0, 1) := by decide +kernel
theorem dX10_restsIn_49 : decode cX10_restsIn 49 = .ok (.iconst 3, 1) := by decide +kernel
theorem dX10_restsIn_50 : decode cX10_restsIn 50 = .ok (.iload_n 2, 1) := by decide +kernel
theorem dX10_restsIn_51 : decode cX10_restsIn 51 = .ok (.invokevirtual 231, 3) := by decide +kernel
theorem dX10_restsIn_54 : decode cX10_restsIn 54 = .ok (.aload_n 0, 1) := by decide +kernel
theorem dX10_restsIn_55 : decode cX10_restsIn 55 = .ok (.getfield 222, 3) := by decide +kernel
theorem dX10_restsIn_58 : decode cX10_restsIn 58 = .ok (.ixor, 1) := by decide +kernel
theorem dX10_restsIn_59 : decode cX10_restsIn 59 = .ok (.ireturn, 1) := by decide +kernel
theorem dX10_restsIn_60 : decode cX10_restsIn 60 = .ok (.aload_n 0, 1) := by decide +kernel
theorem dX10_restsIn_61 : decode cX10_restsIn 61 = .ok (.iload_n 1, 1) := by decide +kernel
theorem dX10_restsIn_62 : decode cX10_restsIn 62 = .ok (.invokestatic 85, 3) := by decide +kernel
theorem dX10_restsIn_65 : decode cX10_restsIn 65 = .ok (.iload_n 2, 1) := by decide +kernel
theorem dX10_restsIn_66 : decode cX10_restsIn 66 = .ok (.invokevirtual 231, 3) := by decide +kernel
theorem dX10_restsIn_69 : decode cX10_restsIn 69 = .ok (.ireturn, 1) := by decide +kernel
theorem dX10_fliesIn_0 : decode cX10_fliesIn 0 = .ok (.iload_n 1, 1) := by decide +kernel
theorem dX10_fliesIn_1 : decode cX10_fliesIn 1 = .ok (.ifCond .ne 21, 3) := by decide +kernel
theorem dX10_fliesIn_4 : decode cX10_fliesIn 4 = .ok (.aload_n 0, 1) := by decide +kernel
theorem dX10_fliesIn_5 : decode cX10_fliesIn 5 = .ok (.bipush 11, 2) := by decide +kernel
theorem dX10_fliesIn_7 : decode cX10_fliesIn 7 = .ok (.invokevirtual 219, 3) := by decide +kernel
theorem dX10_fliesIn_10 : decode cX10_fliesIn 10 = .ok (.aload_n 0, 1) := by decide +kernel
theorem dX10_fliesIn_11 : decode cX10_fliesIn 11 = .ok (.aload_n 0, 1) := by decide +kernel
theorem dX10_fliesIn_12 : decode cX10_fliesIn 12 = .ok (.getfield 234, 3) := by decide +kernel
theorem dX10_fliesIn_15 : decode cX10_fliesIn 15 = .ok (.iload_n 2, 1) := by decide +kernel
theorem dX10_fliesIn_16 : decode cX10_fliesIn 16 = .ok (.invokevirtual 225, 3) := by decide +kernel
theorem dX10_fliesIn_19 : decode cX10_fliesIn 19 = .ok (.iconst 2, 1) := by decide +kernel
theorem dX10_fliesIn_20 : decode cX10_fliesIn 20 = .ok (.imul, 1) := by decide +kernel
theorem dX10_fliesIn_21 : decode cX10_fliesIn 21 = .ok (.ireturn, 1) := by decide +kernel
theorem dX10_fliesIn_22 : decode cX10_fliesIn 22 = .ok (.iload_n 1, 1) := by decide +kernel
theorem dX10_fliesIn_23 : decode cX10_fliesIn 23 = .ok (.iconst 2, 1) := by decide +kernel
theorem dX10_fliesIn_24 : decode cX10_fliesIn 24 = .ok (.if_icmp .ne 28, 3) := by decide +kernel
theorem dX10_fliesIn_27 : decode cX10_fliesIn 27 = .ok (.aload_n 0, 1) := by decide +kernel
theorem dX10_fliesIn_28 : decode cX10_fliesIn 28 = .ok (.bipush 30, 2) := by decide +kernel
theorem dX10_fliesIn_30 : decode cX10_fliesIn 30 = .ok (.invokevirtual 219, 3) := by decide +kernel
theorem dX10_fliesIn_33 : decode cX10_fliesIn 33 = .ok (.aload_n 0, 1) := by decide +kernel
theorem dX10_fliesIn_34 : decode cX10_fliesIn 34 = .ok (.iconst 0, 1) := by decide +kernel
theorem dX10_fliesIn_35 : decode cX10_fliesIn 35 = .ok (.iload_n 2, 1) := by decide +kernel
theorem dX10_fliesIn_36 : decode cX10_fliesIn 36 = .ok (.invokevirtual 237, 3) := by decide +kernel
theorem dX10_fliesIn_39 : decode cX10_fliesIn 39 = .ok (.istore_n 3, 1) := by decide +kernel
theorem dX10_fliesIn_40 : decode cX10_fliesIn 40 = .ok (.iload_n 3, 1) := by decide +kernel
theorem dX10_fliesIn_41 : decode cX10_fliesIn 41 = .ok (.aload_n 0, 1) := by decide +kernel
theorem dX10_fliesIn_42 : decode cX10_fliesIn 42 = .ok (.aload_n 0, 1) := by decide +kernel
theorem dX10_fliesIn_43 : decode cX10_fliesIn 43 = .ok (.getfield 234, 3) := by decide +kernel
theorem dX10_fliesIn_46 : decode cX10_fliesIn 46 = .ok (.iconst 1, 1) := by decide +kernel
theorem dX10_fliesIn_47 : decode cX10_fliesIn 47 = .ok (.invokevirtual 231, 3) := by decide +kernel
theorem dX10_fliesIn_50 : decode cX10_fliesIn 50 = .ok (.isub, 1) := by decide +kernel
theorem dX10_fliesIn_51 : decode cX10_fliesIn 51 = .ok (.ireturn, 1) := by decide +kernel
theorem dX10_fliesIn_52 : decode cX10_fliesIn 52 = .ok (.iload_n 1, 1) := by decide +kernel
theorem dX10_fliesIn_53 : decode cX10_fliesIn 53 = .ok (.iconst 5, 1) := by decide +kernel
theorem dX10_fliesIn_54 : decode cX10_fliesIn 54 = .ok (.if_icmp .ne 18, 3) := by decide +kernel
theorem dX10_fliesIn_57 : decode cX10_fliesIn 57 = .ok (.aload_n 0, 1) := by decide +kernel
theorem dX10_fliesIn_58 : decode cX10_fliesIn 58 = .ok (.bipush 60, 2) := by decide +kernel
theorem dX10_fliesIn_60 : decode cX10_fliesIn 60 = .ok (.invokevirtual 219, 3) := by decide +kernel
theorem dX10_fliesIn_63 : decode cX10_fliesIn 63 = .ok (.aload_n 0, 1) := by decide +kernel
theorem dX10_fliesIn_64 : decode cX10_fliesIn 64 = .ok (.iconst 2, 1) := by decide +kernel
theorem dX10_fliesIn_65 : decode cX10_fliesIn 65 = .ok (.iload_n 2, 1) := by decide +kernel
theorem dX10_fliesIn_66 : decode cX10_fliesIn 66 = .ok (.iconst 1, 1) := by decide +kernel
theorem dX10_fliesIn_67 : decode cX10_fliesIn 67 = .ok (.iadd, 1) := by decide +kernel
theorem dX10_fliesIn_68 : decode cX10_fliesIn 68 = .ok (.invokevirtual 237, 3) := by decide +kernel
theorem dX10_fliesIn_71 : decode cX10_fliesIn 71 = .ok (.ireturn, 1) := by decide +kernel
theorem dX10_fliesIn_72 : decode cX10_fliesIn 72 = .ok (.aload_n 0, 1) := by decide +kernel
theorem dX10_fliesIn_73 : decode cX10_fliesIn 73 = .ok (.iload_n 1, 1) := by decide +kernel
theorem dX10_fliesIn_74 : decode cX10_fliesIn 74 = .ok (.invokestatic 85, 3) := by decide +kernel
theorem dX10_fliesIn_77 : decode cX10_fliesIn 77 = .ok (.iload_n 2, 1) := by decide +kernel
theorem dX10_fliesIn_78 : decode cX10_fliesIn 78 = .ok (.invokevirtual 237, 3) := by decide +kernel
theorem dX10_fliesIn_81 : decode cX10_fliesIn 81 = .ok (.ireturn, 1) := by decide +kernel
theorem dX10_tellsIn_0 : decode cX10_tellsIn 0 = .ok (.iload_n 1, 1) := by decide +kernel
theorem dX10_tellsIn_1 : decode cX10_tellsIn 1 = .ok (.ifCond .ne 31, 3) := by decide +kernel
theorem dX10_tellsIn_4 : decode cX10_tellsIn 4 = .ok (.aload_n 0, 1) := by decide +kernel
theorem dX10_tellsIn_5 : decode cX10_tellsIn 5 = .ok (.bipush 13, 2) := by decide +kernel
theorem dX10_tellsIn_7 : decode cX10_tellsIn 7 = .ok (.invokevirtual 219, 3) := by decide +kernel
theorem dX10_tellsIn_10 : decode cX10_tellsIn 10 = .ok (.aload_n 0, 1) := by decide +kernel
theorem dX10_tellsIn_11 : decode cX10_tellsIn 11 = .ok (.aload_n 0, 1) := by decide +kernel
theorem dX10_tellsIn_12 : decode cX10_tellsIn 12 = .ok (.getfield 234, 3) := by decide +kernel
theorem dX10_tellsIn_15 : decode cX10_tellsIn 15 = .ok (.iload_n 2, 1) := by decide +kernel
theorem dX10_tellsIn_16 : decode cX10_tellsIn 16 = .ok (.invokevirtual 237, 3) := by decide +kernel
theorem dX10_tellsIn_19 : decode cX10_tellsIn 19 = .ok (.istore_n 3, 1) := by decide +kernel
theorem dX10_tellsIn_20 : decode cX10_tellsIn 20 = .ok (.iload_n 3, 1) := by decide +kernel
theorem dX10_tellsIn_21 : decode cX10_tellsIn 21 = .ok (.aload_n 0, 1) := by decide +kernel
theorem dX10_tellsIn_22 : decode cX10_tellsIn 22 = .ok (.aload_n 0, 1) := by decide +kernel
theorem dX10_tellsIn_23 : decode cX10_tellsIn 23 = .ok (.getfield 234, 3) := by decide +kernel
theorem dX10_tellsIn_26 : decode cX10_tellsIn 26 = .ok (.iload_n 2, 1) := by decide +kernel
theorem dX10_tellsIn_27 : decode cX10_tellsIn 27 = .ok (.invokevirtual 231, 3) := by decide +kernel
theorem dX10_tellsIn_30 : decode cX10_tellsIn 30 = .ok (.ixor, 1) := by decide +kernel
theorem dX10_tellsIn_31 : decode cX10_tellsIn 31 = .ok (.ireturn, 1) := by decide +kernel
theorem dX10_tellsIn_32 : decode cX10_tellsIn 32 = .ok (.iload_n 1, 1) := by decide +kernel
theorem dX10_tellsIn_33 : decode cX10_tellsIn 33 = .ok (.iconst 4, 1) := by decide +kernel
theorem dX10_tellsIn_34 : decode cX10_tellsIn 34 = .ok (.if_icmp .ne 28, 3) := by decide +kernel
theorem dX10_tellsIn_37 : decode cX10_tellsIn 37 = .ok (.aload_n 0, 1) := by decide +kernel
theorem dX10_tellsIn_38 : decode cX10_tellsIn 38 = .ok (.bipush 50, 2) := by decide +kernel
theorem dX10_tellsIn_40 : decode cX10_tellsIn 40 = .ok (.invokevirtual 219, 3) := by decide +kernel
theorem dX10_tellsIn_43 : decode cX10_tellsIn 43 = .ok (.aload_n 0, 1) := by decide +kernel
theorem dX10_tellsIn_44 : decode cX10_tellsIn 44 = .ok (.iconst 1, 1) := by decide +kernel
theorem dX10_tellsIn_45 : decode cX10_tellsIn 45 = .ok (.iload_n 2, 1) := by decide +kernel
theorem dX10_tellsIn_46 : decode cX10_tellsIn 46 = .ok (.invokevirtual 240, 3) := by decide +kernel
theorem dX10_tellsIn_49 : decode cX10_tellsIn 49 = .ok (.istore_n 3, 1) := by decide +kernel
theorem dX10_tellsIn_50 : decode cX10_tellsIn 50 = .ok (.iload_n 3, 1) := by decide +kernel
theorem dX10_tellsIn_51 : decode cX10_tellsIn 51 = .ok (.aload_n 0, 1) := by decide +kernel
theorem dX10_tellsIn_52 : decode cX10_tellsIn 52 = .ok (.aload_n 0, 1) := by decide +kernel
theorem dX10_tellsIn_53 : decode cX10_tellsIn 53 = .ok (.getfield 234, 3) := by decide +kernel
theorem dX10_tellsIn_56 : decode cX10_tellsIn 56 = .ok (.iconst 2, 1) := by decide +kernel
theorem dX10_tellsIn_57 : decode cX10_tellsIn 57 = .ok (.invokevirtual 225, 3) := by decide +kernel
theorem dX10_tellsIn_60 : decode cX10_tellsIn 60 = .ok (.isub, 1) := by decide +kernel
theorem dX10_tellsIn_61 : decode cX10_tellsIn 61 = .ok (.ireturn, 1) := by decide +kernel
theorem dX10_tellsIn_62 : decode cX10_tellsIn 62 = .ok (.iload_n 1, 1) := by decide +kernel
theorem dX10_tellsIn_63 : decode cX10_tellsIn 63 = .ok (.bipush 6, 2) := by decide +kernel
theorem dX10_tellsIn_65 : decode cX10_tellsIn 65 = .ok (.if_icmp .ne 28, 3) := by decide +kernel
theorem dX10_tellsIn_68 : decode cX10_tellsIn 68 = .ok (.aload_n 0, 1) := by decide +kernel
theorem dX10_tellsIn_69 : decode cX10_tellsIn 69 = .ok (.bipush 71, 2) := by decide +kernel
theorem dX10_tellsIn_71 : decode cX10_tellsIn 71 = .ok (.invokevirtual 219, 3) := by decide +kernel
theorem dX10_tellsIn_74 : decode cX10_tellsIn 74 = .ok (.aload_n 0, 1) := by decide +kernel
theorem dX10_tellsIn_75 : decode cX10_tellsIn 75 = .ok (.aload_n 0, 1) := by decide +kernel
theorem dX10_tellsIn_76 : decode cX10_tellsIn 76 = .ok (.getfield 234, 3) := by decide +kernel
theorem dX10_tellsIn_79 : decode cX10_tellsIn 79 = .ok (.iload_n 2, 1) := by decide +kernel
theorem dX10_tellsIn_80 : decode cX10_tellsIn 80 = .ok (.invokevirtual 237, 3) := by decide +kernel
theorem dX10_tellsIn_83 : decode cX10_tellsIn 83 = .ok (.istore_n 3, 1) := by decide +kernel
theorem dX10_tellsIn_84 : decode cX10_tellsIn 84 = .ok (.iload_n 3, 1) := by decide +kernel
theorem dX10_tellsIn_85 : decode cX10_tellsIn 85 = .ok (.aload_n 0, 1) := by decide +kernel
theorem dX10_tellsIn_86 : decode cX10_tellsIn 86 = .ok (.iconst 3, 1) := by decide +kernel
theorem dX10_tellsIn_87 : decode cX10_tellsIn 87 = .ok (.iload_n 2, 1) := by decide +kernel
theorem dX10_tellsIn_88 : decode cX10_tellsIn 88 = .ok (.invokevirtual 240, 3) := by decide +kernel
theorem dX10_tellsIn_91 : decode cX10_tellsIn 91 = .ok (.isub, 1) := by decide +kernel
theorem dX10_tellsIn_92 : decode cX10_tellsIn 92 = .ok (.ireturn, 1) := by decide +kernel
theorem dX10_tellsIn_93 : decode cX10_tellsIn 93 = .ok (.aload_n 0, 1) := by decide +kernel
theorem dX10_tellsIn_94 : decode cX10_tellsIn 94 = .ok (.iload_n 1, 1) := by decide +kernel
theorem dX10_tellsIn_95 : decode cX10_tellsIn 95 = .ok (.invokestatic 85, 3) := by decide +kernel
theorem dX10_tellsIn_98 : decode cX10_tellsIn 98 = .ok (.iload_n 2, 1) := by decide +kernel
theorem dX10_tellsIn_99 : decode cX10_tellsIn 99 = .ok (.invokevirtual 240, 3) := by decide +kernel
theorem dX10_tellsIn_102 : decode cX10_tellsIn 102 = .ok (.ireturn, 1) := by decide +kernel
theorem dX10_voice_0 : decode cX10_voice 0 = .ok (.aload_n 0, 1) := by decide +kernel
theorem dX10_voice_1 : decode cX10_voice 1 = .ok (.iload_n 1, 1) := by decide +kernel
theorem dX10_voice_2 : decode cX10_voice 2 = .ok (.invokevirtual 61, 3) := by decide +kernel
theorem dX10_voice_5 : decode cX10_voice 5 = .ok (.ifCond .eq 12, 3) := by decide +kernel
theorem dX10_voice_8 : decode cX10_voice 8 = .ok (.iload_n 2, 1) := by decide +kernel
theorem dX10_voice_9 : decode cX10_voice 9 = .ok (.iconst 0, 1) := by decide +kernel
theorem dX10_voice_10 : decode cX10_voice 10 = .ok (.iconst 3, 1) := by decide +kernel
theorem dX10_voice_11 : decode cX10_voice 11 = .ok (.invokestatic 47, 3) := by decide +kernel
theorem dX10_voice_14 : decode cX10_voice 14 = .ok (.ifCond .ne 10, 3) := by decide +kernel
theorem dX10_voice_17 : decode cX10_voice 17 = .ok (.aload_n 0, 1) := by decide +kernel
theorem dX10_voice_18 : decode cX10_voice 18 = .ok (.ldc 51, 2) := by decide +kernel
theorem dX10_voice_20 : decode cX10_voice 20 = .ok (.invokevirtual 52, 3) := by decide +kernel
theorem dX10_voice_23 : decode cX10_voice 23 = .ok (.ireturn, 1) := by decide +kernel
theorem dX10_voice_24 : decode cX10_voice 24 = .ok (.aload_n 0, 1) := by decide +kernel
theorem dX10_voice_25 : decode cX10_voice 25 = .ok (.iconst 0, 1) := by decide +kernel
theorem dX10_voice_26 : decode cX10_voice 26 = .ok (.putfield 216, 3) := by decide +kernel
theorem dX10_voice_29 : decode cX10_voice 29 = .ok (.aload_n 0, 1) := by decide +kernel
theorem dX10_voice_30 : decode cX10_voice 30 = .ok (.aload_n 0, 1) := by decide +kernel
theorem dX10_voice_31 : decode cX10_voice 31 = .ok (.iload_n 1, 1) := by decide +kernel
theorem dX10_voice_32 : decode cX10_voice 32 = .ok (.iconst 0, 1) := by decide +kernel
theorem dX10_voice_33 : decode cX10_voice 33 = .ok (.invokevirtual 65, 3) := by decide +kernel
theorem dX10_voice_36 : decode cX10_voice 36 = .ok (.putfield 234, 3) := by decide +kernel
theorem dX10_voice_39 : decode cX10_voice 39 = .ok (.aload_n 0, 1) := by decide +kernel
theorem dX10_voice_40 : decode cX10_voice 40 = .ok (.iload_n 1, 1) := by decide +kernel
theorem dX10_voice_41 : decode cX10_voice 41 = .ok (.putfield 222, 3) := by decide +kernel
theorem dX10_voice_44 : decode cX10_voice 44 = .ok (.aload_n 0, 1) := by decide +kernel
theorem dX10_voice_45 : decode cX10_voice 45 = .ok (.aload_n 0, 1) := by decide +kernel
theorem dX10_voice_46 : decode cX10_voice 46 = .ok (.iload_n 1, 1) := by decide +kernel
theorem dX10_voice_47 : decode cX10_voice 47 = .ok (.iconst 1, 1) := by decide +kernel
theorem dX10_voice_48 : decode cX10_voice 48 = .ok (.invokevirtual 65, 3) := by decide +kernel
theorem dX10_voice_51 : decode cX10_voice 51 = .ok (.putfield 228, 3) := by decide +kernel
theorem dX10_voice_54 : decode cX10_voice 54 = .ok (.iload_n 2, 1) := by decide +kernel
theorem dX10_voice_55 : decode cX10_voice 55 = .ok (.tableswitch 55 0 2 #[25, 35, 45], 25) := by decide +kernel
theorem dX10_voice_80 : decode cX10_voice 80 = .ok (.aload_n 0, 1) := by decide +kernel
theorem dX10_voice_81 : decode cX10_voice 81 = .ok (.aload_n 0, 1) := by decide +kernel
theorem dX10_voice_82 : decode cX10_voice 82 = .ok (.getfield 234, 3) := by decide +kernel
theorem dX10_voice_85 : decode cX10_voice 85 = .ok (.iload_n 3, 1) := by decide +kernel
theorem dX10_voice_86 : decode cX10_voice 86 = .ok (.invokevirtual 225, 3) := by decide +kernel
theorem dX10_voice_89 : decode cX10_voice 89 = .ok (.ireturn, 1) := by decide +kernel
theorem dX10_voice_90 : decode cX10_voice 90 = .ok (.aload_n 0, 1) := by decide +kernel
theorem dX10_voice_91 : decode cX10_voice 91 = .ok (.aload_n 0, 1) := by decide +kernel
theorem dX10_voice_92 : decode cX10_voice 92 = .ok (.getfield 234, 3) := by decide +kernel
theorem dX10_voice_95 : decode cX10_voice 95 = .ok (.iload_n 3, 1) := by decide +kernel
theorem dX10_voice_96 : decode cX10_voice 96 = .ok (.invokevirtual 237, 3) := by decide +kernel
theorem dX10_voice_99 : decode cX10_voice 99 = .ok (.ireturn, 1) := by decide +kernel
theorem dX10_voice_100 : decode cX10_voice 100 = .ok (.aload_n 0, 1) := by decide +kernel
theorem dX10_voice_101 : decode cX10_voice 101 = .ok (.aload_n 0, 1) := by decide +kernel
theorem dX10_voice_102 : decode cX10_voice 102 = .ok (.getfield 234, 3) := by decide +kernel
theorem dX10_voice_105 : decode cX10_voice 105 = .ok (.iload_n 3, 1) := by decide +kernel
theorem dX10_voice_106 : decode cX10_voice 106 = .ok (.invokevirtual 231, 3) := by decide +kernel
theorem dX10_voice_109 : decode cX10_voice 109 = .ok (.ireturn, 1) := by decide +kernel
theorem dX10_voice_110 : decode cX10_voice 110 = .ok (.aload_n 0, 1) := by decide +kernel
theorem dX10_voice_111 : decode cX10_voice 111 = .ok (.aload_n 0, 1) := by decide +kernel
theorem dX10_voice_112 : decode cX10_voice 112 = .ok (.getfield 234, 3) := by decide +kernel
theorem dX10_voice_115 : decode cX10_voice 115 = .ok (.iload_n 3, 1) := by decide +kernel
theorem dX10_voice_116 : decode cX10_voice 116 = .ok (.invokevirtual 240, 3) := by decide +kernel
theorem dX10_voice_119 : decode cX10_voice 119 = .ok (.ireturn, 1) := by decide +kernel
theorem dX10_trace_0 : decode cX10_trace 0 = .ok (.iload_n 1, 1) := by decide +kernel
theorem dX10_trace_1 : decode cX10_trace 1 = .ok (.iconst 0, 1) := by decide +kernel
theorem dX10_trace_2 : decode cX10_trace 2 = .ok (.aload_n 0, 1) := by decide +kernel
theorem dX10_trace_3 : decode cX10_trace 3 = .ok (.getfield 216, 3) := by decide +kernel
theorem dX10_trace_6 : decode cX10_trace 6 = .ok (.iconst 1, 1) := by decide +kernel
theorem dX10_trace_7 : decode cX10_trace 7 = .ok (.isub, 1) := by decide +kernel
theorem dX10_trace_8 : decode cX10_trace 8 = .ok (.invokestatic 47, 3) := by decide +kernel
theorem dX10_trace_11 : decode cX10_trace 11 = .ok (.ifCond .eq 12, 3) := by decide +kernel
theorem dX10_trace_14 : decode cX10_trace 14 = .ok (.aload_n 0, 1) := by decide +kernel
theorem dX10_trace_15 : decode cX10_trace 15 = .ok (.getfield 43, 3) := by decide +kernel
theorem dX10_trace_18 : decode cX10_trace 18 = .ok (.iload_n 1, 1) := by decide +kernel
theorem dX10_trace_19 : decode cX10_trace 19 = .ok (.iaload, 1) := by decide +kernel
theorem dX10_trace_20 : decode cX10_trace 20 = .ok (.goto 9, 3) := by decide +kernel
theorem dX10_trace_23 : decode cX10_trace 23 = .ok (.aload_n 0, 1) := by decide +kernel
theorem dX10_trace_24 : decode cX10_trace 24 = .ok (.ldc 182, 2) := by decide +kernel
theorem dX10_trace_26 : decode cX10_trace 26 = .ok (.invokevirtual 52, 3) := by decide +kernel
theorem dX10_trace_29 : decode cX10_trace 29 = .ok (.ireturn, 1) := by decide +kernel
theorem dX10_narrow_0 : decode cX10_narrow 0 = .ok (.iload_n 0, 1) := by decide +kernel
theorem dX10_narrow_1 : decode cX10_narrow 1 = .ok (.bipush 8, 2) := by decide +kernel
theorem dX10_narrow_3 : decode cX10_narrow 3 = .ok (.if_icmp .ne 8, 3) := by decide +kernel
theorem dX10_narrow_6 : decode cX10_narrow 6 = .ok (.iload_n 1, 1) := by decide +kernel
theorem dX10_narrow_7 : decode cX10_narrow 7 = .ok (.i2b, 1) := by decide +kernel
theorem dX10_narrow_8 : decode cX10_narrow 8 = .ok (.goto 15, 3) := by decide +kernel
theorem dX10_narrow_11 : decode cX10_narrow 11 = .ok (.iload_n 0, 1) := by decide +kernel
theorem dX10_narrow_12 : decode cX10_narrow 12 = .ok (.bipush 16, 2) := by decide +kernel
theorem dX10_narrow_14 : decode cX10_narrow 14 = .ok (.if_icmp .ne 8, 3) := by decide +kernel
theorem dX10_narrow_17 : decode cX10_narrow 17 = .ok (.iload_n 1, 1) := by decide +kernel
theorem dX10_narrow_18 : decode cX10_narrow 18 = .ok (.i2s, 1) := by decide +kernel
theorem dX10_narrow_19 : decode cX10_narrow 19 = .ok (.goto 4, 3) := by decide +kernel
theorem dX10_narrow_22 : decode cX10_narrow 22 = .ok (.iload_n 1, 1) := by decide +kernel
theorem dX10_narrow_23 : decode cX10_narrow 23 = .ok (.ireturn, 1) := by decide +kernel
theorem dX10_sheet_0 : decode cX10_sheet 0 = .ok (.iload_n 1, 1) := by decide +kernel
theorem dX10_sheet_1 : decode cX10_sheet 1 = .ok (.invokestatic 207, 3) := by decide +kernel
theorem dX10_sheet_4 : decode cX10_sheet 4 = .ok (.ifCond .eq 25, 3) := by decide +kernel
theorem dX10_sheet_7 : decode cX10_sheet 7 = .ok (.iload_n 2, 1) := by decide +kernel
theorem dX10_sheet_8 : decode cX10_sheet 8 = .ok (.ifCond .eq 28, 3) := by decide +kernel
theorem dX10_sheet_11 : decode cX10_sheet 11 = .ok (.iload_n 2, 1) := by decide +kernel
theorem dX10_sheet_12 : decode cX10_sheet 12 = .ok (.bipush 8, 2) := by decide +kernel
theorem dX10_sheet_14 : decode cX10_sheet 14 = .ok (.if_icmp .eq 22, 3) := by decide +kernel
theorem dX10_sheet_17 : decode cX10_sheet 17 = .ok (.iload_n 2, 1) := by decide +kernel
theorem dX10_sheet_18 : decode cX10_sheet 18 = .ok (.bipush 16, 2) := by decide +kernel
theorem dX10_sheet_20 : decode cX10_sheet 20 = .ok (.if_icmp .eq 16, 3) := by decide +kernel
theorem dX10_sheet_23 : decode cX10_sheet 23 = .ok (.iload_n 2, 1) := by decide +kernel
theorem dX10_sheet_24 : decode cX10_sheet 24 = .ok (.bipush 32, 2) := by decide +kernel
theorem dX10_sheet_26 : decode cX10_sheet 26 = .ok (.if_icmp .eq 10, 3) := by decide +kernel
theorem dX10_sheet_29 : decode cX10_sheet 29 = .ok (.aload_n 0, 1) := by decide +kernel
theorem dX10_sheet_30 : decode cX10_sheet 30 = .ok (.ldc 51, 2) := by decide +kernel
theorem dX10_sheet_32 : decode cX10_sheet 32 = .ok (.invokevirtual 52, 3) := by decide +kernel
theorem dX10_sheet_35 : decode cX10_sheet 35 = .ok (.ireturn, 1) := by decide +kernel
theorem dX10_sheet_36 : decode cX10_sheet 36 = .ok (.iload_n 2, 1) := by decide +kernel
theorem dX10_sheet_37 : decode cX10_sheet 37 = .ok (.ifCond .eq 14, 3) := by decide +kernel
theorem dX10_sheet_40 : decode cX10_sheet 40 = .ok (.iload_n 3, 1) := by decide +kernel
theorem dX10_sheet_41 : decode cX10_sheet 41 = .ok (.ifCond .ge 10, 3) := by decide +kernel
theorem dX10_sheet_44 : decode cX10_sheet 44 = .ok (.aload_n 0, 1) := by decide +kernel
theorem dX10_sheet_45 : decode cX10_sheet 45 = .ok (.ldc 183, 2) := by decide +kernel
theorem dX10_sheet_47 : decode cX10_sheet 47 = .ok (.invokevirtual 52, 3) := by decide +kernel
theorem dX10_sheet_50 : decode cX10_sheet 50 = .ok (.ireturn, 1) := by decide +kernel
theorem dX10_sheet_51 : decode cX10_sheet 51 = .ok (.iload_n 2, 1) := by decide +kernel
theorem dX10_sheet_52 : decode cX10_sheet 52 = .ok (.ifCond .eq 16, 3) := by decide +kernel
theorem dX10_sheet_55 : decode cX10_sheet 55 = .ok (.iload_n 3, 1) := by decide +kernel
theorem dX10_sheet_56 : decode cX10_sheet 56 = .ok (.bipush 40, 2) := by decide +kernel
theorem dX10_sheet_58 : decode cX10_sheet 58 = .ok (.if_icmp .le 10, 3) := by decide +kernel
theorem dX10_sheet_61 : decode cX10_sheet 61 = .ok (.aload_n 0, 1) := by decide +kernel
theorem dX10_sheet_62 : decode cX10_sheet 62 = .ok (.ldc 51, 2) := by decide +kernel
theorem dX10_sheet_64 : decode cX10_sheet 64 = .ok (.invokevirtual 52, 3) := by decide +kernel
theorem dX10_sheet_67 : decode cX10_sheet 67 = .ok (.ireturn, 1) := by decide +kernel
theorem dX10_sheet_68 : decode cX10_sheet 68 = .ok (.aload_n 0, 1) := by decide +kernel
theorem dX10_sheet_69 : decode cX10_sheet 69 = .ok (.getfield 31, 3) := by decide +kernel
theorem dX10_sheet_72 : decode cX10_sheet 72 = .ok (.iload_n 1, 1) := by decide +kernel
theorem dX10_sheet_73 : decode cX10_sheet 73 = .ok (.iload_n 2, 1) := by decide +kernel
theorem dX10_sheet_74 : decode cX10_sheet 74 = .ok (.iastore, 1) := by decide +kernel
theorem dX10_sheet_75 : decode cX10_sheet 75 = .ok (.aload_n 0, 1) := by decide +kernel
theorem dX10_sheet_76 : decode cX10_sheet 76 = .ok (.getfield 34, 3) := by decide +kernel
theorem dX10_sheet_79 : decode cX10_sheet 79 = .ok (.iload_n 1, 1) := by decide +kernel
theorem dX10_sheet_80 : decode cX10_sheet 80 = .ok (.iload_n 2, 1) := by decide +kernel
theorem dX10_sheet_81 : decode cX10_sheet 81 = .ok (.ifCond .ne 7, 3) := by decide +kernel
theorem dX10_sheet_84 : decode cX10_sheet 84 = .ok (.iconst 0, 1) := by decide +kernel
theorem dX10_sheet_85 : decode cX10_sheet 85 = .ok (.goto 4, 3) := by decide +kernel
theorem dX10_sheet_88 : decode cX10_sheet 88 = .ok (.iload_n 3, 1) := by decide +kernel
theorem dX10_sheet_89 : decode cX10_sheet 89 = .ok (.iastore, 1) := by decide +kernel
theorem dX10_sheet_90 : decode cX10_sheet 90 = .ok (.iconst 0, 1) := by decide +kernel
theorem dX10_sheet_91 : decode cX10_sheet 91 = .ok (.istore 4, 2) := by decide +kernel
theorem dX10_sheet_93 : decode cX10_sheet 93 = .ok (.iload 4, 2) := by decide +kernel
theorem dX10_sheet_95 : decode cX10_sheet 95 = .ok (.bipush 40, 2) := by decide +kernel
theorem dX10_sheet_97 : decode cX10_sheet 97 = .ok (.if_icmp .ge 22, 3) := by decide +kernel
theorem dX10_sheet_100 : decode cX10_sheet 100 = .ok (.aload_n 0, 1) := by decide +kernel
theorem dX10_sheet_101 : decode cX10_sheet 101 = .ok (.getfield 37, 3) := by decide +kernel
theorem dX10_sheet_104 : decode cX10_sheet 104 = .ok (.bipush 40, 2) := by decide +kernel
theorem dX10_sheet_106 : decode cX10_sheet 106 = .ok (.iload_n 1, 1) := by decide +kernel
theorem dX10_sheet_107 : decode cX10_sheet 107 = .ok (.imul, 1) := by decide +kernel
theorem dX10_sheet_108 : decode cX10_sheet 108 = .ok (.iload 4, 2) := by decide +kernel
theorem dX10_sheet_110 : decode cX10_sheet 110 = .ok (.iadd, 1) := by decide +kernel
theorem dX10_sheet_111 : decode cX10_sheet 111 = .ok (.iconst 0, 1) := by decide +kernel
theorem dX10_sheet_112 : decode cX10_sheet 112 = .ok (.iastore, 1) := by decide +kernel
theorem dX10_sheet_113 : decode cX10_sheet 113 = .ok (.iinc 4 1, 3) := by decide +kernel
theorem dX10_sheet_116 : decode cX10_sheet 116 = .ok (.goto (-23), 3) := by decide +kernel
theorem dX10_sheet_119 : decode cX10_sheet 119 = .ok (.iconst 1, 1) := by decide +kernel
theorem dX10_sheet_120 : decode cX10_sheet 120 = .ok (.ireturn, 1) := by decide +kernel
theorem dX10_put_0 : decode cX10_put 0 = .ok (.iload_n 1, 1) := by decide +kernel
theorem dX10_put_1 : decode cX10_put 1 = .ok (.invokestatic 207, 3) := by decide +kernel
theorem dX10_put_4 : decode cX10_put 4 = .ok (.ifCond .ne 10, 3) := by decide +kernel
theorem dX10_put_7 : decode cX10_put 7 = .ok (.aload_n 0, 1) := by decide +kernel
theorem dX10_put_8 : decode cX10_put 8 = .ok (.ldc 51, 2) := by decide +kernel
theorem dX10_put_10 : decode cX10_put 10 = .ok (.invokevirtual 52, 3) := by decide +kernel
theorem dX10_put_13 : decode cX10_put 13 = .ok (.ireturn, 1) := by decide +kernel
theorem dX10_put_14 : decode cX10_put 14 = .ok (.aload_n 0, 1) := by decide +kernel
theorem dX10_put_15 : decode cX10_put 15 = .ok (.getfield 31, 3) := by decide +kernel
theorem dX10_put_18 : decode cX10_put 18 = .ok (.iload_n 1, 1) := by decide +kernel
theorem dX10_put_19 : decode cX10_put 19 = .ok (.iaload, 1) := by decide +kernel
theorem dX10_put_20 : decode cX10_put 20 = .ok (.ifCond .ne 10, 3) := by decide +kernel
theorem dX10_put_23 : decode cX10_put 23 = .ok (.aload_n 0, 1) := by decide +kernel
theorem dX10_put_24 : decode cX10_put 24 = .ok (.ldc 182, 2) := by decide +kernel
theorem dX10_put_26 : decode cX10_put 26 = .ok (.invokevirtual 52, 3) := by decide +kernel
theorem dX10_put_29 : decode cX10_put 29 = .ok (.ireturn, 1) := by decide +kernel
theorem dX10_put_30 : decode cX10_put 30 = .ok (.iload_n 2, 1) := by decide +kernel
theorem dX10_put_31 : decode cX10_put 31 = .ok (.iconst 0, 1) := by decide +kernel
theorem dX10_put_32 : decode cX10_put 32 = .ok (.aload_n 0, 1) := by decide +kernel
theorem dX10_put_33 : decode cX10_put 33 = .ok (.getfield 34, 3) := by decide +kernel
theorem dX10_put_36 : decode cX10_put 36 = .ok (.iload_n 1, 1) := by decide +kernel
theorem dX10_put_37 : decode cX10_put 37 = .ok (.iaload, 1) := by decide +kernel
theorem dX10_put_38 : decode cX10_put 38 = .ok (.iconst 1, 1) := by decide +kernel
theorem dX10_put_39 : decode cX10_put 39 = .ok (.isub, 1) := by decide +kernel
theorem dX10_put_40 : decode cX10_put 40 = .ok (.invokestatic 47, 3) := by decide +kernel
theorem dX10_put_43 : decode cX10_put 43 = .ok (.ifCond .ne 10, 3) := by decide +kernel
theorem dX10_put_46 : decode cX10_put 46 = .ok (.aload_n 0, 1) := by decide +kernel
theorem dX10_put_47 : decode cX10_put 47 = .ok (.ldc 51, 2) := by decide +kernel
theorem dX10_put_49 : decode cX10_put 49 = .ok (.invokevirtual 52, 3) := by decide +kernel
theorem dX10_put_52 : decode cX10_put 52 = .ok (.ireturn, 1) := by decide +kernel
theorem dX10_put_53 : decode cX10_put 53 = .ok (.aload_n 0, 1) := by decide +kernel
theorem dX10_put_54 : decode cX10_put 54 = .ok (.getfield 37, 3) := by decide +kernel
theorem dX10_put_57 : decode cX10_put 57 = .ok (.bipush 40, 2) := by decide +kernel
theorem dX10_put_59 : decode cX10_put 59 = .ok (.iload_n 1, 1) := by decide +kernel
theorem dX10_put_60 : decode cX10_put 60 = .ok (.imul, 1) := by decide +kernel
theorem dX10_put_61 : decode cX10_put 61 = .ok (.iload_n 2, 1) := by decide +kernel
theorem dX10_put_62 : decode cX10_put 62 = .ok (.iadd, 1) := by decide +kernel
theorem dX10_put_63 : decode cX10_put 63 = .ok (.aload_n 0, 1) := by decide +kernel
theorem dX10_put_64 : decode cX10_put 64 = .ok (.getfield 31, 3) := by decide +kernel
theorem dX10_put_67 : decode cX10_put 67 = .ok (.iload_n 1, 1) := by decide +kernel
theorem dX10_put_68 : decode cX10_put 68 = .ok (.iaload, 1) := by decide +kernel
theorem dX10_put_69 : decode cX10_put 69 = .ok (.iload_n 3, 1) := by decide +kernel
theorem dX10_put_70 : decode cX10_put 70 = .ok (.invokestatic 243, 3) := by decide +kernel
theorem dX10_put_73 : decode cX10_put 73 = .ok (.iastore, 1) := by decide +kernel
theorem dX10_put_74 : decode cX10_put 74 = .ok (.iconst 1, 1) := by decide +kernel
theorem dX10_put_75 : decode cX10_put 75 = .ok (.ireturn, 1) := by decide +kernel
theorem dX10_move_0 : decode cX10_move 0 = .ok (.iload_n 1, 1) := by decide +kernel
theorem dX10_move_1 : decode cX10_move 1 = .ok (.invokestatic 207, 3) := by decide +kernel
theorem dX10_move_4 : decode cX10_move 4 = .ok (.ifCond .eq 10, 3) := by decide +kernel
theorem dX10_move_7 : decode cX10_move 7 = .ok (.iload_n 3, 1) := by decide +kernel
theorem dX10_move_8 : decode cX10_move 8 = .ok (.invokestatic 207, 3) := by decide +kernel
theorem dX10_move_11 : decode cX10_move 11 = .ok (.ifCond .ne 10, 3) := by decide +kernel
theorem dX10_move_14 : decode cX10_move 14 = .ok (.aload_n 0, 1) := by decide +kernel
theorem dX10_move_15 : decode cX10_move 15 = .ok (.ldc 51, 2) := by decide +kernel
theorem dX10_move_17 : decode cX10_move 17 = .ok (.invokevirtual 52, 3) := by decide +kernel
theorem dX10_move_20 : decode cX10_move 20 = .ok (.ireturn, 1) := by decide +kernel
theorem dX10_move_21 : decode cX10_move 21 = .ok (.aload_n 0, 1) := by decide +kernel
theorem dX10_move_22 : decode cX10_move 22 = .ok (.getfield 31, 3) := by decide +kernel
theorem dX10_move_25 : decode cX10_move 25 = .ok (.iload_n 1, 1) := by decide +kernel
theorem dX10_move_26 : decode cX10_move 26 = .ok (.iaload, 1) := by decide +kernel
theorem dX10_move_27 : decode cX10_move 27 = .ok (.ifCond .eq 12, 3) := by decide +kernel
theorem dX10_move_30 : decode cX10_move 30 = .ok (.aload_n 0, 1) := by decide +kernel
theorem dX10_move_31 : decode cX10_move 31 = .ok (.getfield 31, 3) := by decide +kernel
theorem dX10_move_34 : decode cX10_move 34 = .ok (.iload_n 3, 1) := by decide +kernel
theorem dX10_move_35 : decode cX10_move 35 = .ok (.iaload, 1) := by decide +kernel
theorem dX10_move_36 : decode cX10_move 36 = .ok (.ifCond .ne 10, 3) := by decide +kernel
theorem dX10_move_39 : decode cX10_move 39 = .ok (.aload_n 0, 1) := by decide +kernel
theorem dX10_move_40 : decode cX10_move 40 = .ok (.ldc 182, 2) := by decide +kernel
theorem dX10_move_42 : decode cX10_move 42 = .ok (.invokevirtual 52, 3) := by decide +kernel
theorem dX10_move_45 : decode cX10_move 45 = .ok (.ireturn, 1) := by decide +kernel
theorem dX10_move_46 : decode cX10_move 46 = .ok (.aload_n 0, 1) := by decide +kernel
theorem dX10_move_47 : decode cX10_move 47 = .ok (.getfield 31, 3) := by decide +kernel
theorem dX10_move_50 : decode cX10_move 50 = .ok (.iload_n 1, 1) := by decide +kernel
theorem dX10_move_51 : decode cX10_move 51 = .ok (.iaload, 1) := by decide +kernel
theorem dX10_move_52 : decode cX10_move 52 = .ok (.aload_n 0, 1) := by decide +kernel
theorem dX10_move_53 : decode cX10_move 53 = .ok (.getfield 31, 3) := by decide +kernel
theorem dX10_move_56 : decode cX10_move 56 = .ok (.iload_n 3, 1) := by decide +kernel
theorem dX10_move_57 : decode cX10_move 57 = .ok (.iaload, 1) := by decide +kernel
theorem dX10_move_58 : decode cX10_move 58 = .ok (.if_icmp .eq 10, 3) := by decide +kernel
theorem dX10_move_61 : decode cX10_move 61 = .ok (.aload_n 0, 1) := by decide +kernel
theorem dX10_move_62 : decode cX10_move 62 = .ok (.ldc 88, 2) := by decide +kernel
theorem dX10_move_64 : decode cX10_move 64 = .ok (.invokevirtual 52, 3) := by decide +kernel
theorem dX10_move_67 : decode cX10_move 67 = .ok (.ireturn, 1) := by decide +kernel
theorem dX10_move_68 : decode cX10_move 68 = .ok (.iload 5, 2) := by decide +kernel
theorem dX10_move_70 : decode cX10_move 70 = .ok (.ifCond .lt 39, 3) := by decide +kernel
theorem dX10_move_73 : decode cX10_move 73 = .ok (.iload_n 2, 1) := by decide +kernel
theorem dX10_move_74 : decode cX10_move 74 = .ok (.ifCond .lt 35, 3) := by decide +kernel
theorem dX10_move_77 : decode cX10_move 77 = .ok (.iload 4, 2) := by decide +kernel
theorem dX10_move_79 : decode cX10_move 79 = .ok (.ifCond .lt 30, 3) := by decide +kernel
theorem dX10_move_82 : decode cX10_move 82 = .ok (.iload_n 2, 1) := by decide +kernel
theorem dX10_move_83 : decode cX10_move 83 = .ok (.aload_n 0, 1) := by decide +kernel
theorem dX10_move_84 : decode cX10_move 84 = .ok (.getfield 34, 3) := by decide +kernel
theorem dX10_move_87 : decode cX10_move 87 = .ok (.iload_n 1, 1) := by decide +kernel
theorem dX10_move_88 : decode cX10_move 88 = .ok (.iaload, 1) := by decide +kernel
theorem dX10_move_89 : decode cX10_move 89 = .ok (.iload 5, 2) := by decide +kernel
theorem dX10_move_91 : decode cX10_move 91 = .ok (.isub, 1) := by decide +kernel
theorem dX10_move_92 : decode cX10_move 92 = .ok (.if_icmp .gt 17, 3) := by decide +kernel
theorem dX10_move_95 : decode cX10_move 95 = .ok (.iload 4, 2) := by decide +kernel
theorem dX10_move_97 : decode cX10_move 97 = .ok (.aload_n 0, 1) := by decide +kernel
theorem dX10_move_98 : decode cX10_move 98 = .ok (.getfield 34, 3) := by decide +kernel
theorem dX10_move_101 : decode cX10_move 101 = .ok (.iload_n 3, 1) := by decide +kernel
theorem dX10_move_102 : decode cX10_move 102 = .ok (.iaload, 1) := by decide +kernel
theorem dX10_move_103 : decode cX10_move 103 = .ok (.iload 5, 2) := by decide +kernel
theorem dX10_move_105 : decode cX10_move 105 = .ok (.isub, 1) := by decide +kernel
theorem dX10_move_106 : decode cX10_move 106 = .ok (.if_icmp .le 10, 3) := by decide +kernel
theorem dX10_move_109 : decode cX10_move 109 = .ok (.aload_n 0, 1) := by decide +kernel
theorem dX10_move_110 : decode cX10_move 110 = .ok (.ldc 51, 2) := by decide +kernel
theorem dX10_move_112 : decode cX10_move 112 = .ok (.invokevirtual 52, 3) := by decide +kernel
theorem dX10_move_115 : decode cX10_move 115 = .ok (.ireturn, 1) := by decide +kernel
theorem dX10_move_116 : decode cX10_move 116 = .ok (.iconst 0, 1) := by decide +kernel
theorem dX10_move_117 : decode cX10_move 117 = .ok (.istore 6, 2) := by decide +kernel
theorem dX10_move_119 : decode cX10_move 119 = .ok (.iload 6, 2) := by decide +kernel
theorem dX10_move_121 : decode cX10_move 121 = .ok (.iload 5, 2) := by decide +kernel
theorem dX10_move_123 : decode cX10_move 123 = .ok (.if_icmp .ge 30, 3) := by decide +kernel
theorem dX10_move_126 : decode cX10_move 126 = .ok (.aload_n 0, 1) := by decide +kernel
theorem dX10_move_127 : decode cX10_move 127 = .ok (.getfield 40, 3) := by decide +kernel
theorem dX10_move_130 : decode cX10_move 130 = .ok (.iload 6, 2) := by decide +kernel
theorem dX10_move_132 : decode cX10_move 132 = .ok (.aload_n 0, 1) := by decide +kernel
theorem dX10_move_133 : decode cX10_move 133 = .ok (.getfield 37, 3) := by decide +kernel
theorem dX10_move_136 : decode cX10_move 136 = .ok (.bipush 40, 2) := by decide +kernel
theorem dX10_move_138 : decode cX10_move 138 = .ok (.iload_n 1, 1) := by decide +kernel
theorem dX10_move_139 : decode cX10_move 139 = .ok (.imul, 1) := by decide +kernel
theorem dX10_move_140 : decode cX10_move 140 = .ok (.iload_n 2, 1) := by decide +kernel
theorem dX10_move_141 : decode cX10_move 141 = .ok (.iadd, 1) := by decide +kernel
theorem dX10_move_142 : decode cX10_move 142 = .ok (.iload 6, 2) := by decide +kernel
theorem dX10_move_144 : decode cX10_move 144 = .ok (.iadd, 1) := by decide +kernel
theorem dX10_move_145 : decode cX10_move 145 = .ok (.iaload, 1) := by decide +kernel
theorem dX10_move_146 : decode cX10_move 146 = .ok (.iastore, 1) := by decide +kernel
theorem dX10_move_147 : decode cX10_move 147 = .ok (.iinc 6 1, 3) := by decide +kernel
theorem dX10_move_150 : decode cX10_move 150 = .ok (.goto (-31), 3) := by decide +kernel
theorem dX10_move_153 : decode cX10_move 153 = .ok (.iconst 0, 1) := by decide +kernel
theorem dX10_move_154 : decode cX10_move 154 = .ok (.istore 6, 2) := by decide +kernel
theorem dX10_move_156 : decode cX10_move 156 = .ok (.iload 6, 2) := by decide +kernel
theorem dX10_move_158 : decode cX10_move 158 = .ok (.iload 5, 2) := by decide +kernel
theorem dX10_move_160 : decode cX10_move 160 = .ok (.if_icmp .ge 31, 3) := by decide +kernel
theorem dX10_move_163 : decode cX10_move 163 = .ok (.aload_n 0, 1) := by decide +kernel
theorem dX10_move_164 : decode cX10_move 164 = .ok (.getfield 37, 3) := by decide +kernel
theorem dX10_move_167 : decode cX10_move 167 = .ok (.bipush 40, 2) := by decide +kernel
theorem dX10_move_169 : decode cX10_move 169 = .ok (.iload_n 3, 1) := by decide +kernel
theorem dX10_move_170 : decode cX10_move 170 = .ok (.imul, 1) := by decide +kernel
theorem dX10_move_171 : decode cX10_move 171 = .ok (.iload 4, 2) := by decide +kernel
theorem dX10_move_173 : decode cX10_move 173 = .ok (.iadd, 1) := by decide +kernel
theorem dX10_move_174 : decode cX10_move 174 = .ok (.iload 6, 2) := by decide +kernel
theorem dX10_move_176 : decode cX10_move 176 = .ok (.iadd, 1) := by decide +kernel
theorem dX10_move_177 : decode cX10_move 177 = .ok (.aload_n 0, 1) := by decide +kernel
theorem dX10_move_178 : decode cX10_move 178 = .ok (.getfield 40, 3) := by decide +kernel
theorem dX10_move_181 : decode cX10_move 181 = .ok (.iload 6, 2) := by decide +kernel
theorem dX10_move_183 : decode cX10_move 183 = .ok (.iaload, 1) := by decide +kernel
theorem dX10_move_184 : decode cX10_move 184 = .ok (.iastore, 1) := by decide +kernel
theorem dX10_move_185 : decode cX10_move 185 = .ok (.iinc 6 1, 3) := by decide +kernel
theorem dX10_move_188 : decode cX10_move 188 = .ok (.goto (-32), 3) := by decide +kernel
theorem dX10_move_191 : decode cX10_move 191 = .ok (.iload 5, 2) := by decide +kernel
theorem dX10_move_193 : decode cX10_move 193 = .ok (.ireturn, 1) := by decide +kernel
theorem dX10_debts_0 : decode cX10_debts 0 = .ok (.iload_n 1, 1) := by decide +kernel
theorem dX10_debts_1 : decode cX10_debts 1 = .ok (.invokestatic 207, 3) := by decide +kernel
theorem dX10_debts_4 : decode cX10_debts 4 = .ok (.ifCond .ne 10, 3) := by decide +kernel
theorem dX10_debts_7 : decode cX10_debts 7 = .ok (.aload_n 0, 1) := by decide +kernel
theorem dX10_debts_8 : decode cX10_debts 8 = .ok (.ldc 51, 2) := by decide +kernel
theorem dX10_debts_10 : decode cX10_debts 10 = .ok (.invokevirtual 52, 3) := by decide +kernel
theorem dX10_debts_13 : decode cX10_debts 13 = .ok (.ireturn, 1) := by decide +kernel
theorem dX10_debts_14 : decode cX10_debts 14 = .ok (.aload_n 0, 1) := by decide +kernel
theorem dX10_debts_15 : decode cX10_debts 15 = .ok (.getfield 31, 3) := by decide +kernel
theorem dX10_debts_18 : decode cX10_debts 18 = .ok (.iload_n 1, 1) := by decide +kernel
theorem dX10_debts_19 : decode cX10_debts 19 = .ok (.iaload, 1) := by decide +kernel
theorem dX10_debts_20 : decode cX10_debts 20 = .ok (.ifCond .ne 10, 3) := by decide +kernel
theorem dX10_debts_23 : decode cX10_debts 23 = .ok (.aload_n 0, 1) := by decide +kernel
theorem dX10_debts_24 : decode cX10_debts 24 = .ok (.ldc 182, 2) := by decide +kernel
theorem dX10_debts_26 : decode cX10_debts 26 = .ok (.invokevirtual 52, 3) := by decide +kernel
theorem dX10_debts_29 : decode cX10_debts 29 = .ok (.ireturn, 1) := by decide +kernel
theorem dX10_debts_30 : decode cX10_debts 30 = .ok (.iconst 0, 1) := by decide +kernel
theorem dX10_debts_31 : decode cX10_debts 31 = .ok (.istore_n 2, 1) := by decide +kernel
theorem dX10_debts_32 : decode cX10_debts 32 = .ok (.iload_n 2, 1) := by decide +kernel
theorem dX10_debts_33 : decode cX10_debts 33 = .ok (.aload_n 0, 1) := by decide +kernel
theorem dX10_debts_34 : decode cX10_debts 34 = .ok (.getfield 34, 3) := by decide +kernel
theorem dX10_debts_37 : decode cX10_debts 37 = .ok (.iload_n 1, 1) := by decide +kernel
theorem dX10_debts_38 : decode cX10_debts 38 = .ok (.iaload, 1) := by decide +kernel
theorem dX10_debts_39 : decode cX10_debts 39 = .ok (.if_icmp .ge 55, 3) := by decide +kernel
theorem dX10_debts_42 : decode cX10_debts 42 = .ok (.aload_n 0, 1) := by decide +kernel
theorem dX10_debts_43 : decode cX10_debts 43 = .ok (.iload_n 2, 1) := by decide +kernel
theorem dX10_debts_44 : decode cX10_debts 44 = .ok (.invokevirtual 61, 3) := by decide +kernel
theorem dX10_debts_47 : decode cX10_debts 47 = .ok (.ifCond .eq 47, 3) := by decide +kernel
theorem dX10_debts_50 : decode cX10_debts 50 = .ok (.aload_n 0, 1) := by decide +kernel
theorem dX10_debts_51 : decode cX10_debts 51 = .ok (.getfield 37, 3) := by decide +kernel
theorem dX10_debts_54 : decode cX10_debts 54 = .ok (.bipush 40, 2) := by decide +kernel
theorem dX10_debts_56 : decode cX10_debts 56 = .ok (.iload_n 1, 1) := by decide +kernel
theorem dX10_debts_57 : decode cX10_debts 57 = .ok (.imul, 1) := by decide +kernel
theorem dX10_debts_58 : decode cX10_debts 58 = .ok (.iload_n 2, 1) := by decide +kernel
theorem dX10_debts_59 : decode cX10_debts 59 = .ok (.iadd, 1) := by decide +kernel
theorem dX10_debts_60 : decode cX10_debts 60 = .ok (.iaload, 1) := by decide +kernel
theorem dX10_debts_61 : decode cX10_debts 61 = .ok (.iconst 0, 1) := by decide +kernel
theorem dX10_debts_62 : decode cX10_debts 62 = .ok (.sipush 9999, 3) := by decide +kernel
theorem dX10_debts_65 : decode cX10_debts 65 = .ok (.invokestatic 47, 3) := by decide +kernel
theorem dX10_debts_68 : decode cX10_debts 68 = .ok (.ifCond .eq 26, 3) := by decide +kernel
theorem dX10_debts_71 : decode cX10_debts 71 = .ok (.aload_n 0, 1) := by decide +kernel
theorem dX10_debts_72 : decode cX10_debts 72 = .ok (.iload_n 2, 1) := by decide +kernel
theorem dX10_debts_73 : decode cX10_debts 73 = .ok (.iconst 2, 1) := by decide +kernel
theorem dX10_debts_74 : decode cX10_debts 74 = .ok (.aload_n 0, 1) := by decide +kernel
theorem dX10_debts_75 : decode cX10_debts 75 = .ok (.getfield 37, 3) := by decide +kernel
theorem dX10_debts_78 : decode cX10_debts 78 = .ok (.bipush 40, 2) := by decide +kernel
theorem dX10_debts_80 : decode cX10_debts 80 = .ok (.iload_n 1, 1) := by decide +kernel
theorem dX10_debts_81 : decode cX10_debts 81 = .ok (.imul, 1) := by decide +kernel
theorem dX10_debts_82 : decode cX10_debts 82 = .ok (.iload_n 2, 1) := by decide +kernel
theorem dX10_debts_83 : decode cX10_debts 83 = .ok (.iadd, 1) := by decide +kernel
theorem dX10_debts_84 : decode cX10_debts 84 = .ok (.iaload, 1) := by decide +kernel
theorem dX10_debts_85 : decode cX10_debts 85 = .ok (.invokevirtual 57, 3) := by decide +kernel
theorem dX10_debts_88 : decode cX10_debts 88 = .ok (.iinc 2 1, 3) := by decide +kernel
theorem dX10_debts_91 : decode cX10_debts 91 = .ok (.goto (-59), 3) := by decide +kernel
theorem dX10_debts_94 : decode cX10_debts 94 = .ok (.iload_n 2, 1) := by decide +kernel
theorem dX10_debts_95 : decode cX10_debts 95 = .ok (.ireturn, 1) := by decide +kernel
theorem dX10_judge_0 : decode cX10_judge 0 = .ok (.iload_n 1, 1) := by decide +kernel
theorem dX10_judge_1 : decode cX10_judge 1 = .ok (.invokestatic 207, 3) := by decide +kernel
theorem dX10_judge_4 : decode cX10_judge 4 = .ok (.ifCond .ne 10, 3) := by decide +kernel
theorem dX10_judge_7 : decode cX10_judge 7 = .ok (.aload_n 0, 1) := by decide +kernel
theorem dX10_judge_8 : decode cX10_judge 8 = .ok (.ldc 51, 2) := by decide +kernel
theorem dX10_judge_10 : decode cX10_judge 10 = .ok (.invokevirtual 52, 3) := by decide +kernel
theorem dX10_judge_13 : decode cX10_judge 13 = .ok (.ireturn, 1) := by decide +kernel
theorem dX10_judge_14 : decode cX10_judge 14 = .ok (.aload_n 0, 1) := by decide +kernel
theorem dX10_judge_15 : decode cX10_judge 15 = .ok (.getfield 31, 3) := by decide +kernel
theorem dX10_judge_18 : decode cX10_judge 18 = .ok (.iload_n 1, 1) := by decide +kernel
theorem dX10_judge_19 : decode cX10_judge 19 = .ok (.iaload, 1) := by decide +kernel
theorem dX10_judge_20 : decode cX10_judge 20 = .ok (.ifCond .ne 10, 3) := by decide +kernel
theorem dX10_judge_23 : decode cX10_judge 23 = .ok (.aload_n 0, 1) := by decide +kernel
theorem dX10_judge_24 : decode cX10_judge 24 = .ok (.ldc 182, 2) := by decide +kernel
theorem dX10_judge_26 : decode cX10_judge 26 = .ok (.invokevirtual 52, 3) := by decide +kernel
theorem dX10_judge_29 : decode cX10_judge 29 = .ok (.ireturn, 1) := by decide +kernel
theorem dX10_judge_30 : decode cX10_judge 30 = .ok (.iconst 0, 1) := by decide +kernel
theorem dX10_judge_31 : decode cX10_judge 31 = .ok (.istore_n 2, 1) := by decide +kernel
theorem dX10_judge_32 : decode cX10_judge 32 = .ok (.iload_n 2, 1) := by decide +kernel
theorem dX10_judge_33 : decode cX10_judge 33 = .ok (.aload_n 0, 1) := by decide +kernel
theorem dX10_judge_34 : decode cX10_judge 34 = .ok (.getfield 7, 3) := by decide +kernel
theorem dX10_judge_37 : decode cX10_judge 37 = .ok (.iconst 2, 1) := by decide +kernel
theorem dX10_judge_38 : decode cX10_judge 38 = .ok (.iaload, 1) := by decide +kernel
theorem dX10_judge_39 : decode cX10_judge 39 = .ok (.if_icmp .ge 39, 3) := by decide +kernel
theorem dX10_judge_42 : decode cX10_judge 42 = .ok (.iload_n 2, 1) := by decide +kernel
theorem dX10_judge_43 : decode cX10_judge 43 = .ok (.aload_n 0, 1) := by decide +kernel
theorem dX10_judge_44 : decode cX10_judge 44 = .ok (.getfield 34, 3) := by decide +kernel
theorem dX10_judge_47 : decode cX10_judge 47 = .ok (.iload_n 1, 1) := by decide +kernel
theorem dX10_judge_48 : decode cX10_judge 48 = .ok (.iaload, 1) := by decide +kernel
theorem dX10_judge_49 : decode cX10_judge 49 = .ok (.if_icmp .ge 29, 3) := by decide +kernel
theorem dX10_judge_52 : decode cX10_judge 52 = .ok (.aload_n 0, 1) := by decide +kernel
theorem dX10_judge_53 : decode cX10_judge 53 = .ok (.getfield 37, 3) := by decide +kernel
theorem dX10_judge_56 : decode cX10_judge 56 = .ok (.bipush 40, 2) := by decide +kernel
theorem dX10_judge_58 : decode cX10_judge 58 = .ok (.iload_n 1, 1) := by decide +kernel
theorem dX10_judge_59 : decode cX10_judge 59 = .ok (.imul, 1) := by decide +kernel
theorem dX10_judge_60 : decode cX10_judge 60 = .ok (.iload_n 2, 1) := by decide +kernel
theorem dX10_judge_61 : decode cX10_judge 61 = .ok (.iadd, 1) := by decide +kernel
theorem dX10_judge_62 : decode cX10_judge 62 = .ok (.iaload, 1) := by decide +kernel
theorem dX10_judge_63 : decode cX10_judge 63 = .ok (.aload_n 0, 1) := by decide +kernel
theorem dX10_judge_64 : decode cX10_judge 64 = .ok (.iload_n 2, 1) := by decide +kernel
theorem dX10_judge_65 : decode cX10_judge 65 = .ok (.iconst 3, 1) := by decide +kernel
theorem dX10_judge_66 : decode cX10_judge 66 = .ok (.invokevirtual 65, 3) := by decide +kernel
theorem dX10_judge_69 : decode cX10_judge 69 = .ok (.if_icmp .ne 9, 3) := by decide +kernel
theorem dX10_judge_72 : decode cX10_judge 72 = .ok (.iinc 2 1, 3) := by decide +kernel
theorem dX10_judge_75 : decode cX10_judge 75 = .ok (.goto (-43), 3) := by decide +kernel
theorem dX10_judge_78 : decode cX10_judge 78 = .ok (.iload_n 2, 1) := by decide +kernel
theorem dX10_judge_79 : decode cX10_judge 79 = .ok (.aload_n 0, 1) := by decide +kernel
theorem dX10_judge_80 : decode cX10_judge 80 = .ok (.getfield 7, 3) := by decide +kernel
theorem dX10_judge_83 : decode cX10_judge 83 = .ok (.iconst 2, 1) := by decide +kernel
theorem dX10_judge_84 : decode cX10_judge 84 = .ok (.iaload, 1) := by decide +kernel
theorem dX10_judge_85 : decode cX10_judge 85 = .ok (.if_icmp .ne 17, 3) := by decide +kernel
theorem dX10_judge_88 : decode cX10_judge 88 = .ok (.iload_n 2, 1) := by decide +kernel
theorem dX10_judge_89 : decode cX10_judge 89 = .ok (.aload_n 0, 1) := by decide +kernel
theorem dX10_judge_90 : decode cX10_judge 90 = .ok (.getfield 34, 3) := by decide +kernel
theorem dX10_judge_93 : decode cX10_judge 93 = .ok (.iload_n 1, 1) := by decide +kernel
theorem dX10_judge_94 : decode cX10_judge 94 = .ok (.iaload, 1) := by decide +kernel
theorem dX10_judge_95 : decode cX10_judge 95 = .ok (.if_icmp .ne 7, 3) := by decide +kernel
theorem dX10_judge_98 : decode cX10_judge 98 = .ok (.iconst (-1), 1) := by decide +kernel
theorem dX10_judge_99 : decode cX10_judge 99 = .ok (.goto 4, 3) := by decide +kernel
theorem dX10_judge_102 : decode cX10_judge 102 = .ok (.iload_n 2, 1) := by decide +kernel
theorem dX10_judge_103 : decode cX10_judge 103 = .ok (.ireturn, 1) := by decide +kernel
theorem dX10_image_0 : decode cX10_image 0 = .ok (.aload_n 0, 1) := by decide +kernel
theorem dX10_image_1 : decode cX10_image 1 = .ok (.aload_n 0, 1) := by decide +kernel
theorem dX10_image_2 : decode cX10_image 2 = .ok (.getfield 7, 3) := by decide +kernel
theorem dX10_image_5 : decode cX10_image 5 = .ok (.aload_n 0, 1) := by decide +kernel
theorem dX10_image_6 : decode cX10_image 6 = .ok (.getfield 13, 3) := by decide +kernel
theorem dX10_image_9 : decode cX10_image 9 = .ok (.invokevirtual 162, 3) := by decide +kernel
theorem dX10_image_12 : decode cX10_image 12 = .ok (.aload_n 0, 1) := by decide +kernel
theorem dX10_image_13 : decode cX10_image 13 = .ok (.iconst 1, 1) := by decide +kernel
theorem dX10_image_14 : decode cX10_image 14 = .ok (.putfield 246, 3) := by decide +kernel
theorem dX10_image_17 : decode cX10_image 17 = .ok (.aload_n 0, 1) := by decide +kernel
theorem dX10_image_18 : decode cX10_image 18 = .ok (.dup, 1) := by decide +kernel
theorem dX10_image_19 : decode cX10_image 19 = .ok (.getfield 249, 3) := by decide +kernel
theorem dX10_image_22 : decode cX10_image 22 = .ok (.iconst 1, 1) := by decide +kernel
theorem dX10_image_23 : decode cX10_image 23 = .ok (.iadd, 1) := by decide +kernel
theorem dX10_image_24 : decode cX10_image 24 = .ok (.putfield 249, 3) := by decide +kernel
theorem dX10_image_27 : decode cX10_image 27 = .ok (.aload_n 0, 1) := by decide +kernel
theorem dX10_image_28 : decode cX10_image 28 = .ok (.getfield 249, 3) := by decide +kernel
theorem dX10_image_31 : decode cX10_image 31 = .ok (.ireturn, 1) := by decide +kernel
theorem dX10_restore_0 : decode cX10_restore 0 = .ok (.aload_n 0, 1) := by decide +kernel
theorem dX10_restore_1 : decode cX10_restore 1 = .ok (.getfield 246, 3) := by decide +kernel
theorem dX10_restore_4 : decode cX10_restore 4 = .ok (.ifCond .ne 10, 3) := by decide +kernel
theorem dX10_restore_7 : decode cX10_restore 7 = .ok (.aload_n 0, 1) := by decide +kernel
theorem dX10_restore_8 : decode cX10_restore 8 = .ok (.ldc 182, 2) := by decide +kernel
theorem dX10_restore_10 : decode cX10_restore 10 = .ok (.invokevirtual 52, 3) := by decide +kernel
theorem dX10_restore_13 : decode cX10_restore 13 = .ok (.ireturn, 1) := by decide +kernel
theorem dX10_restore_14 : decode cX10_restore 14 = .ok (.aload_n 0, 1) := by decide +kernel
theorem dX10_restore_15 : decode cX10_restore 15 = .ok (.aload_n 0, 1) := by decide +kernel
theorem dX10_restore_16 : decode cX10_restore 16 = .ok (.getfield 13, 3) := by decide +kernel
theorem dX10_restore_19 : decode cX10_restore 19 = .ok (.aload_n 0, 1) := by decide +kernel
theorem dX10_restore_20 : decode cX10_restore 20 = .ok (.getfield 7, 3) := by decide +kernel
theorem dX10_restore_23 : decode cX10_restore 23 = .ok (.invokevirtual 162, 3) := by decide +kernel
theorem dX10_restore_26 : decode cX10_restore 26 = .ok (.aload_n 0, 1) := by decide +kernel
theorem dX10_restore_27 : decode cX10_restore 27 = .ok (.getfield 7, 3) := by decide +kernel
theorem dX10_restore_30 : decode cX10_restore 30 = .ok (.iconst 0, 1) := by decide +kernel
theorem dX10_restore_31 : decode cX10_restore 31 = .ok (.iaload, 1) := by decide +kernel
theorem dX10_restore_32 : decode cX10_restore 32 = .ok (.ireturn, 1) := by decide +kernel
theorem dX10_tell_0 : decode cX10_tell 0 = .ok (.aload_n 0, 1) := by decide +kernel
theorem dX10_tell_1 : decode cX10_tell 1 = .ok (.getfield 7, 3) := by decide +kernel
theorem dX10_tell_4 : decode cX10_tell 4 = .ok (.iconst 4, 1) := by decide +kernel
theorem dX10_tell_5 : decode cX10_tell 5 = .ok (.iaload, 1) := by decide +kernel
theorem dX10_tell_6 : decode cX10_tell 6 = .ok (.bipush 20, 2) := by decide +kernel
theorem dX10_tell_8 : decode cX10_tell 8 = .ok (.if_icmp .ne 10, 3) := by decide +kernel
theorem dX10_tell_11 : decode cX10_tell 11 = .ok (.aload_n 0, 1) := by decide +kernel
theorem dX10_tell_12 : decode cX10_tell 12 = .ok (.ldc 56, 2) := by decide +kernel
theorem dX10_tell_14 : decode cX10_tell 14 = .ok (.invokevirtual 52, 3) := by decide +kernel
theorem dX10_tell_17 : decode cX10_tell 17 = .ok (.ireturn, 1) := by decide +kernel
theorem dX10_tell_18 : decode cX10_tell 18 = .ok (.aload_n 0, 1) := by decide +kernel
theorem dX10_tell_19 : decode cX10_tell 19 = .ok (.getfield 7, 3) := by decide +kernel
theorem dX10_tell_22 : decode cX10_tell 22 = .ok (.bipush 106, 2) := by decide +kernel
theorem dX10_tell_24 : decode cX10_tell 24 = .ok (.aload_n 0, 1) := by decide +kernel
theorem dX10_tell_25 : decode cX10_tell 25 = .ok (.getfield 7, 3) := by decide +kernel
theorem dX10_tell_28 : decode cX10_tell 28 = .ok (.iconst 4, 1) := by decide +kernel
theorem dX10_tell_29 : decode cX10_tell 29 = .ok (.iaload, 1) := by decide +kernel
theorem dX10_tell_30 : decode cX10_tell 30 = .ok (.iadd, 1) := by decide +kernel
theorem dX10_tell_31 : decode cX10_tell 31 = .ok (.iload_n 1, 1) := by decide +kernel
theorem dX10_tell_32 : decode cX10_tell 32 = .ok (.iastore, 1) := by decide +kernel
theorem dX10_tell_33 : decode cX10_tell 33 = .ok (.aload_n 0, 1) := by decide +kernel
theorem dX10_tell_34 : decode cX10_tell 34 = .ok (.getfield 7, 3) := by decide +kernel
theorem dX10_tell_37 : decode cX10_tell 37 = .ok (.iconst 4, 1) := by decide +kernel
theorem dX10_tell_38 : decode cX10_tell 38 = .ok (.dup2, 1) := by decide +kernel
theorem dX10_tell_39 : decode cX10_tell 39 = .ok (.iaload, 1) := by decide +kernel
theorem dX10_tell_40 : decode cX10_tell 40 = .ok (.iconst 1, 1) := by decide +kernel
theorem dX10_tell_41 : decode cX10_tell 41 = .ok (.iadd, 1) := by decide +kernel
theorem dX10_tell_42 : decode cX10_tell 42 = .ok (.iastore, 1) := by decide +kernel
theorem dX10_tell_43 : decode cX10_tell 43 = .ok (.aload_n 0, 1) := by decide +kernel
theorem dX10_tell_44 : decode cX10_tell 44 = .ok (.getfield 7, 3) := by decide +kernel
theorem dX10_tell_47 : decode cX10_tell 47 = .ok (.iconst 4, 1) := by decide +kernel
theorem dX10_tell_48 : decode cX10_tell 48 = .ok (.iaload, 1) := by decide +kernel
theorem dX10_tell_49 : decode cX10_tell 49 = .ok (.ireturn, 1) := by decide +kernel
theorem dX10_check_0 : decode cX10_check 0 = .ok (.aload_n 0, 1) := by decide +kernel
theorem dX10_check_1 : decode cX10_check 1 = .ok (.getfield 7, 3) := by decide +kernel
