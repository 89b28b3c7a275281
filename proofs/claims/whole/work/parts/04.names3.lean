theorem dX6_fewestFolds_141 : decode cX6_fewestFolds 141 = .ok (.getfield 21, 3) := by decide +kernel
theorem dX6_fewestFolds_144 : decode cX6_fewestFolds 144 = .ok (.iload_n 2, 1) := by decide +kernel
theorem dX6_fewestFolds_145 : decode cX6_fewestFolds 145 = .ok (.iaload, 1) := by decide +kernel
theorem dX6_fewestFolds_146 : decode cX6_fewestFolds 146 = .ok (.ireturn, 1) := by decide +kernel
theorem dX6_fewestUnfolded_0 : decode cX6_fewestUnfolded 0 = .ok (.iconst (-1), 1) := by decide +kernel
theorem dX6_fewestUnfolded_1 : decode cX6_fewestUnfolded 1 = .ok (.istore_n 3, 1) := by decide +kernel
theorem dX6_fewestUnfolded_2 : decode cX6_fewestUnfolded 2 = .ok (.iconst 0, 1) := by decide +kernel
theorem dX6_fewestUnfolded_3 : decode cX6_fewestUnfolded 3 = .ok (.istore 4, 2) := by decide +kernel
theorem dX6_fewestUnfolded_5 : decode cX6_fewestUnfolded 5 = .ok (.iload 4, 2) := by decide +kernel
theorem dX6_fewestUnfolded_7 : decode cX6_fewestUnfolded 7 = .ok (.iload_n 1, 1) := by decide +kernel
theorem dX6_fewestUnfolded_8 : decode cX6_fewestUnfolded 8 = .ok (.if_icmp .gt 44, 3) := by decide +kernel
theorem dX6_fewestUnfolded_11 : decode cX6_fewestUnfolded 11 = .ok (.iload 4, 2) := by decide +kernel
theorem dX6_fewestUnfolded_13 : decode cX6_fewestUnfolded 13 = .ok (.iload_n 1, 1) := by decide +kernel
theorem dX6_fewestUnfolded_14 : decode cX6_fewestUnfolded 14 = .ok (.iconst (-1), 1) := by decide +kernel
theorem dX6_fewestUnfolded_15 : decode cX6_fewestUnfolded 15 = .ok (.ixor, 1) := by decide +kernel
theorem dX6_fewestUnfolded_16 : decode cX6_fewestUnfolded 16 = .ok (.iand, 1) := by decide +kernel
theorem dX6_fewestUnfolded_17 : decode cX6_fewestUnfolded 17 = .ok (.ifCond .ne 29, 3) := by decide +kernel
theorem dX6_fewestUnfolded_20 : decode cX6_fewestUnfolded 20 = .ok (.aload_n 0, 1) := by decide +kernel
theorem dX6_fewestUnfolded_21 : decode cX6_fewestUnfolded 21 = .ok (.getfield 9, 3) := by decide +kernel
theorem dX6_fewestUnfolded_24 : decode cX6_fewestUnfolded 24 = .ok (.iload_n 1, 1) := by decide +kernel
theorem dX6_fewestUnfolded_25 : decode cX6_fewestUnfolded 25 = .ok (.iload 4, 2) := by decide +kernel
theorem dX6_fewestUnfolded_27 : decode cX6_fewestUnfolded 27 = .ok (.ixor, 1) := by decide +kernel
theorem dX6_fewestUnfolded_28 : decode cX6_fewestUnfolded 28 = .ok (.iaload, 1) := by decide +kernel
theorem dX6_fewestUnfolded_29 : decode cX6_fewestUnfolded 29 = .ok (.iload_n 2, 1) := by decide +kernel
theorem dX6_fewestUnfolded_30 : decode cX6_fewestUnfolded 30 = .ok (.if_icmp .lt 16, 3) := by decide +kernel
theorem dX6_fewestUnfolded_33 : decode cX6_fewestUnfolded 33 = .ok (.aload_n 0, 1) := by decide +kernel
theorem dX6_fewestUnfolded_34 : decode cX6_fewestUnfolded 34 = .ok (.iload 4, 2) := by decide +kernel
theorem dX6_fewestUnfolded_36 : decode cX6_fewestUnfolded 36 = .ok (.iload_n 3, 1) := by decide +kernel
theorem dX6_fewestUnfolded_37 : decode cX6_fewestUnfolded 37 = .ok (.invokevirtual 52, 3) := by decide +kernel
theorem dX6_fewestUnfolded_40 : decode cX6_fewestUnfolded 40 = .ok (.ifCond .eq 6, 3) := by decide +kernel
theorem dX6_fewestUnfolded_43 : decode cX6_fewestUnfolded 43 = .ok (.iload 4, 2) := by decide +kernel
theorem dX6_fewestUnfolded_45 : decode cX6_fewestUnfolded 45 = .ok (.istore_n 3, 1) := by decide +kernel
theorem dX6_fewestUnfolded_46 : decode cX6_fewestUnfolded 46 = .ok (.iinc 4 1, 3) := by decide +kernel
theorem dX6_fewestUnfolded_49 : decode cX6_fewestUnfolded 49 = .ok (.goto (-44), 3) := by decide +kernel
theorem dX6_fewestUnfolded_52 : decode cX6_fewestUnfolded 52 = .ok (.iload_n 3, 1) := by decide +kernel
theorem dX6_fewestUnfolded_53 : decode cX6_fewestUnfolded 53 = .ok (.ireturn, 1) := by decide +kernel
theorem dX6_foldableSets_0 : decode cX6_foldableSets 0 = .ok (.aload_n 1, 1) := by decide +kernel
theorem dX6_foldableSets_1 : decode cX6_foldableSets 1 = .ok (.invokevirtual 62, 3) := by decide +kernel
theorem dX6_foldableSets_4 : decode cX6_foldableSets 4 = .ok (.istore_n 2, 1) := by decide +kernel
theorem dX6_foldableSets_5 : decode cX6_foldableSets 5 = .ok (.iconst 0, 1) := by decide +kernel
theorem dX6_foldableSets_6 : decode cX6_foldableSets 6 = .ok (.istore_n 3, 1) := by decide +kernel
theorem dX6_foldableSets_7 : decode cX6_foldableSets 7 = .ok (.iconst 0, 1) := by decide +kernel
theorem dX6_foldableSets_8 : decode cX6_foldableSets 8 = .ok (.istore 4, 2) := by decide +kernel
theorem dX6_foldableSets_10 : decode cX6_foldableSets 10 = .ok (.iload 4, 2) := by decide +kernel
theorem dX6_foldableSets_12 : decode cX6_foldableSets 12 = .ok (.sipush 128, 3) := by decide +kernel
theorem dX6_foldableSets_15 : decode cX6_foldableSets 15 = .ok (.if_icmp .ge 23, 3) := by decide +kernel
theorem dX6_foldableSets_18 : decode cX6_foldableSets 18 = .ok (.aload_n 0, 1) := by decide +kernel
theorem dX6_foldableSets_19 : decode cX6_foldableSets 19 = .ok (.getfield 15, 3) := by decide +kernel
theorem dX6_foldableSets_22 : decode cX6_foldableSets 22 = .ok (.iload 4, 2) := by decide +kernel
theorem dX6_foldableSets_24 : decode cX6_foldableSets 24 = .ok (.iaload, 1) := by decide +kernel
theorem dX6_foldableSets_25 : decode cX6_foldableSets 25 = .ok (.iload_n 2, 1) := by decide +kernel
theorem dX6_foldableSets_26 : decode cX6_foldableSets 26 = .ok (.if_icmp .gt 6, 3) := by decide +kernel
theorem dX6_foldableSets_29 : decode cX6_foldableSets 29 = .ok (.iinc 3 1, 3) := by decide +kernel
theorem dX6_foldableSets_32 : decode cX6_foldableSets 32 = .ok (.iinc 4 1, 3) := by decide +kernel
theorem dX6_foldableSets_35 : decode cX6_foldableSets 35 = .ok (.goto (-25), 3) := by decide +kernel
theorem dX6_foldableSets_38 : decode cX6_foldableSets 38 = .ok (.iload_n 3, 1) := by decide +kernel
theorem dX6_foldableSets_39 : decode cX6_foldableSets 39 = .ok (.ireturn, 1) := by decide +kernel
theorem dX6_livingSets_0 : decode cX6_livingSets 0 = .ok (.aload_n 1, 1) := by decide +kernel
theorem dX6_livingSets_1 : decode cX6_livingSets 1 = .ok (.invokevirtual 62, 3) := by decide +kernel
theorem dX6_livingSets_4 : decode cX6_livingSets 4 = .ok (.istore_n 2, 1) := by decide +kernel
theorem dX6_livingSets_5 : decode cX6_livingSets 5 = .ok (.iconst 0, 1) := by decide +kernel
theorem dX6_livingSets_6 : decode cX6_livingSets 6 = .ok (.istore_n 3, 1) := by decide +kernel
theorem dX6_livingSets_7 : decode cX6_livingSets 7 = .ok (.iconst 0, 1) := by decide +kernel
theorem dX6_livingSets_8 : decode cX6_livingSets 8 = .ok (.istore 4, 2) := by decide +kernel
theorem dX6_livingSets_10 : decode cX6_livingSets 10 = .ok (.iload 4, 2) := by decide +kernel
theorem dX6_livingSets_12 : decode cX6_livingSets 12 = .ok (.sipush 128, 3) := by decide +kernel
theorem dX6_livingSets_15 : decode cX6_livingSets 15 = .ok (.if_icmp .ge 33, 3) := by decide +kernel
theorem dX6_livingSets_18 : decode cX6_livingSets 18 = .ok (.aload_n 0, 1) := by decide +kernel
theorem dX6_livingSets_19 : decode cX6_livingSets 19 = .ok (.getfield 15, 3) := by decide +kernel
theorem dX6_livingSets_22 : decode cX6_livingSets 22 = .ok (.iload 4, 2) := by decide +kernel
theorem dX6_livingSets_24 : decode cX6_livingSets 24 = .ok (.iaload, 1) := by decide +kernel
theorem dX6_livingSets_25 : decode cX6_livingSets 25 = .ok (.iload_n 2, 1) := by decide +kernel
theorem dX6_livingSets_26 : decode cX6_livingSets 26 = .ok (.if_icmp .gt 16, 3) := by decide +kernel
theorem dX6_livingSets_29 : decode cX6_livingSets 29 = .ok (.aload_n 0, 1) := by decide +kernel
theorem dX6_livingSets_30 : decode cX6_livingSets 30 = .ok (.aload_n 1, 1) := by decide +kernel
theorem dX6_livingSets_31 : decode cX6_livingSets 31 = .ok (.iload 4, 2) := by decide +kernel
theorem dX6_livingSets_33 : decode cX6_livingSets 33 = .ok (.invokevirtual 65, 3) := by decide +kernel
theorem dX6_livingSets_36 : decode cX6_livingSets 36 = .ok (.ifCond .eq 6, 3) := by decide +kernel
theorem dX6_livingSets_39 : decode cX6_livingSets 39 = .ok (.iinc 3 1, 3) := by decide +kernel
theorem dX6_livingSets_42 : decode cX6_livingSets 42 = .ok (.iinc 4 1, 3) := by decide +kernel
theorem dX6_livingSets_45 : decode cX6_livingSets 45 = .ok (.goto (-35), 3) := by decide +kernel
theorem dX6_livingSets_48 : decode cX6_livingSets 48 = .ok (.iload_n 3, 1) := by decide +kernel
theorem dX6_livingSets_49 : decode cX6_livingSets 49 = .ok (.ireturn, 1) := by decide +kernel
theorem dX7_init_0 : decode cX7_init 0 = .ok (.aload_n 0, 1) := by decide +kernel
theorem dX7_init_1 : decode cX7_init 1 = .ok (.invokespecial 3, 3) := by decide +kernel
theorem dX7_init_4 : decode cX7_init 4 = .ok (.aload_n 0, 1) := by decide +kernel
theorem dX7_init_5 : decode cX7_init 5 = .ok (.new 9, 3) := by decide +kernel
theorem dX7_init_8 : decode cX7_init 8 = .ok (.dup, 1) := by decide +kernel
theorem dX7_init_9 : decode cX7_init 9 = .ok (.invokespecial 11, 3) := by decide +kernel
theorem dX7_init_12 : decode cX7_init 12 = .ok (.putfield 12, 3) := by decide +kernel
theorem dX7_init_15 : decode cX7_init 15 = .ok (.aload_n 0, 1) := by decide +kernel
theorem dX7_init_16 : decode cX7_init 16 = .ok (.bipush 20, 2) := by decide +kernel
theorem dX7_init_18 : decode cX7_init 18 = .ok (.newarray .int, 2) := by decide +kernel
theorem dX7_init_20 : decode cX7_init 20 = .ok (.putfield 18, 3) := by decide +kernel
theorem dX7_init_23 : decode cX7_init 23 = .ok (.aload_n 0, 1) := by decide +kernel
theorem dX7_init_24 : decode cX7_init 24 = .ok (.iconst 0, 1) := by decide +kernel
theorem dX7_init_25 : decode cX7_init 25 = .ok (.putfield 22, 3) := by decide +kernel
theorem dX7_init_28 : decode cX7_init 28 = .ok (.aload_n 0, 1) := by decide +kernel
theorem dX7_init_29 : decode cX7_init 29 = .ok (.iconst 0, 1) := by decide +kernel
theorem dX7_init_30 : decode cX7_init 30 = .ok (.putfield 26, 3) := by decide +kernel
theorem dX7_init_33 : decode cX7_init 33 = .ok (.aload_n 0, 1) := by decide +kernel
theorem dX7_init_34 : decode cX7_init 34 = .ok (.iconst 0, 1) := by decide +kernel
theorem dX7_init_35 : decode cX7_init 35 = .ok (.putfield 29, 3) := by decide +kernel
theorem dX7_init_38 : decode cX7_init 38 = .ok (.aload_n 0, 1) := by decide +kernel
theorem dX7_init_39 : decode cX7_init 39 = .ok (.iconst 0, 1) := by decide +kernel
theorem dX7_init_40 : decode cX7_init 40 = .ok (.putfield 32, 3) := by decide +kernel
theorem dX7_init_43 : decode cX7_init 43 = .ok (.return_, 1) := by decide +kernel
theorem dX7_pass_0 : decode cX7_pass 0 = .ok (.iconst 0, 1) := by decide +kernel
theorem dX7_pass_1 : decode cX7_pass 1 = .ok (.istore 4, 2) := by decide +kernel
theorem dX7_pass_3 : decode cX7_pass 3 = .ok (.iload 4, 2) := by decide +kernel
theorem dX7_pass_5 : decode cX7_pass 5 = .ok (.aload_n 1, 1) := by decide +kernel
theorem dX7_pass_6 : decode cX7_pass 6 = .ok (.getfield 35, 3) := by decide +kernel
theorem dX7_pass_9 : decode cX7_pass 9 = .ok (.if_icmp .ge 53, 3) := by decide +kernel
theorem dX7_pass_12 : decode cX7_pass 12 = .ok (.aload_n 1, 1) := by decide +kernel
theorem dX7_pass_13 : decode cX7_pass 13 = .ok (.getfield 40, 3) := by decide +kernel
theorem dX7_pass_16 : decode cX7_pass 16 = .ok (.iload 4, 2) := by decide +kernel
theorem dX7_pass_18 : decode cX7_pass 18 = .ok (.aaload, 1) := by decide +kernel
theorem dX7_pass_19 : decode cX7_pass 19 = .ok (.astore 5, 2) := by decide +kernel
theorem dX7_pass_21 : decode cX7_pass 21 = .ok (.aload 5, 2) := by decide +kernel
theorem dX7_pass_23 : decode cX7_pass 23 = .ok (.getfield 44, 3) := by decide +kernel
theorem dX7_pass_26 : decode cX7_pass 26 = .ok (.ifCond .eq 30, 3) := by decide +kernel
theorem dX7_pass_29 : decode cX7_pass 29 = .ok (.aload 5, 2) := by decide +kernel
theorem dX7_pass_31 : decode cX7_pass 31 = .ok (.aload_n 0, 1) := by decide +kernel
theorem dX7_pass_32 : decode cX7_pass 32 = .ok (.aload_n 1, 1) := by decide +kernel
theorem dX7_pass_33 : decode cX7_pass 33 = .ok (.aload_n 2, 1) := by decide +kernel
theorem dX7_pass_34 : decode cX7_pass 34 = .ok (.iload 4, 2) := by decide +kernel
theorem dX7_pass_36 : decode cX7_pass 36 = .ok (.iconst 1, 1) := by decide +kernel
theorem dX7_pass_37 : decode cX7_pass 37 = .ok (.iload_n 3, 1) := by decide +kernel
theorem dX7_pass_38 : decode cX7_pass 38 = .ok (.invokevirtual 50, 3) := by decide +kernel
theorem dX7_pass_41 : decode cX7_pass 41 = .ok (.putfield 54, 3) := by decide +kernel
theorem dX7_pass_44 : decode cX7_pass 44 = .ok (.aload 5, 2) := by decide +kernel
theorem dX7_pass_46 : decode cX7_pass 46 = .ok (.aload_n 0, 1) := by decide +kernel
theorem dX7_pass_47 : decode cX7_pass 47 = .ok (.getfield 12, 3) := by decide +kernel
theorem dX7_pass_50 : decode cX7_pass 50 = .ok (.getfield 57, 3) := by decide +kernel
theorem dX7_pass_53 : decode cX7_pass 53 = .ok (.putfield 60, 3) := by decide +kernel
theorem dX7_pass_56 : decode cX7_pass 56 = .ok (.iinc 4 1, 3) := by decide +kernel
theorem dX7_pass_59 : decode cX7_pass 59 = .ok (.goto (-56), 3) := by decide +kernel
theorem dX7_pass_62 : decode cX7_pass 62 = .ok (.aload_n 1, 1) := by decide +kernel
theorem dX7_pass_63 : decode cX7_pass 63 = .ok (.dup, 1) := by decide +kernel
theorem dX7_pass_64 : decode cX7_pass 64 = .ok (.getfield 61, 3) := by decide +kernel
theorem dX7_pass_67 : decode cX7_pass 67 = .ok (.iload_n 3, 1) := by decide +kernel
theorem dX7_pass_68 : decode cX7_pass 68 = .ok (.iadd, 1) := by decide +kernel
theorem dX7_pass_69 : decode cX7_pass 69 = .ok (.putfield 61, 3) := by decide +kernel
theorem dX7_pass_72 : decode cX7_pass 72 = .ok (.return_, 1) := by decide +kernel
theorem dX7_follow_0 : decode cX7_follow 0 = .ok (.aload_n 0, 1) := by decide +kernel
theorem dX7_follow_1 : decode cX7_follow 1 = .ok (.getfield 12, 3) := by decide +kernel
theorem dX7_follow_4 : decode cX7_follow 4 = .ok (.aload_n 3, 1) := by decide +kernel
theorem dX7_follow_5 : decode cX7_follow 5 = .ok (.iload 4, 2) := by decide +kernel
theorem dX7_follow_7 : decode cX7_follow 7 = .ok (.invokevirtual 64, 3) := by decide +kernel
theorem dX7_follow_10 : decode cX7_follow 10 = .ok (.aload_n 0, 1) := by decide +kernel
theorem dX7_follow_11 : decode cX7_follow 11 = .ok (.aload_n 1, 1) := by decide +kernel
theorem dX7_follow_12 : decode cX7_follow 12 = .ok (.aload_n 2, 1) := by decide +kernel
theorem dX7_follow_13 : decode cX7_follow 13 = .ok (.aload_n 3, 1) := by decide +kernel
theorem dX7_follow_14 : decode cX7_follow 14 = .ok (.getfield 68, 3) := by decide +kernel
theorem dX7_follow_17 : decode cX7_follow 17 = .ok (.aload_n 3, 1) := by decide +kernel
theorem dX7_follow_18 : decode cX7_follow 18 = .ok (.getfield 71, 3) := by decide +kernel
theorem dX7_follow_21 : decode cX7_follow 21 = .ok (.aload_n 1, 1) := by decide +kernel
theorem dX7_follow_22 : decode cX7_follow 22 = .ok (.getfield 74, 3) := by decide +kernel
theorem dX7_follow_25 : decode cX7_follow 25 = .ok (.invokevirtual 77, 3) := by decide +kernel
theorem dX7_follow_28 : decode cX7_follow 28 = .ok (.return_, 1) := by decide +kernel
theorem dX7_pace_0 : decode cX7_pace 0 = .ok (.aload_n 2, 1) := by decide +kernel
theorem dX7_pace_1 : decode cX7_pace 1 = .ok (.getfield 81, 3) := by decide +kernel
theorem dX7_pace_4 : decode cX7_pace 4 = .ok (.iload 4, 2) := by decide +kernel
theorem dX7_pace_6 : decode cX7_pace 6 = .ok (.iaload, 1) := by decide +kernel
theorem dX7_pace_7 : decode cX7_pace 7 = .ok (.istore 6, 2) := by decide +kernel
theorem dX7_pace_9 : decode cX7_pace 9 = .ok (.aload_n 2, 1) := by decide +kernel
theorem dX7_pace_10 : decode cX7_pace 10 = .ok (.getfield 86, 3) := by decide +kernel
theorem dX7_pace_13 : decode cX7_pace 13 = .ok (.iload 4, 2) := by decide +kernel
theorem dX7_pace_15 : decode cX7_pace 15 = .ok (.iaload, 1) := by decide +kernel
theorem dX7_pace_16 : decode cX7_pace 16 = .ok (.istore 7, 2) := by decide +kernel
theorem dX7_pace_18 : decode cX7_pace 18 = .ok (.aload_n 0, 1) := by decide +kernel
theorem dX7_pace_19 : decode cX7_pace 19 = .ok (.getfield 12, 3) := by decide +kernel
theorem dX7_pace_22 : decode cX7_pace 22 = .ok (.iload_n 3, 1) := by decide +kernel
theorem dX7_pace_23 : decode cX7_pace 23 = .ok (.aload_n 1, 1) := by decide +kernel
theorem dX7_pace_24 : decode cX7_pace 24 = .ok (.iconst 0, 1) := by decide +kernel
theorem dX7_pace_25 : decode cX7_pace 25 = .ok (.iload 6, 2) := by decide +kernel
theorem dX7_pace_27 : decode cX7_pace 27 = .ok (.iload 7, 2) := by decide +kernel
theorem dX7_pace_29 : decode cX7_pace 29 = .ok (.iload 5, 2) := by decide +kernel
theorem dX7_pace_31 : decode cX7_pace 31 = .ok (.invokevirtual 89, 3) := by decide +kernel
theorem dX7_pace_34 : decode cX7_pace 34 = .ok (.iload 6, 2) := by decide +kernel
theorem dX7_pace_36 : decode cX7_pace 36 = .ok (.iload 7, 2) := by decide +kernel
theorem dX7_pace_38 : decode cX7_pace 38 = .ok (.invokevirtual 93, 3) := by decide +kernel
theorem dX7_pace_41 : decode cX7_pace 41 = .ok (.return_, 1) := by decide +kernel
theorem dX7_debtBehind_0 : decode cX7_debtBehind 0 = .ok (.aload_n 0, 1) := by decide +kernel
theorem dX7_debtBehind_1 : decode cX7_debtBehind 1 = .ok (.aload_n 1, 1) := by decide +kernel
theorem dX7_debtBehind_2 : decode cX7_debtBehind 2 = .ok (.aload_n 2, 1) := by decide +kernel
theorem dX7_debtBehind_3 : decode cX7_debtBehind 3 = .ok (.aload_n 1, 1) := by decide +kernel
theorem dX7_debtBehind_4 : decode cX7_debtBehind 4 = .ok (.getfield 40, 3) := by decide +kernel
theorem dX7_debtBehind_7 : decode cX7_debtBehind 7 = .ok (.iload_n 3, 1) := by decide +kernel
theorem dX7_debtBehind_8 : decode cX7_debtBehind 8 = .ok (.aaload, 1) := by decide +kernel
theorem dX7_debtBehind_9 : decode cX7_debtBehind 9 = .ok (.iload 4, 2) := by decide +kernel
theorem dX7_debtBehind_11 : decode cX7_debtBehind 11 = .ok (.invokevirtual 96, 3) := by decide +kernel
theorem dX7_debtBehind_14 : decode cX7_debtBehind 14 = .ok (.iconst 0, 1) := by decide +kernel
theorem dX7_debtBehind_15 : decode cX7_debtBehind 15 = .ok (.istore 6, 2) := by decide +kernel
theorem dX7_debtBehind_17 : decode cX7_debtBehind 17 = .ok (.iload 6, 2) := by decide +kernel
theorem dX7_debtBehind_19 : decode cX7_debtBehind 19 = .ok (.iload 5, 2) := by decide +kernel
theorem dX7_debtBehind_21 : decode cX7_debtBehind 21 = .ok (.if_icmp .ge 24, 3) := by decide +kernel
theorem dX7_debtBehind_24 : decode cX7_debtBehind 24 = .ok (.aload_n 0, 1) := by decide +kernel
theorem dX7_debtBehind_25 : decode cX7_debtBehind 25 = .ok (.getfield 12, 3) := by decide +kernel
theorem dX7_debtBehind_28 : decode cX7_debtBehind 28 = .ok (.aload_n 1, 1) := by decide +kernel
theorem dX7_debtBehind_29 : decode cX7_debtBehind 29 = .ok (.aload_n 1, 1) := by decide +kernel
theorem dX7_debtBehind_30 : decode cX7_debtBehind 30 = .ok (.getfield 61, 3) := by decide +kernel
theorem dX7_debtBehind_33 : decode cX7_debtBehind 33 = .ok (.iload 6, 2) := by decide +kernel
theorem dX7_debtBehind_35 : decode cX7_debtBehind 35 = .ok (.iadd, 1) := by decide +kernel
theorem dX7_debtBehind_36 : decode cX7_debtBehind 36 = .ok (.invokevirtual 100, 3) := by decide +kernel
theorem dX7_debtBehind_39 : decode cX7_debtBehind 39 = .ok (.iinc 6 1, 3) := by decide +kernel
theorem dX7_debtBehind_42 : decode cX7_debtBehind 42 = .ok (.goto (-25), 3) := by decide +kernel
theorem dX7_debtBehind_45 : decode cX7_debtBehind 45 = .ok (.aload_n 0, 1) := by decide +kernel
theorem dX7_debtBehind_46 : decode cX7_debtBehind 46 = .ok (.getfield 12, 3) := by decide +kernel
theorem dX7_debtBehind_49 : decode cX7_debtBehind 49 = .ok (.getfield 104, 3) := by decide +kernel
theorem dX7_debtBehind_52 : decode cX7_debtBehind 52 = .ok (.ireturn, 1) := by decide +kernel
theorem dX7_farBehind_0 : decode cX7_farBehind 0 = .ok (.aload_n 1, 1) := by decide +kernel
theorem dX7_farBehind_1 : decode cX7_farBehind 1 = .ok (.getfield 40, 3) := by decide +kernel
theorem dX7_farBehind_4 : decode cX7_farBehind 4 = .ok (.iload_n 3, 1) := by decide +kernel
theorem dX7_farBehind_5 : decode cX7_farBehind 5 = .ok (.aaload, 1) := by decide +kernel
theorem dX7_farBehind_6 : decode cX7_farBehind 6 = .ok (.astore 6, 2) := by decide +kernel
theorem dX7_farBehind_8 : decode cX7_farBehind 8 = .ok (.aload_n 0, 1) := by decide +kernel
theorem dX7_farBehind_9 : decode cX7_farBehind 9 = .ok (.getfield 12, 3) := by decide +kernel
theorem dX7_farBehind_12 : decode cX7_farBehind 12 = .ok (.aload 6, 2) := by decide +kernel
theorem dX7_farBehind_14 : decode cX7_farBehind 14 = .ok (.aload 6, 2) := by decide +kernel
theorem dX7_farBehind_16 : decode cX7_farBehind 16 = .ok (.getfield 44, 3) := by decide +kernel
theorem dX7_farBehind_19 : decode cX7_farBehind 19 = .ok (.invokevirtual 64, 3) := by decide +kernel
theorem dX7_farBehind_22 : decode cX7_farBehind 22 = .ok (.aload_n 0, 1) := by decide +kernel
theorem dX7_farBehind_23 : decode cX7_farBehind 23 = .ok (.aload_n 1, 1) := by decide +kernel
theorem dX7_farBehind_24 : decode cX7_farBehind 24 = .ok (.aload_n 2, 1) := by decide +kernel
theorem dX7_farBehind_25 : decode cX7_farBehind 25 = .ok (.aload 6, 2) := by decide +kernel
theorem dX7_farBehind_27 : decode cX7_farBehind 27 = .ok (.getfield 68, 3) := by decide +kernel
theorem dX7_farBehind_30 : decode cX7_farBehind 30 = .ok (.aload 6, 2) := by decide +kernel
theorem dX7_farBehind_32 : decode cX7_farBehind 32 = .ok (.getfield 71, 3) := by decide +kernel
theorem dX7_farBehind_35 : decode cX7_farBehind 35 = .ok (.iload 4, 2) := by decide +kernel
theorem dX7_farBehind_37 : decode cX7_farBehind 37 = .ok (.invokevirtual 77, 3) := by decide +kernel
theorem dX7_farBehind_40 : decode cX7_farBehind 40 = .ok (.aload_n 0, 1) := by decide +kernel
theorem dX7_farBehind_41 : decode cX7_farBehind 41 = .ok (.aload_n 1, 1) := by decide +kernel
theorem dX7_farBehind_42 : decode cX7_farBehind 42 = .ok (.getfield 61, 3) := by decide +kernel
theorem dX7_farBehind_45 : decode cX7_farBehind 45 = .ok (.iload 5, 2) := by decide +kernel
theorem dX7_farBehind_47 : decode cX7_farBehind 47 = .ok (.invokevirtual 105, 3) := by decide +kernel
theorem dX7_farBehind_50 : decode cX7_farBehind 50 = .ok (.ireturn, 1) := by decide +kernel
theorem dX7_farGone_0 : decode cX7_farGone 0 = .ok (.iconst 0, 1) := by decide +kernel
theorem dX7_farGone_1 : decode cX7_farGone 1 = .ok (.istore_n 3, 1) := by decide +kernel
theorem dX7_farGone_2 : decode cX7_farGone 2 = .ok (.iload_n 3, 1) := by decide +kernel
theorem dX7_farGone_3 : decode cX7_farGone 3 = .ok (.iload_n 2, 1) := by decide +kernel
theorem dX7_farGone_4 : decode cX7_farGone 4 = .ok (.if_icmp .ge 19, 3) := by decide +kernel
theorem dX7_farGone_7 : decode cX7_farGone 7 = .ok (.aload_n 0, 1) := by decide +kernel
theorem dX7_farGone_8 : decode cX7_farGone 8 = .ok (.getfield 12, 3) := by decide +kernel
theorem dX7_farGone_11 : decode cX7_farGone 11 = .ok (.iload_n 1, 1) := by decide +kernel
theorem dX7_farGone_12 : decode cX7_farGone 12 = .ok (.iload_n 3, 1) := by decide +kernel
theorem dX7_farGone_13 : decode cX7_farGone 13 = .ok (.iadd, 1) := by decide +kernel
theorem dX7_farGone_14 : decode cX7_farGone 14 = .ok (.invokevirtual 109, 3) := by decide +kernel
theorem dX7_farGone_17 : decode cX7_farGone 17 = .ok (.iinc 3 1, 3) := by decide +kernel
theorem dX7_farGone_20 : decode cX7_farGone 20 = .ok (.goto (-18), 3) := by decide +kernel
theorem dX7_farGone_23 : decode cX7_farGone 23 = .ok (.aload_n 0, 1) := by decide +kernel
theorem dX7_farGone_24 : decode cX7_farGone 24 = .ok (.getfield 12, 3) := by decide +kernel
theorem dX7_farGone_27 : decode cX7_farGone 27 = .ok (.getfield 57, 3) := by decide +kernel
theorem dX7_farGone_30 : decode cX7_farGone 30 = .ok (.ireturn, 1) := by decide +kernel
theorem dX7_findNextGone_0 : decode cX7_findNextGone 0 = .ok (.aload_n 0, 1) := by decide +kernel
theorem dX7_findNextGone_1 : decode cX7_findNextGone 1 = .ok (.bipush 61, 2) := by decide +kernel
theorem dX7_findNextGone_3 : decode cX7_findNextGone 3 = .ok (.putfield 22, 3) := by decide +kernel
theorem dX7_findNextGone_6 : decode cX7_findNextGone 6 = .ok (.iconst 0, 1) := by decide +kernel
theorem dX7_findNextGone_7 : decode cX7_findNextGone 7 = .ok (.istore_n 3, 1) := by decide +kernel
theorem dX7_findNextGone_8 : decode cX7_findNextGone 8 = .ok (.iload_n 3, 1) := by decide +kernel
theorem dX7_findNextGone_9 : decode cX7_findNextGone 9 = .ok (.aload_n 1, 1) := by decide +kernel
theorem dX7_findNextGone_10 : decode cX7_findNextGone 10 = .ok (.getfield 35, 3) := by decide +kernel
theorem dX7_findNextGone_13 : decode cX7_findNextGone 13 = .ok (.if_icmp .ge 74, 3) := by decide +kernel
theorem dX7_findNextGone_16 : decode cX7_findNextGone 16 = .ok (.aload_n 1, 1) := by decide +kernel
theorem dX7_findNextGone_17 : decode cX7_findNextGone 17 = .ok (.getfield 40, 3) := by decide +kernel
theorem dX7_findNextGone_20 : decode cX7_findNextGone 20 = .ok (.iload_n 3, 1) := by decide +kernel
theorem dX7_findNextGone_21 : decode cX7_findNextGone 21 = .ok (.aaload, 1) := by decide +kernel
theorem dX7_findNextGone_22 : decode cX7_findNextGone 22 = .ok (.astore 4, 2) := by decide +kernel
theorem dX7_findNextGone_24 : decode cX7_findNextGone 24 = .ok (.aload 4, 2) := by decide +kernel
theorem dX7_findNextGone_26 : decode cX7_findNextGone 26 = .ok (.getfield 44, 3) := by decide +kernel
theorem dX7_findNextGone_29 : decode cX7_findNextGone 29 = .ok (.ifCond .eq 52, 3) := by decide +kernel
theorem dX7_findNextGone_32 : decode cX7_findNextGone 32 = .ok (.aload 4, 2) := by decide +kernel
theorem dX7_findNextGone_34 : decode cX7_findNextGone 34 = .ok (.getfield 60, 3) := by decide +kernel
theorem dX7_findNextGone_37 : decode cX7_findNextGone 37 = .ok (.bipush 100, 2) := by decide +kernel
theorem dX7_findNextGone_39 : decode cX7_findNextGone 39 = .ok (.if_icmp .ge 42, 3) := by decide +kernel
theorem dX7_findNextGone_42 : decode cX7_findNextGone 42 = .ok (.aload_n 0, 1) := by decide +kernel
theorem dX7_findNextGone_43 : decode cX7_findNextGone 43 = .ok (.aload_n 1, 1) := by decide +kernel
theorem dX7_findNextGone_44 : decode cX7_findNextGone 44 = .ok (.aload_n 2, 1) := by decide +kernel
theorem dX7_findNextGone_45 : decode cX7_findNextGone 45 = .ok (.aload 4, 2) := by decide +kernel
theorem dX7_findNextGone_47 : decode cX7_findNextGone 47 = .ok (.iconst 1, 1) := by decide +kernel
theorem dX7_findNextGone_48 : decode cX7_findNextGone 48 = .ok (.invokevirtual 96, 3) := by decide +kernel
theorem dX7_findNextGone_51 : decode cX7_findNextGone 51 = .ok (.aload_n 0, 1) := by decide +kernel
theorem dX7_findNextGone_52 : decode cX7_findNextGone 52 = .ok (.aload_n 1, 1) := by decide +kernel
theorem dX7_findNextGone_53 : decode cX7_findNextGone 53 = .ok (.getfield 61, 3) := by decide +kernel
theorem dX7_findNextGone_56 : decode cX7_findNextGone 56 = .ok (.invokevirtual 113, 3) := by decide +kernel
theorem dX7_findNextGone_59 : decode cX7_findNextGone 59 = .ok (.istore 5, 2) := by decide +kernel
theorem dX7_findNextGone_61 : decode cX7_findNextGone 61 = .ok (.iload 5, 2) := by decide +kernel
theorem dX7_findNextGone_63 : decode cX7_findNextGone 63 = .ok (.aload_n 0, 1) := by decide +kernel
theorem dX7_findNextGone_64 : decode cX7_findNextGone 64 = .ok (.getfield 22, 3) := by decide +kernel
theorem dX7_findNextGone_67 : decode cX7_findNextGone 67 = .ok (.if_icmp .ge 14, 3) := by decide +kernel
theorem dX7_findNextGone_70 : decode cX7_findNextGone 70 = .ok (.aload_n 0, 1) := by decide +kernel
theorem dX7_findNextGone_71 : decode cX7_findNextGone 71 = .ok (.iload 5, 2) := by decide +kernel
theorem dX7_findNextGone_73 : decode cX7_findNextGone 73 = .ok (.putfield 22, 3) := by decide +kernel
theorem dX7_findNextGone_76 : decode cX7_findNextGone 76 = .ok (.aload_n 0, 1) := by decide +kernel
theorem dX7_findNextGone_77 : decode cX7_findNextGone 77 = .ok (.iload_n 3, 1) := by decide +kernel
theorem dX7_findNextGone_78 : decode cX7_findNextGone 78 = .ok (.putfield 26, 3) := by decide +kernel
theorem dX7_findNextGone_81 : decode cX7_findNextGone 81 = .ok (.iinc 3 1, 3) := by decide +kernel
theorem dX7_findNextGone_84 : decode cX7_findNextGone 84 = .ok (.goto (-76), 3) := by decide +kernel
theorem dX7_findNextGone_87 : decode cX7_findNextGone 87 = .ok (.aload_n 0, 1) := by decide +kernel
theorem dX7_findNextGone_88 : decode cX7_findNextGone 88 = .ok (.getfield 22, 3) := by decide +kernel
theorem dX7_findNextGone_91 : decode cX7_findNextGone 91 = .ok (.bipush 60, 2) := by decide +kernel
theorem dX7_findNextGone_93 : decode cX7_findNextGone 93 = .ok (.if_icmp .gt 7, 3) := by decide +kernel
theorem dX7_findNextGone_96 : decode cX7_findNextGone 96 = .ok (.iconst 1, 1) := by decide +kernel
theorem dX7_findNextGone_97 : decode cX7_findNextGone 97 = .ok (.goto 4, 3) := by decide +kernel
theorem dX7_findNextGone_100 : decode cX7_findNextGone 100 = .ok (.iconst 0, 1) := by decide +kernel
theorem dX7_findNextGone_101 : decode cX7_findNextGone 101 = .ok (.ireturn, 1) := by decide +kernel
theorem dX7_daysToGone_0 : decode cX7_daysToGone 0 = .ok (.iconst 0, 1) := by decide +kernel
theorem dX7_daysToGone_1 : decode cX7_daysToGone 1 = .ok (.istore_n 2, 1) := by decide +kernel
theorem dX7_daysToGone_2 : decode cX7_daysToGone 2 = .ok (.iload_n 2, 1) := by decide +kernel
theorem dX7_daysToGone_3 : decode cX7_daysToGone 3 = .ok (.bipush 60, 2) := by decide +kernel
theorem dX7_daysToGone_5 : decode cX7_daysToGone 5 = .ok (.if_icmp .gt 31, 3) := by decide +kernel
theorem dX7_daysToGone_8 : decode cX7_daysToGone 8 = .ok (.aload_n 0, 1) := by decide +kernel
theorem dX7_daysToGone_9 : decode cX7_daysToGone 9 = .ok (.getfield 12, 3) := by decide +kernel
theorem dX7_daysToGone_12 : decode cX7_daysToGone 12 = .ok (.getfield 57, 3) := by decide +kernel
theorem dX7_daysToGone_15 : decode cX7_daysToGone 15 = .ok (.bipush 100, 2) := by decide +kernel
theorem dX7_daysToGone_17 : decode cX7_daysToGone 17 = .ok (.if_icmp .ge 19, 3) := by decide +kernel
theorem dX7_daysToGone_20 : decode cX7_daysToGone 20 = .ok (.aload_n 0, 1) := by decide +kernel
theorem dX7_daysToGone_21 : decode cX7_daysToGone 21 = .ok (.getfield 12, 3) := by decide +kernel
theorem dX7_daysToGone_24 : decode cX7_daysToGone 24 = .ok (.iload_n 1, 1) := by decide +kernel
theorem dX7_daysToGone_25 : decode cX7_daysToGone 25 = .ok (.iload_n 2, 1) := by decide +kernel
theorem dX7_daysToGone_26 : decode cX7_daysToGone 26 = .ok (.iadd, 1) := by decide +kernel
theorem dX7_daysToGone_27 : decode cX7_daysToGone 27 = .ok (.invokevirtual 109, 3) := by decide +kernel
theorem dX7_daysToGone_30 : decode cX7_daysToGone 30 = .ok (.iinc 2 1, 3) := by decide +kernel
theorem dX7_daysToGone_33 : decode cX7_daysToGone 33 = .ok (.goto (-31), 3) := by decide +kernel
theorem dX7_daysToGone_36 : decode cX7_daysToGone 36 = .ok (.iload_n 2, 1) := by decide +kernel
theorem dX7_daysToGone_37 : decode cX7_daysToGone 37 = .ok (.ireturn, 1) := by decide +kernel
theorem dX7_findFarthest_0 : decode cX7_findFarthest 0 = .ok (.aload_n 1, 1) := by decide +kernel
theorem dX7_findFarthest_1 : decode cX7_findFarthest 1 = .ok (.getfield 40, 3) := by decide +kernel
theorem dX7_findFarthest_4 : decode cX7_findFarthest 4 = .ok (.iload_n 3, 1) := by decide +kernel
theorem dX7_findFarthest_5 : decode cX7_findFarthest 5 = .ok (.aaload, 1) := by decide +kernel
theorem dX7_findFarthest_6 : decode cX7_findFarthest 6 = .ok (.astore 5, 2) := by decide +kernel
theorem dX7_findFarthest_8 : decode cX7_findFarthest 8 = .ok (.aload 5, 2) := by decide +kernel
theorem dX7_findFarthest_10 : decode cX7_findFarthest 10 = .ok (.invokevirtual 117, 3) := by decide +kernel
theorem dX7_findFarthest_13 : decode cX7_findFarthest 13 = .ok (.istore 6, 2) := by decide +kernel
theorem dX7_findFarthest_15 : decode cX7_findFarthest 15 = .ok (.aload_n 0, 1) := by decide +kernel
theorem dX7_findFarthest_16 : decode cX7_findFarthest 16 = .ok (.iconst (-1), 1) := by decide +kernel
theorem dX7_findFarthest_17 : decode cX7_findFarthest 17 = .ok (.putfield 32, 3) := by decide +kernel
theorem dX7_findFarthest_20 : decode cX7_findFarthest 20 = .ok (.iconst 0, 1) := by decide +kernel
theorem dX7_findFarthest_21 : decode cX7_findFarthest 21 = .ok (.istore 7, 2) := by decide +kernel
theorem dX7_findFarthest_23 : decode cX7_findFarthest 23 = .ok (.iload 7, 2) := by decide +kernel
theorem dX7_findFarthest_25 : decode cX7_findFarthest 25 = .ok (.sipush 128, 3) := by decide +kernel
theorem dX7_findFarthest_28 : decode cX7_findFarthest 28 = .ok (.if_icmp .ge 92, 3) := by decide +kernel
theorem dX7_findFarthest_31 : decode cX7_findFarthest 31 = .ok (.aload_n 2, 1) := by decide +kernel
theorem dX7_findFarthest_32 : decode cX7_findFarthest 32 = .ok (.aload 5, 2) := by decide +kernel
theorem dX7_findFarthest_34 : decode cX7_findFarthest 34 = .ok (.iload 7, 2) := by decide +kernel
theorem dX7_findFarthest_36 : decode cX7_findFarthest 36 = .ok (.invokevirtual 121, 3) := by decide +kernel
theorem dX7_findFarthest_39 : decode cX7_findFarthest 39 = .ok (.ifCond .eq 75, 3) := by decide +kernel
theorem dX7_findFarthest_42 : decode cX7_findFarthest 42 = .ok (.aload_n 2, 1) := by decide +kernel
theorem dX7_findFarthest_43 : decode cX7_findFarthest 43 = .ok (.getfield 86, 3) := by decide +kernel
theorem dX7_findFarthest_46 : decode cX7_findFarthest 46 = .ok (.iload 7, 2) := by decide +kernel
theorem dX7_findFarthest_48 : decode cX7_findFarthest 48 = .ok (.iaload, 1) := by decide +kernel
theorem dX7_findFarthest_49 : decode cX7_findFarthest 49 = .ok (.iload 6, 2) := by decide +kernel
theorem dX7_findFarthest_51 : decode cX7_findFarthest 51 = .ok (.if_icmp .gt 63, 3) := by decide +kernel
theorem dX7_findFarthest_54 : decode cX7_findFarthest 54 = .ok (.aload_n 0, 1) := by decide +kernel
theorem dX7_findFarthest_55 : decode cX7_findFarthest 55 = .ok (.getfield 12, 3) := by decide +kernel
theorem dX7_findFarthest_58 : decode cX7_findFarthest 58 = .ok (.aload 5, 2) := by decide +kernel
theorem dX7_findFarthest_60 : decode cX7_findFarthest 60 = .ok (.iconst 1, 1) := by decide +kernel
theorem dX7_findFarthest_61 : decode cX7_findFarthest 61 = .ok (.invokevirtual 64, 3) := by decide +kernel
theorem dX7_findFarthest_64 : decode cX7_findFarthest 64 = .ok (.aload_n 0, 1) := by decide +kernel
theorem dX7_findFarthest_65 : decode cX7_findFarthest 65 = .ok (.aload_n 1, 1) := by decide +kernel
theorem dX7_findFarthest_66 : decode cX7_findFarthest 66 = .ok (.aload_n 2, 1) := by decide +kernel
theorem dX7_findFarthest_67 : decode cX7_findFarthest 67 = .ok (.aload 5, 2) := by decide +kernel
theorem dX7_findFarthest_69 : decode cX7_findFarthest 69 = .ok (.getfield 68, 3) := by decide +kernel
theorem dX7_findFarthest_72 : decode cX7_findFarthest 72 = .ok (.iload 7, 2) := by decide +kernel
theorem dX7_findFarthest_74 : decode cX7_findFarthest 74 = .ok (.aload_n 1, 1) := by decide +kernel
theorem dX7_findFarthest_75 : decode cX7_findFarthest 75 = .ok (.getfield 74, 3) := by decide +kernel
theorem dX7_findFarthest_78 : decode cX7_findFarthest 78 = .ok (.invokevirtual 77, 3) := by decide +kernel
theorem dX7_findFarthest_81 : decode cX7_findFarthest 81 = .ok (.aload_n 0, 1) := by decide +kernel
theorem dX7_findFarthest_82 : decode cX7_findFarthest 82 = .ok (.aload_n 1, 1) := by decide +kernel
theorem dX7_findFarthest_83 : decode cX7_findFarthest 83 = .ok (.getfield 61, 3) := by decide +kernel
theorem dX7_findFarthest_86 : decode cX7_findFarthest 86 = .ok (.iload 4, 2) := by decide +kernel
theorem dX7_findFarthest_88 : decode cX7_findFarthest 88 = .ok (.invokevirtual 105, 3) := by decide +kernel
theorem dX7_findFarthest_91 : decode cX7_findFarthest 91 = .ok (.istore 8, 2) := by decide +kernel
theorem dX7_findFarthest_93 : decode cX7_findFarthest 93 = .ok (.iload 8, 2) := by decide +kernel
theorem dX7_findFarthest_95 : decode cX7_findFarthest 95 = .ok (.aload_n 0, 1) := by decide +kernel
theorem dX7_findFarthest_96 : decode cX7_findFarthest 96 = .ok (.getfield 32, 3) := by decide +kernel
theorem dX7_findFarthest_99 : decode cX7_findFarthest 99 = .ok (.if_icmp .le 15, 3) := by decide +kernel
theorem dX7_findFarthest_102 : decode cX7_findFarthest 102 = .ok (.aload_n 0, 1) := by decide +kernel
theorem dX7_findFarthest_103 : decode cX7_findFarthest 103 = .ok (.iload 8, 2) := by decide +kernel
theorem dX7_findFarthest_105 : decode cX7_findFarthest 105 = .ok (.putfield 32, 3) := by decide +kernel
theorem dX7_findFarthest_108 : decode cX7_findFarthest 108 = .ok (.aload_n 0, 1) := by decide +kernel
theorem dX7_findFarthest_109 : decode cX7_findFarthest 109 = .ok (.iload 7, 2) := by decide +kernel
theorem dX7_findFarthest_111 : decode cX7_findFarthest 111 = .ok (.putfield 29, 3) := by decide +kernel
theorem dX7_findFarthest_114 : decode cX7_findFarthest 114 = .ok (.iinc 7 1, 3) := by decide +kernel
theorem dX7_findFarthest_117 : decode cX7_findFarthest 117 = .ok (.goto (-94), 3) := by decide +kernel
theorem dX7_findFarthest_120 : decode cX7_findFarthest 120 = .ok (.aload_n 0, 1) := by decide +kernel
theorem dX7_findFarthest_121 : decode cX7_findFarthest 121 = .ok (.getfield 32, 3) := by decide +kernel
theorem dX7_findFarthest_124 : decode cX7_findFarthest 124 = .ok (.ifCond .lt 7, 3) := by decide +kernel
theorem dX7_findFarthest_127 : decode cX7_findFarthest 127 = .ok (.iconst 1, 1) := by decide +kernel
theorem dX7_findFarthest_128 : decode cX7_findFarthest 128 = .ok (.goto 4, 3) := by decide +kernel
theorem dX7_findFarthest_131 : decode cX7_findFarthest 131 = .ok (.iconst 0, 1) := by decide +kernel
theorem dX7_findFarthest_132 : decode cX7_findFarthest 132 = .ok (.ireturn, 1) := by decide +kernel
theorem dX7_fittingWinds_0 : decode cX7_fittingWinds 0 = .ok (.iconst 0, 1) := by decide +kernel
theorem dX7_fittingWinds_1 : decode cX7_fittingWinds 1 = .ok (.istore 5, 2) := by decide +kernel
theorem dX7_fittingWinds_3 : decode cX7_fittingWinds 3 = .ok (.iconst 0, 1) := by decide +kernel
theorem dX7_fittingWinds_4 : decode cX7_fittingWinds 4 = .ok (.istore 6, 2) := by decide +kernel
theorem dX7_fittingWinds_6 : decode cX7_fittingWinds 6 = .ok (.iload 6, 2) := by decide +kernel
theorem dX7_fittingWinds_8 : decode cX7_fittingWinds 8 = .ok (.bipush 9, 2) := by decide +kernel
theorem dX7_fittingWinds_10 : decode cX7_fittingWinds 10 = .ok (.if_icmp .gt 82, 3) := by decide +kernel
theorem dX7_fittingWinds_13 : decode cX7_fittingWinds 13 = .ok (.iconst 1, 1) := by decide +kernel
theorem dX7_fittingWinds_14 : decode cX7_fittingWinds 14 = .ok (.istore 7, 2) := by decide +kernel
theorem dX7_fittingWinds_16 : decode cX7_fittingWinds 16 = .ok (.iconst 0, 1) := by decide +kernel
theorem dX7_fittingWinds_17 : decode cX7_fittingWinds 17 = .ok (.istore 8, 2) := by decide +kernel
theorem dX7_fittingWinds_19 : decode cX7_fittingWinds 19 = .ok (.iload 7, 2) := by decide +kernel
theorem dX7_fittingWinds_21 : decode cX7_fittingWinds 21 = .ok (.ifCond .eq 51, 3) := by decide +kernel
theorem dX7_fittingWinds_24 : decode cX7_fittingWinds 24 = .ok (.iload 8, 2) := by decide +kernel
theorem dX7_fittingWinds_26 : decode cX7_fittingWinds 26 = .ok (.aload_n 1, 1) := by decide +kernel
theorem dX7_fittingWinds_27 : decode cX7_fittingWinds 27 = .ok (.getfield 35, 3) := by decide +kernel
theorem dX7_fittingWinds_30 : decode cX7_fittingWinds 30 = .ok (.if_icmp .ge 42, 3) := by decide +kernel
theorem dX7_fittingWinds_33 : decode cX7_fittingWinds 33 = .ok (.iload 8, 2) := by decide +kernel
theorem dX7_fittingWinds_35 : decode cX7_fittingWinds 35 = .ok (.aload_n 3, 1) := by decide +kernel
theorem dX7_fittingWinds_36 : decode cX7_fittingWinds 36 = .ok (.arraylength, 1) := by decide +kernel
theorem dX7_fittingWinds_37 : decode cX7_fittingWinds 37 = .ok (.if_icmp .ge 35, 3) := by decide +kernel
theorem dX7_fittingWinds_40 : decode cX7_fittingWinds 40 = .ok (.aload_n 3, 1) := by decide +kernel
theorem dX7_fittingWinds_41 : decode cX7_fittingWinds 41 = .ok (.iload 8, 2) := by decide +kernel
theorem dX7_fittingWinds_43 : decode cX7_fittingWinds 43 = .ok (.iaload, 1) := by decide +kernel
theorem dX7_fittingWinds_44 : decode cX7_fittingWinds 44 = .ok (.aload_n 0, 1) := by decide +kernel
theorem dX7_fittingWinds_45 : decode cX7_fittingWinds 45 = .ok (.aload_n 1, 1) := by decide +kernel
theorem dX7_fittingWinds_46 : decode cX7_fittingWinds 46 = .ok (.aload_n 2, 1) := by decide +kernel
theorem dX7_fittingWinds_47 : decode cX7_fittingWinds 47 = .ok (.iload 8, 2) := by decide +kernel
theorem dX7_fittingWinds_49 : decode cX7_fittingWinds 49 = .ok (.iload 6, 2) := by decide +kernel
theorem dX7_fittingWinds_51 : decode cX7_fittingWinds 51 = .ok (.iload 4, 2) := by decide +kernel
theorem dX7_fittingWinds_53 : decode cX7_fittingWinds 53 = .ok (.invokevirtual 125, 3) := by decide +kernel
theorem dX7_fittingWinds_56 : decode cX7_fittingWinds 56 = .ok (.if_icmp .ne 7, 3) := by decide +kernel
theorem dX7_fittingWinds_59 : decode cX7_fittingWinds 59 = .ok (.iconst 1, 1) := by decide +kernel
theorem dX7_fittingWinds_60 : decode cX7_fittingWinds 60 = .ok (.goto 4, 3) := by decide +kernel
theorem dX7_fittingWinds_63 : decode cX7_fittingWinds 63 = .ok (.iconst 0, 1) := by decide +kernel
theorem dX7_fittingWinds_64 : decode cX7_fittingWinds 64 = .ok (.istore 7, 2) := by decide +kernel
theorem dX7_fittingWinds_66 : decode cX7_fittingWinds 66 = .ok (.iinc 8 1, 3) := by decide +kernel
theorem dX7_fittingWinds_69 : decode cX7_fittingWinds 69 = .ok (.goto (-50), 3) := by decide +kernel
theorem dX7_fittingWinds_72 : decode cX7_fittingWinds 72 = .ok (.iload 7, 2) := by decide +kernel
theorem dX7_fittingWinds_74 : decode cX7_fittingWinds 74 = .ok (.ifCond .eq 12, 3) := by decide +kernel
theorem dX7_fittingWinds_77 : decode cX7_fittingWinds 77 = .ok (.iload 5, 2) := by decide +kernel
theorem dX7_fittingWinds_79 : decode cX7_fittingWinds 79 = .ok (.iconst 1, 1) := by decide +kernel
theorem dX7_fittingWinds_80 : decode cX7_fittingWinds 80 = .ok (.iload 6, 2) := by decide +kernel
theorem dX7_fittingWinds_82 : decode cX7_fittingWinds 82 = .ok (.ishl, 1) := by decide +kernel
theorem dX7_fittingWinds_83 : decode cX7_fittingWinds 83 = .ok (.ior, 1) := by decide +kernel
theorem dX7_fittingWinds_84 : decode cX7_fittingWinds 84 = .ok (.istore 5, 2) := by decide +kernel
theorem dX7_fittingWinds_86 : decode cX7_fittingWinds 86 = .ok (.iinc 6 1, 3) := by decide +kernel
theorem dX7_fittingWinds_89 : decode cX7_fittingWinds 89 = .ok (.goto (-83), 3) := by decide +kernel
theorem dX7_fittingWinds_92 : decode cX7_fittingWinds 92 = .ok (.iload 5, 2) := by decide +kernel
theorem dX7_fittingWinds_94 : decode cX7_fittingWinds 94 = .ok (.ireturn, 1) := by decide +kernel
theorem dX7_debtOfAllBehind_0 : decode cX7_debtOfAllBehind 0 = .ok (.iconst 0, 1) := by decide +kernel
theorem dX7_debtOfAllBehind_1 : decode cX7_debtOfAllBehind 1 = .ok (.istore 4, 2) := by decide +kernel
theorem dX7_debtOfAllBehind_3 : decode cX7_debtOfAllBehind 3 = .ok (.iconst 0, 1) := by decide +kernel
theorem dX7_debtOfAllBehind_4 : decode cX7_debtOfAllBehind 4 = .ok (.istore 5, 2) := by decide +kernel
theorem dX7_debtOfAllBehind_6 : decode cX7_debtOfAllBehind 6 = .ok (.iload 5, 2) := by decide +kernel
theorem dX7_debtOfAllBehind_8 : decode cX7_debtOfAllBehind 8 = .ok (.aload_n 1, 1) := by decide +kernel
theorem dX7_debtOfAllBehind_9 : decode cX7_debtOfAllBehind 9 = .ok (.getfield 35, 3) := by decide +kernel
theorem dX7_debtOfAllBehind_12 : decode cX7_debtOfAllBehind 12 = .ok (.if_icmp .ge 33, 3) := by decide +kernel
theorem dX7_debtOfAllBehind_15 : decode cX7_debtOfAllBehind 15 = .ok (.iload 4, 2) := by decide +kernel
theorem dX7_debtOfAllBehind_17 : decode cX7_debtOfAllBehind 17 = .ok (.aload_n 0, 1) := by decide +kernel
theorem dX7_debtOfAllBehind_18 : decode cX7_debtOfAllBehind 18 = .ok (.aload_n 1, 1) := by decide +kernel
theorem dX7_debtOfAllBehind_19 : decode cX7_debtOfAllBehind 19 = .ok (.aload_n 2, 1) := by decide +kernel
theorem dX7_debtOfAllBehind_20 : decode cX7_debtOfAllBehind 20 = .ok (.iload 5, 2) := by decide +kernel
theorem dX7_debtOfAllBehind_22 : decode cX7_debtOfAllBehind 22 = .ok (.aload_n 1, 1) := by decide +kernel
theorem dX7_debtOfAllBehind_23 : decode cX7_debtOfAllBehind 23 = .ok (.getfield 40, 3) := by decide +kernel
theorem dX7_debtOfAllBehind_26 : decode cX7_debtOfAllBehind 26 = .ok (.iload 5, 2) := by decide +kernel
theorem dX7_debtOfAllBehind_28 : decode cX7_debtOfAllBehind 28 = .ok (.aaload, 1) := by decide +kernel
theorem dX7_debtOfAllBehind_29 : decode cX7_debtOfAllBehind 29 = .ok (.getfield 44, 3) := by decide +kernel
theorem dX7_debtOfAllBehind_32 : decode cX7_debtOfAllBehind 32 = .ok (.iload_n 3, 1) := by decide +kernel
theorem dX7_debtOfAllBehind_33 : decode cX7_debtOfAllBehind 33 = .ok (.invokevirtual 50, 3) := by decide +kernel
theorem dX7_debtOfAllBehind_36 : decode cX7_debtOfAllBehind 36 = .ok (.iadd, 1) := by decide +kernel
theorem dX7_debtOfAllBehind_37 : decode cX7_debtOfAllBehind 37 = .ok (.istore 4, 2) := by decide +kernel
theorem dX7_debtOfAllBehind_39 : decode cX7_debtOfAllBehind 39 = .ok (.iinc 5 1, 3) := by decide +kernel
theorem dX7_debtOfAllBehind_42 : decode cX7_debtOfAllBehind 42 = .ok (.goto (-36), 3) := by decide +kernel
theorem dX7_debtOfAllBehind_45 : decode cX7_debtOfAllBehind 45 = .ok (.iload 4, 2) := by decide +kernel
theorem dX7_debtOfAllBehind_47 : decode cX7_debtOfAllBehind 47 = .ok (.ireturn, 1) := by decide +kernel
theorem dX7_bestDebtor_0 : decode cX7_bestDebtor 0 = .ok (.iconst (-1), 1) := by decide +kernel
theorem dX7_bestDebtor_1 : decode cX7_bestDebtor 1 = .ok (.istore 4, 2) := by decide +kernel
theorem dX7_bestDebtor_3 : decode cX7_bestDebtor 3 = .ok (.iconst (-1), 1) := by decide +kernel
theorem dX7_bestDebtor_4 : decode cX7_bestDebtor 4 = .ok (.istore 5, 2) := by decide +kernel
theorem dX7_bestDebtor_6 : decode cX7_bestDebtor 6 = .ok (.iconst 0, 1) := by decide +kernel
theorem dX7_bestDebtor_7 : decode cX7_bestDebtor 7 = .ok (.istore 6, 2) := by decide +kernel
theorem dX7_bestDebtor_9 : decode cX7_bestDebtor 9 = .ok (.iload 6, 2) := by decide +kernel
theorem dX7_bestDebtor_11 : decode cX7_bestDebtor 11 = .ok (.aload_n 1, 1) := by decide +kernel
theorem dX7_bestDebtor_12 : decode cX7_bestDebtor 12 = .ok (.getfield 35, 3) := by decide +kernel
theorem dX7_bestDebtor_15 : decode cX7_bestDebtor 15 = .ok (.if_icmp .ge 67, 3) := by decide +kernel
theorem dX7_bestDebtor_18 : decode cX7_bestDebtor 18 = .ok (.aload_n 1, 1) := by decide +kernel
theorem dX7_bestDebtor_19 : decode cX7_bestDebtor 19 = .ok (.getfield 40, 3) := by decide +kernel
theorem dX7_bestDebtor_22 : decode cX7_bestDebtor 22 = .ok (.iload 6, 2) := by decide +kernel
theorem dX7_bestDebtor_24 : decode cX7_bestDebtor 24 = .ok (.aaload, 1) := by decide +kernel
theorem dX7_bestDebtor_25 : decode cX7_bestDebtor 25 = .ok (.getfield 44, 3) := by decide +kernel
theorem dX7_bestDebtor_28 : decode cX7_bestDebtor 28 = .ok (.istore 7, 2) := by decide +kernel
theorem dX7_bestDebtor_30 : decode cX7_bestDebtor 30 = .ok (.iconst 0, 1) := by decide +kernel
theorem dX7_bestDebtor_31 : decode cX7_bestDebtor 31 = .ok (.istore 8, 2) := by decide +kernel
theorem dX7_bestDebtor_33 : decode cX7_bestDebtor 33 = .ok (.iload 7, 2) := by decide +kernel
theorem dX7_bestDebtor_35 : decode cX7_bestDebtor 35 = .ok (.ifCond .ne 26, 3) := by decide +kernel
theorem dX7_bestDebtor_38 : decode cX7_bestDebtor 38 = .ok (.aload_n 1, 1) := by decide +kernel
theorem dX7_bestDebtor_39 : decode cX7_bestDebtor 39 = .ok (.getfield 40, 3) := by decide +kernel
theorem dX7_bestDebtor_42 : decode cX7_bestDebtor 42 = .ok (.iload 6, 2) := by decide +kernel
theorem dX7_bestDebtor_44 : decode cX7_bestDebtor 44 = .ok (.aaload, 1) := by decide +kernel
theorem dX7_bestDebtor_45 : decode cX7_bestDebtor 45 = .ok (.getfield 54, 3) := by decide +kernel
theorem dX7_bestDebtor_48 : decode cX7_bestDebtor 48 = .ok (.aload_n 0, 1) := by decide +kernel
theorem dX7_bestDebtor_49 : decode cX7_bestDebtor 49 = .ok (.aload_n 1, 1) := by decide +kernel
theorem dX7_bestDebtor_50 : decode cX7_bestDebtor 50 = .ok (.aload_n 2, 1) := by decide +kernel
theorem dX7_bestDebtor_51 : decode cX7_bestDebtor 51 = .ok (.iload 6, 2) := by decide +kernel
theorem dX7_bestDebtor_53 : decode cX7_bestDebtor 53 = .ok (.iconst 1, 1) := by decide +kernel
theorem dX7_bestDebtor_54 : decode cX7_bestDebtor 54 = .ok (.iload_n 3, 1) := by decide +kernel
theorem dX7_bestDebtor_55 : decode cX7_bestDebtor 55 = .ok (.invokevirtual 50, 3) := by decide +kernel
theorem dX7_bestDebtor_58 : decode cX7_bestDebtor 58 = .ok (.isub, 1) := by decide +kernel
theorem dX7_bestDebtor_59 : decode cX7_bestDebtor 59 = .ok (.istore 8, 2) := by decide +kernel
theorem dX7_bestDebtor_61 : decode cX7_bestDebtor 61 = .ok (.iload 8, 2) := by decide +kernel
theorem dX7_bestDebtor_63 : decode cX7_bestDebtor 63 = .ok (.iload 5, 2) := by decide +kernel
theorem dX7_bestDebtor_65 : decode cX7_bestDebtor 65 = .ok (.if_icmp .le 11, 3) := by decide +kernel
theorem dX7_bestDebtor_68 : decode cX7_bestDebtor 68 = .ok (.iload 8, 2) := by decide +kernel
theorem dX7_bestDebtor_70 : decode cX7_bestDebtor 70 = .ok (.istore 5, 2) := by decide +kernel
theorem dX7_bestDebtor_72 : decode cX7_bestDebtor 72 = .ok (.iload 6, 2) := by decide +kernel
theorem dX7_bestDebtor_74 : decode cX7_bestDebtor 74 = .ok (.istore 4, 2) := by decide +kernel
theorem dX7_bestDebtor_76 : decode cX7_bestDebtor 76 = .ok (.iinc 6 1, 3) := by decide +kernel
theorem dX7_bestDebtor_79 : decode cX7_bestDebtor 79 = .ok (.goto (-70), 3) := by decide +kernel
theorem dX7_bestDebtor_82 : decode cX7_bestDebtor 82 = .ok (.iload 4, 2) := by decide +kernel
theorem dX7_bestDebtor_84 : decode cX7_bestDebtor 84 = .ok (.ireturn, 1) := by decide +kernel
theorem dX7_firstWrong_0 : decode cX7_firstWrong 0 = .ok (.aload_n 0, 1) := by decide +kernel
theorem dX7_firstWrong_1 : decode cX7_firstWrong 1 = .ok (.getfield 18, 3) := by decide +kernel
theorem dX7_firstWrong_4 : decode cX7_firstWrong 4 = .ok (.iconst 0, 1) := by decide +kernel
theorem dX7_firstWrong_5 : decode cX7_firstWrong 5 = .ok (.invokestatic 129, 3) := by decide +kernel
theorem dX7_firstWrong_8 : decode cX7_firstWrong 8 = .ok (.iconst 0, 1) := by decide +kernel
theorem dX7_firstWrong_9 : decode cX7_firstWrong 9 = .ok (.istore_n 3, 1) := by decide +kernel
theorem dX7_firstWrong_10 : decode cX7_firstWrong 10 = .ok (.iload_n 3, 1) := by decide +kernel
theorem dX7_firstWrong_11 : decode cX7_firstWrong 11 = .ok (.aload_n 1, 1) := by decide +kernel
theorem dX7_firstWrong_12 : decode cX7_firstWrong 12 = .ok (.getfield 35, 3) := by decide +kernel
theorem dX7_firstWrong_15 : decode cX7_firstWrong 15 = .ok (.if_icmp .ge 80, 3) := by decide +kernel
theorem dX7_firstWrong_18 : decode cX7_firstWrong 18 = .ok (.aload_n 1, 1) := by decide +kernel
theorem dX7_firstWrong_19 : decode cX7_firstWrong 19 = .ok (.getfield 40, 3) := by decide +kernel
theorem dX7_firstWrong_22 : decode cX7_firstWrong 22 = .ok (.iload_n 3, 1) := by decide +kernel
theorem dX7_firstWrong_23 : decode cX7_firstWrong 23 = .ok (.aaload, 1) := by decide +kernel
theorem dX7_firstWrong_24 : decode cX7_firstWrong 24 = .ok (.astore 4, 2) := by decide +kernel
theorem dX7_firstWrong_26 : decode cX7_firstWrong 26 = .ok (.aload_n 0, 1) := by decide +kernel
theorem dX7_firstWrong_27 : decode cX7_firstWrong 27 = .ok (.aload_n 1, 1) := by decide +kernel
theorem dX7_firstWrong_28 : decode cX7_firstWrong 28 = .ok (.aload_n 2, 1) := by decide +kernel
theorem dX7_firstWrong_29 : decode cX7_firstWrong 29 = .ok (.aload 4, 2) := by decide +kernel
theorem dX7_firstWrong_31 : decode cX7_firstWrong 31 = .ok (.aload 4, 2) := by decide +kernel
theorem dX7_firstWrong_33 : decode cX7_firstWrong 33 = .ok (.getfield 44, 3) := by decide +kernel
theorem dX7_firstWrong_36 : decode cX7_firstWrong 36 = .ok (.invokevirtual 96, 3) := by decide +kernel
theorem dX7_firstWrong_39 : decode cX7_firstWrong 39 = .ok (.iconst 0, 1) := by decide +kernel
theorem dX7_firstWrong_40 : decode cX7_firstWrong 40 = .ok (.istore 5, 2) := by decide +kernel
theorem dX7_firstWrong_42 : decode cX7_firstWrong 42 = .ok (.iload 5, 2) := by decide +kernel
theorem dX7_firstWrong_44 : decode cX7_firstWrong 44 = .ok (.aload_n 1, 1) := by decide +kernel
theorem dX7_firstWrong_45 : decode cX7_firstWrong 45 = .ok (.getfield 135, 3) := by decide +kernel
theorem dX7_firstWrong_48 : decode cX7_firstWrong 48 = .ok (.if_icmp .ge 41, 3) := by decide +kernel
theorem dX7_firstWrong_51 : decode cX7_firstWrong 51 = .ok (.aload_n 0, 1) := by decide +kernel
theorem dX7_firstWrong_52 : decode cX7_firstWrong 52 = .ok (.getfield 12, 3) := by decide +kernel
theorem dX7_firstWrong_55 : decode cX7_firstWrong 55 = .ok (.aload_n 1, 1) := by decide +kernel
theorem dX7_firstWrong_56 : decode cX7_firstWrong 56 = .ok (.aload_n 1, 1) := by decide +kernel
theorem dX7_firstWrong_57 : decode cX7_firstWrong 57 = .ok (.getfield 61, 3) := by decide +kernel
theorem dX7_firstWrong_60 : decode cX7_firstWrong 60 = .ok (.iload 5, 2) := by decide +kernel
theorem dX7_firstWrong_62 : decode cX7_firstWrong 62 = .ok (.iadd, 1) := by decide +kernel
theorem dX7_firstWrong_63 : decode cX7_firstWrong 63 = .ok (.invokevirtual 100, 3) := by decide +kernel
theorem dX7_firstWrong_66 : decode cX7_firstWrong 66 = .ok (.aload_n 0, 1) := by decide +kernel
theorem dX7_firstWrong_67 : decode cX7_firstWrong 67 = .ok (.getfield 18, 3) := by decide +kernel
theorem dX7_firstWrong_70 : decode cX7_firstWrong 70 = .ok (.iload 5, 2) := by decide +kernel
theorem dX7_firstWrong_72 : decode cX7_firstWrong 72 = .ok (.dup2, 1) := by decide +kernel
theorem dX7_firstWrong_73 : decode cX7_firstWrong 73 = .ok (.iaload, 1) := by decide +kernel
theorem dX7_firstWrong_74 : decode cX7_firstWrong 74 = .ok (.aload_n 0, 1) := by decide +kernel
theorem dX7_firstWrong_75 : decode cX7_firstWrong 75 = .ok (.getfield 12, 3) := by decide +kernel
theorem dX7_firstWrong_78 : decode cX7_firstWrong 78 = .ok (.getfield 104, 3) := by decide +kernel
theorem dX7_firstWrong_81 : decode cX7_firstWrong 81 = .ok (.iadd, 1) := by decide +kernel
theorem dX7_firstWrong_82 : decode cX7_firstWrong 82 = .ok (.iastore, 1) := by decide +kernel
theorem dX7_firstWrong_83 : decode cX7_firstWrong 83 = .ok (.iinc 5 1, 3) := by decide +kernel
theorem dX7_firstWrong_86 : decode cX7_firstWrong 86 = .ok (.goto (-44), 3) := by decide +kernel
theorem dX7_firstWrong_89 : decode cX7_firstWrong 89 = .ok (.iinc 3 1, 3) := by decide +kernel
theorem dX7_firstWrong_92 : decode cX7_firstWrong 92 = .ok (.goto (-82), 3) := by decide +kernel
theorem dX7_firstWrong_95 : decode cX7_firstWrong 95 = .ok (.iconst 0, 1) := by decide +kernel
theorem dX7_firstWrong_96 : decode cX7_firstWrong 96 = .ok (.istore_n 3, 1) := by decide +kernel
theorem dX7_firstWrong_97 : decode cX7_firstWrong 97 = .ok (.iload_n 3, 1) := by decide +kernel
theorem dX7_firstWrong_98 : decode cX7_firstWrong 98 = .ok (.aload_n 1, 1) := by decide +kernel
theorem dX7_firstWrong_99 : decode cX7_firstWrong 99 = .ok (.getfield 135, 3) := by decide +kernel
theorem dX7_firstWrong_102 : decode cX7_firstWrong 102 = .ok (.if_icmp .ge 26, 3) := by decide +kernel
theorem dX7_firstWrong_105 : decode cX7_firstWrong 105 = .ok (.aload_n 1, 1) := by decide +kernel
theorem dX7_firstWrong_106 : decode cX7_firstWrong 106 = .ok (.getfield 138, 3) := by decide +kernel
theorem dX7_firstWrong_109 : decode cX7_firstWrong 109 = .ok (.iload_n 3, 1) := by decide +kernel
theorem dX7_firstWrong_110 : decode cX7_firstWrong 110 = .ok (.iaload, 1) := by decide +kernel
theorem dX7_firstWrong_111 : decode cX7_firstWrong 111 = .ok (.aload_n 0, 1) := by decide +kernel
theorem dX7_firstWrong_112 : decode cX7_firstWrong 112 = .ok (.getfield 18, 3) := by decide +kernel
theorem dX7_firstWrong_115 : decode cX7_firstWrong 115 = .ok (.iload_n 3, 1) := by decide +kernel
theorem dX7_firstWrong_116 : decode cX7_firstWrong 116 = .ok (.iaload, 1) := by decide +kernel
theorem dX7_firstWrong_117 : decode cX7_firstWrong 117 = .ok (.if_icmp .eq 5, 3) := by decide +kernel
theorem dX7_firstWrong_120 : decode cX7_firstWrong 120 = .ok (.iload_n 3, 1) := by decide +kernel
theorem dX7_firstWrong_121 : decode cX7_firstWrong 121 = .ok (.ireturn, 1) := by decide +kernel
theorem dX7_firstWrong_122 : decode cX7_firstWrong 122 = .ok (.iinc 3 1, 3) := by decide +kernel
theorem dX7_firstWrong_125 : decode cX7_firstWrong 125 = .ok (.goto (-28), 3) := by decide +kernel
theorem dX7_firstWrong_128 : decode cX7_firstWrong 128 = .ok (.iconst (-1), 1) := by decide +kernel
theorem dX7_firstWrong_129 : decode cX7_firstWrong 129 = .ok (.ireturn, 1) := by decide +kernel
theorem dX8_init_0 : decode cX8_init 0 = .ok (.aload_n 0, 1) := by decide +kernel
theorem dX8_init_1 : decode cX8_init 1 = .ok (.invokespecial 3, 3) := by decide +kernel
theorem dX8_init_4 : decode cX8_init 4 = .ok (.aload_n 0, 1) := by decide +kernel
theorem dX8_init_5 : decode cX8_init 5 = .ok (.bipush 40, 2) := by decide +kernel
theorem dX8_init_7 : decode cX8_init 7 = .ok (.newarray .int, 2) := by decide +kernel
theorem dX8_init_9 : decode cX8_init 9 = .ok (.putfield 9, 3) := by decide +kernel
theorem dX8_init_12 : decode cX8_init 12 = .ok (.aload_n 0, 1) := by decide +kernel
theorem dX8_init_13 : decode cX8_init 13 = .ok (.iconst 0, 1) := by decide +kernel
theorem dX8_init_14 : decode cX8_init 14 = .ok (.putfield 15, 3) := by decide +kernel
theorem dX8_init_17 : decode cX8_init 17 = .ok (.aload_n 0, 1) := by decide +kernel
theorem dX8_init_18 : decode cX8_init 18 = .ok (.iconst 0, 1) := by decide +kernel
theorem dX8_init_19 : decode cX8_init 19 = .ok (.putfield 19, 3) := by decide +kernel
theorem dX8_init_22 : decode cX8_init 22 = .ok (.aload_n 0, 1) := by decide +kernel
theorem dX8_init_23 : decode cX8_init 23 = .ok (.iconst 0, 1) := by decide +kernel
theorem dX8_init_24 : decode cX8_init 24 = .ok (.putfield 22, 3) := by decide +kernel
theorem dX8_init_27 : decode cX8_init 27 = .ok (.aload_n 0, 1) := by decide +kernel
theorem dX8_init_28 : decode cX8_init 28 = .ok (.iconst 0, 1) := by decide +kernel
theorem dX8_init_29 : decode cX8_init 29 = .ok (.putfield 25, 3) := by decide +kernel
theorem dX8_init_32 : decode cX8_init 32 = .ok (.return_, 1) := by decide +kernel
theorem dX8_speak_0 : decode cX8_speak 0 = .ok (.aload_n 0, 1) := by decide +kernel
theorem dX8_speak_1 : decode cX8_speak 1 = .ok (.iconst 0, 1) := by decide +kernel
theorem dX8_speak_2 : decode cX8_speak 2 = .ok (.putfield 15, 3) := by decide +kernel
theorem dX8_speak_5 : decode cX8_speak 5 = .ok (.aload_n 0, 1) := by decide +kernel
theorem dX8_speak_6 : decode cX8_speak 6 = .ok (.aload_n 1, 1) := by decide +kernel
theorem dX8_speak_7 : decode cX8_speak 7 = .ok (.getfield 28, 3) := by decide +kernel
theorem dX8_speak_10 : decode cX8_speak 10 = .ok (.putfield 19, 3) := by decide +kernel
theorem dX8_speak_13 : decode cX8_speak 13 = .ok (.aload_n 0, 1) := by decide +kernel
theorem dX8_speak_14 : decode cX8_speak 14 = .ok (.aload_n 1, 1) := by decide +kernel
theorem dX8_speak_15 : decode cX8_speak 15 = .ok (.getfield 31, 3) := by decide +kernel
theorem dX8_speak_18 : decode cX8_speak 18 = .ok (.putfield 22, 3) := by decide +kernel
theorem dX8_speak_21 : decode cX8_speak 21 = .ok (.aload_n 0, 1) := by decide +kernel
theorem dX8_speak_22 : decode cX8_speak 22 = .ok (.iload_n 2, 1) := by decide +kernel
theorem dX8_speak_23 : decode cX8_speak 23 = .ok (.putfield 25, 3) := by decide +kernel
theorem dX8_speak_26 : decode cX8_speak 26 = .ok (.aload_n 0, 1) := by decide +kernel
theorem dX8_speak_27 : decode cX8_speak 27 = .ok (.aload_n 0, 1) := by decide +kernel
theorem dX8_speak_28 : decode cX8_speak 28 = .ok (.getfield 19, 3) := by decide +kernel
theorem dX8_speak_31 : decode cX8_speak 31 = .ok (.iload_n 3, 1) := by decide +kernel
theorem dX8_speak_32 : decode cX8_speak 32 = .ok (.iload 4, 2) := by decide +kernel
theorem dX8_speak_34 : decode cX8_speak 34 = .ok (.iconst 0, 1) := by decide +kernel
theorem dX8_speak_35 : decode cX8_speak 35 = .ok (.invokevirtual 32, 3) := by decide +kernel
theorem dX8_speak_38 : decode cX8_speak 38 = .ok (.ireturn, 1) := by decide +kernel
theorem dX8_say_0 : decode cX8_say 0 = .ok (.iload 4, 2) := by decide +kernel
theorem dX8_say_2 : decode cX8_say 2 = .ok (.bipush 40, 2) := by decide +kernel
theorem dX8_say_4 : decode cX8_say 4 = .ok (.if_icmp .lt 5, 3) := by decide +kernel
theorem dX8_say_7 : decode cX8_say 7 = .ok (.iconst 0, 1) := by decide +kernel
theorem dX8_say_8 : decode cX8_say 8 = .ok (.ireturn, 1) := by decide +kernel
theorem dX8_say_9 : decode cX8_say 9 = .ok (.iload_n 1, 1) := by decide +kernel
theorem dX8_say_10 : decode cX8_say 10 = .ok (.iload_n 2, 1) := by decide +kernel
theorem dX8_say_11 : decode cX8_say 11 = .ok (.invokestatic 36, 3) := by decide +kernel
theorem dX8_say_14 : decode cX8_say 14 = .ok (.istore 5, 2) := by decide +kernel
theorem dX8_say_16 : decode cX8_say 16 = .ok (.aload_n 0, 1) := by decide +kernel
theorem dX8_say_17 : decode cX8_say 17 = .ok (.getfield 15, 3) := by decide +kernel
theorem dX8_say_20 : decode cX8_say 20 = .ok (.bipush 40, 2) := by decide +kernel
theorem dX8_say_22 : decode cX8_say 22 = .ok (.if_icmp .ge 24, 3) := by decide +kernel
theorem dX8_say_25 : decode cX8_say 25 = .ok (.aload_n 0, 1) := by decide +kernel
theorem dX8_say_26 : decode cX8_say 26 = .ok (.getfield 9, 3) := by decide +kernel
theorem dX8_say_29 : decode cX8_say 29 = .ok (.aload_n 0, 1) := by decide +kernel
theorem dX8_say_30 : decode cX8_say 30 = .ok (.getfield 15, 3) := by decide +kernel
theorem dX8_say_33 : decode cX8_say 33 = .ok (.iload 5, 2) := by decide +kernel
theorem dX8_say_35 : decode cX8_say 35 = .ok (.iastore, 1) := by decide +kernel
theorem dX8_say_36 : decode cX8_say 36 = .ok (.aload_n 0, 1) := by decide +kernel
theorem dX8_say_37 : decode cX8_say 37 = .ok (.dup, 1) := by decide +kernel
theorem dX8_say_38 : decode cX8_say 38 = .ok (.getfield 15, 3) := by decide +kernel
theorem dX8_say_41 : decode cX8_say 41 = .ok (.iconst 1, 1) := by decide +kernel
theorem dX8_say_42 : decode cX8_say 42 = .ok (.iadd, 1) := by decide +kernel
theorem dX8_say_43 : decode cX8_say 43 = .ok (.putfield 15, 3) := by decide +kernel
theorem dX8_say_46 : decode cX8_say 46 = .ok (.aload_n 0, 1) := by decide +kernel
theorem dX8_say_47 : decode cX8_say 47 = .ok (.iload 5, 2) := by decide +kernel
theorem dX8_say_49 : decode cX8_say 49 = .ok (.iload_n 3, 1) := by decide +kernel
theorem dX8_say_50 : decode cX8_say 50 = .ok (.iload 4, 2) := by decide +kernel
theorem dX8_say_52 : decode cX8_say 52 = .ok (.iconst 1, 1) := by decide +kernel
theorem dX8_say_53 : decode cX8_say 53 = .ok (.iadd, 1) := by decide +kernel
theorem dX8_say_54 : decode cX8_say 54 = .ok (.invokevirtual 40, 3) := by decide +kernel
theorem dX8_say_57 : decode cX8_say 57 = .ok (.ireturn, 1) := by decide +kernel
theorem dX8_bodyOf_0 : decode cX8_bodyOf 0 = .ok (.iload_n 0, 1) := by decide +kernel
theorem dX8_bodyOf_1 : decode cX8_bodyOf 1 = .ok (.istore_n 2, 1) := by decide +kernel
theorem dX8_bodyOf_2 : decode cX8_bodyOf 2 = .ok (.iconst 0, 1) := by decide +kernel
theorem dX8_bodyOf_3 : decode cX8_bodyOf 3 = .ok (.istore_n 3, 1) := by decide +kernel
theorem dX8_bodyOf_4 : decode cX8_bodyOf 4 = .ok (.iload_n 3, 1) := by decide +kernel
theorem dX8_bodyOf_5 : decode cX8_bodyOf 5 = .ok (.bipush 7, 2) := by decide +kernel
theorem dX8_bodyOf_7 : decode cX8_bodyOf 7 = .ok (.if_icmp .ge 44, 3) := by decide +kernel
theorem dX8_bodyOf_10 : decode cX8_bodyOf 10 = .ok (.iload_n 2, 1) := by decide +kernel
theorem dX8_bodyOf_11 : decode cX8_bodyOf 11 = .ok (.ifCond .le 40, 3) := by decide +kernel
theorem dX8_bodyOf_14 : decode cX8_bodyOf 14 = .ok (.iload_n 2, 1) := by decide +kernel
theorem dX8_bodyOf_15 : decode cX8_bodyOf 15 = .ok (.bipush 7, 2) := by decide +kernel
theorem dX8_bodyOf_17 : decode cX8_bodyOf 17 = .ok (.if_icmp .ge 34, 3) := by decide +kernel
theorem dX8_bodyOf_20 : decode cX8_bodyOf 20 = .ok (.getstatic 44, 3) := by decide +kernel
theorem dX8_bodyOf_23 : decode cX8_bodyOf 23 = .ok (.iload_n 2, 1) := by decide +kernel
theorem dX8_bodyOf_24 : decode cX8_bodyOf 24 = .ok (.iconst 4, 1) := by decide +kernel
theorem dX8_bodyOf_25 : decode cX8_bodyOf 25 = .ok (.imul, 1) := by decide +kernel
theorem dX8_bodyOf_26 : decode cX8_bodyOf 26 = .ok (.iload_n 1, 1) := by decide +kernel
theorem dX8_bodyOf_27 : decode cX8_bodyOf 27 = .ok (.iadd, 1) := by decide +kernel
theorem dX8_bodyOf_28 : decode cX8_bodyOf 28 = .ok (.iaload, 1) := by decide +kernel
theorem dX8_bodyOf_29 : decode cX8_bodyOf 29 = .ok (.istore 4, 2) := by decide +kernel
theorem dX8_bodyOf_31 : decode cX8_bodyOf 31 = .ok (.iload 4, 2) := by decide +kernel
theorem dX8_bodyOf_33 : decode cX8_bodyOf 33 = .ok (.ifCond .eq 6, 3) := by decide +kernel
theorem dX8_bodyOf_36 : decode cX8_bodyOf 36 = .ok (.iload 4, 2) := by decide +kernel
theorem dX8_bodyOf_38 : decode cX8_bodyOf 38 = .ok (.ireturn, 1) := by decide +kernel
theorem dX8_bodyOf_39 : decode cX8_bodyOf 39 = .ok (.getstatic 47, 3) := by decide +kernel
theorem dX8_bodyOf_42 : decode cX8_bodyOf 42 = .ok (.iload_n 2, 1) := by decide +kernel
theorem dX8_bodyOf_43 : decode cX8_bodyOf 43 = .ok (.iaload, 1) := by decide +kernel
theorem dX8_bodyOf_44 : decode cX8_bodyOf 44 = .ok (.istore_n 2, 1) := by decide +kernel
theorem dX8_bodyOf_45 : decode cX8_bodyOf 45 = .ok (.iinc 3 1, 3) := by decide +kernel
theorem dX8_bodyOf_48 : decode cX8_bodyOf 48 = .ok (.goto (-44), 3) := by decide +kernel
theorem dX8_bodyOf_51 : decode cX8_bodyOf 51 = .ok (.getstatic 44, 3) := by decide +kernel
theorem dX8_bodyOf_54 : decode cX8_bodyOf 54 = .ok (.iload_n 1, 1) := by decide +kernel
theorem dX8_bodyOf_55 : decode cX8_bodyOf 55 = .ok (.iaload, 1) := by decide +kernel
theorem dX8_bodyOf_56 : decode cX8_bodyOf 56 = .ok (.ireturn, 1) := by decide +kernel
theorem dX8_perform_0 : decode cX8_perform 0 = .ok (.iload_n 1, 1) := by decide +kernel
theorem dX8_perform_1 : decode cX8_perform 1 = .ok (.lookupswitch 260 #[(10, 99), (11, 106), (12, 120), (13, 127), (20, 151), (30, 162), (40, 183), (50, 193), (60, 214), (70, 225), (71, 239)], 99) := by decide +kernel
theorem dX8_perform_100 : decode cX8_perform 100 = .ok (.iload_n 2, 1) := by decide +kernel
theorem dX8_perform_101 : decode cX8_perform 101 = .ok (.aload_n 0, 1) := by decide +kernel
theorem dX8_perform_102 : decode cX8_perform 102 = .ok (.getfield 25, 3) := by decide +kernel
theorem dX8_perform_105 : decode cX8_perform 105 = .ok (.iadd, 1) := by decide +kernel
theorem dX8_perform_106 : decode cX8_perform 106 = .ok (.ireturn, 1) := by decide +kernel
theorem dX8_perform_107 : decode cX8_perform 107 = .ok (.aload_n 0, 1) := by decide +kernel
theorem dX8_perform_108 : decode cX8_perform 108 = .ok (.aload_n 0, 1) := by decide +kernel
theorem dX8_perform_109 : decode cX8_perform 109 = .ok (.getfield 19, 3) := by decide +kernel
theorem dX8_perform_112 : decode cX8_perform 112 = .ok (.iconst 0, 1) := by decide +kernel
theorem dX8_perform_113 : decode cX8_perform 113 = .ok (.iload_n 2, 1) := by decide +kernel
theorem dX8_perform_114 : decode cX8_perform 114 = .ok (.iload_n 3, 1) := by decide +kernel
theorem dX8_perform_115 : decode cX8_perform 115 = .ok (.invokevirtual 32, 3) := by decide +kernel
theorem dX8_perform_118 : decode cX8_perform 118 = .ok (.iconst 2, 1) := by decide +kernel
theorem dX8_perform_119 : decode cX8_perform 119 = .ok (.imul, 1) := by decide +kernel
theorem dX8_perform_120 : decode cX8_perform 120 = .ok (.ireturn, 1) := by decide +kernel
theorem dX8_perform_121 : decode cX8_perform 121 = .ok (.iload_n 2, 1) := by decide +kernel
theorem dX8_perform_122 : decode cX8_perform 122 = .ok (.aload_n 0, 1) := by decide +kernel
theorem dX8_perform_123 : decode cX8_perform 123 = .ok (.getfield 22, 3) := by decide +kernel
theorem dX8_perform_126 : decode cX8_perform 126 = .ok (.isub, 1) := by decide +kernel
theorem dX8_perform_127 : decode cX8_perform 127 = .ok (.ireturn, 1) := by decide +kernel
theorem dX8_perform_128 : decode cX8_perform 128 = .ok (.aload_n 0, 1) := by decide +kernel
theorem dX8_perform_129 : decode cX8_perform 129 = .ok (.aload_n 0, 1) := by decide +kernel
theorem dX8_perform_130 : decode cX8_perform 130 = .ok (.getfield 19, 3) := by decide +kernel
theorem dX8_perform_133 : decode cX8_perform 133 = .ok (.iconst 1, 1) := by decide +kernel
theorem dX8_perform_134 : decode cX8_perform 134 = .ok (.iload_n 2, 1) := by decide +kernel
theorem dX8_perform_135 : decode cX8_perform 135 = .ok (.iload_n 3, 1) := by decide +kernel
theorem dX8_perform_136 : decode cX8_perform 136 = .ok (.invokevirtual 32, 3) := by decide +kernel
theorem dX8_perform_139 : decode cX8_perform 139 = .ok (.aload_n 0, 1) := by decide +kernel
theorem dX8_perform_140 : decode cX8_perform 140 = .ok (.aload_n 0, 1) := by decide +kernel
theorem dX8_perform_141 : decode cX8_perform 141 = .ok (.getfield 19, 3) := by decide +kernel
theorem dX8_perform_144 : decode cX8_perform 144 = .ok (.iconst 2, 1) := by decide +kernel
theorem dX8_perform_145 : decode cX8_perform 145 = .ok (.iload_n 2, 1) := by decide +kernel
theorem dX8_perform_146 : decode cX8_perform 146 = .ok (.iload_n 3, 1) := by decide +kernel
theorem dX8_perform_147 : decode cX8_perform 147 = .ok (.invokevirtual 32, 3) := by decide +kernel
theorem dX8_perform_150 : decode cX8_perform 150 = .ok (.ixor, 1) := by decide +kernel
theorem dX8_perform_151 : decode cX8_perform 151 = .ok (.ireturn, 1) := by decide +kernel
theorem dX8_perform_152 : decode cX8_perform 152 = .ok (.aload_n 0, 1) := by decide +kernel
theorem dX8_perform_153 : decode cX8_perform 153 = .ok (.iconst 0, 1) := by decide +kernel
theorem dX8_perform_154 : decode cX8_perform 154 = .ok (.iconst 0, 1) := by decide +kernel
theorem dX8_perform_155 : decode cX8_perform 155 = .ok (.iload_n 2, 1) := by decide +kernel
theorem dX8_perform_156 : decode cX8_perform 156 = .ok (.iload_n 3, 1) := by decide +kernel
theorem dX8_perform_157 : decode cX8_perform 157 = .ok (.invokevirtual 32, 3) := by decide +kernel
theorem dX8_perform_160 : decode cX8_perform 160 = .ok (.iconst 3, 1) := by decide +kernel
theorem dX8_perform_161 : decode cX8_perform 161 = .ok (.imul, 1) := by decide +kernel
theorem dX8_perform_162 : decode cX8_perform 162 = .ok (.ireturn, 1) := by decide +kernel
theorem dX8_perform_163 : decode cX8_perform 163 = .ok (.aload_n 0, 1) := by decide +kernel
theorem dX8_perform_164 : decode cX8_perform 164 = .ok (.iconst 0, 1) := by decide +kernel
theorem dX8_perform_165 : decode cX8_perform 165 = .ok (.iconst 1, 1) := by decide +kernel
theorem dX8_perform_166 : decode cX8_perform 166 = .ok (.iload_n 2, 1) := by decide +kernel
theorem dX8_perform_167 : decode cX8_perform 167 = .ok (.iload_n 3, 1) := by decide +kernel
theorem dX8_perform_168 : decode cX8_perform 168 = .ok (.invokevirtual 32, 3) := by decide +kernel
theorem dX8_perform_171 : decode cX8_perform 171 = .ok (.aload_n 0, 1) := by decide +kernel
theorem dX8_perform_172 : decode cX8_perform 172 = .ok (.aload_n 0, 1) := by decide +kernel
theorem dX8_perform_173 : decode cX8_perform 173 = .ok (.getfield 19, 3) := by decide +kernel
theorem dX8_perform_176 : decode cX8_perform 176 = .ok (.iconst 2, 1) := by decide +kernel
theorem dX8_perform_177 : decode cX8_perform 177 = .ok (.iconst 1, 1) := by decide +kernel
theorem dX8_perform_178 : decode cX8_perform 178 = .ok (.iload_n 3, 1) := by decide +kernel
theorem dX8_perform_179 : decode cX8_perform 179 = .ok (.invokevirtual 32, 3) := by decide +kernel
theorem dX8_perform_182 : decode cX8_perform 182 = .ok (.isub, 1) := by decide +kernel
theorem dX8_perform_183 : decode cX8_perform 183 = .ok (.ireturn, 1) := by decide +kernel
theorem dX8_perform_184 : decode cX8_perform 184 = .ok (.aload_n 0, 1) := by decide +kernel
theorem dX8_perform_185 : decode cX8_perform 185 = .ok (.iconst 0, 1) := by decide +kernel
theorem dX8_perform_186 : decode cX8_perform 186 = .ok (.iconst 2, 1) := by decide +kernel
theorem dX8_perform_187 : decode cX8_perform 187 = .ok (.iload_n 2, 1) := by decide +kernel
theorem dX8_perform_188 : decode cX8_perform 188 = .ok (.iload_n 3, 1) := by decide +kernel
theorem dX8_perform_189 : decode cX8_perform 189 = .ok (.invokevirtual 32, 3) := by decide +kernel
theorem dX8_perform_192 : decode cX8_perform 192 = .ok (.ineg, 1) := by decide +kernel
theorem dX8_perform_193 : decode cX8_perform 193 = .ok (.ireturn, 1) := by decide +kernel
theorem dX8_perform_194 : decode cX8_perform 194 = .ok (.aload_n 0, 1) := by decide +kernel
theorem dX8_perform_195 : decode cX8_perform 195 = .ok (.iconst 1, 1) := by decide +kernel
theorem dX8_perform_196 : decode cX8_perform 196 = .ok (.iconst 3, 1) := by decide +kernel
theorem dX8_perform_197 : decode cX8_perform 197 = .ok (.iload_n 2, 1) := by decide +kernel
theorem dX8_perform_198 : decode cX8_perform 198 = .ok (.iload_n 3, 1) := by decide +kernel
theorem dX8_perform_199 : decode cX8_perform 199 = .ok (.invokevirtual 32, 3) := by decide +kernel
theorem dX8_perform_202 : decode cX8_perform 202 = .ok (.aload_n 0, 1) := by decide +kernel
theorem dX8_perform_203 : decode cX8_perform 203 = .ok (.aload_n 0, 1) := by decide +kernel
theorem dX8_perform_204 : decode cX8_perform 204 = .ok (.getfield 19, 3) := by decide +kernel
theorem dX8_perform_207 : decode cX8_perform 207 = .ok (.iconst 0, 1) := by decide +kernel
theorem dX8_perform_208 : decode cX8_perform 208 = .ok (.iconst 2, 1) := by decide +kernel
theorem dX8_perform_209 : decode cX8_perform 209 = .ok (.iload_n 3, 1) := by decide +kernel
theorem dX8_perform_210 : decode cX8_perform 210 = .ok (.invokevirtual 32, 3) := by decide +kernel
theorem dX8_perform_213 : decode cX8_perform 213 = .ok (.isub, 1) := by decide +kernel
theorem dX8_perform_214 : decode cX8_perform 214 = .ok (.ireturn, 1) := by decide +kernel
theorem dX8_perform_215 : decode cX8_perform 215 = .ok (.aload_n 0, 1) := by decide +kernel
theorem dX8_perform_216 : decode cX8_perform 216 = .ok (.iconst 2, 1) := by decide +kernel
theorem dX8_perform_217 : decode cX8_perform 217 = .ok (.iconst 1, 1) := by decide +kernel
theorem dX8_perform_218 : decode cX8_perform 218 = .ok (.iload_n 2, 1) := by decide +kernel
theorem dX8_perform_219 : decode cX8_perform 219 = .ok (.iconst 1, 1) := by decide +kernel
theorem dX8_perform_220 : decode cX8_perform 220 = .ok (.iadd, 1) := by decide +kernel
theorem dX8_perform_221 : decode cX8_perform 221 = .ok (.iload_n 3, 1) := by decide +kernel
theorem dX8_perform_222 : decode cX8_perform 222 = .ok (.invokevirtual 32, 3) := by decide +kernel
theorem dX8_perform_225 : decode cX8_perform 225 = .ok (.ireturn, 1) := by decide +kernel
theorem dX8_perform_226 : decode cX8_perform 226 = .ok (.aload_n 0, 1) := by decide +kernel
theorem dX8_perform_227 : decode cX8_perform 227 = .ok (.iconst 3, 1) := by decide +kernel
theorem dX8_perform_228 : decode cX8_perform 228 = .ok (.iconst 2, 1) := by decide +kernel
theorem dX8_perform_229 : decode cX8_perform 229 = .ok (.iload_n 2, 1) := by decide +kernel
theorem dX8_perform_230 : decode cX8_perform 230 = .ok (.iload_n 3, 1) := by decide +kernel
theorem dX8_perform_231 : decode cX8_perform 231 = .ok (.invokevirtual 32, 3) := by decide +kernel
theorem dX8_perform_234 : decode cX8_perform 234 = .ok (.aload_n 0, 1) := by decide +kernel
theorem dX8_perform_235 : decode cX8_perform 235 = .ok (.getfield 25, 3) := by decide +kernel
theorem dX8_perform_238 : decode cX8_perform 238 = .ok (.ixor, 1) := by decide +kernel
theorem dX8_perform_239 : decode cX8_perform 239 = .ok (.ireturn, 1) := by decide +kernel
theorem dX8_perform_240 : decode cX8_perform 240 = .ok (.aload_n 0, 1) := by decide +kernel
theorem dX8_perform_241 : decode cX8_perform 241 = .ok (.aload_n 0, 1) := by decide +kernel
theorem dX8_perform_242 : decode cX8_perform 242 = .ok (.getfield 19, 3) := by decide +kernel
theorem dX8_perform_245 : decode cX8_perform 245 = .ok (.iconst 1, 1) := by decide +kernel
theorem dX8_perform_246 : decode cX8_perform 246 = .ok (.iload_n 2, 1) := by decide +kernel
theorem dX8_perform_247 : decode cX8_perform 247 = .ok (.iload_n 3, 1) := by decide +kernel
theorem dX8_perform_248 : decode cX8_perform 248 = .ok (.invokevirtual 32, 3) := by decide +kernel
theorem dX8_perform_251 : decode cX8_perform 251 = .ok (.aload_n 0, 1) := by decide +kernel
theorem dX8_perform_252 : decode cX8_perform 252 = .ok (.iconst 3, 1) := by decide +kernel
theorem dX8_perform_253 : decode cX8_perform 253 = .ok (.iconst 3, 1) := by decide +kernel
theorem dX8_perform_254 : decode cX8_perform 254 = .ok (.iload_n 2, 1) := by decide +kernel
theorem dX8_perform_255 : decode cX8_perform 255 = .ok (.iload_n 3, 1) := by decide +kernel
theorem dX8_perform_256 : decode cX8_perform 256 = .ok (.invokevirtual 32, 3) := by decide +kernel
theorem dX8_perform_259 : decode cX8_perform 259 = .ok (.isub, 1) := by decide +kernel
theorem dX8_perform_260 : decode cX8_perform 260 = .ok (.ireturn, 1) := by decide +kernel
theorem dX8_perform_261 : decode cX8_perform 261 = .ok (.iconst 0, 1) := by decide +kernel
theorem dX8_perform_262 : decode cX8_perform 262 = .ok (.ireturn, 1) := by decide +kernel
theorem dX9_init_0 : decode cX9_init 0 = .ok (.aload_n 0, 1) := by decide +kernel
theorem dX9_init_1 : decode cX9_init 1 = .ok (.invokespecial 1, 3) := by decide +kernel
theorem dX9_init_4 : decode cX9_init 4 = .ok (.aload_n 0, 1) := by decide +kernel
theorem dX9_init_5 : decode cX9_init 5 = .ok (.bipush 6, 2) := by decide +kernel
theorem dX9_init_7 : decode cX9_init 7 = .ok (.newarray .int, 2) := by decide +kernel
theorem dX9_init_9 : decode cX9_init 9 = .ok (.putfield 9, 3) := by decide +kernel
theorem dX9_init_12 : decode cX9_init 12 = .ok (.aload_n 0, 1) := by decide +kernel
theorem dX9_init_13 : decode cX9_init 13 = .ok (.iconst 4, 1) := by decide +kernel
theorem dX9_init_14 : decode cX9_init 14 = .ok (.anewarray 13, 3) := by decide +kernel
theorem dX9_init_17 : decode cX9_init 17 = .ok (.putfield 15, 3) := by decide +kernel
theorem dX9_init_20 : decode cX9_init 20 = .ok (.iconst 0, 1) := by decide +kernel
theorem dX9_init_21 : decode cX9_init 21 = .ok (.istore_n 1, 1) := by decide +kernel
theorem dX9_init_22 : decode cX9_init 22 = .ok (.iload_n 1, 1) := by decide +kernel
theorem dX9_init_23 : decode cX9_init 23 = .ok (.iconst 4, 1) := by decide +kernel
theorem dX9_init_24 : decode cX9_init 24 = .ok (.if_icmp .ge 22, 3) := by decide +kernel
theorem dX9_init_27 : decode cX9_init 27 = .ok (.aload_n 0, 1) := by decide +kernel
theorem dX9_init_28 : decode cX9_init 28 = .ok (.getfield 15, 3) := by decide +kernel
theorem dX9_init_31 : decode cX9_init 31 = .ok (.iload_n 1, 1) := by decide +kernel
theorem dX9_init_32 : decode cX9_init 32 = .ok (.new 13, 3) := by decide +kernel
theorem dX9_init_35 : decode cX9_init 35 = .ok (.dup, 1) := by decide +kernel
theorem dX9_init_36 : decode cX9_init 36 = .ok (.invokespecial 19, 3) := by decide +kernel
theorem dX9_init_39 : decode cX9_init 39 = .ok (.aastore, 1) := by decide +kernel
theorem dX9_init_40 : decode cX9_init 40 = .ok (.iinc 1 1, 3) := by decide +kernel
theorem dX9_init_43 : decode cX9_init 43 = .ok (.goto (-21), 3) := by decide +kernel
theorem dX9_init_46 : decode cX9_init 46 = .ok (.aload_n 0, 1) := by decide +kernel
theorem dX9_init_47 : decode cX9_init 47 = .ok (.new 20, 3) := by decide +kernel
theorem dX9_init_50 : decode cX9_init 50 = .ok (.dup, 1) := by decide +kernel
theorem dX9_init_51 : decode cX9_init 51 = .ok (.invokespecial 22, 3) := by decide +kernel
theorem dX9_init_54 : decode cX9_init 54 = .ok (.putfield 23, 3) := by decide +kernel
theorem dX9_init_57 : decode cX9_init 57 = .ok (.aload_n 0, 1) := by decide +kernel
theorem dX9_init_58 : decode cX9_init 58 = .ok (.new 27, 3) := by decide +kernel
theorem dX9_init_61 : decode cX9_init 61 = .ok (.dup, 1) := by decide +kernel
theorem dX9_init_62 : decode cX9_init 62 = .ok (.invokespecial 29, 3) := by decide +kernel
theorem dX9_init_65 : decode cX9_init 65 = .ok (.putfield 30, 3) := by decide +kernel
theorem dX9_init_68 : decode cX9_init 68 = .ok (.aload_n 0, 1) := by decide +kernel
theorem dX9_init_69 : decode cX9_init 69 = .ok (.new 27, 3) := by decide +kernel
theorem dX9_init_72 : decode cX9_init 72 = .ok (.dup, 1) := by decide +kernel
theorem dX9_init_73 : decode cX9_init 73 = .ok (.invokespecial 29, 3) := by decide +kernel
theorem dX9_init_76 : decode cX9_init 76 = .ok (.putfield 34, 3) := by decide +kernel
theorem dX9_init_79 : decode cX9_init 79 = .ok (.aload_n 0, 1) := by decide +kernel
theorem dX9_init_80 : decode cX9_init 80 = .ok (.new 37, 3) := by decide +kernel
theorem dX9_init_83 : decode cX9_init 83 = .ok (.dup, 1) := by decide +kernel
theorem dX9_init_84 : decode cX9_init 84 = .ok (.invokespecial 39, 3) := by decide +kernel
theorem dX9_init_87 : decode cX9_init 87 = .ok (.putfield 40, 3) := by decide +kernel
theorem dX9_init_90 : decode cX9_init 90 = .ok (.aload_n 0, 1) := by decide +kernel
theorem dX9_init_91 : decode cX9_init 91 = .ok (.new 44, 3) := by decide +kernel
theorem dX9_init_94 : decode cX9_init 94 = .ok (.dup, 1) := by decide +kernel
theorem dX9_init_95 : decode cX9_init 95 = .ok (.invokespecial 46, 3) := by decide +kernel
theorem dX9_init_98 : decode cX9_init 98 = .ok (.putfield 47, 3) := by decide +kernel
theorem dX9_init_101 : decode cX9_init 101 = .ok (.aload_n 0, 1) := by decide +kernel
theorem dX9_init_102 : decode cX9_init 102 = .ok (.new 51, 3) := by decide +kernel
theorem dX9_init_105 : decode cX9_init 105 = .ok (.dup, 1) := by decide +kernel
theorem dX9_init_106 : decode cX9_init 106 = .ok (.invokespecial 53, 3) := by decide +kernel
theorem dX9_init_109 : decode cX9_init 109 = .ok (.putfield 54, 3) := by decide +kernel
theorem dX9_init_112 : decode cX9_init 112 = .ok (.aload_n 0, 1) := by decide +kernel
theorem dX9_init_113 : decode cX9_init 113 = .ok (.iconst 0, 1) := by decide +kernel
theorem dX9_init_114 : decode cX9_init 114 = .ok (.putfield 58, 3) := by decide +kernel
theorem dX9_init_117 : decode cX9_init 117 = .ok (.return_, 1) := by decide +kernel
theorem dX9_paper_0 : decode cX9_paper 0 = .ok (.iload_n 1, 1) := by decide +kernel
theorem dX9_paper_1 : decode cX9_paper 1 = .ok (.iconst 0, 1) := by decide +kernel
theorem dX9_paper_2 : decode cX9_paper 2 = .ok (.bipush 69, 2) := by decide +kernel
theorem dX9_paper_4 : decode cX9_paper 4 = .ok (.invokestatic 62, 3) := by decide +kernel
theorem dX9_paper_7 : decode cX9_paper 7 = .ok (.ifCond .eq 14, 3) := by decide +kernel
theorem dX9_paper_10 : decode cX9_paper 10 = .ok (.iload_n 2, 1) := by decide +kernel
theorem dX9_paper_11 : decode cX9_paper 11 = .ok (.iconst 0, 1) := by decide +kernel
theorem dX9_paper_12 : decode cX9_paper 12 = .ok (.sipush 9999, 3) := by decide +kernel
theorem dX9_paper_15 : decode cX9_paper 15 = .ok (.invokestatic 62, 3) := by decide +kernel
theorem dX9_paper_18 : decode cX9_paper 18 = .ok (.ifCond .ne 9, 3) := by decide +kernel
theorem dX9_paper_21 : decode cX9_paper 21 = .ok (.aload_n 0, 1) := by decide +kernel
theorem dX9_paper_22 : decode cX9_paper 22 = .ok (.iconst 1, 1) := by decide +kernel
theorem dX9_paper_23 : decode cX9_paper 23 = .ok (.invokevirtual 66, 3) := by decide +kernel
theorem dX9_paper_26 : decode cX9_paper 26 = .ok (.ireturn, 1) := by decide +kernel
theorem dX9_paper_27 : decode cX9_paper 27 = .ok (.aload_n 0, 1) := by decide +kernel
theorem dX9_paper_28 : decode cX9_paper 28 = .ok (.getfield 30, 3) := by decide +kernel
theorem dX9_paper_31 : decode cX9_paper 31 = .ok (.getfield 70, 3) := by decide +kernel
theorem dX9_paper_34 : decode cX9_paper 34 = .ok (.bipush 8, 2) := by decide +kernel
theorem dX9_paper_36 : decode cX9_paper 36 = .ok (.if_icmp .lt 9, 3) := by decide +kernel
theorem dX9_paper_39 : decode cX9_paper 39 = .ok (.aload_n 0, 1) := by decide +kernel
theorem dX9_paper_40 : decode cX9_paper 40 = .ok (.iconst 4, 1) := by decide +kernel
theorem dX9_paper_41 : decode cX9_paper 41 = .ok (.invokevirtual 66, 3) := by decide +kernel
theorem dX9_paper_44 : decode cX9_paper 44 = .ok (.ireturn, 1) := by decide +kernel
theorem dX9_paper_45 : decode cX9_paper 45 = .ok (.aload_n 0, 1) := by decide +kernel
theorem dX9_paper_46 : decode cX9_paper 46 = .ok (.getfield 30, 3) := by decide +kernel
theorem dX9_paper_49 : decode cX9_paper 49 = .ok (.iload_n 1, 1) := by decide +kernel
theorem dX9_paper_50 : decode cX9_paper 50 = .ok (.iload_n 2, 1) := by decide +kernel
theorem dX9_paper_51 : decode cX9_paper 51 = .ok (.invokevirtual 73, 3) := by decide +kernel
theorem dX9_paper_54 : decode cX9_paper 54 = .ok (.ireturn, 1) := by decide +kernel
theorem dX9_ofPaper_0 : decode cX9_ofPaper 0 = .ok (.aload_n 0, 1) := by decide +kernel
theorem dX9_ofPaper_1 : decode cX9_ofPaper 1 = .ok (.getfield 30, 3) := by decide +kernel
theorem dX9_ofPaper_4 : decode cX9_ofPaper 4 = .ok (.iload_n 1, 1) := by decide +kernel
theorem dX9_ofPaper_5 : decode cX9_ofPaper 5 = .ok (.invokevirtual 77, 3) := by decide +kernel
theorem dX9_ofPaper_8 : decode cX9_ofPaper 8 = .ok (.ifCond .eq 13, 3) := by decide +kernel
theorem dX9_ofPaper_11 : decode cX9_ofPaper 11 = .ok (.iload_n 2, 1) := by decide +kernel
theorem dX9_ofPaper_12 : decode cX9_ofPaper 12 = .ok (.iconst 0, 1) := by decide +kernel
theorem dX9_ofPaper_13 : decode cX9_ofPaper 13 = .ok (.bipush 9, 2) := by decide +kernel
theorem dX9_ofPaper_15 : decode cX9_ofPaper 15 = .ok (.invokestatic 62, 3) := by decide +kernel
theorem dX9_ofPaper_18 : decode cX9_ofPaper 18 = .ok (.ifCond .ne 9, 3) := by decide +kernel
theorem dX9_ofPaper_21 : decode cX9_ofPaper 21 = .ok (.aload_n 0, 1) := by decide +kernel
theorem dX9_ofPaper_22 : decode cX9_ofPaper 22 = .ok (.iconst 1, 1) := by decide +kernel
theorem dX9_ofPaper_23 : decode cX9_ofPaper 23 = .ok (.invokevirtual 66, 3) := by decide +kernel
theorem dX9_ofPaper_26 : decode cX9_ofPaper 26 = .ok (.ireturn, 1) := by decide +kernel
theorem dX9_ofPaper_27 : decode cX9_ofPaper 27 = .ok (.aload_n 0, 1) := by decide +kernel
theorem dX9_ofPaper_28 : decode cX9_ofPaper 28 = .ok (.getfield 30, 3) := by decide +kernel
theorem dX9_ofPaper_31 : decode cX9_ofPaper 31 = .ok (.getfield 81, 3) := by decide +kernel
theorem dX9_ofPaper_34 : decode cX9_ofPaper 34 = .ok (.iload_n 1, 1) := by decide +kernel
theorem dX9_ofPaper_35 : decode cX9_ofPaper 35 = .ok (.aaload, 1) := by decide +kernel
theorem dX9_ofPaper_36 : decode cX9_ofPaper 36 = .ok (.astore_n 3, 1) := by decide +kernel
theorem dX9_ofPaper_37 : decode cX9_ofPaper 37 = .ok (.iload_n 2, 1) := by decide +kernel
theorem dX9_ofPaper_38 : decode cX9_ofPaper 38 = .ok (.tableswitch 119 0 8 #[50, 55, 60, 65, 70, 83, 88, 101, 114], 50) := by decide +kernel
theorem dX9_ofPaper_88 : decode cX9_ofPaper 88 = .ok (.aload_n 3, 1) := by decide +kernel
theorem dX9_ofPaper_89 : decode cX9_ofPaper 89 = .ok (.getfield 85, 3) := by decide +kernel
theorem dX9_ofPaper_92 : decode cX9_ofPaper 92 = .ok (.ireturn, 1) := by decide +kernel
theorem dX9_ofPaper_93 : decode cX9_ofPaper 93 = .ok (.aload_n 3, 1) := by decide +kernel
theorem dX9_ofPaper_94 : decode cX9_ofPaper 94 = .ok (.getfield 90, 3) := by decide +kernel
theorem dX9_ofPaper_97 : decode cX9_ofPaper 97 = .ok (.ireturn, 1) := by decide +kernel
theorem dX9_ofPaper_98 : decode cX9_ofPaper 98 = .ok (.aload_n 3, 1) := by decide +kernel
theorem dX9_ofPaper_99 : decode cX9_ofPaper 99 = .ok (.getfield 93, 3) := by decide +kernel
theorem dX9_ofPaper_102 : decode cX9_ofPaper 102 = .ok (.ireturn, 1) := by decide +kernel
theorem dX9_ofPaper_103 : decode cX9_ofPaper 103 = .ok (.aload_n 3, 1) := by decide +kernel
theorem dX9_ofPaper_104 : decode cX9_ofPaper 104 = .ok (.getfield 96, 3) := by decide +kernel
theorem dX9_ofPaper_107 : decode cX9_ofPaper 107 = .ok (.ireturn, 1) := by decide +kernel
theorem dX9_ofPaper_108 : decode cX9_ofPaper 108 = .ok (.aload_n 3, 1) := by decide +kernel
theorem dX9_ofPaper_109 : decode cX9_ofPaper 109 = .ok (.getfield 99, 3) := by decide +kernel
theorem dX9_ofPaper_112 : decode cX9_ofPaper 112 = .ok (.ifCond .eq 7, 3) := by decide +kernel
theorem dX9_ofPaper_115 : decode cX9_ofPaper 115 = .ok (.iconst 1, 1) := by decide +kernel
theorem dX9_ofPaper_116 : decode cX9_ofPaper 116 = .ok (.goto 4, 3) := by decide +kernel
theorem dX9_ofPaper_119 : decode cX9_ofPaper 119 = .ok (.iconst 0, 1) := by decide +kernel
theorem dX9_ofPaper_120 : decode cX9_ofPaper 120 = .ok (.ireturn, 1) := by decide +kernel
theorem dX9_ofPaper_121 : decode cX9_ofPaper 121 = .ok (.aload_n 3, 1) := by decide +kernel
theorem dX9_ofPaper_122 : decode cX9_ofPaper 122 = .ok (.getfield 103, 3) := by decide +kernel
theorem dX9_ofPaper_125 : decode cX9_ofPaper 125 = .ok (.ireturn, 1) := by decide +kernel
theorem dX9_ofPaper_126 : decode cX9_ofPaper 126 = .ok (.aload_n 0, 1) := by decide +kernel
theorem dX9_ofPaper_127 : decode cX9_ofPaper 127 = .ok (.getfield 23, 3) := by decide +kernel
theorem dX9_ofPaper_130 : decode cX9_ofPaper 130 = .ok (.getfield 106, 3) := by decide +kernel
theorem dX9_ofPaper_133 : decode cX9_ofPaper 133 = .ok (.aload_n 3, 1) := by decide +kernel
theorem dX9_ofPaper_134 : decode cX9_ofPaper 134 = .ok (.getfield 96, 3) := by decide +kernel
theorem dX9_ofPaper_137 : decode cX9_ofPaper 137 = .ok (.iaload, 1) := by decide +kernel
theorem dX9_ofPaper_138 : decode cX9_ofPaper 138 = .ok (.ireturn, 1) := by decide +kernel
theorem dX9_ofPaper_139 : decode cX9_ofPaper 139 = .ok (.aload_n 0, 1) := by decide +kernel
theorem dX9_ofPaper_140 : decode cX9_ofPaper 140 = .ok (.getfield 23, 3) := by decide +kernel
theorem dX9_ofPaper_143 : decode cX9_ofPaper 143 = .ok (.getfield 109, 3) := by decide +kernel
theorem dX9_ofPaper_146 : decode cX9_ofPaper 146 = .ok (.aload_n 3, 1) := by decide +kernel
theorem dX9_ofPaper_147 : decode cX9_ofPaper 147 = .ok (.getfield 96, 3) := by decide +kernel
theorem dX9_ofPaper_150 : decode cX9_ofPaper 150 = .ok (.iaload, 1) := by decide +kernel
theorem dX9_ofPaper_151 : decode cX9_ofPaper 151 = .ok (.ireturn, 1) := by decide +kernel
theorem dX9_ofPaper_152 : decode cX9_ofPaper 152 = .ok (.aload_n 3, 1) := by decide +kernel
theorem dX9_ofPaper_153 : decode cX9_ofPaper 153 = .ok (.invokevirtual 112, 3) := by decide +kernel
theorem dX9_ofPaper_156 : decode cX9_ofPaper 156 = .ok (.ireturn, 1) := by decide +kernel
theorem dX9_ofPaper_157 : decode cX9_ofPaper 157 = .ok (.aload_n 0, 1) := by decide +kernel
theorem dX9_ofPaper_158 : decode cX9_ofPaper 158 = .ok (.getfield 23, 3) := by decide +kernel
theorem dX9_ofPaper_161 : decode cX9_ofPaper 161 = .ok (.aload_n 3, 1) := by decide +kernel
theorem dX9_ofPaper_162 : decode cX9_ofPaper 162 = .ok (.aload_n 3, 1) := by decide +kernel
theorem dX9_ofPaper_163 : decode cX9_ofPaper 163 = .ok (.getfield 96, 3) := by decide +kernel
theorem dX9_ofPaper_166 : decode cX9_ofPaper 166 = .ok (.invokevirtual 116, 3) := by decide +kernel
theorem dX9_ofPaper_169 : decode cX9_ofPaper 169 = .ok (.ifCond .eq 7, 3) := by decide +kernel
theorem dX9_ofPaper_172 : decode cX9_ofPaper 172 = .ok (.iconst 1, 1) := by decide +kernel
theorem dX9_ofPaper_173 : decode cX9_ofPaper 173 = .ok (.goto 4, 3) := by decide +kernel
theorem dX9_ofPaper_176 : decode cX9_ofPaper 176 = .ok (.iconst 0, 1) := by decide +kernel
theorem dX9_ofPaper_177 : decode cX9_ofPaper 177 = .ok (.ireturn, 1) := by decide +kernel
theorem dX9_change_0 : decode cX9_change 0 = .ok (.aload_n 0, 1) := by decide +kernel
theorem dX9_change_1 : decode cX9_change 1 = .ok (.getfield 30, 3) := by decide +kernel
theorem dX9_change_4 : decode cX9_change 4 = .ok (.iload_n 1, 1) := by decide +kernel
theorem dX9_change_5 : decode cX9_change 5 = .ok (.invokevirtual 77, 3) := by decide +kernel
theorem dX9_change_8 : decode cX9_change 8 = .ok (.ifCond .eq 24, 3) := by decide +kernel
theorem dX9_change_11 : decode cX9_change 11 = .ok (.iload_n 2, 1) := by decide +kernel
theorem dX9_change_12 : decode cX9_change 12 = .ok (.iconst 0, 1) := by decide +kernel
theorem dX9_change_13 : decode cX9_change 13 = .ok (.iconst 2, 1) := by decide +kernel
theorem dX9_change_14 : decode cX9_change 14 = .ok (.invokestatic 62, 3) := by decide +kernel
theorem dX9_change_17 : decode cX9_change 17 = .ok (.ifCond .eq 15, 3) := by decide +kernel
theorem dX9_change_20 : decode cX9_change 20 = .ok (.iload_n 3, 1) := by decide +kernel
theorem dX9_change_21 : decode cX9_change 21 = .ok (.iconst 0, 1) := by decide +kernel
theorem dX9_change_22 : decode cX9_change 22 = .ok (.iload_n 2, 1) := by decide +kernel
theorem dX9_change_23 : decode cX9_change 23 = .ok (.invokestatic 120, 3) := by decide +kernel
theorem dX9_change_26 : decode cX9_change 26 = .ok (.invokestatic 62, 3) := by decide +kernel
theorem dX9_change_29 : decode cX9_change 29 = .ok (.ifCond .ne 9, 3) := by decide +kernel
theorem dX9_change_32 : decode cX9_change 32 = .ok (.aload_n 0, 1) := by decide +kernel
theorem dX9_change_33 : decode cX9_change 33 = .ok (.iconst 1, 1) := by decide +kernel
theorem dX9_change_34 : decode cX9_change 34 = .ok (.invokevirtual 66, 3) := by decide +kernel
theorem dX9_change_37 : decode cX9_change 37 = .ok (.ireturn, 1) := by decide +kernel
theorem dX9_change_38 : decode cX9_change 38 = .ok (.aload_n 0, 1) := by decide +kernel
theorem dX9_change_39 : decode cX9_change 39 = .ok (.getfield 30, 3) := by decide +kernel
theorem dX9_change_42 : decode cX9_change 42 = .ok (.getfield 81, 3) := by decide +kernel
theorem dX9_change_45 : decode cX9_change 45 = .ok (.iload_n 1, 1) := by decide +kernel
theorem dX9_change_46 : decode cX9_change 46 = .ok (.aaload, 1) := by decide +kernel
theorem dX9_change_47 : decode cX9_change 47 = .ok (.astore 4, 2) := by decide +kernel
theorem dX9_change_49 : decode cX9_change 49 = .ok (.iload_n 2, 1) := by decide +kernel
theorem dX9_change_50 : decode cX9_change 50 = .ok (.ifCond .ne 19, 3) := by decide +kernel
theorem dX9_change_53 : decode cX9_change 53 = .ok (.aload 4, 2) := by decide +kernel
theorem dX9_change_55 : decode cX9_change 55 = .ok (.getfield 93, 3) := by decide +kernel
theorem dX9_change_58 : decode cX9_change 58 = .ok (.istore 5, 2) := by decide +kernel
theorem dX9_change_60 : decode cX9_change 60 = .ok (.aload 4, 2) := by decide +kernel
theorem dX9_change_62 : decode cX9_change 62 = .ok (.iload_n 3, 1) := by decide +kernel
theorem dX9_change_63 : decode cX9_change 63 = .ok (.putfield 93, 3) := by decide +kernel
theorem dX9_change_66 : decode cX9_change 66 = .ok (.goto 54, 3) := by decide +kernel
theorem dX9_change_69 : decode cX9_change 69 = .ok (.iload_n 2, 1) := by decide +kernel
theorem dX9_change_70 : decode cX9_change 70 = .ok (.iconst 1, 1) := by decide +kernel
theorem dX9_change_71 : decode cX9_change 71 = .ok (.if_icmp .ne 36, 3) := by decide +kernel
theorem dX9_change_74 : decode cX9_change 74 = .ok (.aload 4, 2) := by decide +kernel
theorem dX9_change_76 : decode cX9_change 76 = .ok (.getfield 99, 3) := by decide +kernel
theorem dX9_change_79 : decode cX9_change 79 = .ok (.ifCond .eq 7, 3) := by decide +kernel
theorem dX9_change_82 : decode cX9_change 82 = .ok (.iconst 1, 1) := by decide +kernel
theorem dX9_change_83 : decode cX9_change 83 = .ok (.goto 4, 3) := by decide +kernel
theorem dX9_change_86 : decode cX9_change 86 = .ok (.iconst 0, 1) := by decide +kernel
theorem dX9_change_87 : decode cX9_change 87 = .ok (.istore 5, 2) := by decide +kernel
theorem dX9_change_89 : decode cX9_change 89 = .ok (.aload 4, 2) := by decide +kernel
theorem dX9_change_91 : decode cX9_change 91 = .ok (.iload_n 3, 1) := by decide +kernel
theorem dX9_change_92 : decode cX9_change 92 = .ok (.iconst 1, 1) := by decide +kernel
theorem dX9_change_93 : decode cX9_change 93 = .ok (.if_icmp .ne 7, 3) := by decide +kernel
theorem dX9_change_96 : decode cX9_change 96 = .ok (.iconst 1, 1) := by decide +kernel
theorem dX9_change_97 : decode cX9_change 97 = .ok (.goto 4, 3) := by decide +kernel
theorem dX9_change_100 : decode cX9_change 100 = .ok (.iconst 0, 1) := by decide +kernel
theorem dX9_change_101 : decode cX9_change 101 = .ok (.putfield 99, 3) := by decide +kernel
theorem dX9_change_104 : decode cX9_change 104 = .ok (.goto 16, 3) := by decide +kernel
theorem dX9_change_107 : decode cX9_change 107 = .ok (.aload 4, 2) := by decide +kernel
theorem dX9_change_109 : decode cX9_change 109 = .ok (.getfield 103, 3) := by decide +kernel
theorem dX9_change_112 : decode cX9_change 112 = .ok (.istore 5, 2) := by decide +kernel
theorem dX9_change_114 : decode cX9_change 114 = .ok (.aload 4, 2) := by decide +kernel
theorem dX9_change_116 : decode cX9_change 116 = .ok (.iload_n 3, 1) := by decide +kernel
theorem dX9_change_117 : decode cX9_change 117 = .ok (.putfield 103, 3) := by decide +kernel
theorem dX9_change_120 : decode cX9_change 120 = .ok (.iload 5, 2) := by decide +kernel
theorem dX9_change_122 : decode cX9_change 122 = .ok (.ireturn, 1) := by decide +kernel
theorem dX9_fold_0 : decode cX9_fold 0 = .ok (.aload_n 0, 1) := by decide +kernel
theorem dX9_fold_1 : decode cX9_fold 1 = .ok (.getfield 30, 3) := by decide +kernel
theorem dX9_fold_4 : decode cX9_fold 4 = .ok (.iload_n 1, 1) := by decide +kernel
theorem dX9_fold_5 : decode cX9_fold 5 = .ok (.invokevirtual 77, 3) := by decide +kernel
theorem dX9_fold_8 : decode cX9_fold 8 = .ok (.ifCond .eq 13, 3) := by decide +kernel
theorem dX9_fold_11 : decode cX9_fold 11 = .ok (.iload_n 2, 1) := by decide +kernel
theorem dX9_fold_12 : decode cX9_fold 12 = .ok (.iconst 0, 1) := by decide +kernel
theorem dX9_fold_13 : decode cX9_fold 13 = .ok (.bipush 6, 2) := by decide +kernel
theorem dX9_fold_15 : decode cX9_fold 15 = .ok (.invokestatic 62, 3) := by decide +kernel
theorem dX9_fold_18 : decode cX9_fold 18 = .ok (.ifCond .ne 9, 3) := by decide +kernel
theorem dX9_fold_21 : decode cX9_fold 21 = .ok (.aload_n 0, 1) := by decide +kernel
theorem dX9_fold_22 : decode cX9_fold 22 = .ok (.iconst 1, 1) := by decide +kernel
theorem dX9_fold_23 : decode cX9_fold 23 = .ok (.invokevirtual 66, 3) := by decide +kernel
theorem dX9_fold_26 : decode cX9_fold 26 = .ok (.ireturn, 1) := by decide +kernel
theorem dX9_fold_27 : decode cX9_fold 27 = .ok (.aload_n 0, 1) := by decide +kernel
theorem dX9_fold_28 : decode cX9_fold 28 = .ok (.getfield 30, 3) := by decide +kernel
theorem dX9_fold_31 : decode cX9_fold 31 = .ok (.getfield 81, 3) := by decide +kernel
theorem dX9_fold_34 : decode cX9_fold 34 = .ok (.iload_n 1, 1) := by decide +kernel
theorem dX9_fold_35 : decode cX9_fold 35 = .ok (.aaload, 1) := by decide +kernel
theorem dX9_fold_36 : decode cX9_fold 36 = .ok (.astore_n 3, 1) := by decide +kernel
theorem dX9_fold_37 : decode cX9_fold 37 = .ok (.aload_n 3, 1) := by decide +kernel
theorem dX9_fold_38 : decode cX9_fold 38 = .ok (.getfield 96, 3) := by decide +kernel
theorem dX9_fold_41 : decode cX9_fold 41 = .ok (.iconst 1, 1) := by decide +kernel
theorem dX9_fold_42 : decode cX9_fold 42 = .ok (.iload_n 2, 1) := by decide +kernel
theorem dX9_fold_43 : decode cX9_fold 43 = .ok (.ishl, 1) := by decide +kernel
theorem dX9_fold_44 : decode cX9_fold 44 = .ok (.ixor, 1) := by decide +kernel
theorem dX9_fold_45 : decode cX9_fold 45 = .ok (.istore 4, 2) := by decide +kernel
theorem dX9_fold_47 : decode cX9_fold 47 = .ok (.aload_n 3, 1) := by decide +kernel
theorem dX9_fold_48 : decode cX9_fold 48 = .ok (.getfield 99, 3) := by decide +kernel
theorem dX9_fold_51 : decode cX9_fold 51 = .ok (.ifCond .ne 20, 3) := by decide +kernel
theorem dX9_fold_54 : decode cX9_fold 54 = .ok (.aload_n 0, 1) := by decide +kernel
theorem dX9_fold_55 : decode cX9_fold 55 = .ok (.getfield 23, 3) := by decide +kernel
theorem dX9_fold_58 : decode cX9_fold 58 = .ok (.getfield 109, 3) := by decide +kernel
theorem dX9_fold_61 : decode cX9_fold 61 = .ok (.iload 4, 2) := by decide +kernel
theorem dX9_fold_63 : decode cX9_fold 63 = .ok (.iaload, 1) := by decide +kernel
theorem dX9_fold_64 : decode cX9_fold 64 = .ok (.aload_n 3, 1) := by decide +kernel
theorem dX9_fold_65 : decode cX9_fold 65 = .ok (.invokevirtual 112, 3) := by decide +kernel
theorem dX9_fold_68 : decode cX9_fold 68 = .ok (.if_icmp .le 9, 3) := by decide +kernel
theorem dX9_fold_71 : decode cX9_fold 71 = .ok (.aload_n 0, 1) := by decide +kernel
theorem dX9_fold_72 : decode cX9_fold 72 = .ok (.iconst 3, 1) := by decide +kernel
theorem dX9_fold_73 : decode cX9_fold 73 = .ok (.invokevirtual 66, 3) := by decide +kernel
theorem dX9_fold_76 : decode cX9_fold 76 = .ok (.ireturn, 1) := by decide +kernel
theorem dX9_fold_77 : decode cX9_fold 77 = .ok (.aload_n 3, 1) := by decide +kernel
theorem dX9_fold_78 : decode cX9_fold 78 = .ok (.iload 4, 2) := by decide +kernel
theorem dX9_fold_80 : decode cX9_fold 80 = .ok (.putfield 96, 3) := by decide +kernel
theorem dX9_fold_83 : decode cX9_fold 83 = .ok (.aload_n 0, 1) := by decide +kernel
theorem dX9_fold_84 : decode cX9_fold 84 = .ok (.getfield 23, 3) := by decide +kernel
theorem dX9_fold_87 : decode cX9_fold 87 = .ok (.getfield 106, 3) := by decide +kernel
theorem dX9_fold_90 : decode cX9_fold 90 = .ok (.iload 4, 2) := by decide +kernel
theorem dX9_fold_92 : decode cX9_fold 92 = .ok (.iaload, 1) := by decide +kernel
theorem dX9_fold_93 : decode cX9_fold 93 = .ok (.ireturn, 1) := by decide +kernel
theorem dX9_release_0 : decode cX9_release 0 = .ok (.aload_n 0, 1) := by decide +kernel
theorem dX9_release_1 : decode cX9_release 1 = .ok (.getfield 30, 3) := by decide +kernel
theorem dX9_release_4 : decode cX9_release 4 = .ok (.iload_n 1, 1) := by decide +kernel
theorem dX9_release_5 : decode cX9_release 5 = .ok (.invokevirtual 77, 3) := by decide +kernel
theorem dX9_release_8 : decode cX9_release 8 = .ok (.ifCond .ne 9, 3) := by decide +kernel
theorem dX9_release_11 : decode cX9_release 11 = .ok (.aload_n 0, 1) := by decide +kernel
theorem dX9_release_12 : decode cX9_release 12 = .ok (.iconst 1, 1) := by decide +kernel
theorem dX9_release_13 : decode cX9_release 13 = .ok (.invokevirtual 66, 3) := by decide +kernel
theorem dX9_release_16 : decode cX9_release 16 = .ok (.ireturn, 1) := by decide +kernel
theorem dX9_release_17 : decode cX9_release 17 = .ok (.aload_n 0, 1) := by decide +kernel
theorem dX9_release_18 : decode cX9_release 18 = .ok (.getfield 30, 3) := by decide +kernel
theorem dX9_release_21 : decode cX9_release 21 = .ok (.getfield 81, 3) := by decide +kernel
theorem dX9_release_24 : decode cX9_release 24 = .ok (.iload_n 1, 1) := by decide +kernel
theorem dX9_release_25 : decode cX9_release 25 = .ok (.aaload, 1) := by decide +kernel
theorem dX9_release_26 : decode cX9_release 26 = .ok (.astore_n 2, 1) := by decide +kernel
theorem dX9_release_27 : decode cX9_release 27 = .ok (.aload_n 2, 1) := by decide +kernel
theorem dX9_release_28 : decode cX9_release 28 = .ok (.getfield 99, 3) := by decide +kernel
theorem dX9_release_31 : decode cX9_release 31 = .ok (.ifCond .ne 18, 3) := by decide +kernel
theorem dX9_release_34 : decode cX9_release 34 = .ok (.aload_n 0, 1) := by decide +kernel
theorem dX9_release_35 : decode cX9_release 35 = .ok (.getfield 23, 3) := by decide +kernel
theorem dX9_release_38 : decode cX9_release 38 = .ok (.aload_n 2, 1) := by decide +kernel
theorem dX9_release_39 : decode cX9_release 39 = .ok (.aload_n 2, 1) := by decide +kernel
theorem dX9_release_40 : decode cX9_release 40 = .ok (.getfield 96, 3) := by decide +kernel
theorem dX9_release_43 : decode cX9_release 43 = .ok (.invokevirtual 116, 3) := by decide +kernel
theorem dX9_release_46 : decode cX9_release 46 = .ok (.ifCond .ne 9, 3) := by decide +kernel
theorem dX9_release_49 : decode cX9_release 49 = .ok (.aload_n 0, 1) := by decide +kernel
theorem dX9_release_50 : decode cX9_release 50 = .ok (.iconst 3, 1) := by decide +kernel
theorem dX9_release_51 : decode cX9_release 51 = .ok (.invokevirtual 66, 3) := by decide +kernel
theorem dX9_release_54 : decode cX9_release 54 = .ok (.ireturn, 1) := by decide +kernel
theorem dX9_release_55 : decode cX9_release 55 = .ok (.aload_n 2, 1) := by decide +kernel
theorem dX9_release_56 : decode cX9_release 56 = .ok (.iconst 1, 1) := by decide +kernel
theorem dX9_release_57 : decode cX9_release 57 = .ok (.putfield 99, 3) := by decide +kernel
theorem dX9_release_60 : decode cX9_release 60 = .ok (.aload_n 2, 1) := by decide +kernel
theorem dX9_release_61 : decode cX9_release 61 = .ok (.getfield 93, 3) := by decide +kernel
theorem dX9_release_64 : decode cX9_release 64 = .ok (.ireturn, 1) := by decide +kernel
theorem dX9_wind_0 : decode cX9_wind 0 = .ok (.iload_n 1, 1) := by decide +kernel
theorem dX9_wind_1 : decode cX9_wind 1 = .ok (.iconst 0, 1) := by decide +kernel
theorem dX9_wind_2 : decode cX9_wind 2 = .ok (.bipush 9, 2) := by decide +kernel
theorem dX9_wind_4 : decode cX9_wind 4 = .ok (.invokestatic 62, 3) := by decide +kernel
theorem dX9_wind_7 : decode cX9_wind 7 = .ok (.ifCond .ne 9, 3) := by decide +kernel
theorem dX9_wind_10 : decode cX9_wind 10 = .ok (.aload_n 0, 1) := by decide +kernel
theorem dX9_wind_11 : decode cX9_wind 11 = .ok (.iconst 1, 1) := by decide +kernel
theorem dX9_wind_12 : decode cX9_wind 12 = .ok (.invokevirtual 66, 3) := by decide +kernel
theorem dX9_wind_15 : decode cX9_wind 15 = .ok (.ireturn, 1) := by decide +kernel
theorem dX9_wind_16 : decode cX9_wind 16 = .ok (.aload_n 0, 1) := by decide +kernel
theorem dX9_wind_17 : decode cX9_wind 17 = .ok (.getfield 30, 3) := by decide +kernel
theorem dX9_wind_20 : decode cX9_wind 20 = .ok (.getfield 123, 3) := by decide +kernel
theorem dX9_wind_23 : decode cX9_wind 23 = .ok (.istore_n 2, 1) := by decide +kernel
theorem dX9_wind_24 : decode cX9_wind 24 = .ok (.aload_n 0, 1) := by decide +kernel
theorem dX9_wind_25 : decode cX9_wind 25 = .ok (.getfield 30, 3) := by decide +kernel
theorem dX9_wind_28 : decode cX9_wind 28 = .ok (.iload_n 1, 1) := by decide +kernel
theorem dX9_wind_29 : decode cX9_wind 29 = .ok (.putfield 123, 3) := by decide +kernel
theorem dX9_wind_32 : decode cX9_wind 32 = .ok (.iload_n 2, 1) := by decide +kernel
theorem dX9_wind_33 : decode cX9_wind 33 = .ok (.ireturn, 1) := by decide +kernel
theorem dX9_become_0 : decode cX9_become 0 = .ok (.aload_n 0, 1) := by decide +kernel
theorem dX9_become_1 : decode cX9_become 1 = .ok (.getfield 30, 3) := by decide +kernel
theorem dX9_become_4 : decode cX9_become 4 = .ok (.iload_n 1, 1) := by decide +kernel
theorem dX9_become_5 : decode cX9_become 5 = .ok (.invokevirtual 77, 3) := by decide +kernel
theorem dX9_become_8 : decode cX9_become 8 = .ok (.ifCond .eq 13, 3) := by decide +kernel
theorem dX9_become_11 : decode cX9_become 11 = .ok (.iload_n 2, 1) := by decide +kernel
theorem dX9_become_12 : decode cX9_become 12 = .ok (.iconst 0, 1) := by decide +kernel
theorem dX9_become_13 : decode cX9_become 13 = .ok (.bipush 69, 2) := by decide +kernel
theorem dX9_become_15 : decode cX9_become 15 = .ok (.invokestatic 62, 3) := by decide +kernel
theorem dX9_become_18 : decode cX9_become 18 = .ok (.ifCond .ne 9, 3) := by decide +kernel
theorem dX9_become_21 : decode cX9_become 21 = .ok (.aload_n 0, 1) := by decide +kernel
theorem dX9_become_22 : decode cX9_become 22 = .ok (.iconst 1, 1) := by decide +kernel
theorem dX9_become_23 : decode cX9_become 23 = .ok (.invokevirtual 66, 3) := by decide +kernel
theorem dX9_become_26 : decode cX9_become 26 = .ok (.ireturn, 1) := by decide +kernel
theorem dX9_become_27 : decode cX9_become 27 = .ok (.aload_n 0, 1) := by decide +kernel
theorem dX9_become_28 : decode cX9_become 28 = .ok (.getfield 30, 3) := by decide +kernel
theorem dX9_become_31 : decode cX9_become 31 = .ok (.getfield 81, 3) := by decide +kernel
theorem dX9_become_34 : decode cX9_become 34 = .ok (.iload_n 1, 1) := by decide +kernel
theorem dX9_become_35 : decode cX9_become 35 = .ok (.aaload, 1) := by decide +kernel
theorem dX9_become_36 : decode cX9_become 36 = .ok (.astore_n 3, 1) := by decide +kernel
theorem dX9_become_37 : decode cX9_become 37 = .ok (.aload_n 3, 1) := by decide +kernel
theorem dX9_become_38 : decode cX9_become 38 = .ok (.getfield 85, 3) := by decide +kernel
theorem dX9_become_41 : decode cX9_become 41 = .ok (.istore 4, 2) := by decide +kernel
theorem dX9_become_43 : decode cX9_become 43 = .ok (.aload_n 3, 1) := by decide +kernel
theorem dX9_become_44 : decode cX9_become 44 = .ok (.iload_n 2, 1) := by decide +kernel
theorem dX9_become_45 : decode cX9_become 45 = .ok (.bipush 10, 2) := by decide +kernel
theorem dX9_become_47 : decode cX9_become 47 = .ok (.idiv, 1) := by decide +kernel
theorem dX9_become_48 : decode cX9_become 48 = .ok (.putfield 85, 3) := by decide +kernel
theorem dX9_become_51 : decode cX9_become 51 = .ok (.aload_n 3, 1) := by decide +kernel
theorem dX9_become_52 : decode cX9_become 52 = .ok (.iload_n 2, 1) := by decide +kernel
theorem dX9_become_53 : decode cX9_become 53 = .ok (.bipush 10, 2) := by decide +kernel
theorem dX9_become_55 : decode cX9_become 55 = .ok (.irem, 1) := by decide +kernel
theorem dX9_become_56 : decode cX9_become 56 = .ok (.putfield 90, 3) := by decide +kernel
theorem dX9_become_59 : decode cX9_become 59 = .ok (.iload 4, 2) := by decide +kernel
theorem dX9_become_61 : decode cX9_become 61 = .ok (.ireturn, 1) := by decide +kernel
theorem dX9_as_0 : decode cX9_as 0 = .ok (.aload_n 0, 1) := by decide +kernel
theorem dX9_as_1 : decode cX9_as 1 = .ok (.getfield 30, 3) := by decide +kernel
theorem dX9_as_4 : decode cX9_as 4 = .ok (.iload_n 1, 1) := by decide +kernel
theorem dX9_as_5 : decode cX9_as 5 = .ok (.invokevirtual 77, 3) := by decide +kernel
theorem dX9_as_8 : decode cX9_as 8 = .ok (.ifCond .eq 13, 3) := by decide +kernel
theorem dX9_as_11 : decode cX9_as 11 = .ok (.iload_n 2, 1) := by decide +kernel
theorem dX9_as_12 : decode cX9_as 12 = .ok (.iconst 0, 1) := by decide +kernel
theorem dX9_as_13 : decode cX9_as 13 = .ok (.bipush 6, 2) := by decide +kernel
theorem dX9_as_15 : decode cX9_as 15 = .ok (.invokestatic 62, 3) := by decide +kernel
theorem dX9_as_18 : decode cX9_as 18 = .ok (.ifCond .ne 9, 3) := by decide +kernel
theorem dX9_as_21 : decode cX9_as 21 = .ok (.aload_n 0, 1) := by decide +kernel
theorem dX9_as_22 : decode cX9_as 22 = .ok (.iconst 1, 1) := by decide +kernel
theorem dX9_as_23 : decode cX9_as 23 = .ok (.invokevirtual 66, 3) := by decide +kernel
theorem dX9_as_26 : decode cX9_as 26 = .ok (.ireturn, 1) := by decide +kernel
theorem dX9_as_27 : decode cX9_as 27 = .ok (.aload_n 0, 1) := by decide +kernel
theorem dX9_as_28 : decode cX9_as 28 = .ok (.getfield 30, 3) := by decide +kernel
theorem dX9_as_31 : decode cX9_as 31 = .ok (.getfield 81, 3) := by decide +kernel
theorem dX9_as_34 : decode cX9_as 34 = .ok (.iload_n 1, 1) := by decide +kernel
theorem dX9_as_35 : decode cX9_as 35 = .ok (.aaload, 1) := by decide +kernel
theorem dX9_as_36 : decode cX9_as 36 = .ok (.astore_n 3, 1) := by decide +kernel
theorem dX9_as_37 : decode cX9_as 37 = .ok (.aload_n 3, 1) := by decide +kernel
theorem dX9_as_38 : decode cX9_as 38 = .ok (.getfield 85, 3) := by decide +kernel
theorem dX9_as_41 : decode cX9_as 41 = .ok (.iload_n 2, 1) := by decide +kernel
theorem dX9_as_42 : decode cX9_as 42 = .ok (.invokestatic 126, 3) := by decide +kernel
theorem dX9_as_45 : decode cX9_as 45 = .ok (.ifCond .ne 9, 3) := by decide +kernel
theorem dX9_as_48 : decode cX9_as 48 = .ok (.aload_n 0, 1) := by decide +kernel
theorem dX9_as_49 : decode cX9_as 49 = .ok (.iconst 5, 1) := by decide +kernel
theorem dX9_as_50 : decode cX9_as 50 = .ok (.invokevirtual 66, 3) := by decide +kernel
theorem dX9_as_53 : decode cX9_as 53 = .ok (.ireturn, 1) := by decide +kernel
theorem dX9_as_54 : decode cX9_as 54 = .ok (.aload_n 3, 1) := by decide +kernel
theorem dX9_as_55 : decode cX9_as 55 = .ok (.getfield 90, 3) := by decide +kernel
theorem dX9_as_58 : decode cX9_as 58 = .ok (.ireturn, 1) := by decide +kernel
theorem dX9_feed_0 : decode cX9_feed 0 = .ok (.iload_n 3, 1) := by decide +kernel
theorem dX9_feed_1 : decode cX9_feed 1 = .ok (.iconst 1, 1) := by decide +kernel
theorem dX9_feed_2 : decode cX9_feed 2 = .ok (.bipush 8, 2) := by decide +kernel
theorem dX9_feed_4 : decode cX9_feed 4 = .ok (.invokestatic 62, 3) := by decide +kernel
theorem dX9_feed_7 : decode cX9_feed 7 = .ok (.ifCond .ne 9, 3) := by decide +kernel
theorem dX9_feed_10 : decode cX9_feed 10 = .ok (.aload_n 0, 1) := by decide +kernel
theorem dX9_feed_11 : decode cX9_feed 11 = .ok (.iconst 1, 1) := by decide +kernel
theorem dX9_feed_12 : decode cX9_feed 12 = .ok (.invokevirtual 66, 3) := by decide +kernel
theorem dX9_feed_15 : decode cX9_feed 15 = .ok (.ireturn, 1) := by decide +kernel
theorem dX9_feed_16 : decode cX9_feed 16 = .ok (.aload_n 0, 1) := by decide +kernel
theorem dX9_feed_17 : decode cX9_feed 17 = .ok (.getfield 30, 3) := by decide +kernel
theorem dX9_feed_20 : decode cX9_feed 20 = .ok (.getfield 130, 3) := by decide +kernel
theorem dX9_feed_23 : decode cX9_feed 23 = .ok (.iload_n 3, 1) := by decide +kernel
theorem dX9_feed_24 : decode cX9_feed 24 = .ok (.iadd, 1) := by decide +kernel
theorem dX9_feed_25 : decode cX9_feed 25 = .ok (.bipush 50, 2) := by decide +kernel
theorem dX9_feed_27 : decode cX9_feed 27 = .ok (.if_icmp .le 9, 3) := by decide +kernel
theorem dX9_feed_30 : decode cX9_feed 30 = .ok (.aload_n 0, 1) := by decide +kernel
theorem dX9_feed_31 : decode cX9_feed 31 = .ok (.iconst 4, 1) := by decide +kernel
theorem dX9_feed_32 : decode cX9_feed 32 = .ok (.invokevirtual 66, 3) := by decide +kernel
theorem dX9_feed_35 : decode cX9_feed 35 = .ok (.ireturn, 1) := by decide +kernel
theorem dX9_feed_36 : decode cX9_feed 36 = .ok (.iconst 0, 1) := by decide +kernel
theorem dX9_feed_37 : decode cX9_feed 37 = .ok (.istore 4, 2) := by decide +kernel
theorem dX9_feed_39 : decode cX9_feed 39 = .ok (.iload 4, 2) := by decide +kernel
theorem dX9_feed_41 : decode cX9_feed 41 = .ok (.iload_n 3, 1) := by decide +kernel
theorem dX9_feed_42 : decode cX9_feed 42 = .ok (.if_icmp .ge 39, 3) := by decide +kernel
theorem dX9_feed_45 : decode cX9_feed 45 = .ok (.aload_n 0, 1) := by decide +kernel
theorem dX9_feed_46 : decode cX9_feed 46 = .ok (.getfield 30, 3) := by decide +kernel
theorem dX9_feed_49 : decode cX9_feed 49 = .ok (.getfield 133, 3) := by decide +kernel
theorem dX9_feed_52 : decode cX9_feed 52 = .ok (.aload_n 0, 1) := by decide +kernel
theorem dX9_feed_53 : decode cX9_feed 53 = .ok (.getfield 30, 3) := by decide +kernel
theorem dX9_feed_56 : decode cX9_feed 56 = .ok (.getfield 130, 3) := by decide +kernel
theorem dX9_feed_59 : decode cX9_feed 59 = .ok (.iload 4, 2) := by decide +kernel
theorem dX9_feed_61 : decode cX9_feed 61 = .ok (.iadd, 1) := by decide +kernel
theorem dX9_feed_62 : decode cX9_feed 62 = .ok (.lload_n 1, 1) := by decide +kernel
theorem dX9_feed_63 : decode cX9_feed 63 = .ok (.bipush 8, 2) := by decide +kernel
theorem dX9_feed_65 : decode cX9_feed 65 = .ok (.iload 4, 2) := by decide +kernel
theorem dX9_feed_67 : decode cX9_feed 67 = .ok (.imul, 1) := by decide +kernel
theorem dX9_feed_68 : decode cX9_feed 68 = .ok (.lushr, 1) := by decide +kernel
theorem dX9_feed_69 : decode cX9_feed 69 = .ok (.ldc2_w 136, 3) := by decide +kernel
theorem dX9_feed_72 : decode cX9_feed 72 = .ok (.land, 1) := by decide +kernel
theorem dX9_feed_73 : decode cX9_feed 73 = .ok (.l2i, 1) := by decide +kernel
theorem dX9_feed_74 : decode cX9_feed 74 = .ok (.iastore, 1) := by decide +kernel
theorem dX9_feed_75 : decode cX9_feed 75 = .ok (.iinc 4 1, 3) := by decide +kernel
theorem dX9_feed_78 : decode cX9_feed 78 = .ok (.goto (-39), 3) := by decide +kernel
theorem dX9_feed_81 : decode cX9_feed 81 = .ok (.aload_n 0, 1) := by decide +kernel
theorem dX9_feed_82 : decode cX9_feed 82 = .ok (.getfield 30, 3) := by decide +kernel
theorem dX9_feed_85 : decode cX9_feed 85 = .ok (.dup, 1) := by decide +kernel
theorem dX9_feed_86 : decode cX9_feed 86 = .ok (.getfield 130, 3) := by decide +kernel
theorem dX9_feed_89 : decode cX9_feed 89 = .ok (.iload_n 3, 1) := by decide +kernel
theorem dX9_feed_90 : decode cX9_feed 90 = .ok (.iadd, 1) := by decide +kernel
theorem dX9_feed_91 : decode cX9_feed 91 = .ok (.putfield 130, 3) := by decide +kernel
theorem dX9_feed_94 : decode cX9_feed 94 = .ok (.aload_n 0, 1) := by decide +kernel
theorem dX9_feed_95 : decode cX9_feed 95 = .ok (.getfield 30, 3) := by decide +kernel
theorem dX9_feed_98 : decode cX9_feed 98 = .ok (.getfield 130, 3) := by decide +kernel
theorem dX9_feed_101 : decode cX9_feed 101 = .ok (.ireturn, 1) := by decide +kernel
theorem dX9_text_0 : decode cX9_text 0 = .ok (.iload_n 1, 1) := by decide +kernel
theorem dX9_text_1 : decode cX9_text 1 = .ok (.iconst 0, 1) := by decide +kernel
theorem dX9_text_2 : decode cX9_text 2 = .ok (.iconst 1, 1) := by decide +kernel
theorem dX9_text_3 : decode cX9_text 3 = .ok (.invokestatic 62, 3) := by decide +kernel
theorem dX9_text_6 : decode cX9_text 6 = .ok (.ifCond .ne 9, 3) := by decide +kernel
theorem dX9_text_9 : decode cX9_text 9 = .ok (.aload_n 0, 1) := by decide +kernel
theorem dX9_text_10 : decode cX9_text 10 = .ok (.iconst 1, 1) := by decide +kernel
theorem dX9_text_11 : decode cX9_text 11 = .ok (.invokevirtual 66, 3) := by decide +kernel
theorem dX9_text_14 : decode cX9_text 14 = .ok (.ireturn, 1) := by decide +kernel
theorem dX9_text_15 : decode cX9_text 15 = .ok (.aload_n 0, 1) := by decide +kernel
theorem dX9_text_16 : decode cX9_text 16 = .ok (.getfield 47, 3) := by decide +kernel
theorem dX9_text_19 : decode cX9_text 19 = .ok (.aload_n 0, 1) := by decide +kernel
theorem dX9_text_20 : decode cX9_text 20 = .ok (.getfield 30, 3) := by decide +kernel
theorem dX9_text_23 : decode cX9_text 23 = .ok (.getfield 133, 3) := by decide +kernel
theorem dX9_text_26 : decode cX9_text 26 = .ok (.aload_n 0, 1) := by decide +kernel
theorem dX9_text_27 : decode cX9_text 27 = .ok (.getfield 30, 3) := by decide +kernel
theorem dX9_text_30 : decode cX9_text 30 = .ok (.getfield 130, 3) := by decide +kernel
theorem dX9_text_33 : decode cX9_text 33 = .ok (.iload_n 1, 1) := by decide +kernel
theorem dX9_text_34 : decode cX9_text 34 = .ok (.invokevirtual 138, 3) := by decide +kernel
theorem dX9_text_37 : decode cX9_text 37 = .ok (.istore_n 2, 1) := by decide +kernel
theorem dX9_text_38 : decode cX9_text 38 = .ok (.aload_n 0, 1) := by decide +kernel
theorem dX9_text_39 : decode cX9_text 39 = .ok (.getfield 30, 3) := by decide +kernel
theorem dX9_text_42 : decode cX9_text 42 = .ok (.iconst 0, 1) := by decide +kernel
theorem dX9_text_43 : decode cX9_text 43 = .ok (.putfield 130, 3) := by decide +kernel
theorem dX9_text_46 : decode cX9_text 46 = .ok (.iload_n 2, 1) := by decide +kernel
theorem dX9_text_47 : decode cX9_text 47 = .ok (.ifCond .ne 14, 3) := by decide +kernel
theorem dX9_text_50 : decode cX9_text 50 = .ok (.bipush (-10), 2) := by decide +kernel
theorem dX9_text_52 : decode cX9_text 52 = .ok (.aload_n 0, 1) := by decide +kernel
theorem dX9_text_53 : decode cX9_text 53 = .ok (.getfield 47, 3) := by decide +kernel
theorem dX9_text_56 : decode cX9_text 56 = .ok (.getfield 142, 3) := by decide +kernel
theorem dX9_text_59 : decode cX9_text 59 = .ok (.isub, 1) := by decide +kernel
theorem dX9_text_60 : decode cX9_text 60 = .ok (.ireturn, 1) := by decide +kernel
theorem dX9_text_61 : decode cX9_text 61 = .ok (.aload_n 0, 1) := by decide +kernel
theorem dX9_text_62 : decode cX9_text 62 = .ok (.getfield 30, 3) := by decide +kernel
theorem dX9_text_65 : decode cX9_text 65 = .ok (.getfield 145, 3) := by decide +kernel
theorem dX9_text_68 : decode cX9_text 68 = .ok (.iload_n 1, 1) := by decide +kernel
theorem dX9_text_69 : decode cX9_text 69 = .ok (.aaload, 1) := by decide +kernel
theorem dX9_text_70 : decode cX9_text 70 = .ok (.aload_n 0, 1) := by decide +kernel
theorem dX9_text_71 : decode cX9_text 71 = .ok (.getfield 47, 3) := by decide +kernel
theorem dX9_text_74 : decode cX9_text 74 = .ok (.getfield 149, 3) := by decide +kernel
theorem dX9_text_77 : decode cX9_text 77 = .ok (.invokevirtual 153, 3) := by decide +kernel
theorem dX9_text_80 : decode cX9_text 80 = .ok (.iconst 1, 1) := by decide +kernel
theorem dX9_text_81 : decode cX9_text 81 = .ok (.ireturn, 1) := by decide +kernel
theorem dX9_law_0 : decode cX9_law 0 = .ok (.iload_n 1, 1) := by decide +kernel
theorem dX9_law_1 : decode cX9_law 1 = .ok (.iconst 0, 1) := by decide +kernel
theorem dX9_law_2 : decode cX9_law 2 = .ok (.iconst 1, 1) := by decide +kernel
theorem dX9_law_3 : decode cX9_law 3 = .ok (.invokestatic 62, 3) := by decide +kernel
theorem dX9_law_6 : decode cX9_law 6 = .ok (.ifCond .ne 9, 3) := by decide +kernel
theorem dX9_law_9 : decode cX9_law 9 = .ok (.aload_n 0, 1) := by decide +kernel
theorem dX9_law_10 : decode cX9_law 10 = .ok (.iconst 1, 1) := by decide +kernel
theorem dX9_law_11 : decode cX9_law 11 = .ok (.invokevirtual 66, 3) := by decide +kernel
theorem dX9_law_14 : decode cX9_law 14 = .ok (.ireturn, 1) := by decide +kernel
theorem dX9_law_15 : decode cX9_law 15 = .ok (.aload_n 0, 1) := by decide +kernel
theorem dX9_law_16 : decode cX9_law 16 = .ok (.getfield 30, 3) := by decide +kernel
theorem dX9_law_19 : decode cX9_law 19 = .ok (.iload_n 1, 1) := by decide +kernel
theorem dX9_law_20 : decode cX9_law 20 = .ok (.iload_n 2, 1) := by decide +kernel
theorem dX9_law_21 : decode cX9_law 21 = .ok (.iload_n 3, 1) := by decide +kernel
theorem dX9_law_22 : decode cX9_law 22 = .ok (.iload 4, 2) := by decide +kernel
theorem dX9_law_24 : decode cX9_law 24 = .ok (.invokevirtual 159, 3) := by decide +kernel
theorem dX9_law_27 : decode cX9_law 27 = .ok (.ireturn, 1) := by decide +kernel
theorem dX9_days_0 : decode cX9_days 0 = .ok (.iload_n 1, 1) := by decide +kernel
theorem dX9_days_1 : decode cX9_days 1 = .ok (.iconst 1, 1) := by decide +kernel
theorem dX9_days_2 : decode cX9_days 2 = .ok (.bipush 60, 2) := by decide +kernel
theorem dX9_days_4 : decode cX9_days 4 = .ok (.invokestatic 62, 3) := by decide +kernel
theorem dX9_days_7 : decode cX9_days 7 = .ok (.ifCond .ne 9, 3) := by decide +kernel
theorem dX9_days_10 : decode cX9_days 10 = .ok (.aload_n 0, 1) := by decide +kernel
theorem dX9_days_11 : decode cX9_days 11 = .ok (.iconst 1, 1) := by decide +kernel
theorem dX9_days_12 : decode cX9_days 12 = .ok (.invokevirtual 66, 3) := by decide +kernel
theorem dX9_days_15 : decode cX9_days 15 = .ok (.ireturn, 1) := by decide +kernel
theorem dX9_days_16 : decode cX9_days 16 = .ok (.aload_n 0, 1) := by decide +kernel
theorem dX9_days_17 : decode cX9_days 17 = .ok (.getfield 30, 3) := by decide +kernel
theorem dX9_days_20 : decode cX9_days 20 = .ok (.getfield 163, 3) := by decide +kernel
theorem dX9_days_23 : decode cX9_days 23 = .ok (.iload_n 1, 1) := by decide +kernel
theorem dX9_days_24 : decode cX9_days 24 = .ok (.iadd, 1) := by decide +kernel
theorem dX9_days_25 : decode cX9_days 25 = .ok (.sipush 9999, 3) := by decide +kernel
theorem dX9_days_28 : decode cX9_days 28 = .ok (.if_icmp .le 9, 3) := by decide +kernel
theorem dX9_days_31 : decode cX9_days 31 = .ok (.aload_n 0, 1) := by decide +kernel
theorem dX9_days_32 : decode cX9_days 32 = .ok (.iconst 3, 1) := by decide +kernel
theorem dX9_days_33 : decode cX9_days 33 = .ok (.invokevirtual 66, 3) := by decide +kernel
theorem dX9_days_36 : decode cX9_days 36 = .ok (.ireturn, 1) := by decide +kernel
theorem dX9_days_37 : decode cX9_days 37 = .ok (.aload_n 0, 1) := by decide +kernel
theorem dX9_days_38 : decode cX9_days 38 = .ok (.getfield 40, 3) := by decide +kernel
theorem dX9_days_41 : decode cX9_days 41 = .ok (.aload_n 0, 1) := by decide +kernel
theorem dX9_days_42 : decode cX9_days 42 = .ok (.getfield 30, 3) := by decide +kernel
theorem dX9_days_45 : decode cX9_days 45 = .ok (.aload_n 0, 1) := by decide +kernel
theorem dX9_days_46 : decode cX9_days 46 = .ok (.getfield 23, 3) := by decide +kernel
theorem dX9_days_49 : decode cX9_days 49 = .ok (.iload_n 1, 1) := by decide +kernel
theorem dX9_days_50 : decode cX9_days 50 = .ok (.invokevirtual 166, 3) := by decide +kernel
theorem dX9_days_53 : decode cX9_days 53 = .ok (.aload_n 0, 1) := by decide +kernel
theorem dX9_days_54 : decode cX9_days 54 = .ok (.getfield 30, 3) := by decide +kernel
theorem dX9_days_57 : decode cX9_days 57 = .ok (.invokevirtual 170, 3) := by decide +kernel
theorem dX9_days_60 : decode cX9_days 60 = .ok (.ireturn, 1) := by decide +kernel
theorem dX9_loose_0 : decode cX9_loose 0 = .ok (.iload_n 1, 1) := by decide +kernel
theorem dX9_loose_1 : decode cX9_loose 1 = .ok (.iconst 1, 1) := by decide +kernel
theorem dX9_loose_2 : decode cX9_loose 2 = .ok (.bipush 40, 2) := by decide +kernel
theorem dX9_loose_4 : decode cX9_loose 4 = .ok (.invokestatic 62, 3) := by decide +kernel
theorem dX9_loose_7 : decode cX9_loose 7 = .ok (.ifCond .ne 9, 3) := by decide +kernel
theorem dX9_loose_10 : decode cX9_loose 10 = .ok (.aload_n 0, 1) := by decide +kernel
theorem dX9_loose_11 : decode cX9_loose 11 = .ok (.iconst 1, 1) := by decide +kernel
theorem dX9_loose_12 : decode cX9_loose 12 = .ok (.invokevirtual 66, 3) := by decide +kernel
theorem dX9_loose_15 : decode cX9_loose 15 = .ok (.ireturn, 1) := by decide +kernel
theorem dX9_loose_16 : decode cX9_loose 16 = .ok (.aload_n 0, 1) := by decide +kernel
theorem dX9_loose_17 : decode cX9_loose 17 = .ok (.getfield 30, 3) := by decide +kernel
theorem dX9_loose_20 : decode cX9_loose 20 = .ok (.getfield 163, 3) := by decide +kernel
theorem dX9_loose_23 : decode cX9_loose 23 = .ok (.iload_n 1, 1) := by decide +kernel
theorem dX9_loose_24 : decode cX9_loose 24 = .ok (.iadd, 1) := by decide +kernel
theorem dX9_loose_25 : decode cX9_loose 25 = .ok (.sipush 9999, 3) := by decide +kernel
theorem dX9_loose_28 : decode cX9_loose 28 = .ok (.if_icmp .le 9, 3) := by decide +kernel
theorem dX9_loose_31 : decode cX9_loose 31 = .ok (.aload_n 0, 1) := by decide +kernel
theorem dX9_loose_32 : decode cX9_loose 32 = .ok (.iconst 3, 1) := by decide +kernel
theorem dX9_loose_33 : decode cX9_loose 33 = .ok (.invokevirtual 66, 3) := by decide +kernel
theorem dX9_loose_36 : decode cX9_loose 36 = .ok (.ireturn, 1) := by decide +kernel
theorem dX9_loose_37 : decode cX9_loose 37 = .ok (.iconst 0, 1) := by decide +kernel
theorem dX9_loose_38 : decode cX9_loose 38 = .ok (.istore_n 2, 1) := by decide +kernel
theorem dX9_loose_39 : decode cX9_loose 39 = .ok (.iload_n 2, 1) := by decide +kernel
theorem dX9_loose_40 : decode cX9_loose 40 = .ok (.iload_n 1, 1) := by decide +kernel
theorem dX9_loose_41 : decode cX9_loose 41 = .ok (.if_icmp .ge 42, 3) := by decide +kernel
theorem dX9_loose_44 : decode cX9_loose 44 = .ok (.aload_n 0, 1) := by decide +kernel
theorem dX9_loose_45 : decode cX9_loose 45 = .ok (.getfield 30, 3) := by decide +kernel
theorem dX9_loose_48 : decode cX9_loose 48 = .ok (.aload_n 0, 1) := by decide +kernel
theorem dX9_loose_49 : decode cX9_loose 49 = .ok (.getfield 30, 3) := by decide +kernel
theorem dX9_loose_52 : decode cX9_loose 52 = .ok (.invokevirtual 173, 3) := by decide +kernel
theorem dX9_loose_55 : decode cX9_loose 55 = .ok (.bipush 10, 2) := by decide +kernel
theorem dX9_loose_57 : decode cX9_loose 57 = .ok (.irem, 1) := by decide +kernel
theorem dX9_loose_58 : decode cX9_loose 58 = .ok (.putfield 123, 3) := by decide +kernel
theorem dX9_loose_61 : decode cX9_loose 61 = .ok (.aload_n 0, 1) := by decide +kernel
theorem dX9_loose_62 : decode cX9_loose 62 = .ok (.getfield 40, 3) := by decide +kernel
theorem dX9_loose_65 : decode cX9_loose 65 = .ok (.aload_n 0, 1) := by decide +kernel
theorem dX9_loose_66 : decode cX9_loose 66 = .ok (.getfield 30, 3) := by decide +kernel
theorem dX9_loose_69 : decode cX9_loose 69 = .ok (.aload_n 0, 1) := by decide +kernel
theorem dX9_loose_70 : decode cX9_loose 70 = .ok (.getfield 23, 3) := by decide +kernel
theorem dX9_loose_73 : decode cX9_loose 73 = .ok (.iconst 1, 1) := by decide +kernel
theorem dX9_loose_74 : decode cX9_loose 74 = .ok (.invokevirtual 166, 3) := by decide +kernel
theorem dX9_loose_77 : decode cX9_loose 77 = .ok (.iinc 2 1, 3) := by decide +kernel
theorem dX9_loose_80 : decode cX9_loose 80 = .ok (.goto (-41), 3) := by decide +kernel
theorem dX9_loose_83 : decode cX9_loose 83 = .ok (.aload_n 0, 1) := by decide +kernel
theorem dX9_loose_84 : decode cX9_loose 84 = .ok (.getfield 30, 3) := by decide +kernel
theorem dX9_loose_87 : decode cX9_loose 87 = .ok (.invokevirtual 170, 3) := by decide +kernel
theorem dX9_loose_90 : decode cX9_loose 90 = .ok (.ireturn, 1) := by decide +kernel
theorem dX9_shape_0 : decode cX9_shape 0 = .ok (.iload_n 1, 1) := by decide +kernel
theorem dX9_shape_1 : decode cX9_shape 1 = .ok (.iconst 0, 1) := by decide +kernel
theorem dX9_shape_2 : decode cX9_shape 2 = .ok (.bipush 127, 2) := by decide +kernel
theorem dX9_shape_4 : decode cX9_shape 4 = .ok (.invokestatic 62, 3) := by decide +kernel
theorem dX9_shape_7 : decode cX9_shape 7 = .ok (.ifCond .eq 12, 3) := by decide +kernel
theorem dX9_shape_10 : decode cX9_shape 10 = .ok (.iload_n 2, 1) := by decide +kernel
theorem dX9_shape_11 : decode cX9_shape 11 = .ok (.iconst 0, 1) := by decide +kernel
theorem dX9_shape_12 : decode cX9_shape 12 = .ok (.iconst 1, 1) := by decide +kernel
theorem dX9_shape_13 : decode cX9_shape 13 = .ok (.invokestatic 62, 3) := by decide +kernel
theorem dX9_shape_16 : decode cX9_shape 16 = .ok (.ifCond .ne 9, 3) := by decide +kernel
theorem dX9_shape_19 : decode cX9_shape 19 = .ok (.aload_n 0, 1) := by decide +kernel
theorem dX9_shape_20 : decode cX9_shape 20 = .ok (.iconst 1, 1) := by decide +kernel
theorem dX9_shape_21 : decode cX9_shape 21 = .ok (.invokevirtual 66, 3) := by decide +kernel
theorem dX9_shape_24 : decode cX9_shape 24 = .ok (.ireturn, 1) := by decide +kernel
theorem dX9_shape_25 : decode cX9_shape 25 = .ok (.iload_n 2, 1) := by decide +kernel
theorem dX9_shape_26 : decode cX9_shape 26 = .ok (.ifCond .ne 15, 3) := by decide +kernel
theorem dX9_shape_29 : decode cX9_shape 29 = .ok (.aload_n 0, 1) := by decide +kernel
theorem dX9_shape_30 : decode cX9_shape 30 = .ok (.getfield 23, 3) := by decide +kernel
theorem dX9_shape_33 : decode cX9_shape 33 = .ok (.getfield 106, 3) := by decide +kernel
theorem dX9_shape_36 : decode cX9_shape 36 = .ok (.iload_n 1, 1) := by decide +kernel
theorem dX9_shape_37 : decode cX9_shape 37 = .ok (.iaload, 1) := by decide +kernel
theorem dX9_shape_38 : decode cX9_shape 38 = .ok (.goto 12, 3) := by decide +kernel
theorem dX9_shape_41 : decode cX9_shape 41 = .ok (.aload_n 0, 1) := by decide +kernel
theorem dX9_shape_42 : decode cX9_shape 42 = .ok (.getfield 23, 3) := by decide +kernel
theorem dX9_shape_45 : decode cX9_shape 45 = .ok (.getfield 109, 3) := by decide +kernel
theorem dX9_shape_48 : decode cX9_shape 48 = .ok (.iload_n 1, 1) := by decide +kernel
theorem dX9_shape_49 : decode cX9_shape 49 = .ok (.iaload, 1) := by decide +kernel
theorem dX9_shape_50 : decode cX9_shape 50 = .ok (.ireturn, 1) := by decide +kernel
theorem dX9_least_0 : decode cX9_least 0 = .ok (.iload_n 1, 1) := by decide +kernel
theorem dX9_least_1 : decode cX9_least 1 = .ok (.iconst 1, 1) := by decide +kernel
theorem dX9_least_2 : decode cX9_least 2 = .ok (.bipush 8, 2) := by decide +kernel
theorem dX9_least_4 : decode cX9_least 4 = .ok (.invokestatic 62, 3) := by decide +kernel
theorem dX9_least_7 : decode cX9_least 7 = .ok (.ifCond .eq 13, 3) := by decide +kernel
theorem dX9_least_10 : decode cX9_least 10 = .ok (.iload_n 2, 1) := by decide +kernel
theorem dX9_least_11 : decode cX9_least 11 = .ok (.iconst 1, 1) := by decide +kernel
theorem dX9_least_12 : decode cX9_least 12 = .ok (.bipush 8, 2) := by decide +kernel
theorem dX9_least_14 : decode cX9_least 14 = .ok (.invokestatic 62, 3) := by decide +kernel
theorem dX9_least_17 : decode cX9_least 17 = .ok (.ifCond .ne 9, 3) := by decide +kernel
theorem dX9_least_20 : decode cX9_least 20 = .ok (.aload_n 0, 1) := by decide +kernel
theorem dX9_least_21 : decode cX9_least 21 = .ok (.iconst 1, 1) := by decide +kernel
theorem dX9_least_22 : decode cX9_least 22 = .ok (.invokevirtual 66, 3) := by decide +kernel
theorem dX9_least_25 : decode cX9_least 25 = .ok (.ireturn, 1) := by decide +kernel
theorem dX9_least_26 : decode cX9_least 26 = .ok (.aload_n 0, 1) := by decide +kernel
theorem dX9_least_27 : decode cX9_least 27 = .ok (.aload_n 0, 1) := by decide +kernel
theorem dX9_least_28 : decode cX9_least 28 = .ok (.getfield 23, 3) := by decide +kernel
theorem dX9_least_31 : decode cX9_least 31 = .ok (.iload_n 1, 1) := by decide +kernel
theorem dX9_least_32 : decode cX9_least 32 = .ok (.iload_n 2, 1) := by decide +kernel
theorem dX9_least_33 : decode cX9_least 33 = .ok (.invokevirtual 176, 3) := by decide +kernel
theorem dX9_least_36 : decode cX9_least 36 = .ok (.invokevirtual 179, 3) := by decide +kernel
theorem dX9_least_39 : decode cX9_least 39 = .ok (.ireturn, 1) := by decide +kernel
