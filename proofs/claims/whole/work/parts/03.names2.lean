theorem dX0_init_0 : decode cX0_init 0 = .ok (.aload_n 0, 1) := by decide +kernel
theorem dX0_init_1 : decode cX0_init 1 = .ok (.invokespecial 3, 3) := by decide +kernel
theorem dX0_init_4 : decode cX0_init 4 = .ok (.aload_n 0, 1) := by decide +kernel
theorem dX0_init_5 : decode cX0_init 5 = .ok (.bipush 8, 2) := by decide +kernel
theorem dX0_init_7 : decode cX0_init 7 = .ok (.anewarray 9, 3) := by decide +kernel
theorem dX0_init_10 : decode cX0_init 10 = .ok (.putfield 11, 3) := by decide +kernel
theorem dX0_init_13 : decode cX0_init 13 = .ok (.aload_n 0, 1) := by decide +kernel
theorem dX0_init_14 : decode cX0_init 14 = .ok (.bipush 50, 2) := by decide +kernel
theorem dX0_init_16 : decode cX0_init 16 = .ok (.newarray .int, 2) := by decide +kernel
theorem dX0_init_18 : decode cX0_init 18 = .ok (.putfield 17, 3) := by decide +kernel
theorem dX0_init_21 : decode cX0_init 21 = .ok (.aload_n 0, 1) := by decide +kernel
theorem dX0_init_22 : decode cX0_init 22 = .ok (.iconst 2, 1) := by decide +kernel
theorem dX0_init_23 : decode cX0_init 23 = .ok (.anewarray 21, 3) := by decide +kernel
theorem dX0_init_26 : decode cX0_init 26 = .ok (.putfield 23, 3) := by decide +kernel
theorem dX0_init_29 : decode cX0_init 29 = .ok (.aload_n 0, 1) := by decide +kernel
theorem dX0_init_30 : decode cX0_init 30 = .ok (.bipush 20, 2) := by decide +kernel
theorem dX0_init_32 : decode cX0_init 32 = .ok (.newarray .int, 2) := by decide +kernel
theorem dX0_init_34 : decode cX0_init 34 = .ok (.putfield 27, 3) := by decide +kernel
theorem dX0_init_37 : decode cX0_init 37 = .ok (.iconst 0, 1) := by decide +kernel
theorem dX0_init_38 : decode cX0_init 38 = .ok (.istore_n 1, 1) := by decide +kernel
theorem dX0_init_39 : decode cX0_init 39 = .ok (.iload_n 1, 1) := by decide +kernel
theorem dX0_init_40 : decode cX0_init 40 = .ok (.bipush 8, 2) := by decide +kernel
theorem dX0_init_42 : decode cX0_init 42 = .ok (.if_icmp .ge 22, 3) := by decide +kernel
theorem dX0_init_45 : decode cX0_init 45 = .ok (.aload_n 0, 1) := by decide +kernel
theorem dX0_init_46 : decode cX0_init 46 = .ok (.getfield 11, 3) := by decide +kernel
theorem dX0_init_49 : decode cX0_init 49 = .ok (.iload_n 1, 1) := by decide +kernel
theorem dX0_init_50 : decode cX0_init 50 = .ok (.new 9, 3) := by decide +kernel
theorem dX0_init_53 : decode cX0_init 53 = .ok (.dup, 1) := by decide +kernel
theorem dX0_init_54 : decode cX0_init 54 = .ok (.invokespecial 30, 3) := by decide +kernel
theorem dX0_init_57 : decode cX0_init 57 = .ok (.aastore, 1) := by decide +kernel
theorem dX0_init_58 : decode cX0_init 58 = .ok (.iinc 1 1, 3) := by decide +kernel
theorem dX0_init_61 : decode cX0_init 61 = .ok (.goto (-22), 3) := by decide +kernel
theorem dX0_init_64 : decode cX0_init 64 = .ok (.iconst 0, 1) := by decide +kernel
theorem dX0_init_65 : decode cX0_init 65 = .ok (.istore_n 1, 1) := by decide +kernel
theorem dX0_init_66 : decode cX0_init 66 = .ok (.iload_n 1, 1) := by decide +kernel
theorem dX0_init_67 : decode cX0_init 67 = .ok (.iconst 2, 1) := by decide +kernel
theorem dX0_init_68 : decode cX0_init 68 = .ok (.if_icmp .ge 22, 3) := by decide +kernel
theorem dX0_init_71 : decode cX0_init 71 = .ok (.aload_n 0, 1) := by decide +kernel
theorem dX0_init_72 : decode cX0_init 72 = .ok (.getfield 23, 3) := by decide +kernel
theorem dX0_init_75 : decode cX0_init 75 = .ok (.iload_n 1, 1) := by decide +kernel
theorem dX0_init_76 : decode cX0_init 76 = .ok (.new 21, 3) := by decide +kernel
theorem dX0_init_79 : decode cX0_init 79 = .ok (.dup, 1) := by decide +kernel
theorem dX0_init_80 : decode cX0_init 80 = .ok (.invokespecial 31, 3) := by decide +kernel
theorem dX0_init_83 : decode cX0_init 83 = .ok (.aastore, 1) := by decide +kernel
theorem dX0_init_84 : decode cX0_init 84 = .ok (.iinc 1 1, 3) := by decide +kernel
theorem dX0_init_87 : decode cX0_init 87 = .ok (.goto (-21), 3) := by decide +kernel
theorem dX0_init_90 : decode cX0_init 90 = .ok (.aload_n 0, 1) := by decide +kernel
theorem dX0_init_91 : decode cX0_init 91 = .ok (.iconst 0, 1) := by decide +kernel
theorem dX0_init_92 : decode cX0_init 92 = .ok (.putfield 32, 3) := by decide +kernel
theorem dX0_init_95 : decode cX0_init 95 = .ok (.aload_n 0, 1) := by decide +kernel
theorem dX0_init_96 : decode cX0_init 96 = .ok (.iconst 0, 1) := by decide +kernel
theorem dX0_init_97 : decode cX0_init 97 = .ok (.putfield 36, 3) := by decide +kernel
theorem dX0_init_100 : decode cX0_init 100 = .ok (.aload_n 0, 1) := by decide +kernel
theorem dX0_init_101 : decode cX0_init 101 = .ok (.iconst 0, 1) := by decide +kernel
theorem dX0_init_102 : decode cX0_init 102 = .ok (.putfield 39, 3) := by decide +kernel
theorem dX0_init_105 : decode cX0_init 105 = .ok (.aload_n 0, 1) := by decide +kernel
theorem dX0_init_106 : decode cX0_init 106 = .ok (.iconst 0, 1) := by decide +kernel
theorem dX0_init_107 : decode cX0_init 107 = .ok (.putfield 42, 3) := by decide +kernel
theorem dX0_init_110 : decode cX0_init 110 = .ok (.aload_n 0, 1) := by decide +kernel
theorem dX0_init_111 : decode cX0_init 111 = .ok (.iconst 0, 1) := by decide +kernel
theorem dX0_init_112 : decode cX0_init 112 = .ok (.putfield 45, 3) := by decide +kernel
theorem dX0_init_115 : decode cX0_init 115 = .ok (.aload_n 0, 1) := by decide +kernel
theorem dX0_init_116 : decode cX0_init 116 = .ok (.iconst 1, 1) := by decide +kernel
theorem dX0_init_117 : decode cX0_init 117 = .ok (.putfield 48, 3) := by decide +kernel
theorem dX0_init_120 : decode cX0_init 120 = .ok (.return_, 1) := by decide +kernel
theorem dX0_copyFrom_0 : decode cX0_copyFrom 0 = .ok (.iconst 0, 1) := by decide +kernel
theorem dX0_copyFrom_1 : decode cX0_copyFrom 1 = .ok (.istore_n 2, 1) := by decide +kernel
theorem dX0_copyFrom_2 : decode cX0_copyFrom 2 = .ok (.iload_n 2, 1) := by decide +kernel
theorem dX0_copyFrom_3 : decode cX0_copyFrom 3 = .ok (.bipush 8, 2) := by decide +kernel
theorem dX0_copyFrom_5 : decode cX0_copyFrom 5 = .ok (.if_icmp .ge 24, 3) := by decide +kernel
theorem dX0_copyFrom_8 : decode cX0_copyFrom 8 = .ok (.aload_n 0, 1) := by decide +kernel
theorem dX0_copyFrom_9 : decode cX0_copyFrom 9 = .ok (.getfield 11, 3) := by decide +kernel
theorem dX0_copyFrom_12 : decode cX0_copyFrom 12 = .ok (.iload_n 2, 1) := by decide +kernel
theorem dX0_copyFrom_13 : decode cX0_copyFrom 13 = .ok (.aaload, 1) := by decide +kernel
theorem dX0_copyFrom_14 : decode cX0_copyFrom 14 = .ok (.aload_n 1, 1) := by decide +kernel
theorem dX0_copyFrom_15 : decode cX0_copyFrom 15 = .ok (.getfield 11, 3) := by decide +kernel
theorem dX0_copyFrom_18 : decode cX0_copyFrom 18 = .ok (.iload_n 2, 1) := by decide +kernel
theorem dX0_copyFrom_19 : decode cX0_copyFrom 19 = .ok (.aaload, 1) := by decide +kernel
theorem dX0_copyFrom_20 : decode cX0_copyFrom 20 = .ok (.invokevirtual 51, 3) := by decide +kernel
theorem dX0_copyFrom_23 : decode cX0_copyFrom 23 = .ok (.iinc 2 1, 3) := by decide +kernel
theorem dX0_copyFrom_26 : decode cX0_copyFrom 26 = .ok (.goto (-24), 3) := by decide +kernel
theorem dX0_copyFrom_29 : decode cX0_copyFrom 29 = .ok (.iconst 0, 1) := by decide +kernel
theorem dX0_copyFrom_30 : decode cX0_copyFrom 30 = .ok (.istore_n 2, 1) := by decide +kernel
theorem dX0_copyFrom_31 : decode cX0_copyFrom 31 = .ok (.iload_n 2, 1) := by decide +kernel
theorem dX0_copyFrom_32 : decode cX0_copyFrom 32 = .ok (.iconst 2, 1) := by decide +kernel
theorem dX0_copyFrom_33 : decode cX0_copyFrom 33 = .ok (.if_icmp .ge 24, 3) := by decide +kernel
theorem dX0_copyFrom_36 : decode cX0_copyFrom 36 = .ok (.aload_n 0, 1) := by decide +kernel
theorem dX0_copyFrom_37 : decode cX0_copyFrom 37 = .ok (.getfield 23, 3) := by decide +kernel
theorem dX0_copyFrom_40 : decode cX0_copyFrom 40 = .ok (.iload_n 2, 1) := by decide +kernel
theorem dX0_copyFrom_41 : decode cX0_copyFrom 41 = .ok (.aaload, 1) := by decide +kernel
theorem dX0_copyFrom_42 : decode cX0_copyFrom 42 = .ok (.aload_n 1, 1) := by decide +kernel
theorem dX0_copyFrom_43 : decode cX0_copyFrom 43 = .ok (.getfield 23, 3) := by decide +kernel
theorem dX0_copyFrom_46 : decode cX0_copyFrom 46 = .ok (.iload_n 2, 1) := by decide +kernel
theorem dX0_copyFrom_47 : decode cX0_copyFrom 47 = .ok (.aaload, 1) := by decide +kernel
theorem dX0_copyFrom_48 : decode cX0_copyFrom 48 = .ok (.invokevirtual 55, 3) := by decide +kernel
theorem dX0_copyFrom_51 : decode cX0_copyFrom 51 = .ok (.iinc 2 1, 3) := by decide +kernel
theorem dX0_copyFrom_54 : decode cX0_copyFrom 54 = .ok (.goto (-23), 3) := by decide +kernel
theorem dX0_copyFrom_57 : decode cX0_copyFrom 57 = .ok (.aload_n 1, 1) := by decide +kernel
theorem dX0_copyFrom_58 : decode cX0_copyFrom 58 = .ok (.getfield 17, 3) := by decide +kernel
theorem dX0_copyFrom_61 : decode cX0_copyFrom 61 = .ok (.iconst 0, 1) := by decide +kernel
theorem dX0_copyFrom_62 : decode cX0_copyFrom 62 = .ok (.aload_n 0, 1) := by decide +kernel
theorem dX0_copyFrom_63 : decode cX0_copyFrom 63 = .ok (.getfield 17, 3) := by decide +kernel
theorem dX0_copyFrom_66 : decode cX0_copyFrom 66 = .ok (.iconst 0, 1) := by decide +kernel
theorem dX0_copyFrom_67 : decode cX0_copyFrom 67 = .ok (.bipush 50, 2) := by decide +kernel
theorem dX0_copyFrom_69 : decode cX0_copyFrom 69 = .ok (.invokestatic 58, 3) := by decide +kernel
theorem dX0_copyFrom_72 : decode cX0_copyFrom 72 = .ok (.aload_n 1, 1) := by decide +kernel
theorem dX0_copyFrom_73 : decode cX0_copyFrom 73 = .ok (.getfield 27, 3) := by decide +kernel
theorem dX0_copyFrom_76 : decode cX0_copyFrom 76 = .ok (.iconst 0, 1) := by decide +kernel
theorem dX0_copyFrom_77 : decode cX0_copyFrom 77 = .ok (.aload_n 0, 1) := by decide +kernel
theorem dX0_copyFrom_78 : decode cX0_copyFrom 78 = .ok (.getfield 27, 3) := by decide +kernel
theorem dX0_copyFrom_81 : decode cX0_copyFrom 81 = .ok (.iconst 0, 1) := by decide +kernel
theorem dX0_copyFrom_82 : decode cX0_copyFrom 82 = .ok (.bipush 20, 2) := by decide +kernel
theorem dX0_copyFrom_84 : decode cX0_copyFrom 84 = .ok (.invokestatic 58, 3) := by decide +kernel
theorem dX0_copyFrom_87 : decode cX0_copyFrom 87 = .ok (.aload_n 0, 1) := by decide +kernel
theorem dX0_copyFrom_88 : decode cX0_copyFrom 88 = .ok (.aload_n 1, 1) := by decide +kernel
theorem dX0_copyFrom_89 : decode cX0_copyFrom 89 = .ok (.getfield 32, 3) := by decide +kernel
theorem dX0_copyFrom_92 : decode cX0_copyFrom 92 = .ok (.putfield 32, 3) := by decide +kernel
theorem dX0_copyFrom_95 : decode cX0_copyFrom 95 = .ok (.aload_n 0, 1) := by decide +kernel
theorem dX0_copyFrom_96 : decode cX0_copyFrom 96 = .ok (.aload_n 1, 1) := by decide +kernel
theorem dX0_copyFrom_97 : decode cX0_copyFrom 97 = .ok (.getfield 36, 3) := by decide +kernel
theorem dX0_copyFrom_100 : decode cX0_copyFrom 100 = .ok (.putfield 36, 3) := by decide +kernel
theorem dX0_copyFrom_103 : decode cX0_copyFrom 103 = .ok (.aload_n 0, 1) := by decide +kernel
theorem dX0_copyFrom_104 : decode cX0_copyFrom 104 = .ok (.aload_n 1, 1) := by decide +kernel
theorem dX0_copyFrom_105 : decode cX0_copyFrom 105 = .ok (.getfield 39, 3) := by decide +kernel
theorem dX0_copyFrom_108 : decode cX0_copyFrom 108 = .ok (.putfield 39, 3) := by decide +kernel
theorem dX0_copyFrom_111 : decode cX0_copyFrom 111 = .ok (.aload_n 0, 1) := by decide +kernel
theorem dX0_copyFrom_112 : decode cX0_copyFrom 112 = .ok (.aload_n 1, 1) := by decide +kernel
theorem dX0_copyFrom_113 : decode cX0_copyFrom 113 = .ok (.getfield 42, 3) := by decide +kernel
theorem dX0_copyFrom_116 : decode cX0_copyFrom 116 = .ok (.putfield 42, 3) := by decide +kernel
theorem dX0_copyFrom_119 : decode cX0_copyFrom 119 = .ok (.aload_n 0, 1) := by decide +kernel
theorem dX0_copyFrom_120 : decode cX0_copyFrom 120 = .ok (.aload_n 1, 1) := by decide +kernel
theorem dX0_copyFrom_121 : decode cX0_copyFrom 121 = .ok (.getfield 45, 3) := by decide +kernel
theorem dX0_copyFrom_124 : decode cX0_copyFrom 124 = .ok (.putfield 45, 3) := by decide +kernel
theorem dX0_copyFrom_127 : decode cX0_copyFrom 127 = .ok (.aload_n 0, 1) := by decide +kernel
theorem dX0_copyFrom_128 : decode cX0_copyFrom 128 = .ok (.aload_n 1, 1) := by decide +kernel
theorem dX0_copyFrom_129 : decode cX0_copyFrom 129 = .ok (.getfield 48, 3) := by decide +kernel
theorem dX0_copyFrom_132 : decode cX0_copyFrom 132 = .ok (.putfield 48, 3) := by decide +kernel
theorem dX0_copyFrom_135 : decode cX0_copyFrom 135 = .ok (.return_, 1) := by decide +kernel
theorem dX0_has_0 : decode cX0_has 0 = .ok (.iload_n 1, 1) := by decide +kernel
theorem dX0_has_1 : decode cX0_has 1 = .ok (.ifCond .lt 15, 3) := by decide +kernel
theorem dX0_has_4 : decode cX0_has 4 = .ok (.iload_n 1, 1) := by decide +kernel
theorem dX0_has_5 : decode cX0_has 5 = .ok (.aload_n 0, 1) := by decide +kernel
theorem dX0_has_6 : decode cX0_has 6 = .ok (.getfield 32, 3) := by decide +kernel
theorem dX0_has_9 : decode cX0_has 9 = .ok (.if_icmp .ge 7, 3) := by decide +kernel
theorem dX0_has_12 : decode cX0_has 12 = .ok (.iconst 1, 1) := by decide +kernel
theorem dX0_has_13 : decode cX0_has 13 = .ok (.goto 4, 3) := by decide +kernel
theorem dX0_has_16 : decode cX0_has 16 = .ok (.iconst 0, 1) := by decide +kernel
theorem dX0_has_17 : decode cX0_has 17 = .ok (.ireturn, 1) := by decide +kernel
theorem dX0_lay_0 : decode cX0_lay 0 = .ok (.aload_n 0, 1) := by decide +kernel
theorem dX0_lay_1 : decode cX0_lay 1 = .ok (.getfield 32, 3) := by decide +kernel
theorem dX0_lay_4 : decode cX0_lay 4 = .ok (.istore_n 3, 1) := by decide +kernel
theorem dX0_lay_5 : decode cX0_lay 5 = .ok (.iload_n 3, 1) := by decide +kernel
theorem dX0_lay_6 : decode cX0_lay 6 = .ok (.bipush 8, 2) := by decide +kernel
theorem dX0_lay_8 : decode cX0_lay 8 = .ok (.if_icmp .ge 24, 3) := by decide +kernel
theorem dX0_lay_11 : decode cX0_lay 11 = .ok (.aload_n 0, 1) := by decide +kernel
theorem dX0_lay_12 : decode cX0_lay 12 = .ok (.getfield 11, 3) := by decide +kernel
theorem dX0_lay_15 : decode cX0_lay 15 = .ok (.iload_n 3, 1) := by decide +kernel
theorem dX0_lay_16 : decode cX0_lay 16 = .ok (.aaload, 1) := by decide +kernel
theorem dX0_lay_17 : decode cX0_lay 17 = .ok (.iload_n 1, 1) := by decide +kernel
theorem dX0_lay_18 : decode cX0_lay 18 = .ok (.iload_n 2, 1) := by decide +kernel
theorem dX0_lay_19 : decode cX0_lay 19 = .ok (.invokevirtual 64, 3) := by decide +kernel
theorem dX0_lay_22 : decode cX0_lay 22 = .ok (.aload_n 0, 1) := by decide +kernel
theorem dX0_lay_23 : decode cX0_lay 23 = .ok (.dup, 1) := by decide +kernel
theorem dX0_lay_24 : decode cX0_lay 24 = .ok (.getfield 32, 3) := by decide +kernel
theorem dX0_lay_27 : decode cX0_lay 27 = .ok (.iconst 1, 1) := by decide +kernel
theorem dX0_lay_28 : decode cX0_lay 28 = .ok (.iadd, 1) := by decide +kernel
theorem dX0_lay_29 : decode cX0_lay 29 = .ok (.putfield 32, 3) := by decide +kernel
theorem dX0_lay_32 : decode cX0_lay 32 = .ok (.iload_n 3, 1) := by decide +kernel
theorem dX0_lay_33 : decode cX0_lay 33 = .ok (.ireturn, 1) := by decide +kernel
theorem dX0_debtOfAll_0 : decode cX0_debtOfAll 0 = .ok (.iconst 0, 1) := by decide +kernel
theorem dX0_debtOfAll_1 : decode cX0_debtOfAll 1 = .ok (.istore_n 1, 1) := by decide +kernel
theorem dX0_debtOfAll_2 : decode cX0_debtOfAll 2 = .ok (.iconst 0, 1) := by decide +kernel
theorem dX0_debtOfAll_3 : decode cX0_debtOfAll 3 = .ok (.istore_n 2, 1) := by decide +kernel
theorem dX0_debtOfAll_4 : decode cX0_debtOfAll 4 = .ok (.iload_n 2, 1) := by decide +kernel
theorem dX0_debtOfAll_5 : decode cX0_debtOfAll 5 = .ok (.aload_n 0, 1) := by decide +kernel
theorem dX0_debtOfAll_6 : decode cX0_debtOfAll 6 = .ok (.getfield 32, 3) := by decide +kernel
theorem dX0_debtOfAll_9 : decode cX0_debtOfAll 9 = .ok (.if_icmp .ge 21, 3) := by decide +kernel
theorem dX0_debtOfAll_12 : decode cX0_debtOfAll 12 = .ok (.iload_n 1, 1) := by decide +kernel
theorem dX0_debtOfAll_13 : decode cX0_debtOfAll 13 = .ok (.aload_n 0, 1) := by decide +kernel
theorem dX0_debtOfAll_14 : decode cX0_debtOfAll 14 = .ok (.getfield 11, 3) := by decide +kernel
theorem dX0_debtOfAll_17 : decode cX0_debtOfAll 17 = .ok (.iload_n 2, 1) := by decide +kernel
theorem dX0_debtOfAll_18 : decode cX0_debtOfAll 18 = .ok (.aaload, 1) := by decide +kernel
theorem dX0_debtOfAll_19 : decode cX0_debtOfAll 19 = .ok (.getfield 68, 3) := by decide +kernel
theorem dX0_debtOfAll_22 : decode cX0_debtOfAll 22 = .ok (.iadd, 1) := by decide +kernel
theorem dX0_debtOfAll_23 : decode cX0_debtOfAll 23 = .ok (.istore_n 1, 1) := by decide +kernel
theorem dX0_debtOfAll_24 : decode cX0_debtOfAll 24 = .ok (.iinc 2 1, 3) := by decide +kernel
theorem dX0_debtOfAll_27 : decode cX0_debtOfAll 27 = .ok (.goto (-23), 3) := by decide +kernel
theorem dX0_debtOfAll_30 : decode cX0_debtOfAll 30 = .ok (.iload_n 1, 1) := by decide +kernel
theorem dX0_debtOfAll_31 : decode cX0_debtOfAll 31 = .ok (.ireturn, 1) := by decide +kernel
theorem dX0_upFrom_0 : decode cX0_upFrom 0 = .ok (.iconst 0, 1) := by decide +kernel
theorem dX0_upFrom_1 : decode cX0_upFrom 1 = .ok (.istore_n 2, 1) := by decide +kernel
theorem dX0_upFrom_2 : decode cX0_upFrom 2 = .ok (.iconst 0, 1) := by decide +kernel
theorem dX0_upFrom_3 : decode cX0_upFrom 3 = .ok (.istore_n 3, 1) := by decide +kernel
theorem dX0_upFrom_4 : decode cX0_upFrom 4 = .ok (.iload_n 3, 1) := by decide +kernel
theorem dX0_upFrom_5 : decode cX0_upFrom 5 = .ok (.aload_n 0, 1) := by decide +kernel
theorem dX0_upFrom_6 : decode cX0_upFrom 6 = .ok (.getfield 32, 3) := by decide +kernel
theorem dX0_upFrom_9 : decode cX0_upFrom 9 = .ok (.if_icmp .ge 40, 3) := by decide +kernel
theorem dX0_upFrom_12 : decode cX0_upFrom 12 = .ok (.aload_n 0, 1) := by decide +kernel
theorem dX0_upFrom_13 : decode cX0_upFrom 13 = .ok (.getfield 11, 3) := by decide +kernel
theorem dX0_upFrom_16 : decode cX0_upFrom 16 = .ok (.iload_n 3, 1) := by decide +kernel
theorem dX0_upFrom_17 : decode cX0_upFrom 17 = .ok (.aaload, 1) := by decide +kernel
theorem dX0_upFrom_18 : decode cX0_upFrom 18 = .ok (.getfield 71, 3) := by decide +kernel
theorem dX0_upFrom_21 : decode cX0_upFrom 21 = .ok (.ifCond .eq 22, 3) := by decide +kernel
theorem dX0_upFrom_24 : decode cX0_upFrom 24 = .ok (.aload_n 0, 1) := by decide +kernel
theorem dX0_upFrom_25 : decode cX0_upFrom 25 = .ok (.getfield 11, 3) := by decide +kernel
theorem dX0_upFrom_28 : decode cX0_upFrom 28 = .ok (.iload_n 3, 1) := by decide +kernel
theorem dX0_upFrom_29 : decode cX0_upFrom 29 = .ok (.aaload, 1) := by decide +kernel
theorem dX0_upFrom_30 : decode cX0_upFrom 30 = .ok (.getfield 75, 3) := by decide +kernel
theorem dX0_upFrom_33 : decode cX0_upFrom 33 = .ok (.iload_n 1, 1) := by decide +kernel
theorem dX0_upFrom_34 : decode cX0_upFrom 34 = .ok (.if_icmp .lt 9, 3) := by decide +kernel
theorem dX0_upFrom_37 : decode cX0_upFrom 37 = .ok (.iload_n 2, 1) := by decide +kernel
theorem dX0_upFrom_38 : decode cX0_upFrom 38 = .ok (.iconst 1, 1) := by decide +kernel
theorem dX0_upFrom_39 : decode cX0_upFrom 39 = .ok (.iload_n 3, 1) := by decide +kernel
theorem dX0_upFrom_40 : decode cX0_upFrom 40 = .ok (.ishl, 1) := by decide +kernel
theorem dX0_upFrom_41 : decode cX0_upFrom 41 = .ok (.ior, 1) := by decide +kernel
theorem dX0_upFrom_42 : decode cX0_upFrom 42 = .ok (.istore_n 2, 1) := by decide +kernel
theorem dX0_upFrom_43 : decode cX0_upFrom 43 = .ok (.iinc 3 1, 3) := by decide +kernel
theorem dX0_upFrom_46 : decode cX0_upFrom 46 = .ok (.goto (-42), 3) := by decide +kernel
theorem dX0_upFrom_49 : decode cX0_upFrom 49 = .ok (.iload_n 2, 1) := by decide +kernel
theorem dX0_upFrom_50 : decode cX0_upFrom 50 = .ok (.ireturn, 1) := by decide +kernel
theorem dX0_draw_0 : decode cX0_draw 0 = .ok (.aload_n 0, 1) := by decide +kernel
theorem dX0_draw_1 : decode cX0_draw 1 = .ok (.aload_n 0, 1) := by decide +kernel
theorem dX0_draw_2 : decode cX0_draw 2 = .ok (.getfield 48, 3) := by decide +kernel
theorem dX0_draw_5 : decode cX0_draw 5 = .ok (.ldc 78, 2) := by decide +kernel
theorem dX0_draw_7 : decode cX0_draw 7 = .ok (.imul, 1) := by decide +kernel
theorem dX0_draw_8 : decode cX0_draw 8 = .ok (.sipush 12345, 3) := by decide +kernel
theorem dX0_draw_11 : decode cX0_draw 11 = .ok (.iadd, 1) := by decide +kernel
theorem dX0_draw_12 : decode cX0_draw 12 = .ok (.putfield 48, 3) := by decide +kernel
theorem dX0_draw_15 : decode cX0_draw 15 = .ok (.aload_n 0, 1) := by decide +kernel
theorem dX0_draw_16 : decode cX0_draw 16 = .ok (.getfield 48, 3) := by decide +kernel
theorem dX0_draw_19 : decode cX0_draw 19 = .ok (.bipush 8, 2) := by decide +kernel
theorem dX0_draw_21 : decode cX0_draw 21 = .ok (.iushr, 1) := by decide +kernel
theorem dX0_draw_22 : decode cX0_draw 22 = .ok (.ireturn, 1) := by decide +kernel
theorem dX0_gives_0 : decode cX0_gives 0 = .ok (.iload_n 1, 1) := by decide +kernel
theorem dX0_gives_1 : decode cX0_gives 1 = .ok (.ifCond .ne 52, 3) := by decide +kernel
theorem dX0_gives_4 : decode cX0_gives 4 = .ok (.aload_n 0, 1) := by decide +kernel
theorem dX0_gives_5 : decode cX0_gives 5 = .ok (.getfield 23, 3) := by decide +kernel
theorem dX0_gives_8 : decode cX0_gives 8 = .ok (.iconst 0, 1) := by decide +kernel
theorem dX0_gives_9 : decode cX0_gives 9 = .ok (.aaload, 1) := by decide +kernel
theorem dX0_gives_10 : decode cX0_gives 10 = .ok (.invokevirtual 79, 3) := by decide +kernel
theorem dX0_gives_13 : decode cX0_gives 13 = .ok (.ifCond .eq 13, 3) := by decide +kernel
theorem dX0_gives_16 : decode cX0_gives 16 = .ok (.bipush 9, 2) := by decide +kernel
theorem dX0_gives_18 : decode cX0_gives 18 = .ok (.iload_n 2, 1) := by decide +kernel
theorem dX0_gives_19 : decode cX0_gives 19 = .ok (.isub, 1) := by decide +kernel
theorem dX0_gives_20 : decode cX0_gives 20 = .ok (.iload 4, 2) := by decide +kernel
theorem dX0_gives_22 : decode cX0_gives 22 = .ok (.iadd, 1) := by decide +kernel
theorem dX0_gives_23 : decode cX0_gives 23 = .ok (.goto 16, 3) := by decide +kernel
theorem dX0_gives_26 : decode cX0_gives 26 = .ok (.aload_n 0, 1) := by decide +kernel
theorem dX0_gives_27 : decode cX0_gives 27 = .ok (.getfield 23, 3) := by decide +kernel
theorem dX0_gives_30 : decode cX0_gives 30 = .ok (.iconst 0, 1) := by decide +kernel
theorem dX0_gives_31 : decode cX0_gives 31 = .ok (.aaload, 1) := by decide +kernel
theorem dX0_gives_32 : decode cX0_gives 32 = .ok (.iload_n 2, 1) := by decide +kernel
theorem dX0_gives_33 : decode cX0_gives 33 = .ok (.iload_n 3, 1) := by decide +kernel
theorem dX0_gives_34 : decode cX0_gives 34 = .ok (.iload 4, 2) := by decide +kernel
theorem dX0_gives_36 : decode cX0_gives 36 = .ok (.invokevirtual 83, 3) := by decide +kernel
theorem dX0_gives_39 : decode cX0_gives 39 = .ok (.istore 5, 2) := by decide +kernel
theorem dX0_gives_41 : decode cX0_gives 41 = .ok (.iconst 0, 1) := by decide +kernel
theorem dX0_gives_42 : decode cX0_gives 42 = .ok (.bipush 99, 2) := by decide +kernel
theorem dX0_gives_44 : decode cX0_gives 44 = .ok (.iload 5, 2) := by decide +kernel
theorem dX0_gives_46 : decode cX0_gives 46 = .ok (.invokestatic 87, 3) := by decide +kernel
theorem dX0_gives_49 : decode cX0_gives 49 = .ok (.invokestatic 93, 3) := by decide +kernel
theorem dX0_gives_52 : decode cX0_gives 52 = .ok (.ireturn, 1) := by decide +kernel
theorem dX0_gives_53 : decode cX0_gives 53 = .ok (.aload_n 0, 1) := by decide +kernel
theorem dX0_gives_54 : decode cX0_gives 54 = .ok (.getfield 23, 3) := by decide +kernel
theorem dX0_gives_57 : decode cX0_gives 57 = .ok (.iconst 1, 1) := by decide +kernel
theorem dX0_gives_58 : decode cX0_gives 58 = .ok (.aaload, 1) := by decide +kernel
theorem dX0_gives_59 : decode cX0_gives 59 = .ok (.invokevirtual 79, 3) := by decide +kernel
theorem dX0_gives_62 : decode cX0_gives 62 = .ok (.ifCond .eq 10, 3) := by decide +kernel
theorem dX0_gives_65 : decode cX0_gives 65 = .ok (.iload_n 3, 1) := by decide +kernel
theorem dX0_gives_66 : decode cX0_gives 66 = .ok (.bipush 10, 2) := by decide +kernel
theorem dX0_gives_68 : decode cX0_gives 68 = .ok (.idiv, 1) := by decide +kernel
theorem dX0_gives_69 : decode cX0_gives 69 = .ok (.goto 16, 3) := by decide +kernel
theorem dX0_gives_72 : decode cX0_gives 72 = .ok (.aload_n 0, 1) := by decide +kernel
theorem dX0_gives_73 : decode cX0_gives 73 = .ok (.getfield 23, 3) := by decide +kernel
theorem dX0_gives_76 : decode cX0_gives 76 = .ok (.iconst 1, 1) := by decide +kernel
theorem dX0_gives_77 : decode cX0_gives 77 = .ok (.aaload, 1) := by decide +kernel
theorem dX0_gives_78 : decode cX0_gives 78 = .ok (.iload_n 2, 1) := by decide +kernel
theorem dX0_gives_79 : decode cX0_gives 79 = .ok (.iload_n 3, 1) := by decide +kernel
theorem dX0_gives_80 : decode cX0_gives 80 = .ok (.iload 4, 2) := by decide +kernel
theorem dX0_gives_82 : decode cX0_gives 82 = .ok (.invokevirtual 83, 3) := by decide +kernel
theorem dX0_gives_85 : decode cX0_gives 85 = .ok (.istore 5, 2) := by decide +kernel
theorem dX0_gives_87 : decode cX0_gives 87 = .ok (.iconst 0, 1) := by decide +kernel
theorem dX0_gives_88 : decode cX0_gives 88 = .ok (.sipush 999, 3) := by decide +kernel
theorem dX0_gives_91 : decode cX0_gives 91 = .ok (.iload 5, 2) := by decide +kernel
theorem dX0_gives_93 : decode cX0_gives 93 = .ok (.invokestatic 87, 3) := by decide +kernel
theorem dX0_gives_96 : decode cX0_gives 96 = .ok (.invokestatic 93, 3) := by decide +kernel
theorem dX0_gives_99 : decode cX0_gives 99 = .ok (.ireturn, 1) := by decide +kernel
theorem dX1_init_0 : decode cX1_init 0 = .ok (.aload_n 0, 1) := by decide +kernel
theorem dX1_init_1 : decode cX1_init 1 = .ok (.invokespecial 3, 3) := by decide +kernel
theorem dX1_init_4 : decode cX1_init 4 = .ok (.aload_n 0, 1) := by decide +kernel
theorem dX1_init_5 : decode cX1_init 5 = .ok (.iconst 0, 1) := by decide +kernel
theorem dX1_init_6 : decode cX1_init 6 = .ok (.putfield 9, 3) := by decide +kernel
theorem dX1_init_9 : decode cX1_init 9 = .ok (.aload_n 0, 1) := by decide +kernel
theorem dX1_init_10 : decode cX1_init 10 = .ok (.iconst 0, 1) := by decide +kernel
theorem dX1_init_11 : decode cX1_init 11 = .ok (.putfield 15, 3) := by decide +kernel
theorem dX1_init_14 : decode cX1_init 14 = .ok (.aload_n 0, 1) := by decide +kernel
theorem dX1_init_15 : decode cX1_init 15 = .ok (.iconst 0, 1) := by decide +kernel
theorem dX1_init_16 : decode cX1_init 16 = .ok (.putfield 18, 3) := by decide +kernel
theorem dX1_init_19 : decode cX1_init 19 = .ok (.aload_n 0, 1) := by decide +kernel
theorem dX1_init_20 : decode cX1_init 20 = .ok (.iconst 0, 1) := by decide +kernel
theorem dX1_init_21 : decode cX1_init 21 = .ok (.putfield 22, 3) := by decide +kernel
theorem dX1_init_24 : decode cX1_init 24 = .ok (.aload_n 0, 1) := by decide +kernel
theorem dX1_init_25 : decode cX1_init 25 = .ok (.iconst 0, 1) := by decide +kernel
theorem dX1_init_26 : decode cX1_init 26 = .ok (.putfield 25, 3) := by decide +kernel
theorem dX1_init_29 : decode cX1_init 29 = .ok (.return_, 1) := by decide +kernel
theorem dX1_begin_0 : decode cX1_begin 0 = .ok (.aload_n 0, 1) := by decide +kernel
theorem dX1_begin_1 : decode cX1_begin 1 = .ok (.aload_n 1, 1) := by decide +kernel
theorem dX1_begin_2 : decode cX1_begin 2 = .ok (.getfield 28, 3) := by decide +kernel
theorem dX1_begin_5 : decode cX1_begin 5 = .ok (.putfield 9, 3) := by decide +kernel
theorem dX1_begin_8 : decode cX1_begin 8 = .ok (.aload_n 0, 1) := by decide +kernel
theorem dX1_begin_9 : decode cX1_begin 9 = .ok (.aload_n 1, 1) := by decide +kernel
theorem dX1_begin_10 : decode cX1_begin 10 = .ok (.getfield 31, 3) := by decide +kernel
theorem dX1_begin_13 : decode cX1_begin 13 = .ok (.putfield 15, 3) := by decide +kernel
theorem dX1_begin_16 : decode cX1_begin 16 = .ok (.aload_n 0, 1) := by decide +kernel
theorem dX1_begin_17 : decode cX1_begin 17 = .ok (.iload_n 2, 1) := by decide +kernel
theorem dX1_begin_18 : decode cX1_begin 18 = .ok (.putfield 18, 3) := by decide +kernel
theorem dX1_begin_21 : decode cX1_begin 21 = .ok (.aload_n 0, 1) := by decide +kernel
theorem dX1_begin_22 : decode cX1_begin 22 = .ok (.aload_n 1, 1) := by decide +kernel
theorem dX1_begin_23 : decode cX1_begin 23 = .ok (.getfield 32, 3) := by decide +kernel
theorem dX1_begin_26 : decode cX1_begin 26 = .ok (.iconst 5, 1) := by decide +kernel
theorem dX1_begin_27 : decode cX1_begin 27 = .ok (.if_icmp .ne 7, 3) := by decide +kernel
theorem dX1_begin_30 : decode cX1_begin 30 = .ok (.iconst 1, 1) := by decide +kernel
theorem dX1_begin_31 : decode cX1_begin 31 = .ok (.goto 4, 3) := by decide +kernel
theorem dX1_begin_34 : decode cX1_begin 34 = .ok (.iconst 0, 1) := by decide +kernel
theorem dX1_begin_35 : decode cX1_begin 35 = .ok (.putfield 22, 3) := by decide +kernel
theorem dX1_begin_38 : decode cX1_begin 38 = .ok (.aload_n 0, 1) := by decide +kernel
theorem dX1_begin_39 : decode cX1_begin 39 = .ok (.iconst 0, 1) := by decide +kernel
theorem dX1_begin_40 : decode cX1_begin 40 = .ok (.putfield 25, 3) := by decide +kernel
theorem dX1_begin_43 : decode cX1_begin 43 = .ok (.return_, 1) := by decide +kernel
theorem dX1_pace_0 : decode cX1_pace 0 = .ok (.iload_n 1, 1) := by decide +kernel
theorem dX1_pace_1 : decode cX1_pace 1 = .ok (.tableswitch 84 1 6 #[39, 49, 59, 39, 49, 74], 39) := by decide +kernel
theorem dX1_pace_40 : decode cX1_pace 40 = .ok (.aload_n 0, 1) := by decide +kernel
theorem dX1_pace_41 : decode cX1_pace 41 = .ok (.iconst 2, 1) := by decide +kernel
theorem dX1_pace_42 : decode cX1_pace 42 = .ok (.iload_n 2, 1) := by decide +kernel
theorem dX1_pace_43 : decode cX1_pace 43 = .ok (.imul, 1) := by decide +kernel
theorem dX1_pace_44 : decode cX1_pace 44 = .ok (.putfield 25, 3) := by decide +kernel
theorem dX1_pace_47 : decode cX1_pace 47 = .ok (.goto 43, 3) := by decide +kernel
theorem dX1_pace_50 : decode cX1_pace 50 = .ok (.aload_n 0, 1) := by decide +kernel
theorem dX1_pace_51 : decode cX1_pace 51 = .ok (.iload_n 2, 1) := by decide +kernel
theorem dX1_pace_52 : decode cX1_pace 52 = .ok (.iload_n 3, 1) := by decide +kernel
theorem dX1_pace_53 : decode cX1_pace 53 = .ok (.iadd, 1) := by decide +kernel
theorem dX1_pace_54 : decode cX1_pace 54 = .ok (.putfield 25, 3) := by decide +kernel
theorem dX1_pace_57 : decode cX1_pace 57 = .ok (.goto 33, 3) := by decide +kernel
theorem dX1_pace_60 : decode cX1_pace 60 = .ok (.aload_n 0, 1) := by decide +kernel
theorem dX1_pace_61 : decode cX1_pace 61 = .ok (.iconst 0, 1) := by decide +kernel
theorem dX1_pace_62 : decode cX1_pace 62 = .ok (.iload_n 2, 1) := by decide +kernel
theorem dX1_pace_63 : decode cX1_pace 63 = .ok (.iload 4, 2) := by decide +kernel
theorem dX1_pace_65 : decode cX1_pace 65 = .ok (.isub, 1) := by decide +kernel
theorem dX1_pace_66 : decode cX1_pace 66 = .ok (.invokestatic 35, 3) := by decide +kernel
theorem dX1_pace_69 : decode cX1_pace 69 = .ok (.putfield 25, 3) := by decide +kernel
theorem dX1_pace_72 : decode cX1_pace 72 = .ok (.goto 18, 3) := by decide +kernel
theorem dX1_pace_75 : decode cX1_pace 75 = .ok (.aload_n 0, 1) := by decide +kernel
theorem dX1_pace_76 : decode cX1_pace 76 = .ok (.iload_n 2, 1) := by decide +kernel
theorem dX1_pace_77 : decode cX1_pace 77 = .ok (.iconst 2, 1) := by decide +kernel
theorem dX1_pace_78 : decode cX1_pace 78 = .ok (.idiv, 1) := by decide +kernel
theorem dX1_pace_79 : decode cX1_pace 79 = .ok (.putfield 25, 3) := by decide +kernel
theorem dX1_pace_82 : decode cX1_pace 82 = .ok (.goto 8, 3) := by decide +kernel
theorem dX1_pace_85 : decode cX1_pace 85 = .ok (.aload_n 0, 1) := by decide +kernel
theorem dX1_pace_86 : decode cX1_pace 86 = .ok (.iload_n 2, 1) := by decide +kernel
theorem dX1_pace_87 : decode cX1_pace 87 = .ok (.putfield 25, 3) := by decide +kernel
theorem dX1_pace_90 : decode cX1_pace 90 = .ok (.return_, 1) := by decide +kernel
theorem dX1_go_0 : decode cX1_go 0 = .ok (.aload_n 0, 1) := by decide +kernel
theorem dX1_go_1 : decode cX1_go 1 = .ok (.getfield 18, 3) := by decide +kernel
theorem dX1_go_4 : decode cX1_go 4 = .ok (.ifCond .eq 35, 3) := by decide +kernel
theorem dX1_go_7 : decode cX1_go 7 = .ok (.aload_n 0, 1) := by decide +kernel
theorem dX1_go_8 : decode cX1_go 8 = .ok (.getfield 22, 3) := by decide +kernel
theorem dX1_go_11 : decode cX1_go 11 = .ok (.ifCond .eq 9, 3) := by decide +kernel
theorem dX1_go_14 : decode cX1_go 14 = .ok (.iload_n 1, 1) := by decide +kernel
theorem dX1_go_15 : decode cX1_go 15 = .ok (.iconst 5, 1) := by decide +kernel
theorem dX1_go_16 : decode cX1_go 16 = .ok (.irem, 1) := by decide +kernel
theorem dX1_go_17 : decode cX1_go 17 = .ok (.ifCond .eq 22, 3) := by decide +kernel
theorem dX1_go_20 : decode cX1_go 20 = .ok (.aload_n 0, 1) := by decide +kernel
theorem dX1_go_21 : decode cX1_go 21 = .ok (.sipush 999, 3) := by decide +kernel
theorem dX1_go_24 : decode cX1_go 24 = .ok (.aload_n 0, 1) := by decide +kernel
theorem dX1_go_25 : decode cX1_go 25 = .ok (.getfield 9, 3) := by decide +kernel
theorem dX1_go_28 : decode cX1_go 28 = .ok (.aload_n 0, 1) := by decide +kernel
theorem dX1_go_29 : decode cX1_go 29 = .ok (.getfield 25, 3) := by decide +kernel
theorem dX1_go_32 : decode cX1_go 32 = .ok (.iadd, 1) := by decide +kernel
theorem dX1_go_33 : decode cX1_go 33 = .ok (.invokestatic 41, 3) := by decide +kernel
theorem dX1_go_36 : decode cX1_go 36 = .ok (.putfield 9, 3) := by decide +kernel
theorem dX1_go_39 : decode cX1_go 39 = .ok (.return_, 1) := by decide +kernel
theorem dX1_goAndLapse_0 : decode cX1_goAndLapse 0 = .ok (.aload_n 0, 1) := by decide +kernel
theorem dX1_goAndLapse_1 : decode cX1_goAndLapse 1 = .ok (.iload_n 2, 1) := by decide +kernel
theorem dX1_goAndLapse_2 : decode cX1_goAndLapse 2 = .ok (.invokevirtual 44, 3) := by decide +kernel
theorem dX1_goAndLapse_5 : decode cX1_goAndLapse 5 = .ok (.aload_n 0, 1) := by decide +kernel
theorem dX1_goAndLapse_6 : decode cX1_goAndLapse 6 = .ok (.getfield 18, 3) := by decide +kernel
theorem dX1_goAndLapse_9 : decode cX1_goAndLapse 9 = .ok (.ifCond .eq 40, 3) := by decide +kernel
theorem dX1_goAndLapse_12 : decode cX1_goAndLapse 12 = .ok (.aload_n 0, 1) := by decide +kernel
theorem dX1_goAndLapse_13 : decode cX1_goAndLapse 13 = .ok (.getfield 15, 3) := by decide +kernel
theorem dX1_goAndLapse_16 : decode cX1_goAndLapse 16 = .ok (.ifCond .le 33, 3) := by decide +kernel
theorem dX1_goAndLapse_19 : decode cX1_goAndLapse 19 = .ok (.aload_n 0, 1) := by decide +kernel
theorem dX1_goAndLapse_20 : decode cX1_goAndLapse 20 = .ok (.iconst 0, 1) := by decide +kernel
theorem dX1_goAndLapse_21 : decode cX1_goAndLapse 21 = .ok (.aload_n 0, 1) := by decide +kernel
theorem dX1_goAndLapse_22 : decode cX1_goAndLapse 22 = .ok (.getfield 15, 3) := by decide +kernel
theorem dX1_goAndLapse_25 : decode cX1_goAndLapse 25 = .ok (.aload_n 1, 1) := by decide +kernel
theorem dX1_goAndLapse_26 : decode cX1_goAndLapse 26 = .ok (.iconst 1, 1) := by decide +kernel
theorem dX1_goAndLapse_27 : decode cX1_goAndLapse 27 = .ok (.aload_n 0, 1) := by decide +kernel
theorem dX1_goAndLapse_28 : decode cX1_goAndLapse 28 = .ok (.getfield 15, 3) := by decide +kernel
theorem dX1_goAndLapse_31 : decode cX1_goAndLapse 31 = .ok (.aload_n 0, 1) := by decide +kernel
theorem dX1_goAndLapse_32 : decode cX1_goAndLapse 32 = .ok (.getfield 9, 3) := by decide +kernel
theorem dX1_goAndLapse_35 : decode cX1_goAndLapse 35 = .ok (.iload_n 2, 1) := by decide +kernel
theorem dX1_goAndLapse_36 : decode cX1_goAndLapse 36 = .ok (.bipush 7, 2) := by decide +kernel
theorem dX1_goAndLapse_38 : decode cX1_goAndLapse 38 = .ok (.irem, 1) := by decide +kernel
theorem dX1_goAndLapse_39 : decode cX1_goAndLapse 39 = .ok (.invokevirtual 48, 3) := by decide +kernel
theorem dX1_goAndLapse_42 : decode cX1_goAndLapse 42 = .ok (.isub, 1) := by decide +kernel
theorem dX1_goAndLapse_43 : decode cX1_goAndLapse 43 = .ok (.invokestatic 35, 3) := by decide +kernel
theorem dX1_goAndLapse_46 : decode cX1_goAndLapse 46 = .ok (.putfield 15, 3) := by decide +kernel
theorem dX1_goAndLapse_49 : decode cX1_goAndLapse 49 = .ok (.return_, 1) := by decide +kernel
theorem dX2_init_0 : decode cX2_init 0 = .ok (.aload_n 0, 1) := by decide +kernel
theorem dX2_init_1 : decode cX2_init 1 = .ok (.invokespecial 3, 3) := by decide +kernel
theorem dX2_init_4 : decode cX2_init 4 = .ok (.aload_n 0, 1) := by decide +kernel
theorem dX2_init_5 : decode cX2_init 5 = .ok (.bipush 50, 2) := by decide +kernel
theorem dX2_init_7 : decode cX2_init 7 = .ok (.newarray .int, 2) := by decide +kernel
theorem dX2_init_9 : decode cX2_init 9 = .ok (.putfield 9, 3) := by decide +kernel
theorem dX2_init_12 : decode cX2_init 12 = .ok (.aload_n 0, 1) := by decide +kernel
theorem dX2_init_13 : decode cX2_init 13 = .ok (.bipush 50, 2) := by decide +kernel
theorem dX2_init_15 : decode cX2_init 15 = .ok (.newarray .int, 2) := by decide +kernel
theorem dX2_init_17 : decode cX2_init 17 = .ok (.putfield 15, 3) := by decide +kernel
theorem dX2_init_20 : decode cX2_init 20 = .ok (.aload_n 0, 1) := by decide +kernel
theorem dX2_init_21 : decode cX2_init 21 = .ok (.iconst 0, 1) := by decide +kernel
theorem dX2_init_22 : decode cX2_init 22 = .ok (.putfield 18, 3) := by decide +kernel
theorem dX2_init_25 : decode cX2_init 25 = .ok (.return_, 1) := by decide +kernel
theorem dX2_isMissing_0 : decode cX2_isMissing 0 = .ok (.aload_n 0, 1) := by decide +kernel
theorem dX2_isMissing_1 : decode cX2_isMissing 1 = .ok (.getfield 18, 3) := by decide +kernel
theorem dX2_isMissing_4 : decode cX2_isMissing 4 = .ok (.ifCond .ne 7, 3) := by decide +kernel
theorem dX2_isMissing_7 : decode cX2_isMissing 7 = .ok (.iconst 1, 1) := by decide +kernel
theorem dX2_isMissing_8 : decode cX2_isMissing 8 = .ok (.goto 4, 3) := by decide +kernel
theorem dX2_isMissing_11 : decode cX2_isMissing 11 = .ok (.iconst 0, 1) := by decide +kernel
theorem dX2_isMissing_12 : decode cX2_isMissing 12 = .ok (.ireturn, 1) := by decide +kernel
theorem dX2_clear_0 : decode cX2_clear 0 = .ok (.aload_n 0, 1) := by decide +kernel
theorem dX2_clear_1 : decode cX2_clear 1 = .ok (.iconst 0, 1) := by decide +kernel
theorem dX2_clear_2 : decode cX2_clear 2 = .ok (.putfield 18, 3) := by decide +kernel
theorem dX2_clear_5 : decode cX2_clear 5 = .ok (.return_, 1) := by decide +kernel
theorem dX2_add_0 : decode cX2_add 0 = .ok (.aload_n 0, 1) := by decide +kernel
theorem dX2_add_1 : decode cX2_add 1 = .ok (.getfield 18, 3) := by decide +kernel
theorem dX2_add_4 : decode cX2_add 4 = .ok (.bipush 50, 2) := by decide +kernel
theorem dX2_add_6 : decode cX2_add 6 = .ok (.if_icmp .ge 23, 3) := by decide +kernel
theorem dX2_add_9 : decode cX2_add 9 = .ok (.aload_n 0, 1) := by decide +kernel
theorem dX2_add_10 : decode cX2_add 10 = .ok (.getfield 9, 3) := by decide +kernel
theorem dX2_add_13 : decode cX2_add 13 = .ok (.aload_n 0, 1) := by decide +kernel
theorem dX2_add_14 : decode cX2_add 14 = .ok (.getfield 18, 3) := by decide +kernel
theorem dX2_add_17 : decode cX2_add 17 = .ok (.iload_n 1, 1) := by decide +kernel
theorem dX2_add_18 : decode cX2_add 18 = .ok (.iastore, 1) := by decide +kernel
theorem dX2_add_19 : decode cX2_add 19 = .ok (.aload_n 0, 1) := by decide +kernel
theorem dX2_add_20 : decode cX2_add 20 = .ok (.dup, 1) := by decide +kernel
theorem dX2_add_21 : decode cX2_add 21 = .ok (.getfield 18, 3) := by decide +kernel
theorem dX2_add_24 : decode cX2_add 24 = .ok (.iconst 1, 1) := by decide +kernel
theorem dX2_add_25 : decode cX2_add 25 = .ok (.iadd, 1) := by decide +kernel
theorem dX2_add_26 : decode cX2_add 26 = .ok (.putfield 18, 3) := by decide +kernel
theorem dX2_add_29 : decode cX2_add 29 = .ok (.return_, 1) := by decide +kernel
theorem dX2_copyFrom_0 : decode cX2_copyFrom 0 = .ok (.aload_n 1, 1) := by decide +kernel
theorem dX2_copyFrom_1 : decode cX2_copyFrom 1 = .ok (.getfield 9, 3) := by decide +kernel
theorem dX2_copyFrom_4 : decode cX2_copyFrom 4 = .ok (.iconst 0, 1) := by decide +kernel
theorem dX2_copyFrom_5 : decode cX2_copyFrom 5 = .ok (.aload_n 0, 1) := by decide +kernel
theorem dX2_copyFrom_6 : decode cX2_copyFrom 6 = .ok (.getfield 9, 3) := by decide +kernel
theorem dX2_copyFrom_9 : decode cX2_copyFrom 9 = .ok (.iconst 0, 1) := by decide +kernel
theorem dX2_copyFrom_10 : decode cX2_copyFrom 10 = .ok (.bipush 50, 2) := by decide +kernel
theorem dX2_copyFrom_12 : decode cX2_copyFrom 12 = .ok (.invokestatic 22, 3) := by decide +kernel
theorem dX2_copyFrom_15 : decode cX2_copyFrom 15 = .ok (.aload_n 0, 1) := by decide +kernel
theorem dX2_copyFrom_16 : decode cX2_copyFrom 16 = .ok (.aload_n 1, 1) := by decide +kernel
theorem dX2_copyFrom_17 : decode cX2_copyFrom 17 = .ok (.getfield 18, 3) := by decide +kernel
theorem dX2_copyFrom_20 : decode cX2_copyFrom 20 = .ok (.putfield 18, 3) := by decide +kernel
theorem dX2_copyFrom_23 : decode cX2_copyFrom 23 = .ok (.return_, 1) := by decide +kernel
theorem dX2_workOut_0 : decode cX2_workOut 0 = .ok (.iconst 0, 1) := by decide +kernel
theorem dX2_workOut_1 : decode cX2_workOut 1 = .ok (.istore 4, 2) := by decide +kernel
theorem dX2_workOut_3 : decode cX2_workOut 3 = .ok (.iconst 0, 1) := by decide +kernel
theorem dX2_workOut_4 : decode cX2_workOut 4 = .ok (.istore 5, 2) := by decide +kernel
theorem dX2_workOut_6 : decode cX2_workOut 6 = .ok (.iload 5, 2) := by decide +kernel
theorem dX2_workOut_8 : decode cX2_workOut 8 = .ok (.aload_n 0, 1) := by decide +kernel
theorem dX2_workOut_9 : decode cX2_workOut 9 = .ok (.getfield 18, 3) := by decide +kernel
theorem dX2_workOut_12 : decode cX2_workOut 12 = .ok (.if_icmp .ge 139, 3) := by decide +kernel
theorem dX2_workOut_15 : decode cX2_workOut 15 = .ok (.aload_n 0, 1) := by decide +kernel
theorem dX2_workOut_16 : decode cX2_workOut 16 = .ok (.getfield 9, 3) := by decide +kernel
theorem dX2_workOut_19 : decode cX2_workOut 19 = .ok (.iload 5, 2) := by decide +kernel
theorem dX2_workOut_21 : decode cX2_workOut 21 = .ok (.iaload, 1) := by decide +kernel
theorem dX2_workOut_22 : decode cX2_workOut 22 = .ok (.istore 6, 2) := by decide +kernel
theorem dX2_workOut_24 : decode cX2_workOut 24 = .ok (.iload 6, 2) := by decide +kernel
theorem dX2_workOut_26 : decode cX2_workOut 26 = .ok (.sipush 20000, 3) := by decide +kernel
theorem dX2_workOut_29 : decode cX2_workOut 29 = .ok (.if_icmp .ge 31, 3) := by decide +kernel
theorem dX2_workOut_32 : decode cX2_workOut 32 = .ok (.iload 4, 2) := by decide +kernel
theorem dX2_workOut_34 : decode cX2_workOut 34 = .ok (.bipush 50, 2) := by decide +kernel
theorem dX2_workOut_36 : decode cX2_workOut 36 = .ok (.if_icmp .ge 109, 3) := by decide +kernel
theorem dX2_workOut_39 : decode cX2_workOut 39 = .ok (.aload_n 0, 1) := by decide +kernel
theorem dX2_workOut_40 : decode cX2_workOut 40 = .ok (.getfield 15, 3) := by decide +kernel
theorem dX2_workOut_43 : decode cX2_workOut 43 = .ok (.iload 4, 2) := by decide +kernel
theorem dX2_workOut_45 : decode cX2_workOut 45 = .ok (.iload 6, 2) := by decide +kernel
theorem dX2_workOut_47 : decode cX2_workOut 47 = .ok (.iload_n 1, 1) := by decide +kernel
theorem dX2_workOut_48 : decode cX2_workOut 48 = .ok (.iload_n 2, 1) := by decide +kernel
theorem dX2_workOut_49 : decode cX2_workOut 49 = .ok (.iload_n 3, 1) := by decide +kernel
theorem dX2_workOut_50 : decode cX2_workOut 50 = .ok (.invokestatic 28, 3) := by decide +kernel
theorem dX2_workOut_53 : decode cX2_workOut 53 = .ok (.iastore, 1) := by decide +kernel
theorem dX2_workOut_54 : decode cX2_workOut 54 = .ok (.iinc 4 1, 3) := by decide +kernel
theorem dX2_workOut_57 : decode cX2_workOut 57 = .ok (.goto 88, 3) := by decide +kernel
theorem dX2_workOut_60 : decode cX2_workOut 60 = .ok (.iload 6, 2) := by decide +kernel
theorem dX2_workOut_62 : decode cX2_workOut 62 = .ok (.sipush 20033, 3) := by decide +kernel
theorem dX2_workOut_65 : decode cX2_workOut 65 = .ok (.if_icmp .ne 37, 3) := by decide +kernel
theorem dX2_workOut_68 : decode cX2_workOut 68 = .ok (.iload 4, 2) := by decide +kernel
theorem dX2_workOut_70 : decode cX2_workOut 70 = .ok (.ifCond .le 75, 3) := by decide +kernel
theorem dX2_workOut_73 : decode cX2_workOut 73 = .ok (.aload_n 0, 1) := by decide +kernel
theorem dX2_workOut_74 : decode cX2_workOut 74 = .ok (.getfield 15, 3) := by decide +kernel
theorem dX2_workOut_77 : decode cX2_workOut 77 = .ok (.iload 4, 2) := by decide +kernel
theorem dX2_workOut_79 : decode cX2_workOut 79 = .ok (.iconst 1, 1) := by decide +kernel
theorem dX2_workOut_80 : decode cX2_workOut 80 = .ok (.isub, 1) := by decide +kernel
theorem dX2_workOut_81 : decode cX2_workOut 81 = .ok (.aload_n 0, 1) := by decide +kernel
theorem dX2_workOut_82 : decode cX2_workOut 82 = .ok (.getfield 15, 3) := by decide +kernel
theorem dX2_workOut_85 : decode cX2_workOut 85 = .ok (.iload 4, 2) := by decide +kernel
theorem dX2_workOut_87 : decode cX2_workOut 87 = .ok (.iconst 1, 1) := by decide +kernel
theorem dX2_workOut_88 : decode cX2_workOut 88 = .ok (.isub, 1) := by decide +kernel
theorem dX2_workOut_89 : decode cX2_workOut 89 = .ok (.iaload, 1) := by decide +kernel
theorem dX2_workOut_90 : decode cX2_workOut 90 = .ok (.ifCond .ne 7, 3) := by decide +kernel
theorem dX2_workOut_93 : decode cX2_workOut 93 = .ok (.iconst 1, 1) := by decide +kernel
theorem dX2_workOut_94 : decode cX2_workOut 94 = .ok (.goto 4, 3) := by decide +kernel
theorem dX2_workOut_97 : decode cX2_workOut 97 = .ok (.iconst 0, 1) := by decide +kernel
theorem dX2_workOut_98 : decode cX2_workOut 98 = .ok (.iastore, 1) := by decide +kernel
theorem dX2_workOut_99 : decode cX2_workOut 99 = .ok (.goto 46, 3) := by decide +kernel
theorem dX2_workOut_102 : decode cX2_workOut 102 = .ok (.iload 4, 2) := by decide +kernel
theorem dX2_workOut_104 : decode cX2_workOut 104 = .ok (.iconst 1, 1) := by decide +kernel
theorem dX2_workOut_105 : decode cX2_workOut 105 = .ok (.if_icmp .le 40, 3) := by decide +kernel
theorem dX2_workOut_108 : decode cX2_workOut 108 = .ok (.iinc 4 (-1), 3) := by decide +kernel
theorem dX2_workOut_111 : decode cX2_workOut 111 = .ok (.aload_n 0, 1) := by decide +kernel
theorem dX2_workOut_112 : decode cX2_workOut 112 = .ok (.getfield 15, 3) := by decide +kernel
theorem dX2_workOut_115 : decode cX2_workOut 115 = .ok (.iload 4, 2) := by decide +kernel
theorem dX2_workOut_117 : decode cX2_workOut 117 = .ok (.iconst 1, 1) := by decide +kernel
theorem dX2_workOut_118 : decode cX2_workOut 118 = .ok (.isub, 1) := by decide +kernel
theorem dX2_workOut_119 : decode cX2_workOut 119 = .ok (.iload 6, 2) := by decide +kernel
theorem dX2_workOut_121 : decode cX2_workOut 121 = .ok (.sipush 20000, 3) := by decide +kernel
theorem dX2_workOut_124 : decode cX2_workOut 124 = .ok (.isub, 1) := by decide +kernel
theorem dX2_workOut_125 : decode cX2_workOut 125 = .ok (.aload_n 0, 1) := by decide +kernel
theorem dX2_workOut_126 : decode cX2_workOut 126 = .ok (.getfield 15, 3) := by decide +kernel
theorem dX2_workOut_129 : decode cX2_workOut 129 = .ok (.iload 4, 2) := by decide +kernel
theorem dX2_workOut_131 : decode cX2_workOut 131 = .ok (.iconst 1, 1) := by decide +kernel
theorem dX2_workOut_132 : decode cX2_workOut 132 = .ok (.isub, 1) := by decide +kernel
theorem dX2_workOut_133 : decode cX2_workOut 133 = .ok (.iaload, 1) := by decide +kernel
theorem dX2_workOut_134 : decode cX2_workOut 134 = .ok (.aload_n 0, 1) := by decide +kernel
theorem dX2_workOut_135 : decode cX2_workOut 135 = .ok (.getfield 15, 3) := by decide +kernel
theorem dX2_workOut_138 : decode cX2_workOut 138 = .ok (.iload 4, 2) := by decide +kernel
theorem dX2_workOut_140 : decode cX2_workOut 140 = .ok (.iaload, 1) := by decide +kernel
theorem dX2_workOut_141 : decode cX2_workOut 141 = .ok (.invokestatic 32, 3) := by decide +kernel
theorem dX2_workOut_144 : decode cX2_workOut 144 = .ok (.iastore, 1) := by decide +kernel
theorem dX2_workOut_145 : decode cX2_workOut 145 = .ok (.iinc 5 1, 3) := by decide +kernel
theorem dX2_workOut_148 : decode cX2_workOut 148 = .ok (.goto (-142), 3) := by decide +kernel
theorem dX2_workOut_151 : decode cX2_workOut 151 = .ok (.iload 4, 2) := by decide +kernel
theorem dX2_workOut_153 : decode cX2_workOut 153 = .ok (.ifCond .le 12, 3) := by decide +kernel
theorem dX2_workOut_156 : decode cX2_workOut 156 = .ok (.aload_n 0, 1) := by decide +kernel
theorem dX2_workOut_157 : decode cX2_workOut 157 = .ok (.getfield 15, 3) := by decide +kernel
theorem dX2_workOut_160 : decode cX2_workOut 160 = .ok (.iconst 0, 1) := by decide +kernel
theorem dX2_workOut_161 : decode cX2_workOut 161 = .ok (.iaload, 1) := by decide +kernel
theorem dX2_workOut_162 : decode cX2_workOut 162 = .ok (.goto 4, 3) := by decide +kernel
theorem dX2_workOut_165 : decode cX2_workOut 165 = .ok (.iconst 0, 1) := by decide +kernel
theorem dX2_workOut_166 : decode cX2_workOut 166 = .ok (.ireturn, 1) := by decide +kernel
theorem dX2_valueOf_0 : decode cX2_valueOf 0 = .ok (.iload_n 0, 1) := by decide +kernel
theorem dX2_valueOf_1 : decode cX2_valueOf 1 = .ok (.sipush 10000, 3) := by decide +kernel
theorem dX2_valueOf_4 : decode cX2_valueOf 4 = .ok (.isub, 1) := by decide +kernel
theorem dX2_valueOf_5 : decode cX2_valueOf 5 = .ok (.tableswitch 33 0 2 #[27, 29, 31], 27) := by decide +kernel
theorem dX2_valueOf_32 : decode cX2_valueOf 32 = .ok (.iload_n 1, 1) := by decide +kernel
theorem dX2_valueOf_33 : decode cX2_valueOf 33 = .ok (.ireturn, 1) := by decide +kernel
theorem dX2_valueOf_34 : decode cX2_valueOf 34 = .ok (.iload_n 2, 1) := by decide +kernel
theorem dX2_valueOf_35 : decode cX2_valueOf 35 = .ok (.ireturn, 1) := by decide +kernel
theorem dX2_valueOf_36 : decode cX2_valueOf 36 = .ok (.iload_n 3, 1) := by decide +kernel
theorem dX2_valueOf_37 : decode cX2_valueOf 37 = .ok (.ireturn, 1) := by decide +kernel
theorem dX2_valueOf_38 : decode cX2_valueOf 38 = .ok (.iload_n 0, 1) := by decide +kernel
theorem dX2_valueOf_39 : decode cX2_valueOf 39 = .ok (.ireturn, 1) := by decide +kernel
theorem dX2_joined_0 : decode cX2_joined 0 = .ok (.iload_n 0, 1) := by decide +kernel
theorem dX2_joined_1 : decode cX2_joined 1 = .ok (.lookupswitch 188 #[(37, 176), (38, 105), (42, 160), (43, 152), (45, 156), (47, 164), (60, 119), (61, 130), (62, 141), (124, 91)], 91) := by decide +kernel
theorem dX2_joined_92 : decode cX2_joined 92 = .ok (.iload_n 1, 1) := by decide +kernel
theorem dX2_joined_93 : decode cX2_joined 93 = .ok (.ifCond .ne 7, 3) := by decide +kernel
theorem dX2_joined_96 : decode cX2_joined 96 = .ok (.iload_n 2, 1) := by decide +kernel
theorem dX2_joined_97 : decode cX2_joined 97 = .ok (.ifCond .eq 7, 3) := by decide +kernel
theorem dX2_joined_100 : decode cX2_joined 100 = .ok (.iconst 1, 1) := by decide +kernel
theorem dX2_joined_101 : decode cX2_joined 101 = .ok (.goto 4, 3) := by decide +kernel
theorem dX2_joined_104 : decode cX2_joined 104 = .ok (.iconst 0, 1) := by decide +kernel
theorem dX2_joined_105 : decode cX2_joined 105 = .ok (.ireturn, 1) := by decide +kernel
theorem dX2_joined_106 : decode cX2_joined 106 = .ok (.iload_n 1, 1) := by decide +kernel
theorem dX2_joined_107 : decode cX2_joined 107 = .ok (.ifCond .eq 11, 3) := by decide +kernel
theorem dX2_joined_110 : decode cX2_joined 110 = .ok (.iload_n 2, 1) := by decide +kernel
theorem dX2_joined_111 : decode cX2_joined 111 = .ok (.ifCond .eq 7, 3) := by decide +kernel
theorem dX2_joined_114 : decode cX2_joined 114 = .ok (.iconst 1, 1) := by decide +kernel
theorem dX2_joined_115 : decode cX2_joined 115 = .ok (.goto 4, 3) := by decide +kernel
theorem dX2_joined_118 : decode cX2_joined 118 = .ok (.iconst 0, 1) := by decide +kernel
theorem dX2_joined_119 : decode cX2_joined 119 = .ok (.ireturn, 1) := by decide +kernel
theorem dX2_joined_120 : decode cX2_joined 120 = .ok (.iload_n 1, 1) := by decide +kernel
theorem dX2_joined_121 : decode cX2_joined 121 = .ok (.iload_n 2, 1) := by decide +kernel
theorem dX2_joined_122 : decode cX2_joined 122 = .ok (.if_icmp .ge 7, 3) := by decide +kernel
theorem dX2_joined_125 : decode cX2_joined 125 = .ok (.iconst 1, 1) := by decide +kernel
theorem dX2_joined_126 : decode cX2_joined 126 = .ok (.goto 4, 3) := by decide +kernel
theorem dX2_joined_129 : decode cX2_joined 129 = .ok (.iconst 0, 1) := by decide +kernel
theorem dX2_joined_130 : decode cX2_joined 130 = .ok (.ireturn, 1) := by decide +kernel
theorem dX2_joined_131 : decode cX2_joined 131 = .ok (.iload_n 1, 1) := by decide +kernel
theorem dX2_joined_132 : decode cX2_joined 132 = .ok (.iload_n 2, 1) := by decide +kernel
theorem dX2_joined_133 : decode cX2_joined 133 = .ok (.if_icmp .ne 7, 3) := by decide +kernel
theorem dX2_joined_136 : decode cX2_joined 136 = .ok (.iconst 1, 1) := by decide +kernel
theorem dX2_joined_137 : decode cX2_joined 137 = .ok (.goto 4, 3) := by decide +kernel
theorem dX2_joined_140 : decode cX2_joined 140 = .ok (.iconst 0, 1) := by decide +kernel
theorem dX2_joined_141 : decode cX2_joined 141 = .ok (.ireturn, 1) := by decide +kernel
theorem dX2_joined_142 : decode cX2_joined 142 = .ok (.iload_n 1, 1) := by decide +kernel
theorem dX2_joined_143 : decode cX2_joined 143 = .ok (.iload_n 2, 1) := by decide +kernel
theorem dX2_joined_144 : decode cX2_joined 144 = .ok (.if_icmp .le 7, 3) := by decide +kernel
theorem dX2_joined_147 : decode cX2_joined 147 = .ok (.iconst 1, 1) := by decide +kernel
theorem dX2_joined_148 : decode cX2_joined 148 = .ok (.goto 4, 3) := by decide +kernel
theorem dX2_joined_151 : decode cX2_joined 151 = .ok (.iconst 0, 1) := by decide +kernel
theorem dX2_joined_152 : decode cX2_joined 152 = .ok (.ireturn, 1) := by decide +kernel
theorem dX2_joined_153 : decode cX2_joined 153 = .ok (.iload_n 1, 1) := by decide +kernel
theorem dX2_joined_154 : decode cX2_joined 154 = .ok (.iload_n 2, 1) := by decide +kernel
theorem dX2_joined_155 : decode cX2_joined 155 = .ok (.iadd, 1) := by decide +kernel
theorem dX2_joined_156 : decode cX2_joined 156 = .ok (.ireturn, 1) := by decide +kernel
theorem dX2_joined_157 : decode cX2_joined 157 = .ok (.iload_n 1, 1) := by decide +kernel
theorem dX2_joined_158 : decode cX2_joined 158 = .ok (.iload_n 2, 1) := by decide +kernel
theorem dX2_joined_159 : decode cX2_joined 159 = .ok (.isub, 1) := by decide +kernel
theorem dX2_joined_160 : decode cX2_joined 160 = .ok (.ireturn, 1) := by decide +kernel
theorem dX2_joined_161 : decode cX2_joined 161 = .ok (.iload_n 1, 1) := by decide +kernel
theorem dX2_joined_162 : decode cX2_joined 162 = .ok (.iload_n 2, 1) := by decide +kernel
theorem dX2_joined_163 : decode cX2_joined 163 = .ok (.imul, 1) := by decide +kernel
theorem dX2_joined_164 : decode cX2_joined 164 = .ok (.ireturn, 1) := by decide +kernel
theorem dX2_joined_165 : decode cX2_joined 165 = .ok (.iload_n 2, 1) := by decide +kernel
theorem dX2_joined_166 : decode cX2_joined 166 = .ok (.ifCond .ne 7, 3) := by decide +kernel
theorem dX2_joined_169 : decode cX2_joined 169 = .ok (.iconst 0, 1) := by decide +kernel
theorem dX2_joined_170 : decode cX2_joined 170 = .ok (.goto 6, 3) := by decide +kernel
theorem dX2_joined_173 : decode cX2_joined 173 = .ok (.iload_n 1, 1) := by decide +kernel
theorem dX2_joined_174 : decode cX2_joined 174 = .ok (.iload_n 2, 1) := by decide +kernel
theorem dX2_joined_175 : decode cX2_joined 175 = .ok (.idiv, 1) := by decide +kernel
theorem dX2_joined_176 : decode cX2_joined 176 = .ok (.ireturn, 1) := by decide +kernel
theorem dX2_joined_177 : decode cX2_joined 177 = .ok (.iload_n 2, 1) := by decide +kernel
theorem dX2_joined_178 : decode cX2_joined 178 = .ok (.ifCond .ne 7, 3) := by decide +kernel
theorem dX2_joined_181 : decode cX2_joined 181 = .ok (.iconst 0, 1) := by decide +kernel
theorem dX2_joined_182 : decode cX2_joined 182 = .ok (.goto 6, 3) := by decide +kernel
theorem dX2_joined_185 : decode cX2_joined 185 = .ok (.iload_n 1, 1) := by decide +kernel
theorem dX2_joined_186 : decode cX2_joined 186 = .ok (.iload_n 2, 1) := by decide +kernel
theorem dX2_joined_187 : decode cX2_joined 187 = .ok (.irem, 1) := by decide +kernel
theorem dX2_joined_188 : decode cX2_joined 188 = .ok (.ireturn, 1) := by decide +kernel
theorem dX2_joined_189 : decode cX2_joined 189 = .ok (.iconst 0, 1) := by decide +kernel
theorem dX2_joined_190 : decode cX2_joined 190 = .ok (.ireturn, 1) := by decide +kernel
theorem dX3_init_0 : decode cX3_init 0 = .ok (.aload_n 0, 1) := by decide +kernel
theorem dX3_init_1 : decode cX3_init 1 = .ok (.invokespecial 3, 3) := by decide +kernel
theorem dX3_init_4 : decode cX3_init 4 = .ok (.aload_n 0, 1) := by decide +kernel
theorem dX3_init_5 : decode cX3_init 5 = .ok (.iconst 0, 1) := by decide +kernel
theorem dX3_init_6 : decode cX3_init 6 = .ok (.iconst 0, 1) := by decide +kernel
theorem dX3_init_7 : decode cX3_init 7 = .ok (.invokevirtual 9, 3) := by decide +kernel
theorem dX3_init_10 : decode cX3_init 10 = .ok (.return_, 1) := by decide +kernel
theorem dX3_lay_0 : decode cX3_lay 0 = .ok (.aload_n 0, 1) := by decide +kernel
theorem dX3_lay_1 : decode cX3_lay 1 = .ok (.iload_n 1, 1) := by decide +kernel
theorem dX3_lay_2 : decode cX3_lay 2 = .ok (.bipush 10, 2) := by decide +kernel
theorem dX3_lay_4 : decode cX3_lay 4 = .ok (.idiv, 1) := by decide +kernel
theorem dX3_lay_5 : decode cX3_lay 5 = .ok (.putfield 15, 3) := by decide +kernel
theorem dX3_lay_8 : decode cX3_lay 8 = .ok (.aload_n 0, 1) := by decide +kernel
theorem dX3_lay_9 : decode cX3_lay 9 = .ok (.iload_n 1, 1) := by decide +kernel
theorem dX3_lay_10 : decode cX3_lay 10 = .ok (.bipush 10, 2) := by decide +kernel
theorem dX3_lay_12 : decode cX3_lay 12 = .ok (.irem, 1) := by decide +kernel
theorem dX3_lay_13 : decode cX3_lay 13 = .ok (.putfield 19, 3) := by decide +kernel
theorem dX3_lay_16 : decode cX3_lay 16 = .ok (.aload_n 0, 1) := by decide +kernel
theorem dX3_lay_17 : decode cX3_lay 17 = .ok (.iload_n 2, 1) := by decide +kernel
theorem dX3_lay_18 : decode cX3_lay 18 = .ok (.putfield 22, 3) := by decide +kernel
theorem dX3_lay_21 : decode cX3_lay 21 = .ok (.aload_n 0, 1) := by decide +kernel
theorem dX3_lay_22 : decode cX3_lay 22 = .ok (.iconst 0, 1) := by decide +kernel
theorem dX3_lay_23 : decode cX3_lay 23 = .ok (.putfield 25, 3) := by decide +kernel
theorem dX3_lay_26 : decode cX3_lay 26 = .ok (.aload_n 0, 1) := by decide +kernel
theorem dX3_lay_27 : decode cX3_lay 27 = .ok (.iconst 0, 1) := by decide +kernel
theorem dX3_lay_28 : decode cX3_lay 28 = .ok (.putfield 28, 3) := by decide +kernel
theorem dX3_lay_31 : decode cX3_lay 31 = .ok (.aload_n 0, 1) := by decide +kernel
theorem dX3_lay_32 : decode cX3_lay 32 = .ok (.iconst 0, 1) := by decide +kernel
theorem dX3_lay_33 : decode cX3_lay 33 = .ok (.putfield 32, 3) := by decide +kernel
theorem dX3_lay_36 : decode cX3_lay 36 = .ok (.return_, 1) := by decide +kernel
theorem dX3_copyFrom_0 : decode cX3_copyFrom 0 = .ok (.aload_n 0, 1) := by decide +kernel
theorem dX3_copyFrom_1 : decode cX3_copyFrom 1 = .ok (.aload_n 1, 1) := by decide +kernel
theorem dX3_copyFrom_2 : decode cX3_copyFrom 2 = .ok (.getfield 15, 3) := by decide +kernel
theorem dX3_copyFrom_5 : decode cX3_copyFrom 5 = .ok (.putfield 15, 3) := by decide +kernel
theorem dX3_copyFrom_8 : decode cX3_copyFrom 8 = .ok (.aload_n 0, 1) := by decide +kernel
theorem dX3_copyFrom_9 : decode cX3_copyFrom 9 = .ok (.aload_n 1, 1) := by decide +kernel
theorem dX3_copyFrom_10 : decode cX3_copyFrom 10 = .ok (.getfield 19, 3) := by decide +kernel
theorem dX3_copyFrom_13 : decode cX3_copyFrom 13 = .ok (.putfield 19, 3) := by decide +kernel
theorem dX3_copyFrom_16 : decode cX3_copyFrom 16 = .ok (.aload_n 0, 1) := by decide +kernel
theorem dX3_copyFrom_17 : decode cX3_copyFrom 17 = .ok (.aload_n 1, 1) := by decide +kernel
theorem dX3_copyFrom_18 : decode cX3_copyFrom 18 = .ok (.getfield 22, 3) := by decide +kernel
theorem dX3_copyFrom_21 : decode cX3_copyFrom 21 = .ok (.putfield 22, 3) := by decide +kernel
theorem dX3_copyFrom_24 : decode cX3_copyFrom 24 = .ok (.aload_n 0, 1) := by decide +kernel
theorem dX3_copyFrom_25 : decode cX3_copyFrom 25 = .ok (.aload_n 1, 1) := by decide +kernel
theorem dX3_copyFrom_26 : decode cX3_copyFrom 26 = .ok (.getfield 25, 3) := by decide +kernel
theorem dX3_copyFrom_29 : decode cX3_copyFrom 29 = .ok (.putfield 25, 3) := by decide +kernel
theorem dX3_copyFrom_32 : decode cX3_copyFrom 32 = .ok (.aload_n 0, 1) := by decide +kernel
theorem dX3_copyFrom_33 : decode cX3_copyFrom 33 = .ok (.aload_n 1, 1) := by decide +kernel
theorem dX3_copyFrom_34 : decode cX3_copyFrom 34 = .ok (.getfield 28, 3) := by decide +kernel
theorem dX3_copyFrom_37 : decode cX3_copyFrom 37 = .ok (.putfield 28, 3) := by decide +kernel
theorem dX3_copyFrom_40 : decode cX3_copyFrom 40 = .ok (.aload_n 0, 1) := by decide +kernel
theorem dX3_copyFrom_41 : decode cX3_copyFrom 41 = .ok (.aload_n 1, 1) := by decide +kernel
theorem dX3_copyFrom_42 : decode cX3_copyFrom 42 = .ok (.getfield 32, 3) := by decide +kernel
theorem dX3_copyFrom_45 : decode cX3_copyFrom 45 = .ok (.putfield 32, 3) := by decide +kernel
theorem dX3_copyFrom_48 : decode cX3_copyFrom 48 = .ok (.return_, 1) := by decide +kernel
theorem dX3_stiff_0 : decode cX3_stiff 0 = .ok (.aload_n 0, 1) := by decide +kernel
theorem dX3_stiff_1 : decode cX3_stiff 1 = .ok (.getfield 15, 3) := by decide +kernel
theorem dX3_stiff_4 : decode cX3_stiff 4 = .ok (.tableswitch 78 1 6 #[40, 50, 52, 55, 67, 76], 40) := by decide +kernel
theorem dX3_stiff_44 : decode cX3_stiff 44 = .ok (.bipush 8, 2) := by decide +kernel
theorem dX3_stiff_46 : decode cX3_stiff 46 = .ok (.aload_n 0, 1) := by decide +kernel
theorem dX3_stiff_47 : decode cX3_stiff 47 = .ok (.getfield 19, 3) := by decide +kernel
theorem dX3_stiff_50 : decode cX3_stiff 50 = .ok (.iconst 4, 1) := by decide +kernel
theorem dX3_stiff_51 : decode cX3_stiff 51 = .ok (.irem, 1) := by decide +kernel
theorem dX3_stiff_52 : decode cX3_stiff 52 = .ok (.isub, 1) := by decide +kernel
theorem dX3_stiff_53 : decode cX3_stiff 53 = .ok (.ireturn, 1) := by decide +kernel
theorem dX3_stiff_54 : decode cX3_stiff 54 = .ok (.iconst 4, 1) := by decide +kernel
theorem dX3_stiff_55 : decode cX3_stiff 55 = .ok (.ireturn, 1) := by decide +kernel
theorem dX3_stiff_56 : decode cX3_stiff 56 = .ok (.bipush 6, 2) := by decide +kernel
theorem dX3_stiff_58 : decode cX3_stiff 58 = .ok (.ireturn, 1) := by decide +kernel
theorem dX3_stiff_59 : decode cX3_stiff 59 = .ok (.bipush 8, 2) := by decide +kernel
theorem dX3_stiff_61 : decode cX3_stiff 61 = .ok (.aload_n 0, 1) := by decide +kernel
theorem dX3_stiff_62 : decode cX3_stiff 62 = .ok (.getfield 19, 3) := by decide +kernel
theorem dX3_stiff_65 : decode cX3_stiff 65 = .ok (.iconst 4, 1) := by decide +kernel
theorem dX3_stiff_66 : decode cX3_stiff 66 = .ok (.irem, 1) := by decide +kernel
theorem dX3_stiff_67 : decode cX3_stiff 67 = .ok (.isub, 1) := by decide +kernel
theorem dX3_stiff_68 : decode cX3_stiff 68 = .ok (.iconst 1, 1) := by decide +kernel
theorem dX3_stiff_69 : decode cX3_stiff 69 = .ok (.isub, 1) := by decide +kernel
theorem dX3_stiff_70 : decode cX3_stiff 70 = .ok (.ireturn, 1) := by decide +kernel
theorem dX3_stiff_71 : decode cX3_stiff 71 = .ok (.iconst 4, 1) := by decide +kernel
theorem dX3_stiff_72 : decode cX3_stiff 72 = .ok (.aload_n 0, 1) := by decide +kernel
theorem dX3_stiff_73 : decode cX3_stiff 73 = .ok (.getfield 19, 3) := by decide +kernel
theorem dX3_stiff_76 : decode cX3_stiff 76 = .ok (.iconst 2, 1) := by decide +kernel
theorem dX3_stiff_77 : decode cX3_stiff 77 = .ok (.irem, 1) := by decide +kernel
theorem dX3_stiff_78 : decode cX3_stiff 78 = .ok (.iadd, 1) := by decide +kernel
theorem dX3_stiff_79 : decode cX3_stiff 79 = .ok (.ireturn, 1) := by decide +kernel
theorem dX3_stiff_80 : decode cX3_stiff 80 = .ok (.iconst 3, 1) := by decide +kernel
theorem dX3_stiff_81 : decode cX3_stiff 81 = .ok (.ireturn, 1) := by decide +kernel
theorem dX3_stiff_82 : decode cX3_stiff 82 = .ok (.bipush 8, 2) := by decide +kernel
theorem dX3_stiff_84 : decode cX3_stiff 84 = .ok (.ireturn, 1) := by decide +kernel
theorem dX3_widestLiving_0 : decode cX3_widestLiving 0 = .ok (.aload_n 0, 1) := by decide +kernel
theorem dX3_widestLiving_1 : decode cX3_widestLiving 1 = .ok (.getfield 15, 3) := by decide +kernel
theorem dX3_widestLiving_4 : decode cX3_widestLiving 4 = .ok (.tableswitch 56 1 6 #[40, 49, 51, 40, 49, 53], 40) := by decide +kernel
theorem dX3_widestLiving_44 : decode cX3_widestLiving 44 = .ok (.iconst 4, 1) := by decide +kernel
theorem dX3_widestLiving_45 : decode cX3_widestLiving 45 = .ok (.aload_n 0, 1) := by decide +kernel
theorem dX3_widestLiving_46 : decode cX3_widestLiving 46 = .ok (.getfield 19, 3) := by decide +kernel
theorem dX3_widestLiving_49 : decode cX3_widestLiving 49 = .ok (.iconst 3, 1) := by decide +kernel
theorem dX3_widestLiving_50 : decode cX3_widestLiving 50 = .ok (.irem, 1) := by decide +kernel
theorem dX3_widestLiving_51 : decode cX3_widestLiving 51 = .ok (.iadd, 1) := by decide +kernel
theorem dX3_widestLiving_52 : decode cX3_widestLiving 52 = .ok (.ireturn, 1) := by decide +kernel
theorem dX3_widestLiving_53 : decode cX3_widestLiving 53 = .ok (.iconst 5, 1) := by decide +kernel
theorem dX3_widestLiving_54 : decode cX3_widestLiving 54 = .ok (.ireturn, 1) := by decide +kernel
theorem dX3_widestLiving_55 : decode cX3_widestLiving 55 = .ok (.iconst 3, 1) := by decide +kernel
theorem dX3_widestLiving_56 : decode cX3_widestLiving 56 = .ok (.ireturn, 1) := by decide +kernel
theorem dX3_widestLiving_57 : decode cX3_widestLiving 57 = .ok (.bipush 6, 2) := by decide +kernel
theorem dX3_widestLiving_59 : decode cX3_widestLiving 59 = .ok (.ireturn, 1) := by decide +kernel
theorem dX3_widestLiving_60 : decode cX3_widestLiving 60 = .ok (.iconst 4, 1) := by decide +kernel
theorem dX3_widestLiving_61 : decode cX3_widestLiving 61 = .ok (.ireturn, 1) := by decide +kernel
theorem dX4_init_0 : decode cX4_init 0 = .ok (.aload_n 0, 1) := by decide +kernel
theorem dX4_init_1 : decode cX4_init 1 = .ok (.invokespecial 3, 3) := by decide +kernel
theorem dX4_init_4 : decode cX4_init 4 = .ok (.aload_n 0, 1) := by decide +kernel
theorem dX4_init_5 : decode cX4_init 5 = .ok (.new 9, 3) := by decide +kernel
theorem dX4_init_8 : decode cX4_init 8 = .ok (.dup, 1) := by decide +kernel
theorem dX4_init_9 : decode cX4_init 9 = .ok (.invokespecial 11, 3) := by decide +kernel
theorem dX4_init_12 : decode cX4_init 12 = .ok (.putfield 12, 3) := by decide +kernel
theorem dX4_init_15 : decode cX4_init 15 = .ok (.aload_n 0, 1) := by decide +kernel
theorem dX4_init_16 : decode cX4_init 16 = .ok (.iconst 0, 1) := by decide +kernel
theorem dX4_init_17 : decode cX4_init 17 = .ok (.newarray .int, 2) := by decide +kernel
theorem dX4_init_19 : decode cX4_init 19 = .ok (.putfield 18, 3) := by decide +kernel
theorem dX4_init_22 : decode cX4_init 22 = .ok (.aload_n 0, 1) := by decide +kernel
theorem dX4_init_23 : decode cX4_init 23 = .ok (.iconst 0, 1) := by decide +kernel
theorem dX4_init_24 : decode cX4_init 24 = .ok (.putfield 22, 3) := by decide +kernel
theorem dX4_init_27 : decode cX4_init 27 = .ok (.aload_n 0, 1) := by decide +kernel
theorem dX4_init_28 : decode cX4_init 28 = .ok (.iconst 0, 1) := by decide +kernel
theorem dX4_init_29 : decode cX4_init 29 = .ok (.putfield 26, 3) := by decide +kernel
theorem dX4_init_32 : decode cX4_init 32 = .ok (.aload_n 0, 1) := by decide +kernel
theorem dX4_init_33 : decode cX4_init 33 = .ok (.iconst 0, 1) := by decide +kernel
theorem dX4_init_34 : decode cX4_init 34 = .ok (.putfield 29, 3) := by decide +kernel
theorem dX4_init_37 : decode cX4_init 37 = .ok (.return_, 1) := by decide +kernel
theorem dX4_read_0 : decode cX4_read 0 = .ok (.aload_n 0, 1) := by decide +kernel
theorem dX4_read_1 : decode cX4_read 1 = .ok (.aload_n 1, 1) := by decide +kernel
theorem dX4_read_2 : decode cX4_read 2 = .ok (.putfield 18, 3) := by decide +kernel
theorem dX4_read_5 : decode cX4_read 5 = .ok (.aload_n 0, 1) := by decide +kernel
theorem dX4_read_6 : decode cX4_read 6 = .ok (.iload_n 2, 1) := by decide +kernel
theorem dX4_read_7 : decode cX4_read 7 = .ok (.aload_n 1, 1) := by decide +kernel
theorem dX4_read_8 : decode cX4_read 8 = .ok (.arraylength, 1) := by decide +kernel
theorem dX4_read_9 : decode cX4_read 9 = .ok (.invokestatic 32, 3) := by decide +kernel
theorem dX4_read_12 : decode cX4_read 12 = .ok (.putfield 22, 3) := by decide +kernel
theorem dX4_read_15 : decode cX4_read 15 = .ok (.aload_n 0, 1) := by decide +kernel
theorem dX4_read_16 : decode cX4_read 16 = .ok (.iload_n 3, 1) := by decide +kernel
theorem dX4_read_17 : decode cX4_read 17 = .ok (.putfield 26, 3) := by decide +kernel
theorem dX4_read_20 : decode cX4_read 20 = .ok (.aload_n 0, 1) := by decide +kernel
theorem dX4_read_21 : decode cX4_read 21 = .ok (.iconst 0, 1) := by decide +kernel
theorem dX4_read_22 : decode cX4_read 22 = .ok (.putfield 29, 3) := by decide +kernel
theorem dX4_read_25 : decode cX4_read 25 = .ok (.aload_n 0, 1) := by decide +kernel
theorem dX4_read_26 : decode cX4_read 26 = .ok (.getfield 12, 3) := by decide +kernel
theorem dX4_read_29 : decode cX4_read 29 = .ok (.invokevirtual 38, 3) := by decide +kernel
theorem dX4_read_32 : decode cX4_read 32 = .ok (.aload_n 0, 1) := by decide +kernel
theorem dX4_read_33 : decode cX4_read 33 = .ok (.iconst 0, 1) := by decide +kernel
theorem dX4_read_34 : decode cX4_read 34 = .ok (.iconst 0, 1) := by decide +kernel
theorem dX4_read_35 : decode cX4_read 35 = .ok (.invokevirtual 41, 3) := by decide +kernel
theorem dX4_read_38 : decode cX4_read 38 = .ok (.ifCond .eq 18, 3) := by decide +kernel
theorem dX4_read_41 : decode cX4_read 41 = .ok (.aload_n 0, 1) := by decide +kernel
theorem dX4_read_42 : decode cX4_read 42 = .ok (.getfield 29, 3) := by decide +kernel
theorem dX4_read_45 : decode cX4_read 45 = .ok (.aload_n 0, 1) := by decide +kernel
theorem dX4_read_46 : decode cX4_read 46 = .ok (.getfield 22, 3) := by decide +kernel
theorem dX4_read_49 : decode cX4_read 49 = .ok (.if_icmp .ne 7, 3) := by decide +kernel
theorem dX4_read_52 : decode cX4_read 52 = .ok (.iconst 1, 1) := by decide +kernel
theorem dX4_read_53 : decode cX4_read 53 = .ok (.goto 4, 3) := by decide +kernel
theorem dX4_read_56 : decode cX4_read 56 = .ok (.iconst 0, 1) := by decide +kernel
theorem dX4_read_57 : decode cX4_read 57 = .ok (.ireturn, 1) := by decide +kernel
theorem dX4_readLevel_0 : decode cX4_readLevel 0 = .ok (.iload_n 1, 1) := by decide +kernel
theorem dX4_readLevel_1 : decode cX4_readLevel 1 = .ok (.iconst 5, 1) := by decide +kernel
theorem dX4_readLevel_2 : decode cX4_readLevel 2 = .ok (.if_icmp .lt 9, 3) := by decide +kernel
theorem dX4_readLevel_5 : decode cX4_readLevel 5 = .ok (.aload_n 0, 1) := by decide +kernel
theorem dX4_readLevel_6 : decode cX4_readLevel 6 = .ok (.iload_n 2, 1) := by decide +kernel
theorem dX4_readLevel_7 : decode cX4_readLevel 7 = .ok (.invokevirtual 45, 3) := by decide +kernel
theorem dX4_readLevel_10 : decode cX4_readLevel 10 = .ok (.ireturn, 1) := by decide +kernel
theorem dX4_readLevel_11 : decode cX4_readLevel 11 = .ok (.aload_n 0, 1) := by decide +kernel
theorem dX4_readLevel_12 : decode cX4_readLevel 12 = .ok (.iload_n 1, 1) := by decide +kernel
theorem dX4_readLevel_13 : decode cX4_readLevel 13 = .ok (.iconst 1, 1) := by decide +kernel
theorem dX4_readLevel_14 : decode cX4_readLevel 14 = .ok (.iadd, 1) := by decide +kernel
theorem dX4_readLevel_15 : decode cX4_readLevel 15 = .ok (.iload_n 2, 1) := by decide +kernel
theorem dX4_readLevel_16 : decode cX4_readLevel 16 = .ok (.invokevirtual 41, 3) := by decide +kernel
theorem dX4_readLevel_19 : decode cX4_readLevel 19 = .ok (.ifCond .ne 5, 3) := by decide +kernel
theorem dX4_readLevel_22 : decode cX4_readLevel 22 = .ok (.iconst 0, 1) := by decide +kernel
theorem dX4_readLevel_23 : decode cX4_readLevel 23 = .ok (.ireturn, 1) := by decide +kernel
theorem dX4_readLevel_24 : decode cX4_readLevel 24 = .ok (.iload_n 1, 1) := by decide +kernel
theorem dX4_readLevel_25 : decode cX4_readLevel 25 = .ok (.iconst 2, 1) := by decide +kernel
theorem dX4_readLevel_26 : decode cX4_readLevel 26 = .ok (.if_icmp .ne 7, 3) := by decide +kernel
theorem dX4_readLevel_29 : decode cX4_readLevel 29 = .ok (.iconst 1, 1) := by decide +kernel
theorem dX4_readLevel_30 : decode cX4_readLevel 30 = .ok (.goto 5, 3) := by decide +kernel
theorem dX4_readLevel_33 : decode cX4_readLevel 33 = .ok (.bipush 50, 2) := by decide +kernel
theorem dX4_readLevel_35 : decode cX4_readLevel 35 = .ok (.istore_n 3, 1) := by decide +kernel
theorem dX4_readLevel_36 : decode cX4_readLevel 36 = .ok (.iconst 0, 1) := by decide +kernel
theorem dX4_readLevel_37 : decode cX4_readLevel 37 = .ok (.istore 4, 2) := by decide +kernel
theorem dX4_readLevel_39 : decode cX4_readLevel 39 = .ok (.iload 4, 2) := by decide +kernel
theorem dX4_readLevel_41 : decode cX4_readLevel 41 = .ok (.iload_n 3, 1) := by decide +kernel
theorem dX4_readLevel_42 : decode cX4_readLevel 42 = .ok (.if_icmp .ge 62, 3) := by decide +kernel
theorem dX4_readLevel_45 : decode cX4_readLevel 45 = .ok (.aload_n 0, 1) := by decide +kernel
theorem dX4_readLevel_46 : decode cX4_readLevel 46 = .ok (.invokevirtual 49, 3) := by decide +kernel
theorem dX4_readLevel_49 : decode cX4_readLevel 49 = .ok (.invokestatic 53, 3) := by decide +kernel
theorem dX4_readLevel_52 : decode cX4_readLevel 52 = .ok (.iload_n 1, 1) := by decide +kernel
theorem dX4_readLevel_53 : decode cX4_readLevel 53 = .ok (.if_icmp .ne 51, 3) := by decide +kernel
theorem dX4_readLevel_56 : decode cX4_readLevel 56 = .ok (.aload_n 0, 1) := by decide +kernel
theorem dX4_readLevel_57 : decode cX4_readLevel 57 = .ok (.invokevirtual 49, 3) := by decide +kernel
theorem dX4_readLevel_60 : decode cX4_readLevel 60 = .ok (.istore 5, 2) := by decide +kernel
theorem dX4_readLevel_62 : decode cX4_readLevel 62 = .ok (.aload_n 0, 1) := by decide +kernel
theorem dX4_readLevel_63 : decode cX4_readLevel 63 = .ok (.dup, 1) := by decide +kernel
theorem dX4_readLevel_64 : decode cX4_readLevel 64 = .ok (.getfield 29, 3) := by decide +kernel
theorem dX4_readLevel_67 : decode cX4_readLevel 67 = .ok (.iconst 1, 1) := by decide +kernel
theorem dX4_readLevel_68 : decode cX4_readLevel 68 = .ok (.iadd, 1) := by decide +kernel
theorem dX4_readLevel_69 : decode cX4_readLevel 69 = .ok (.putfield 29, 3) := by decide +kernel
theorem dX4_readLevel_72 : decode cX4_readLevel 72 = .ok (.aload_n 0, 1) := by decide +kernel
theorem dX4_readLevel_73 : decode cX4_readLevel 73 = .ok (.iload_n 1, 1) := by decide +kernel
theorem dX4_readLevel_74 : decode cX4_readLevel 74 = .ok (.iconst 1, 1) := by decide +kernel
theorem dX4_readLevel_75 : decode cX4_readLevel 75 = .ok (.iadd, 1) := by decide +kernel
theorem dX4_readLevel_76 : decode cX4_readLevel 76 = .ok (.iload_n 2, 1) := by decide +kernel
theorem dX4_readLevel_77 : decode cX4_readLevel 77 = .ok (.invokevirtual 41, 3) := by decide +kernel
theorem dX4_readLevel_80 : decode cX4_readLevel 80 = .ok (.ifCond .ne 5, 3) := by decide +kernel
theorem dX4_readLevel_83 : decode cX4_readLevel 83 = .ok (.iconst 0, 1) := by decide +kernel
theorem dX4_readLevel_84 : decode cX4_readLevel 84 = .ok (.ireturn, 1) := by decide +kernel
theorem dX4_readLevel_85 : decode cX4_readLevel 85 = .ok (.aload_n 0, 1) := by decide +kernel
theorem dX4_readLevel_86 : decode cX4_readLevel 86 = .ok (.getfield 12, 3) := by decide +kernel
theorem dX4_readLevel_89 : decode cX4_readLevel 89 = .ok (.sipush 20000, 3) := by decide +kernel
theorem dX4_readLevel_92 : decode cX4_readLevel 92 = .ok (.iload 5, 2) := by decide +kernel
theorem dX4_readLevel_94 : decode cX4_readLevel 94 = .ok (.iadd, 1) := by decide +kernel
theorem dX4_readLevel_95 : decode cX4_readLevel 95 = .ok (.invokevirtual 57, 3) := by decide +kernel
theorem dX4_readLevel_98 : decode cX4_readLevel 98 = .ok (.iinc 4 1, 3) := by decide +kernel
theorem dX4_readLevel_101 : decode cX4_readLevel 101 = .ok (.goto (-62), 3) := by decide +kernel
theorem dX4_readLevel_104 : decode cX4_readLevel 104 = .ok (.iconst 1, 1) := by decide +kernel
theorem dX4_readLevel_105 : decode cX4_readLevel 105 = .ok (.ireturn, 1) := by decide +kernel
theorem dX4_readSingle_0 : decode cX4_readSingle 0 = .ok (.aload_n 0, 1) := by decide +kernel
theorem dX4_readSingle_1 : decode cX4_readSingle 1 = .ok (.invokevirtual 49, 3) := by decide +kernel
theorem dX4_readSingle_4 : decode cX4_readSingle 4 = .ok (.istore_n 2, 1) := by decide +kernel
theorem dX4_readSingle_5 : decode cX4_readSingle 5 = .ok (.iload_n 2, 1) := by decide +kernel
theorem dX4_readSingle_6 : decode cX4_readSingle 6 = .ok (.invokestatic 61, 3) := by decide +kernel
theorem dX4_readSingle_9 : decode cX4_readSingle 9 = .ok (.ifCond .eq 9, 3) := by decide +kernel
theorem dX4_readSingle_12 : decode cX4_readSingle 12 = .ok (.aload_n 0, 1) := by decide +kernel
theorem dX4_readSingle_13 : decode cX4_readSingle 13 = .ok (.invokevirtual 64, 3) := by decide +kernel
theorem dX4_readSingle_16 : decode cX4_readSingle 16 = .ok (.iconst 1, 1) := by decide +kernel
theorem dX4_readSingle_17 : decode cX4_readSingle 17 = .ok (.ireturn, 1) := by decide +kernel
theorem dX4_readSingle_18 : decode cX4_readSingle 18 = .ok (.iload_n 2, 1) := by decide +kernel
theorem dX4_readSingle_19 : decode cX4_readSingle 19 = .ok (.bipush 33, 2) := by decide +kernel
theorem dX4_readSingle_21 : decode cX4_readSingle 21 = .ok (.if_icmp .eq 9, 3) := by decide +kernel
theorem dX4_readSingle_24 : decode cX4_readSingle 24 = .ok (.iload_n 2, 1) := by decide +kernel
theorem dX4_readSingle_25 : decode cX4_readSingle 25 = .ok (.bipush 40, 2) := by decide +kernel
theorem dX4_readSingle_27 : decode cX4_readSingle 27 = .ok (.if_icmp .ne 25, 3) := by decide +kernel
theorem dX4_readSingle_30 : decode cX4_readSingle 30 = .ok (.iload_n 1, 1) := by decide +kernel
theorem dX4_readSingle_31 : decode cX4_readSingle 31 = .ok (.iconst 5, 1) := by decide +kernel
theorem dX4_readSingle_32 : decode cX4_readSingle 32 = .ok (.if_icmp .ge 18, 3) := by decide +kernel
theorem dX4_readSingle_35 : decode cX4_readSingle 35 = .ok (.aload_n 0, 1) := by decide +kernel
theorem dX4_readSingle_36 : decode cX4_readSingle 36 = .ok (.iload_n 2, 1) := by decide +kernel
theorem dX4_readSingle_37 : decode cX4_readSingle 37 = .ok (.iload_n 1, 1) := by decide +kernel
theorem dX4_readSingle_38 : decode cX4_readSingle 38 = .ok (.iconst 1, 1) := by decide +kernel
theorem dX4_readSingle_39 : decode cX4_readSingle 39 = .ok (.iadd, 1) := by decide +kernel
theorem dX4_readSingle_40 : decode cX4_readSingle 40 = .ok (.invokevirtual 67, 3) := by decide +kernel
theorem dX4_readSingle_43 : decode cX4_readSingle 43 = .ok (.ifCond .eq 7, 3) := by decide +kernel
theorem dX4_readSingle_46 : decode cX4_readSingle 46 = .ok (.iconst 1, 1) := by decide +kernel
theorem dX4_readSingle_47 : decode cX4_readSingle 47 = .ok (.goto 4, 3) := by decide +kernel
theorem dX4_readSingle_50 : decode cX4_readSingle 50 = .ok (.iconst 0, 1) := by decide +kernel
theorem dX4_readSingle_51 : decode cX4_readSingle 51 = .ok (.ireturn, 1) := by decide +kernel
theorem dX4_readSingle_52 : decode cX4_readSingle 52 = .ok (.aload_n 0, 1) := by decide +kernel
theorem dX4_readSingle_53 : decode cX4_readSingle 53 = .ok (.iload_n 2, 1) := by decide +kernel
theorem dX4_readSingle_54 : decode cX4_readSingle 54 = .ok (.invokevirtual 70, 3) := by decide +kernel
theorem dX4_readSingle_57 : decode cX4_readSingle 57 = .ok (.istore_n 3, 1) := by decide +kernel
theorem dX4_readSingle_58 : decode cX4_readSingle 58 = .ok (.iload_n 3, 1) := by decide +kernel
theorem dX4_readSingle_59 : decode cX4_readSingle 59 = .ok (.ifCond .ge 5, 3) := by decide +kernel
theorem dX4_readSingle_62 : decode cX4_readSingle 62 = .ok (.iconst 0, 1) := by decide +kernel
theorem dX4_readSingle_63 : decode cX4_readSingle 63 = .ok (.ireturn, 1) := by decide +kernel
theorem dX4_readSingle_64 : decode cX4_readSingle 64 = .ok (.aload_n 0, 1) := by decide +kernel
theorem dX4_readSingle_65 : decode cX4_readSingle 65 = .ok (.dup, 1) := by decide +kernel
theorem dX4_readSingle_66 : decode cX4_readSingle 66 = .ok (.getfield 29, 3) := by decide +kernel
theorem dX4_readSingle_69 : decode cX4_readSingle 69 = .ok (.iconst 1, 1) := by decide +kernel
theorem dX4_readSingle_70 : decode cX4_readSingle 70 = .ok (.iadd, 1) := by decide +kernel
theorem dX4_readSingle_71 : decode cX4_readSingle 71 = .ok (.putfield 29, 3) := by decide +kernel
theorem dX4_readSingle_74 : decode cX4_readSingle 74 = .ok (.aload_n 0, 1) := by decide +kernel
theorem dX4_readSingle_75 : decode cX4_readSingle 75 = .ok (.getfield 12, 3) := by decide +kernel
theorem dX4_readSingle_78 : decode cX4_readSingle 78 = .ok (.sipush 10000, 3) := by decide +kernel
theorem dX4_readSingle_81 : decode cX4_readSingle 81 = .ok (.iload_n 3, 1) := by decide +kernel
theorem dX4_readSingle_82 : decode cX4_readSingle 82 = .ok (.iadd, 1) := by decide +kernel
theorem dX4_readSingle_83 : decode cX4_readSingle 83 = .ok (.invokevirtual 57, 3) := by decide +kernel
theorem dX4_readSingle_86 : decode cX4_readSingle 86 = .ok (.iconst 1, 1) := by decide +kernel
theorem dX4_readSingle_87 : decode cX4_readSingle 87 = .ok (.ireturn, 1) := by decide +kernel
theorem dX4_readInside_0 : decode cX4_readInside 0 = .ok (.aload_n 0, 1) := by decide +kernel
theorem dX4_readInside_1 : decode cX4_readInside 1 = .ok (.dup, 1) := by decide +kernel
theorem dX4_readInside_2 : decode cX4_readInside 2 = .ok (.getfield 29, 3) := by decide +kernel
theorem dX4_readInside_5 : decode cX4_readInside 5 = .ok (.iconst 1, 1) := by decide +kernel
theorem dX4_readInside_6 : decode cX4_readInside 6 = .ok (.iadd, 1) := by decide +kernel
theorem dX4_readInside_7 : decode cX4_readInside 7 = .ok (.putfield 29, 3) := by decide +kernel
theorem dX4_readInside_10 : decode cX4_readInside 10 = .ok (.iload_n 1, 1) := by decide +kernel
theorem dX4_readInside_11 : decode cX4_readInside 11 = .ok (.bipush 33, 2) := by decide +kernel
theorem dX4_readInside_13 : decode cX4_readInside 13 = .ok (.if_icmp .ne 21, 3) := by decide +kernel
theorem dX4_readInside_16 : decode cX4_readInside 16 = .ok (.aload_n 0, 1) := by decide +kernel
theorem dX4_readInside_17 : decode cX4_readInside 17 = .ok (.iload_n 2, 1) := by decide +kernel
theorem dX4_readInside_18 : decode cX4_readInside 18 = .ok (.invokevirtual 45, 3) := by decide +kernel
theorem dX4_readInside_21 : decode cX4_readInside 21 = .ok (.istore_n 3, 1) := by decide +kernel
theorem dX4_readInside_22 : decode cX4_readInside 22 = .ok (.aload_n 0, 1) := by decide +kernel
theorem dX4_readInside_23 : decode cX4_readInside 23 = .ok (.getfield 12, 3) := by decide +kernel
theorem dX4_readInside_26 : decode cX4_readInside 26 = .ok (.sipush 20033, 3) := by decide +kernel
theorem dX4_readInside_29 : decode cX4_readInside 29 = .ok (.invokevirtual 57, 3) := by decide +kernel
theorem dX4_readInside_32 : decode cX4_readInside 32 = .ok (.iload_n 3, 1) := by decide +kernel
theorem dX4_readInside_33 : decode cX4_readInside 33 = .ok (.ireturn, 1) := by decide +kernel
theorem dX4_readInside_34 : decode cX4_readInside 34 = .ok (.aload_n 0, 1) := by decide +kernel
theorem dX4_readInside_35 : decode cX4_readInside 35 = .ok (.iconst 0, 1) := by decide +kernel
theorem dX4_readInside_36 : decode cX4_readInside 36 = .ok (.iload_n 2, 1) := by decide +kernel
theorem dX4_readInside_37 : decode cX4_readInside 37 = .ok (.invokevirtual 41, 3) := by decide +kernel
theorem dX4_readInside_40 : decode cX4_readInside 40 = .ok (.ifCond .eq 12, 3) := by decide +kernel
theorem dX4_readInside_43 : decode cX4_readInside 43 = .ok (.aload_n 0, 1) := by decide +kernel
theorem dX4_readInside_44 : decode cX4_readInside 44 = .ok (.invokevirtual 49, 3) := by decide +kernel
theorem dX4_readInside_47 : decode cX4_readInside 47 = .ok (.bipush 41, 2) := by decide +kernel
theorem dX4_readInside_49 : decode cX4_readInside 49 = .ok (.if_icmp .eq 5, 3) := by decide +kernel
theorem dX4_readInside_52 : decode cX4_readInside 52 = .ok (.iconst 0, 1) := by decide +kernel
theorem dX4_readInside_53 : decode cX4_readInside 53 = .ok (.ireturn, 1) := by decide +kernel
theorem dX4_readInside_54 : decode cX4_readInside 54 = .ok (.aload_n 0, 1) := by decide +kernel
theorem dX4_readInside_55 : decode cX4_readInside 55 = .ok (.dup, 1) := by decide +kernel
theorem dX4_readInside_56 : decode cX4_readInside 56 = .ok (.getfield 29, 3) := by decide +kernel
theorem dX4_readInside_59 : decode cX4_readInside 59 = .ok (.iconst 1, 1) := by decide +kernel
theorem dX4_readInside_60 : decode cX4_readInside 60 = .ok (.iadd, 1) := by decide +kernel
theorem dX4_readInside_61 : decode cX4_readInside 61 = .ok (.putfield 29, 3) := by decide +kernel
theorem dX4_readInside_64 : decode cX4_readInside 64 = .ok (.iconst 1, 1) := by decide +kernel
theorem dX4_readInside_65 : decode cX4_readInside 65 = .ok (.ireturn, 1) := by decide +kernel
theorem dX4_readNumber_0 : decode cX4_readNumber 0 = .ok (.iconst 0, 1) := by decide +kernel
theorem dX4_readNumber_1 : decode cX4_readNumber 1 = .ok (.istore_n 1, 1) := by decide +kernel
theorem dX4_readNumber_2 : decode cX4_readNumber 2 = .ok (.iconst 0, 1) := by decide +kernel
theorem dX4_readNumber_3 : decode cX4_readNumber 3 = .ok (.istore_n 2, 1) := by decide +kernel
theorem dX4_readNumber_4 : decode cX4_readNumber 4 = .ok (.iload_n 2, 1) := by decide +kernel
theorem dX4_readNumber_5 : decode cX4_readNumber 5 = .ok (.iconst 4, 1) := by decide +kernel
theorem dX4_readNumber_6 : decode cX4_readNumber 6 = .ok (.if_icmp .ge 42, 3) := by decide +kernel
theorem dX4_readNumber_9 : decode cX4_readNumber 9 = .ok (.aload_n 0, 1) := by decide +kernel
theorem dX4_readNumber_10 : decode cX4_readNumber 10 = .ok (.invokevirtual 49, 3) := by decide +kernel
theorem dX4_readNumber_13 : decode cX4_readNumber 13 = .ok (.invokestatic 61, 3) := by decide +kernel
theorem dX4_readNumber_16 : decode cX4_readNumber 16 = .ok (.ifCond .eq 32, 3) := by decide +kernel
theorem dX4_readNumber_19 : decode cX4_readNumber 19 = .ok (.bipush 10, 2) := by decide +kernel
theorem dX4_readNumber_21 : decode cX4_readNumber 21 = .ok (.iload_n 1, 1) := by decide +kernel
theorem dX4_readNumber_22 : decode cX4_readNumber 22 = .ok (.imul, 1) := by decide +kernel
theorem dX4_readNumber_23 : decode cX4_readNumber 23 = .ok (.aload_n 0, 1) := by decide +kernel
theorem dX4_readNumber_24 : decode cX4_readNumber 24 = .ok (.invokevirtual 49, 3) := by decide +kernel
theorem dX4_readNumber_27 : decode cX4_readNumber 27 = .ok (.iadd, 1) := by decide +kernel
theorem dX4_readNumber_28 : decode cX4_readNumber 28 = .ok (.bipush 48, 2) := by decide +kernel
theorem dX4_readNumber_30 : decode cX4_readNumber 30 = .ok (.isub, 1) := by decide +kernel
theorem dX4_readNumber_31 : decode cX4_readNumber 31 = .ok (.istore_n 1, 1) := by decide +kernel
theorem dX4_readNumber_32 : decode cX4_readNumber 32 = .ok (.aload_n 0, 1) := by decide +kernel
theorem dX4_readNumber_33 : decode cX4_readNumber 33 = .ok (.dup, 1) := by decide +kernel
theorem dX4_readNumber_34 : decode cX4_readNumber 34 = .ok (.getfield 29, 3) := by decide +kernel
theorem dX4_readNumber_37 : decode cX4_readNumber 37 = .ok (.iconst 1, 1) := by decide +kernel
theorem dX4_readNumber_38 : decode cX4_readNumber 38 = .ok (.iadd, 1) := by decide +kernel
theorem dX4_readNumber_39 : decode cX4_readNumber 39 = .ok (.putfield 29, 3) := by decide +kernel
theorem dX4_readNumber_42 : decode cX4_readNumber 42 = .ok (.iinc 2 1, 3) := by decide +kernel
theorem dX4_readNumber_45 : decode cX4_readNumber 45 = .ok (.goto (-41), 3) := by decide +kernel
theorem dX4_readNumber_48 : decode cX4_readNumber 48 = .ok (.aload_n 0, 1) := by decide +kernel
theorem dX4_readNumber_49 : decode cX4_readNumber 49 = .ok (.getfield 12, 3) := by decide +kernel
theorem dX4_readNumber_52 : decode cX4_readNumber 52 = .ok (.iload_n 1, 1) := by decide +kernel
theorem dX4_readNumber_53 : decode cX4_readNumber 53 = .ok (.invokevirtual 57, 3) := by decide +kernel
theorem dX4_readNumber_56 : decode cX4_readNumber 56 = .ok (.return_, 1) := by decide +kernel
theorem dX4_next_0 : decode cX4_next 0 = .ok (.aload_n 0, 1) := by decide +kernel
theorem dX4_next_1 : decode cX4_next 1 = .ok (.getfield 29, 3) := by decide +kernel
theorem dX4_next_4 : decode cX4_next 4 = .ok (.ifCond .lt 26, 3) := by decide +kernel
theorem dX4_next_7 : decode cX4_next 7 = .ok (.aload_n 0, 1) := by decide +kernel
theorem dX4_next_8 : decode cX4_next 8 = .ok (.getfield 29, 3) := by decide +kernel
theorem dX4_next_11 : decode cX4_next 11 = .ok (.aload_n 0, 1) := by decide +kernel
theorem dX4_next_12 : decode cX4_next 12 = .ok (.getfield 22, 3) := by decide +kernel
theorem dX4_next_15 : decode cX4_next 15 = .ok (.if_icmp .ge 15, 3) := by decide +kernel
theorem dX4_next_18 : decode cX4_next 18 = .ok (.aload_n 0, 1) := by decide +kernel
theorem dX4_next_19 : decode cX4_next 19 = .ok (.getfield 18, 3) := by decide +kernel
theorem dX4_next_22 : decode cX4_next 22 = .ok (.aload_n 0, 1) := by decide +kernel
theorem dX4_next_23 : decode cX4_next 23 = .ok (.getfield 29, 3) := by decide +kernel
theorem dX4_next_26 : decode cX4_next 26 = .ok (.iaload, 1) := by decide +kernel
theorem dX4_next_27 : decode cX4_next 27 = .ok (.goto 4, 3) := by decide +kernel
theorem dX4_next_30 : decode cX4_next 30 = .ok (.iconst (-1), 1) := by decide +kernel
theorem dX4_next_31 : decode cX4_next 31 = .ok (.ireturn, 1) := by decide +kernel
theorem dX4_nameOf_0 : decode cX4_nameOf 0 = .ok (.iload_n 1, 1) := by decide +kernel
theorem dX4_nameOf_1 : decode cX4_nameOf 1 = .ok (.lookupswitch 140 #[(98, 85), (100, 126), (102, 112), (104, 72), (111, 98), (119, 59)], 59) := by decide +kernel
theorem dX4_nameOf_60 : decode cX4_nameOf 60 = .ok (.aload_n 0, 1) := by decide +kernel
theorem dX4_nameOf_61 : decode cX4_nameOf 61 = .ok (.getfield 26, 3) := by decide +kernel
theorem dX4_nameOf_64 : decode cX4_nameOf 64 = .ok (.ifCond .ne 7, 3) := by decide +kernel
theorem dX4_nameOf_67 : decode cX4_nameOf 67 = .ok (.iconst 0, 1) := by decide +kernel
theorem dX4_nameOf_68 : decode cX4_nameOf 68 = .ok (.goto 4, 3) := by decide +kernel
theorem dX4_nameOf_71 : decode cX4_nameOf 71 = .ok (.iconst (-1), 1) := by decide +kernel
theorem dX4_nameOf_72 : decode cX4_nameOf 72 = .ok (.ireturn, 1) := by decide +kernel
theorem dX4_nameOf_73 : decode cX4_nameOf 73 = .ok (.aload_n 0, 1) := by decide +kernel
theorem dX4_nameOf_74 : decode cX4_nameOf 74 = .ok (.getfield 26, 3) := by decide +kernel
theorem dX4_nameOf_77 : decode cX4_nameOf 77 = .ok (.ifCond .ne 7, 3) := by decide +kernel
theorem dX4_nameOf_80 : decode cX4_nameOf 80 = .ok (.iconst 1, 1) := by decide +kernel
theorem dX4_nameOf_81 : decode cX4_nameOf 81 = .ok (.goto 4, 3) := by decide +kernel
theorem dX4_nameOf_84 : decode cX4_nameOf 84 = .ok (.iconst (-1), 1) := by decide +kernel
theorem dX4_nameOf_85 : decode cX4_nameOf 85 = .ok (.ireturn, 1) := by decide +kernel
theorem dX4_nameOf_86 : decode cX4_nameOf 86 = .ok (.aload_n 0, 1) := by decide +kernel
theorem dX4_nameOf_87 : decode cX4_nameOf 87 = .ok (.getfield 26, 3) := by decide +kernel
theorem dX4_nameOf_90 : decode cX4_nameOf 90 = .ok (.ifCond .ne 7, 3) := by decide +kernel
theorem dX4_nameOf_93 : decode cX4_nameOf 93 = .ok (.iconst 2, 1) := by decide +kernel
theorem dX4_nameOf_94 : decode cX4_nameOf 94 = .ok (.goto 4, 3) := by decide +kernel
theorem dX4_nameOf_97 : decode cX4_nameOf 97 = .ok (.iconst (-1), 1) := by decide +kernel
theorem dX4_nameOf_98 : decode cX4_nameOf 98 = .ok (.ireturn, 1) := by decide +kernel
theorem dX4_nameOf_99 : decode cX4_nameOf 99 = .ok (.aload_n 0, 1) := by decide +kernel
theorem dX4_nameOf_100 : decode cX4_nameOf 100 = .ok (.getfield 26, 3) := by decide +kernel
theorem dX4_nameOf_103 : decode cX4_nameOf 103 = .ok (.iconst 1, 1) := by decide +kernel
theorem dX4_nameOf_104 : decode cX4_nameOf 104 = .ok (.if_icmp .ne 7, 3) := by decide +kernel
theorem dX4_nameOf_107 : decode cX4_nameOf 107 = .ok (.iconst 0, 1) := by decide +kernel
theorem dX4_nameOf_108 : decode cX4_nameOf 108 = .ok (.goto 4, 3) := by decide +kernel
theorem dX4_nameOf_111 : decode cX4_nameOf 111 = .ok (.iconst (-1), 1) := by decide +kernel
theorem dX4_nameOf_112 : decode cX4_nameOf 112 = .ok (.ireturn, 1) := by decide +kernel
theorem dX4_nameOf_113 : decode cX4_nameOf 113 = .ok (.aload_n 0, 1) := by decide +kernel
theorem dX4_nameOf_114 : decode cX4_nameOf 114 = .ok (.getfield 26, 3) := by decide +kernel
theorem dX4_nameOf_117 : decode cX4_nameOf 117 = .ok (.iconst 1, 1) := by decide +kernel
theorem dX4_nameOf_118 : decode cX4_nameOf 118 = .ok (.if_icmp .ne 7, 3) := by decide +kernel
theorem dX4_nameOf_121 : decode cX4_nameOf 121 = .ok (.iconst 1, 1) := by decide +kernel
theorem dX4_nameOf_122 : decode cX4_nameOf 122 = .ok (.goto 4, 3) := by decide +kernel
theorem dX4_nameOf_125 : decode cX4_nameOf 125 = .ok (.iconst (-1), 1) := by decide +kernel
theorem dX4_nameOf_126 : decode cX4_nameOf 126 = .ok (.ireturn, 1) := by decide +kernel
theorem dX4_nameOf_127 : decode cX4_nameOf 127 = .ok (.aload_n 0, 1) := by decide +kernel
theorem dX4_nameOf_128 : decode cX4_nameOf 128 = .ok (.getfield 26, 3) := by decide +kernel
theorem dX4_nameOf_131 : decode cX4_nameOf 131 = .ok (.iconst 1, 1) := by decide +kernel
theorem dX4_nameOf_132 : decode cX4_nameOf 132 = .ok (.if_icmp .ne 7, 3) := by decide +kernel
theorem dX4_nameOf_135 : decode cX4_nameOf 135 = .ok (.iconst 2, 1) := by decide +kernel
theorem dX4_nameOf_136 : decode cX4_nameOf 136 = .ok (.goto 4, 3) := by decide +kernel
theorem dX4_nameOf_139 : decode cX4_nameOf 139 = .ok (.iconst (-1), 1) := by decide +kernel
theorem dX4_nameOf_140 : decode cX4_nameOf 140 = .ok (.ireturn, 1) := by decide +kernel
theorem dX4_nameOf_141 : decode cX4_nameOf 141 = .ok (.iconst (-1), 1) := by decide +kernel
theorem dX4_nameOf_142 : decode cX4_nameOf 142 = .ok (.ireturn, 1) := by decide +kernel
theorem dX4_isDigit_0 : decode cX4_isDigit 0 = .ok (.iload_n 0, 1) := by decide +kernel
theorem dX4_isDigit_1 : decode cX4_isDigit 1 = .ok (.bipush 48, 2) := by decide +kernel
theorem dX4_isDigit_3 : decode cX4_isDigit 3 = .ok (.if_icmp .lt 13, 3) := by decide +kernel
theorem dX4_isDigit_6 : decode cX4_isDigit 6 = .ok (.iload_n 0, 1) := by decide +kernel
theorem dX4_isDigit_7 : decode cX4_isDigit 7 = .ok (.bipush 57, 2) := by decide +kernel
theorem dX4_isDigit_9 : decode cX4_isDigit 9 = .ok (.if_icmp .gt 7, 3) := by decide +kernel
theorem dX4_isDigit_12 : decode cX4_isDigit 12 = .ok (.iconst 1, 1) := by decide +kernel
theorem dX4_isDigit_13 : decode cX4_isDigit 13 = .ok (.goto 4, 3) := by decide +kernel
theorem dX4_isDigit_16 : decode cX4_isDigit 16 = .ok (.iconst 0, 1) := by decide +kernel
theorem dX4_isDigit_17 : decode cX4_isDigit 17 = .ok (.ireturn, 1) := by decide +kernel
theorem dX4_levelOf_0 : decode cX4_levelOf 0 = .ok (.iload_n 0, 1) := by decide +kernel
theorem dX4_levelOf_1 : decode cX4_levelOf 1 = .ok (.lookupswitch 101 #[(37, 99), (38, 93), (42, 99), (43, 97), (45, 97), (47, 99), (60, 95), (61, 95), (62, 95), (124, 91)], 91) := by decide +kernel
theorem dX4_levelOf_92 : decode cX4_levelOf 92 = .ok (.iconst 0, 1) := by decide +kernel
theorem dX4_levelOf_93 : decode cX4_levelOf 93 = .ok (.ireturn, 1) := by decide +kernel
theorem dX4_levelOf_94 : decode cX4_levelOf 94 = .ok (.iconst 1, 1) := by decide +kernel
theorem dX4_levelOf_95 : decode cX4_levelOf 95 = .ok (.ireturn, 1) := by decide +kernel
theorem dX4_levelOf_96 : decode cX4_levelOf 96 = .ok (.iconst 2, 1) := by decide +kernel
theorem dX4_levelOf_97 : decode cX4_levelOf 97 = .ok (.ireturn, 1) := by decide +kernel
theorem dX4_levelOf_98 : decode cX4_levelOf 98 = .ok (.iconst 3, 1) := by decide +kernel
theorem dX4_levelOf_99 : decode cX4_levelOf 99 = .ok (.ireturn, 1) := by decide +kernel
theorem dX4_levelOf_100 : decode cX4_levelOf 100 = .ok (.iconst 4, 1) := by decide +kernel
theorem dX4_levelOf_101 : decode cX4_levelOf 101 = .ok (.ireturn, 1) := by decide +kernel
theorem dX4_levelOf_102 : decode cX4_levelOf 102 = .ok (.iconst (-1), 1) := by decide +kernel
theorem dX4_levelOf_103 : decode cX4_levelOf 103 = .ok (.ireturn, 1) := by decide +kernel
theorem dX5_init_0 : decode cX5_init 0 = .ok (.aload_n 0, 1) := by decide +kernel
theorem dX5_init_1 : decode cX5_init 1 = .ok (.invokespecial 3, 3) := by decide +kernel
theorem dX5_init_4 : decode cX5_init 4 = .ok (.aload_n 0, 1) := by decide +kernel
theorem dX5_init_5 : decode cX5_init 5 = .ok (.bipush 40, 2) := by decide +kernel
theorem dX5_init_7 : decode cX5_init 7 = .ok (.newarray .int, 2) := by decide +kernel
theorem dX5_init_9 : decode cX5_init 9 = .ok (.putfield 9, 3) := by decide +kernel
theorem dX5_init_12 : decode cX5_init 12 = .ok (.aload_n 0, 1) := by decide +kernel
theorem dX5_init_13 : decode cX5_init 13 = .ok (.iconst 0, 1) := by decide +kernel
theorem dX5_init_14 : decode cX5_init 14 = .ok (.putfield 15, 3) := by decide +kernel
theorem dX5_init_17 : decode cX5_init 17 = .ok (.aload_n 0, 1) := by decide +kernel
theorem dX5_init_18 : decode cX5_init 18 = .ok (.iconst 0, 1) := by decide +kernel
theorem dX5_init_19 : decode cX5_init 19 = .ok (.putfield 19, 3) := by decide +kernel
theorem dX5_init_22 : decode cX5_init 22 = .ok (.return_, 1) := by decide +kernel
theorem dX5_isMissing_0 : decode cX5_isMissing 0 = .ok (.aload_n 0, 1) := by decide +kernel
theorem dX5_isMissing_1 : decode cX5_isMissing 1 = .ok (.getfield 15, 3) := by decide +kernel
theorem dX5_isMissing_4 : decode cX5_isMissing 4 = .ok (.ifCond .ne 7, 3) := by decide +kernel
theorem dX5_isMissing_7 : decode cX5_isMissing 7 = .ok (.iconst 1, 1) := by decide +kernel
theorem dX5_isMissing_8 : decode cX5_isMissing 8 = .ok (.goto 4, 3) := by decide +kernel
theorem dX5_isMissing_11 : decode cX5_isMissing 11 = .ok (.iconst 0, 1) := by decide +kernel
theorem dX5_isMissing_12 : decode cX5_isMissing 12 = .ok (.ireturn, 1) := by decide +kernel
theorem dX5_begin_0 : decode cX5_begin 0 = .ok (.aload_n 0, 1) := by decide +kernel
theorem dX5_begin_1 : decode cX5_begin 1 = .ok (.iload_n 1, 1) := by decide +kernel
theorem dX5_begin_2 : decode cX5_begin 2 = .ok (.putfield 15, 3) := by decide +kernel
theorem dX5_begin_5 : decode cX5_begin 5 = .ok (.aload_n 0, 1) := by decide +kernel
theorem dX5_begin_6 : decode cX5_begin 6 = .ok (.iload_n 2, 1) := by decide +kernel
theorem dX5_begin_7 : decode cX5_begin 7 = .ok (.putfield 19, 3) := by decide +kernel
theorem dX5_begin_10 : decode cX5_begin 10 = .ok (.aload_n 0, 1) := by decide +kernel
theorem dX5_begin_11 : decode cX5_begin 11 = .ok (.getfield 9, 3) := by decide +kernel
theorem dX5_begin_14 : decode cX5_begin 14 = .ok (.iconst 0, 1) := by decide +kernel
theorem dX5_begin_15 : decode cX5_begin 15 = .ok (.invokestatic 22, 3) := by decide +kernel
theorem dX5_begin_18 : decode cX5_begin 18 = .ok (.return_, 1) := by decide +kernel
theorem dX5_holds_0 : decode cX5_holds 0 = .ok (.iload_n 1, 1) := by decide +kernel
theorem dX5_holds_1 : decode cX5_holds 1 = .ok (.ifCond .lt 29, 3) := by decide +kernel
theorem dX5_holds_4 : decode cX5_holds 4 = .ok (.iload_n 2, 1) := by decide +kernel
theorem dX5_holds_5 : decode cX5_holds 5 = .ok (.ifCond .lt 25, 3) := by decide +kernel
theorem dX5_holds_8 : decode cX5_holds 8 = .ok (.iload_n 2, 1) := by decide +kernel
theorem dX5_holds_9 : decode cX5_holds 9 = .ok (.aload_n 0, 1) := by decide +kernel
theorem dX5_holds_10 : decode cX5_holds 10 = .ok (.getfield 19, 3) := by decide +kernel
theorem dX5_holds_13 : decode cX5_holds 13 = .ok (.if_icmp .gt 17, 3) := by decide +kernel
theorem dX5_holds_16 : decode cX5_holds 16 = .ok (.iload_n 1, 1) := by decide +kernel
theorem dX5_holds_17 : decode cX5_holds 17 = .ok (.aload_n 0, 1) := by decide +kernel
theorem dX5_holds_18 : decode cX5_holds 18 = .ok (.getfield 19, 3) := by decide +kernel
theorem dX5_holds_21 : decode cX5_holds 21 = .ok (.iload_n 2, 1) := by decide +kernel
theorem dX5_holds_22 : decode cX5_holds 22 = .ok (.isub, 1) := by decide +kernel
theorem dX5_holds_23 : decode cX5_holds 23 = .ok (.if_icmp .gt 7, 3) := by decide +kernel
theorem dX5_holds_26 : decode cX5_holds 26 = .ok (.iconst 1, 1) := by decide +kernel
theorem dX5_holds_27 : decode cX5_holds 27 = .ok (.goto 4, 3) := by decide +kernel
theorem dX5_holds_30 : decode cX5_holds 30 = .ok (.iconst 0, 1) := by decide +kernel
theorem dX5_holds_31 : decode cX5_holds 31 = .ok (.ireturn, 1) := by decide +kernel
theorem dX5_lowestBits_0 : decode cX5_lowestBits 0 = .ok (.aload_n 0, 1) := by decide +kernel
theorem dX5_lowestBits_1 : decode cX5_lowestBits 1 = .ok (.getfield 15, 3) := by decide +kernel
theorem dX5_lowestBits_4 : decode cX5_lowestBits 4 = .ok (.bipush 8, 2) := by decide +kernel
theorem dX5_lowestBits_6 : decode cX5_lowestBits 6 = .ok (.if_icmp .ne 6, 3) := by decide +kernel
theorem dX5_lowestBits_9 : decode cX5_lowestBits 9 = .ok (.iload_n 1, 1) := by decide +kernel
theorem dX5_lowestBits_10 : decode cX5_lowestBits 10 = .ok (.i2b, 1) := by decide +kernel
theorem dX5_lowestBits_11 : decode cX5_lowestBits 11 = .ok (.ireturn, 1) := by decide +kernel
theorem dX5_lowestBits_12 : decode cX5_lowestBits 12 = .ok (.aload_n 0, 1) := by decide +kernel
theorem dX5_lowestBits_13 : decode cX5_lowestBits 13 = .ok (.getfield 15, 3) := by decide +kernel
theorem dX5_lowestBits_16 : decode cX5_lowestBits 16 = .ok (.bipush 16, 2) := by decide +kernel
theorem dX5_lowestBits_18 : decode cX5_lowestBits 18 = .ok (.if_icmp .ne 8, 3) := by decide +kernel
theorem dX5_lowestBits_21 : decode cX5_lowestBits 21 = .ok (.iload_n 1, 1) := by decide +kernel
theorem dX5_lowestBits_22 : decode cX5_lowestBits 22 = .ok (.i2s, 1) := by decide +kernel
theorem dX5_lowestBits_23 : decode cX5_lowestBits 23 = .ok (.goto 4, 3) := by decide +kernel
theorem dX5_lowestBits_26 : decode cX5_lowestBits 26 = .ok (.iload_n 1, 1) := by decide +kernel
theorem dX5_lowestBits_27 : decode cX5_lowestBits 27 = .ok (.ireturn, 1) := by decide +kernel
theorem dX6_init_0 : decode cX6_init 0 = .ok (.aload_n 0, 1) := by decide +kernel
theorem dX6_init_1 : decode cX6_init 1 = .ok (.invokespecial 3, 3) := by decide +kernel
theorem dX6_init_4 : decode cX6_init 4 = .ok (.aload_n 0, 1) := by decide +kernel
theorem dX6_init_5 : decode cX6_init 5 = .ok (.sipush 128, 3) := by decide +kernel
theorem dX6_init_8 : decode cX6_init 8 = .ok (.newarray .int, 2) := by decide +kernel
theorem dX6_init_10 : decode cX6_init 10 = .ok (.putfield 9, 3) := by decide +kernel
theorem dX6_init_13 : decode cX6_init 13 = .ok (.aload_n 0, 1) := by decide +kernel
theorem dX6_init_14 : decode cX6_init 14 = .ok (.sipush 128, 3) := by decide +kernel
theorem dX6_init_17 : decode cX6_init 17 = .ok (.newarray .int, 2) := by decide +kernel
theorem dX6_init_19 : decode cX6_init 19 = .ok (.putfield 15, 3) := by decide +kernel
theorem dX6_init_22 : decode cX6_init 22 = .ok (.aload_n 0, 1) := by decide +kernel
theorem dX6_init_23 : decode cX6_init 23 = .ok (.bipush 16, 2) := by decide +kernel
theorem dX6_init_25 : decode cX6_init 25 = .ok (.newarray .int, 2) := by decide +kernel
theorem dX6_init_27 : decode cX6_init 27 = .ok (.putfield 18, 3) := by decide +kernel
theorem dX6_init_30 : decode cX6_init 30 = .ok (.aload_n 0, 1) := by decide +kernel
theorem dX6_init_31 : decode cX6_init 31 = .ok (.sipush 128, 3) := by decide +kernel
theorem dX6_init_34 : decode cX6_init 34 = .ok (.newarray .int, 2) := by decide +kernel
theorem dX6_init_36 : decode cX6_init 36 = .ok (.putfield 21, 3) := by decide +kernel
theorem dX6_init_39 : decode cX6_init 39 = .ok (.aload_n 0, 1) := by decide +kernel
theorem dX6_init_40 : decode cX6_init 40 = .ok (.sipush 128, 3) := by decide +kernel
theorem dX6_init_43 : decode cX6_init 43 = .ok (.newarray .int, 2) := by decide +kernel
theorem dX6_init_45 : decode cX6_init 45 = .ok (.putfield 24, 3) := by decide +kernel
theorem dX6_init_48 : decode cX6_init 48 = .ok (.iconst 0, 1) := by decide +kernel
theorem dX6_init_49 : decode cX6_init 49 = .ok (.istore_n 1, 1) := by decide +kernel
theorem dX6_init_50 : decode cX6_init 50 = .ok (.iload_n 1, 1) := by decide +kernel
theorem dX6_init_51 : decode cX6_init 51 = .ok (.sipush 128, 3) := by decide +kernel
theorem dX6_init_54 : decode cX6_init 54 = .ok (.if_icmp .ge 14, 3) := by decide +kernel
theorem dX6_init_57 : decode cX6_init 57 = .ok (.aload_n 0, 1) := by decide +kernel
theorem dX6_init_58 : decode cX6_init 58 = .ok (.iload_n 1, 1) := by decide +kernel
theorem dX6_init_59 : decode cX6_init 59 = .ok (.invokevirtual 27, 3) := by decide +kernel
theorem dX6_init_62 : decode cX6_init 62 = .ok (.iinc 1 1, 3) := by decide +kernel
theorem dX6_init_65 : decode cX6_init 65 = .ok (.goto (-15), 3) := by decide +kernel
theorem dX6_init_68 : decode cX6_init 68 = .ok (.return_, 1) := by decide +kernel
theorem dX6_layFlat_0 : decode cX6_layFlat 0 = .ok (.aload_n 0, 1) := by decide +kernel
theorem dX6_layFlat_1 : decode cX6_layFlat 1 = .ok (.getfield 18, 3) := by decide +kernel
theorem dX6_layFlat_4 : decode cX6_layFlat 4 = .ok (.iconst 0, 1) := by decide +kernel
theorem dX6_layFlat_5 : decode cX6_layFlat 5 = .ok (.invokestatic 31, 3) := by decide +kernel
theorem dX6_layFlat_8 : decode cX6_layFlat 8 = .ok (.bipush 8, 2) := by decide +kernel
theorem dX6_layFlat_10 : decode cX6_layFlat 10 = .ok (.istore_n 2, 1) := by decide +kernel
theorem dX6_layFlat_11 : decode cX6_layFlat 11 = .ok (.iconst 1, 1) := by decide +kernel
theorem dX6_layFlat_12 : decode cX6_layFlat 12 = .ok (.istore_n 3, 1) := by decide +kernel
theorem dX6_layFlat_13 : decode cX6_layFlat 13 = .ok (.iload_n 2, 1) := by decide +kernel
theorem dX6_layFlat_14 : decode cX6_layFlat 14 = .ok (.istore 4, 2) := by decide +kernel
theorem dX6_layFlat_16 : decode cX6_layFlat 16 = .ok (.iload_n 2, 1) := by decide +kernel
theorem dX6_layFlat_17 : decode cX6_layFlat 17 = .ok (.istore 5, 2) := by decide +kernel
theorem dX6_layFlat_19 : decode cX6_layFlat 19 = .ok (.iconst 0, 1) := by decide +kernel
theorem dX6_layFlat_20 : decode cX6_layFlat 20 = .ok (.istore 6, 2) := by decide +kernel
theorem dX6_layFlat_22 : decode cX6_layFlat 22 = .ok (.iconst 0, 1) := by decide +kernel
theorem dX6_layFlat_23 : decode cX6_layFlat 23 = .ok (.istore 7, 2) := by decide +kernel
theorem dX6_layFlat_25 : decode cX6_layFlat 25 = .ok (.iload 7, 2) := by decide +kernel
theorem dX6_layFlat_27 : decode cX6_layFlat 27 = .ok (.bipush 8, 2) := by decide +kernel
theorem dX6_layFlat_29 : decode cX6_layFlat 29 = .ok (.if_icmp .ge 93, 3) := by decide +kernel
theorem dX6_layFlat_32 : decode cX6_layFlat 32 = .ok (.iload 7, 2) := by decide +kernel
theorem dX6_layFlat_34 : decode cX6_layFlat 34 = .ok (.ifCond .le 21, 3) := by decide +kernel
theorem dX6_layFlat_37 : decode cX6_layFlat 37 = .ok (.iload_n 1, 1) := by decide +kernel
theorem dX6_layFlat_38 : decode cX6_layFlat 38 = .ok (.iload 7, 2) := by decide +kernel
theorem dX6_layFlat_40 : decode cX6_layFlat 40 = .ok (.iconst 1, 1) := by decide +kernel
theorem dX6_layFlat_41 : decode cX6_layFlat 41 = .ok (.isub, 1) := by decide +kernel
theorem dX6_layFlat_42 : decode cX6_layFlat 42 = .ok (.ishr, 1) := by decide +kernel
theorem dX6_layFlat_43 : decode cX6_layFlat 43 = .ok (.iconst 1, 1) := by decide +kernel
theorem dX6_layFlat_44 : decode cX6_layFlat 44 = .ok (.iand, 1) := by decide +kernel
theorem dX6_layFlat_45 : decode cX6_layFlat 45 = .ok (.iconst 1, 1) := by decide +kernel
theorem dX6_layFlat_46 : decode cX6_layFlat 46 = .ok (.if_icmp .ne 9, 3) := by decide +kernel
theorem dX6_layFlat_49 : decode cX6_layFlat 49 = .ok (.iload_n 3, 1) := by decide +kernel
theorem dX6_layFlat_50 : decode cX6_layFlat 50 = .ok (.ineg, 1) := by decide +kernel
theorem dX6_layFlat_51 : decode cX6_layFlat 51 = .ok (.istore_n 3, 1) := by decide +kernel
theorem dX6_layFlat_52 : decode cX6_layFlat 52 = .ok (.goto 12, 3) := by decide +kernel
theorem dX6_layFlat_55 : decode cX6_layFlat 55 = .ok (.iload 7, 2) := by decide +kernel
theorem dX6_layFlat_57 : decode cX6_layFlat 57 = .ok (.ifCond .le 7, 3) := by decide +kernel
theorem dX6_layFlat_60 : decode cX6_layFlat 60 = .ok (.iload_n 2, 1) := by decide +kernel
theorem dX6_layFlat_61 : decode cX6_layFlat 61 = .ok (.iload_n 3, 1) := by decide +kernel
theorem dX6_layFlat_62 : decode cX6_layFlat 62 = .ok (.iadd, 1) := by decide +kernel
theorem dX6_layFlat_63 : decode cX6_layFlat 63 = .ok (.istore_n 2, 1) := by decide +kernel
theorem dX6_layFlat_64 : decode cX6_layFlat 64 = .ok (.iload_n 2, 1) := by decide +kernel
theorem dX6_layFlat_65 : decode cX6_layFlat 65 = .ok (.ifCond .lt 35, 3) := by decide +kernel
theorem dX6_layFlat_68 : decode cX6_layFlat 68 = .ok (.iload_n 2, 1) := by decide +kernel
theorem dX6_layFlat_69 : decode cX6_layFlat 69 = .ok (.aload_n 0, 1) := by decide +kernel
theorem dX6_layFlat_70 : decode cX6_layFlat 70 = .ok (.getfield 18, 3) := by decide +kernel
theorem dX6_layFlat_73 : decode cX6_layFlat 73 = .ok (.arraylength, 1) := by decide +kernel
theorem dX6_layFlat_74 : decode cX6_layFlat 74 = .ok (.if_icmp .ge 26, 3) := by decide +kernel
theorem dX6_layFlat_77 : decode cX6_layFlat 77 = .ok (.aload_n 0, 1) := by decide +kernel
theorem dX6_layFlat_78 : decode cX6_layFlat 78 = .ok (.getfield 18, 3) := by decide +kernel
theorem dX6_layFlat_81 : decode cX6_layFlat 81 = .ok (.iload_n 2, 1) := by decide +kernel
theorem dX6_layFlat_82 : decode cX6_layFlat 82 = .ok (.dup2, 1) := by decide +kernel
theorem dX6_layFlat_83 : decode cX6_layFlat 83 = .ok (.iaload, 1) := by decide +kernel
theorem dX6_layFlat_84 : decode cX6_layFlat 84 = .ok (.iconst 1, 1) := by decide +kernel
theorem dX6_layFlat_85 : decode cX6_layFlat 85 = .ok (.iadd, 1) := by decide +kernel
theorem dX6_layFlat_86 : decode cX6_layFlat 86 = .ok (.iastore, 1) := by decide +kernel
theorem dX6_layFlat_87 : decode cX6_layFlat 87 = .ok (.iload 6, 2) := by decide +kernel
theorem dX6_layFlat_89 : decode cX6_layFlat 89 = .ok (.aload_n 0, 1) := by decide +kernel
theorem dX6_layFlat_90 : decode cX6_layFlat 90 = .ok (.getfield 18, 3) := by decide +kernel
theorem dX6_layFlat_93 : decode cX6_layFlat 93 = .ok (.iload_n 2, 1) := by decide +kernel
theorem dX6_layFlat_94 : decode cX6_layFlat 94 = .ok (.iaload, 1) := by decide +kernel
theorem dX6_layFlat_95 : decode cX6_layFlat 95 = .ok (.invokestatic 37, 3) := by decide +kernel
theorem dX6_layFlat_98 : decode cX6_layFlat 98 = .ok (.istore 6, 2) := by decide +kernel
theorem dX6_layFlat_100 : decode cX6_layFlat 100 = .ok (.iload 4, 2) := by decide +kernel
theorem dX6_layFlat_102 : decode cX6_layFlat 102 = .ok (.iload_n 2, 1) := by decide +kernel
theorem dX6_layFlat_103 : decode cX6_layFlat 103 = .ok (.invokestatic 43, 3) := by decide +kernel
theorem dX6_layFlat_106 : decode cX6_layFlat 106 = .ok (.istore 4, 2) := by decide +kernel
theorem dX6_layFlat_108 : decode cX6_layFlat 108 = .ok (.iload 5, 2) := by decide +kernel
theorem dX6_layFlat_110 : decode cX6_layFlat 110 = .ok (.iload_n 2, 1) := by decide +kernel
theorem dX6_layFlat_111 : decode cX6_layFlat 111 = .ok (.invokestatic 37, 3) := by decide +kernel
theorem dX6_layFlat_114 : decode cX6_layFlat 114 = .ok (.istore 5, 2) := by decide +kernel
theorem dX6_layFlat_116 : decode cX6_layFlat 116 = .ok (.iinc 7 1, 3) := by decide +kernel
theorem dX6_layFlat_119 : decode cX6_layFlat 119 = .ok (.goto (-94), 3) := by decide +kernel
theorem dX6_layFlat_122 : decode cX6_layFlat 122 = .ok (.aload_n 0, 1) := by decide +kernel
theorem dX6_layFlat_123 : decode cX6_layFlat 123 = .ok (.getfield 9, 3) := by decide +kernel
theorem dX6_layFlat_126 : decode cX6_layFlat 126 = .ok (.iload_n 1, 1) := by decide +kernel
theorem dX6_layFlat_127 : decode cX6_layFlat 127 = .ok (.iload 5, 2) := by decide +kernel
theorem dX6_layFlat_129 : decode cX6_layFlat 129 = .ok (.iload 4, 2) := by decide +kernel
theorem dX6_layFlat_131 : decode cX6_layFlat 131 = .ok (.isub, 1) := by decide +kernel
theorem dX6_layFlat_132 : decode cX6_layFlat 132 = .ok (.iconst 1, 1) := by decide +kernel
theorem dX6_layFlat_133 : decode cX6_layFlat 133 = .ok (.iadd, 1) := by decide +kernel
theorem dX6_layFlat_134 : decode cX6_layFlat 134 = .ok (.iastore, 1) := by decide +kernel
theorem dX6_layFlat_135 : decode cX6_layFlat 135 = .ok (.aload_n 0, 1) := by decide +kernel
theorem dX6_layFlat_136 : decode cX6_layFlat 136 = .ok (.getfield 15, 3) := by decide +kernel
theorem dX6_layFlat_139 : decode cX6_layFlat 139 = .ok (.iload_n 1, 1) := by decide +kernel
theorem dX6_layFlat_140 : decode cX6_layFlat 140 = .ok (.iload 6, 2) := by decide +kernel
theorem dX6_layFlat_142 : decode cX6_layFlat 142 = .ok (.iastore, 1) := by decide +kernel
theorem dX6_layFlat_143 : decode cX6_layFlat 143 = .ok (.return_, 1) := by decide +kernel
theorem dX6_live_0 : decode cX6_live 0 = .ok (.iload_n 2, 1) := by decide +kernel
theorem dX6_live_1 : decode cX6_live 1 = .ok (.ifCond .eq 20, 3) := by decide +kernel
theorem dX6_live_4 : decode cX6_live 4 = .ok (.aload_n 0, 1) := by decide +kernel
theorem dX6_live_5 : decode cX6_live 5 = .ok (.getfield 9, 3) := by decide +kernel
theorem dX6_live_8 : decode cX6_live 8 = .ok (.iload_n 2, 1) := by decide +kernel
theorem dX6_live_9 : decode cX6_live 9 = .ok (.iaload, 1) := by decide +kernel
theorem dX6_live_10 : decode cX6_live 10 = .ok (.aload_n 1, 1) := by decide +kernel
theorem dX6_live_11 : decode cX6_live 11 = .ok (.invokevirtual 46, 3) := by decide +kernel
theorem dX6_live_14 : decode cX6_live 14 = .ok (.if_icmp .gt 7, 3) := by decide +kernel
theorem dX6_live_17 : decode cX6_live 17 = .ok (.iconst 1, 1) := by decide +kernel
theorem dX6_live_18 : decode cX6_live 18 = .ok (.goto 4, 3) := by decide +kernel
theorem dX6_live_21 : decode cX6_live 21 = .ok (.iconst 0, 1) := by decide +kernel
theorem dX6_live_22 : decode cX6_live 22 = .ok (.ireturn, 1) := by decide +kernel
theorem dX6_lookAlike_0 : decode cX6_lookAlike 0 = .ok (.iload_n 1, 1) := by decide +kernel
theorem dX6_lookAlike_1 : decode cX6_lookAlike 1 = .ok (.iload_n 2, 1) := by decide +kernel
theorem dX6_lookAlike_2 : decode cX6_lookAlike 2 = .ok (.if_icmp .eq 37, 3) := by decide +kernel
theorem dX6_lookAlike_5 : decode cX6_lookAlike 5 = .ok (.aload_n 0, 1) := by decide +kernel
theorem dX6_lookAlike_6 : decode cX6_lookAlike 6 = .ok (.getfield 9, 3) := by decide +kernel
theorem dX6_lookAlike_9 : decode cX6_lookAlike 9 = .ok (.iload_n 1, 1) := by decide +kernel
theorem dX6_lookAlike_10 : decode cX6_lookAlike 10 = .ok (.iaload, 1) := by decide +kernel
theorem dX6_lookAlike_11 : decode cX6_lookAlike 11 = .ok (.aload_n 0, 1) := by decide +kernel
theorem dX6_lookAlike_12 : decode cX6_lookAlike 12 = .ok (.getfield 9, 3) := by decide +kernel
theorem dX6_lookAlike_15 : decode cX6_lookAlike 15 = .ok (.iload_n 2, 1) := by decide +kernel
theorem dX6_lookAlike_16 : decode cX6_lookAlike 16 = .ok (.iaload, 1) := by decide +kernel
theorem dX6_lookAlike_17 : decode cX6_lookAlike 17 = .ok (.if_icmp .ne 22, 3) := by decide +kernel
theorem dX6_lookAlike_20 : decode cX6_lookAlike 20 = .ok (.aload_n 0, 1) := by decide +kernel
theorem dX6_lookAlike_21 : decode cX6_lookAlike 21 = .ok (.getfield 15, 3) := by decide +kernel
theorem dX6_lookAlike_24 : decode cX6_lookAlike 24 = .ok (.iload_n 1, 1) := by decide +kernel
theorem dX6_lookAlike_25 : decode cX6_lookAlike 25 = .ok (.iaload, 1) := by decide +kernel
theorem dX6_lookAlike_26 : decode cX6_lookAlike 26 = .ok (.aload_n 0, 1) := by decide +kernel
theorem dX6_lookAlike_27 : decode cX6_lookAlike 27 = .ok (.getfield 15, 3) := by decide +kernel
theorem dX6_lookAlike_30 : decode cX6_lookAlike 30 = .ok (.iload_n 2, 1) := by decide +kernel
theorem dX6_lookAlike_31 : decode cX6_lookAlike 31 = .ok (.iaload, 1) := by decide +kernel
theorem dX6_lookAlike_32 : decode cX6_lookAlike 32 = .ok (.if_icmp .ne 7, 3) := by decide +kernel
theorem dX6_lookAlike_35 : decode cX6_lookAlike 35 = .ok (.iconst 1, 1) := by decide +kernel
theorem dX6_lookAlike_36 : decode cX6_lookAlike 36 = .ok (.goto 4, 3) := by decide +kernel
theorem dX6_lookAlike_39 : decode cX6_lookAlike 39 = .ok (.iconst 0, 1) := by decide +kernel
theorem dX6_lookAlike_40 : decode cX6_lookAlike 40 = .ok (.ireturn, 1) := by decide +kernel
theorem dX6_fewestCreases_0 : decode cX6_fewestCreases 0 = .ok (.iconst (-1), 1) := by decide +kernel
theorem dX6_fewestCreases_1 : decode cX6_fewestCreases 1 = .ok (.istore_n 3, 1) := by decide +kernel
theorem dX6_fewestCreases_2 : decode cX6_fewestCreases 2 = .ok (.iconst 0, 1) := by decide +kernel
theorem dX6_fewestCreases_3 : decode cX6_fewestCreases 3 = .ok (.istore 4, 2) := by decide +kernel
theorem dX6_fewestCreases_5 : decode cX6_fewestCreases 5 = .ok (.iload 4, 2) := by decide +kernel
theorem dX6_fewestCreases_7 : decode cX6_fewestCreases 7 = .ok (.sipush 128, 3) := by decide +kernel
theorem dX6_fewestCreases_10 : decode cX6_fewestCreases 10 = .ok (.if_icmp .ge 44, 3) := by decide +kernel
theorem dX6_fewestCreases_13 : decode cX6_fewestCreases 13 = .ok (.aload_n 0, 1) := by decide +kernel
theorem dX6_fewestCreases_14 : decode cX6_fewestCreases 14 = .ok (.getfield 9, 3) := by decide +kernel
theorem dX6_fewestCreases_17 : decode cX6_fewestCreases 17 = .ok (.iload 4, 2) := by decide +kernel
theorem dX6_fewestCreases_19 : decode cX6_fewestCreases 19 = .ok (.iaload, 1) := by decide +kernel
theorem dX6_fewestCreases_20 : decode cX6_fewestCreases 20 = .ok (.iload_n 1, 1) := by decide +kernel
theorem dX6_fewestCreases_21 : decode cX6_fewestCreases 21 = .ok (.if_icmp .gt 27, 3) := by decide +kernel
theorem dX6_fewestCreases_24 : decode cX6_fewestCreases 24 = .ok (.aload_n 0, 1) := by decide +kernel
theorem dX6_fewestCreases_25 : decode cX6_fewestCreases 25 = .ok (.getfield 15, 3) := by decide +kernel
theorem dX6_fewestCreases_28 : decode cX6_fewestCreases 28 = .ok (.iload 4, 2) := by decide +kernel
theorem dX6_fewestCreases_30 : decode cX6_fewestCreases 30 = .ok (.iaload, 1) := by decide +kernel
theorem dX6_fewestCreases_31 : decode cX6_fewestCreases 31 = .ok (.iload_n 2, 1) := by decide +kernel
theorem dX6_fewestCreases_32 : decode cX6_fewestCreases 32 = .ok (.if_icmp .gt 16, 3) := by decide +kernel
theorem dX6_fewestCreases_35 : decode cX6_fewestCreases 35 = .ok (.aload_n 0, 1) := by decide +kernel
theorem dX6_fewestCreases_36 : decode cX6_fewestCreases 36 = .ok (.iload 4, 2) := by decide +kernel
theorem dX6_fewestCreases_38 : decode cX6_fewestCreases 38 = .ok (.iload_n 3, 1) := by decide +kernel
theorem dX6_fewestCreases_39 : decode cX6_fewestCreases 39 = .ok (.invokevirtual 52, 3) := by decide +kernel
theorem dX6_fewestCreases_42 : decode cX6_fewestCreases 42 = .ok (.ifCond .eq 6, 3) := by decide +kernel
theorem dX6_fewestCreases_45 : decode cX6_fewestCreases 45 = .ok (.iload 4, 2) := by decide +kernel
theorem dX6_fewestCreases_47 : decode cX6_fewestCreases 47 = .ok (.istore_n 3, 1) := by decide +kernel
theorem dX6_fewestCreases_48 : decode cX6_fewestCreases 48 = .ok (.iinc 4 1, 3) := by decide +kernel
theorem dX6_fewestCreases_51 : decode cX6_fewestCreases 51 = .ok (.goto (-46), 3) := by decide +kernel
theorem dX6_fewestCreases_54 : decode cX6_fewestCreases 54 = .ok (.iload_n 3, 1) := by decide +kernel
theorem dX6_fewestCreases_55 : decode cX6_fewestCreases 55 = .ok (.ireturn, 1) := by decide +kernel
theorem dX6_isFewer_0 : decode cX6_isFewer 0 = .ok (.iload_n 2, 1) := by decide +kernel
theorem dX6_isFewer_1 : decode cX6_isFewer 1 = .ok (.ifCond .lt 14, 3) := by decide +kernel
theorem dX6_isFewer_4 : decode cX6_isFewer 4 = .ok (.iload_n 1, 1) := by decide +kernel
theorem dX6_isFewer_5 : decode cX6_isFewer 5 = .ok (.invokestatic 56, 3) := by decide +kernel
theorem dX6_isFewer_8 : decode cX6_isFewer 8 = .ok (.iload_n 2, 1) := by decide +kernel
theorem dX6_isFewer_9 : decode cX6_isFewer 9 = .ok (.invokestatic 56, 3) := by decide +kernel
theorem dX6_isFewer_12 : decode cX6_isFewer 12 = .ok (.if_icmp .ge 7, 3) := by decide +kernel
theorem dX6_isFewer_15 : decode cX6_isFewer 15 = .ok (.iconst 1, 1) := by decide +kernel
theorem dX6_isFewer_16 : decode cX6_isFewer 16 = .ok (.goto 4, 3) := by decide +kernel
theorem dX6_isFewer_19 : decode cX6_isFewer 19 = .ok (.iconst 0, 1) := by decide +kernel
theorem dX6_isFewer_20 : decode cX6_isFewer 20 = .ok (.ireturn, 1) := by decide +kernel
theorem dX6_howMany_0 : decode cX6_howMany 0 = .ok (.iconst 0, 1) := by decide +kernel
theorem dX6_howMany_1 : decode cX6_howMany 1 = .ok (.istore_n 3, 1) := by decide +kernel
theorem dX6_howMany_2 : decode cX6_howMany 2 = .ok (.iconst 0, 1) := by decide +kernel
theorem dX6_howMany_3 : decode cX6_howMany 3 = .ok (.istore 4, 2) := by decide +kernel
theorem dX6_howMany_5 : decode cX6_howMany 5 = .ok (.iload 4, 2) := by decide +kernel
theorem dX6_howMany_7 : decode cX6_howMany 7 = .ok (.sipush 128, 3) := by decide +kernel
theorem dX6_howMany_10 : decode cX6_howMany 10 = .ok (.if_icmp .ge 34, 3) := by decide +kernel
theorem dX6_howMany_13 : decode cX6_howMany 13 = .ok (.aload_n 0, 1) := by decide +kernel
theorem dX6_howMany_14 : decode cX6_howMany 14 = .ok (.getfield 9, 3) := by decide +kernel
theorem dX6_howMany_17 : decode cX6_howMany 17 = .ok (.iload 4, 2) := by decide +kernel
theorem dX6_howMany_19 : decode cX6_howMany 19 = .ok (.iaload, 1) := by decide +kernel
theorem dX6_howMany_20 : decode cX6_howMany 20 = .ok (.iload_n 1, 1) := by decide +kernel
theorem dX6_howMany_21 : decode cX6_howMany 21 = .ok (.if_icmp .ne 17, 3) := by decide +kernel
theorem dX6_howMany_24 : decode cX6_howMany 24 = .ok (.aload_n 0, 1) := by decide +kernel
theorem dX6_howMany_25 : decode cX6_howMany 25 = .ok (.getfield 15, 3) := by decide +kernel
theorem dX6_howMany_28 : decode cX6_howMany 28 = .ok (.iload 4, 2) := by decide +kernel
theorem dX6_howMany_30 : decode cX6_howMany 30 = .ok (.iaload, 1) := by decide +kernel
theorem dX6_howMany_31 : decode cX6_howMany 31 = .ok (.iload_n 2, 1) := by decide +kernel
theorem dX6_howMany_32 : decode cX6_howMany 32 = .ok (.if_icmp .ne 6, 3) := by decide +kernel
theorem dX6_howMany_35 : decode cX6_howMany 35 = .ok (.iinc 3 1, 3) := by decide +kernel
theorem dX6_howMany_38 : decode cX6_howMany 38 = .ok (.iinc 4 1, 3) := by decide +kernel
theorem dX6_howMany_41 : decode cX6_howMany 41 = .ok (.goto (-36), 3) := by decide +kernel
theorem dX6_howMany_44 : decode cX6_howMany 44 = .ok (.iload_n 3, 1) := by decide +kernel
theorem dX6_howMany_45 : decode cX6_howMany 45 = .ok (.ireturn, 1) := by decide +kernel
theorem dX6_leastOf_0 : decode cX6_leastOf 0 = .ok (.iconst 0, 1) := by decide +kernel
theorem dX6_leastOf_1 : decode cX6_leastOf 1 = .ok (.istore_n 3, 1) := by decide +kernel
theorem dX6_leastOf_2 : decode cX6_leastOf 2 = .ok (.iload_n 3, 1) := by decide +kernel
theorem dX6_leastOf_3 : decode cX6_leastOf 3 = .ok (.sipush 128, 3) := by decide +kernel
theorem dX6_leastOf_6 : decode cX6_leastOf 6 = .ok (.if_icmp .ge 31, 3) := by decide +kernel
theorem dX6_leastOf_9 : decode cX6_leastOf 9 = .ok (.aload_n 0, 1) := by decide +kernel
theorem dX6_leastOf_10 : decode cX6_leastOf 10 = .ok (.getfield 9, 3) := by decide +kernel
theorem dX6_leastOf_13 : decode cX6_leastOf 13 = .ok (.iload_n 3, 1) := by decide +kernel
theorem dX6_leastOf_14 : decode cX6_leastOf 14 = .ok (.iaload, 1) := by decide +kernel
theorem dX6_leastOf_15 : decode cX6_leastOf 15 = .ok (.iload_n 1, 1) := by decide +kernel
theorem dX6_leastOf_16 : decode cX6_leastOf 16 = .ok (.if_icmp .ne 15, 3) := by decide +kernel
theorem dX6_leastOf_19 : decode cX6_leastOf 19 = .ok (.aload_n 0, 1) := by decide +kernel
theorem dX6_leastOf_20 : decode cX6_leastOf 20 = .ok (.getfield 15, 3) := by decide +kernel
theorem dX6_leastOf_23 : decode cX6_leastOf 23 = .ok (.iload_n 3, 1) := by decide +kernel
theorem dX6_leastOf_24 : decode cX6_leastOf 24 = .ok (.iaload, 1) := by decide +kernel
theorem dX6_leastOf_25 : decode cX6_leastOf 25 = .ok (.iload_n 2, 1) := by decide +kernel
theorem dX6_leastOf_26 : decode cX6_leastOf 26 = .ok (.if_icmp .ne 5, 3) := by decide +kernel
theorem dX6_leastOf_29 : decode cX6_leastOf 29 = .ok (.iload_n 3, 1) := by decide +kernel
theorem dX6_leastOf_30 : decode cX6_leastOf 30 = .ok (.ireturn, 1) := by decide +kernel
theorem dX6_leastOf_31 : decode cX6_leastOf 31 = .ok (.iinc 3 1, 3) := by decide +kernel
theorem dX6_leastOf_34 : decode cX6_leastOf 34 = .ok (.goto (-32), 3) := by decide +kernel
theorem dX6_leastOf_37 : decode cX6_leastOf 37 = .ok (.iconst (-1), 1) := by decide +kernel
theorem dX6_leastOf_38 : decode cX6_leastOf 38 = .ok (.ireturn, 1) := by decide +kernel
theorem dX6_fewestFolds_0 : decode cX6_fewestFolds 0 = .ok (.aload_n 0, 1) := by decide +kernel
theorem dX6_fewestFolds_1 : decode cX6_fewestFolds 1 = .ok (.getfield 21, 3) := by decide +kernel
theorem dX6_fewestFolds_4 : decode cX6_fewestFolds 4 = .ok (.iconst (-1), 1) := by decide +kernel
theorem dX6_fewestFolds_5 : decode cX6_fewestFolds 5 = .ok (.invokestatic 31, 3) := by decide +kernel
theorem dX6_fewestFolds_8 : decode cX6_fewestFolds 8 = .ok (.aload_n 0, 1) := by decide +kernel
theorem dX6_fewestFolds_9 : decode cX6_fewestFolds 9 = .ok (.getfield 21, 3) := by decide +kernel
theorem dX6_fewestFolds_12 : decode cX6_fewestFolds 12 = .ok (.iload_n 1, 1) := by decide +kernel
theorem dX6_fewestFolds_13 : decode cX6_fewestFolds 13 = .ok (.iconst 0, 1) := by decide +kernel
theorem dX6_fewestFolds_14 : decode cX6_fewestFolds 14 = .ok (.iastore, 1) := by decide +kernel
theorem dX6_fewestFolds_15 : decode cX6_fewestFolds 15 = .ok (.aload_n 0, 1) := by decide +kernel
theorem dX6_fewestFolds_16 : decode cX6_fewestFolds 16 = .ok (.getfield 24, 3) := by decide +kernel
theorem dX6_fewestFolds_19 : decode cX6_fewestFolds 19 = .ok (.iconst 0, 1) := by decide +kernel
theorem dX6_fewestFolds_20 : decode cX6_fewestFolds 20 = .ok (.iload_n 1, 1) := by decide +kernel
theorem dX6_fewestFolds_21 : decode cX6_fewestFolds 21 = .ok (.iastore, 1) := by decide +kernel
theorem dX6_fewestFolds_22 : decode cX6_fewestFolds 22 = .ok (.iconst 1, 1) := by decide +kernel
theorem dX6_fewestFolds_23 : decode cX6_fewestFolds 23 = .ok (.istore 4, 2) := by decide +kernel
theorem dX6_fewestFolds_25 : decode cX6_fewestFolds 25 = .ok (.iconst 0, 1) := by decide +kernel
theorem dX6_fewestFolds_26 : decode cX6_fewestFolds 26 = .ok (.istore 5, 2) := by decide +kernel
theorem dX6_fewestFolds_28 : decode cX6_fewestFolds 28 = .ok (.iload 5, 2) := by decide +kernel
theorem dX6_fewestFolds_30 : decode cX6_fewestFolds 30 = .ok (.iload 4, 2) := by decide +kernel
theorem dX6_fewestFolds_32 : decode cX6_fewestFolds 32 = .ok (.if_icmp .ge 108, 3) := by decide +kernel
theorem dX6_fewestFolds_35 : decode cX6_fewestFolds 35 = .ok (.iload 5, 2) := by decide +kernel
theorem dX6_fewestFolds_37 : decode cX6_fewestFolds 37 = .ok (.sipush 128, 3) := by decide +kernel
theorem dX6_fewestFolds_40 : decode cX6_fewestFolds 40 = .ok (.if_icmp .ge 100, 3) := by decide +kernel
theorem dX6_fewestFolds_43 : decode cX6_fewestFolds 43 = .ok (.aload_n 0, 1) := by decide +kernel
theorem dX6_fewestFolds_44 : decode cX6_fewestFolds 44 = .ok (.getfield 24, 3) := by decide +kernel
theorem dX6_fewestFolds_47 : decode cX6_fewestFolds 47 = .ok (.iload 5, 2) := by decide +kernel
theorem dX6_fewestFolds_49 : decode cX6_fewestFolds 49 = .ok (.iaload, 1) := by decide +kernel
theorem dX6_fewestFolds_50 : decode cX6_fewestFolds 50 = .ok (.istore 6, 2) := by decide +kernel
theorem dX6_fewestFolds_52 : decode cX6_fewestFolds 52 = .ok (.iconst 0, 1) := by decide +kernel
theorem dX6_fewestFolds_53 : decode cX6_fewestFolds 53 = .ok (.istore 7, 2) := by decide +kernel
theorem dX6_fewestFolds_55 : decode cX6_fewestFolds 55 = .ok (.iload 7, 2) := by decide +kernel
theorem dX6_fewestFolds_57 : decode cX6_fewestFolds 57 = .ok (.bipush 7, 2) := by decide +kernel
theorem dX6_fewestFolds_59 : decode cX6_fewestFolds 59 = .ok (.if_icmp .ge 75, 3) := by decide +kernel
theorem dX6_fewestFolds_62 : decode cX6_fewestFolds 62 = .ok (.iload 6, 2) := by decide +kernel
theorem dX6_fewestFolds_64 : decode cX6_fewestFolds 64 = .ok (.iconst 1, 1) := by decide +kernel
theorem dX6_fewestFolds_65 : decode cX6_fewestFolds 65 = .ok (.iload 7, 2) := by decide +kernel
theorem dX6_fewestFolds_67 : decode cX6_fewestFolds 67 = .ok (.ishl, 1) := by decide +kernel
theorem dX6_fewestFolds_68 : decode cX6_fewestFolds 68 = .ok (.ixor, 1) := by decide +kernel
theorem dX6_fewestFolds_69 : decode cX6_fewestFolds 69 = .ok (.istore 8, 2) := by decide +kernel
theorem dX6_fewestFolds_71 : decode cX6_fewestFolds 71 = .ok (.aload_n 0, 1) := by decide +kernel
theorem dX6_fewestFolds_72 : decode cX6_fewestFolds 72 = .ok (.getfield 21, 3) := by decide +kernel
theorem dX6_fewestFolds_75 : decode cX6_fewestFolds 75 = .ok (.iload 8, 2) := by decide +kernel
theorem dX6_fewestFolds_77 : decode cX6_fewestFolds 77 = .ok (.iaload, 1) := by decide +kernel
theorem dX6_fewestFolds_78 : decode cX6_fewestFolds 78 = .ok (.ifCond .ge 50, 3) := by decide +kernel
theorem dX6_fewestFolds_81 : decode cX6_fewestFolds 81 = .ok (.aload_n 0, 1) := by decide +kernel
theorem dX6_fewestFolds_82 : decode cX6_fewestFolds 82 = .ok (.getfield 15, 3) := by decide +kernel
theorem dX6_fewestFolds_85 : decode cX6_fewestFolds 85 = .ok (.iload 8, 2) := by decide +kernel
theorem dX6_fewestFolds_87 : decode cX6_fewestFolds 87 = .ok (.iaload, 1) := by decide +kernel
theorem dX6_fewestFolds_88 : decode cX6_fewestFolds 88 = .ok (.iload_n 3, 1) := by decide +kernel
theorem dX6_fewestFolds_89 : decode cX6_fewestFolds 89 = .ok (.if_icmp .gt 39, 3) := by decide +kernel
theorem dX6_fewestFolds_92 : decode cX6_fewestFolds 92 = .ok (.iload 4, 2) := by decide +kernel
theorem dX6_fewestFolds_94 : decode cX6_fewestFolds 94 = .ok (.sipush 128, 3) := by decide +kernel
theorem dX6_fewestFolds_97 : decode cX6_fewestFolds 97 = .ok (.if_icmp .ge 31, 3) := by decide +kernel
theorem dX6_fewestFolds_100 : decode cX6_fewestFolds 100 = .ok (.aload_n 0, 1) := by decide +kernel
theorem dX6_fewestFolds_101 : decode cX6_fewestFolds 101 = .ok (.getfield 21, 3) := by decide +kernel
theorem dX6_fewestFolds_104 : decode cX6_fewestFolds 104 = .ok (.iload 8, 2) := by decide +kernel
theorem dX6_fewestFolds_106 : decode cX6_fewestFolds 106 = .ok (.aload_n 0, 1) := by decide +kernel
theorem dX6_fewestFolds_107 : decode cX6_fewestFolds 107 = .ok (.getfield 21, 3) := by decide +kernel
theorem dX6_fewestFolds_110 : decode cX6_fewestFolds 110 = .ok (.iload 6, 2) := by decide +kernel
theorem dX6_fewestFolds_112 : decode cX6_fewestFolds 112 = .ok (.iaload, 1) := by decide +kernel
theorem dX6_fewestFolds_113 : decode cX6_fewestFolds 113 = .ok (.iconst 1, 1) := by decide +kernel
theorem dX6_fewestFolds_114 : decode cX6_fewestFolds 114 = .ok (.iadd, 1) := by decide +kernel
theorem dX6_fewestFolds_115 : decode cX6_fewestFolds 115 = .ok (.iastore, 1) := by decide +kernel
theorem dX6_fewestFolds_116 : decode cX6_fewestFolds 116 = .ok (.aload_n 0, 1) := by decide +kernel
theorem dX6_fewestFolds_117 : decode cX6_fewestFolds 117 = .ok (.getfield 24, 3) := by decide +kernel
theorem dX6_fewestFolds_120 : decode cX6_fewestFolds 120 = .ok (.iload 4, 2) := by decide +kernel
theorem dX6_fewestFolds_122 : decode cX6_fewestFolds 122 = .ok (.iload 8, 2) := by decide +kernel
theorem dX6_fewestFolds_124 : decode cX6_fewestFolds 124 = .ok (.iastore, 1) := by decide +kernel
theorem dX6_fewestFolds_125 : decode cX6_fewestFolds 125 = .ok (.iinc 4 1, 3) := by decide +kernel
theorem dX6_fewestFolds_128 : decode cX6_fewestFolds 128 = .ok (.iinc 7 1, 3) := by decide +kernel
theorem dX6_fewestFolds_131 : decode cX6_fewestFolds 131 = .ok (.goto (-76), 3) := by decide +kernel
theorem dX6_fewestFolds_134 : decode cX6_fewestFolds 134 = .ok (.iinc 5 1, 3) := by decide +kernel
theorem dX6_fewestFolds_137 : decode cX6_fewestFolds 137 = .ok (.goto (-109), 3) := by decide +kernel
theorem dX6_fewestFolds_140 : decode cX6_fewestFolds 140 = .ok (.aload_n 0, 1) := by decide +kernel
