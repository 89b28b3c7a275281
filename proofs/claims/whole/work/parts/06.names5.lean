theorem dX10_byteAt_2 : decode cX10_byteAt 2 = .ok (.getfield 89, 3) := by decide +kernel
theorem dX10_byteAt_5 : decode cX10_byteAt 5 = .ok (.if_icmp .ge 23, 3) := by decide +kernel
theorem dX10_byteAt_8 : decode cX10_byteAt 8 = .ok (.aload_n 0, 1) := by decide +kernel
theorem dX10_byteAt_9 : decode cX10_byteAt 9 = .ok (.getfield 7, 3) := by decide +kernel
theorem dX10_byteAt_12 : decode cX10_byteAt 12 = .ok (.bipush 126, 2) := by decide +kernel
theorem dX10_byteAt_14 : decode cX10_byteAt 14 = .ok (.bipush 50, 2) := by decide +kernel
theorem dX10_byteAt_16 : decode cX10_byteAt 16 = .ok (.aload_n 0, 1) := by decide +kernel
theorem dX10_byteAt_17 : decode cX10_byteAt 17 = .ok (.getfield 93, 3) := by decide +kernel
theorem dX10_byteAt_20 : decode cX10_byteAt 20 = .ok (.imul, 1) := by decide +kernel
theorem dX10_byteAt_21 : decode cX10_byteAt 21 = .ok (.iadd, 1) := by decide +kernel
theorem dX10_byteAt_22 : decode cX10_byteAt 22 = .ok (.iload_n 1, 1) := by decide +kernel
theorem dX10_byteAt_23 : decode cX10_byteAt 23 = .ok (.iadd, 1) := by decide +kernel
theorem dX10_byteAt_24 : decode cX10_byteAt 24 = .ok (.iaload, 1) := by decide +kernel
theorem dX10_byteAt_25 : decode cX10_byteAt 25 = .ok (.goto 4, 3) := by decide +kernel
theorem dX10_byteAt_28 : decode cX10_byteAt 28 = .ok (.iconst (-1), 1) := by decide +kernel
theorem dX10_byteAt_29 : decode cX10_byteAt 29 = .ok (.ireturn, 1) := by decide +kernel
theorem dX10_isDigit_0 : decode cX10_isDigit 0 = .ok (.iload_n 0, 1) := by decide +kernel
theorem dX10_isDigit_1 : decode cX10_isDigit 1 = .ok (.bipush 48, 2) := by decide +kernel
theorem dX10_isDigit_3 : decode cX10_isDigit 3 = .ok (.bipush 57, 2) := by decide +kernel
theorem dX10_isDigit_5 : decode cX10_isDigit 5 = .ok (.invokestatic 47, 3) := by decide +kernel
theorem dX10_isDigit_8 : decode cX10_isDigit 8 = .ok (.ireturn, 1) := by decide +kernel
theorem dX10_fails_0 : decode cX10_fails 0 = .ok (.aload_n 0, 1) := by decide +kernel
theorem dX10_fails_1 : decode cX10_fails 1 = .ok (.iconst 0, 1) := by decide +kernel
theorem dX10_fails_2 : decode cX10_fails 2 = .ok (.putfield 96, 3) := by decide +kernel
theorem dX10_fails_5 : decode cX10_fails 5 = .ok (.iconst 0, 1) := by decide +kernel
theorem dX10_fails_6 : decode cX10_fails 6 = .ok (.ireturn, 1) := by decide +kernel
theorem dX10_number_0 : decode cX10_number 0 = .ok (.iconst 0, 1) := by decide +kernel
theorem dX10_number_1 : decode cX10_number 1 = .ok (.istore_n 1, 1) := by decide +kernel
theorem dX10_number_2 : decode cX10_number 2 = .ok (.iconst 0, 1) := by decide +kernel
theorem dX10_number_3 : decode cX10_number 3 = .ok (.istore_n 2, 1) := by decide +kernel
theorem dX10_number_4 : decode cX10_number 4 = .ok (.iload_n 2, 1) := by decide +kernel
theorem dX10_number_5 : decode cX10_number 5 = .ok (.iconst 4, 1) := by decide +kernel
theorem dX10_number_6 : decode cX10_number 6 = .ok (.if_icmp .ge 50, 3) := by decide +kernel
theorem dX10_number_9 : decode cX10_number 9 = .ok (.aload_n 0, 1) := by decide +kernel
theorem dX10_number_10 : decode cX10_number 10 = .ok (.aload_n 0, 1) := by decide +kernel
theorem dX10_number_11 : decode cX10_number 11 = .ok (.getfield 100, 3) := by decide +kernel
theorem dX10_number_14 : decode cX10_number 14 = .ok (.invokevirtual 103, 3) := by decide +kernel
theorem dX10_number_17 : decode cX10_number 17 = .ok (.invokestatic 106, 3) := by decide +kernel
theorem dX10_number_20 : decode cX10_number 20 = .ok (.ifCond .eq 36, 3) := by decide +kernel
theorem dX10_number_23 : decode cX10_number 23 = .ok (.bipush 10, 2) := by decide +kernel
theorem dX10_number_25 : decode cX10_number 25 = .ok (.iload_n 1, 1) := by decide +kernel
theorem dX10_number_26 : decode cX10_number 26 = .ok (.imul, 1) := by decide +kernel
theorem dX10_number_27 : decode cX10_number 27 = .ok (.aload_n 0, 1) := by decide +kernel
theorem dX10_number_28 : decode cX10_number 28 = .ok (.aload_n 0, 1) := by decide +kernel
theorem dX10_number_29 : decode cX10_number 29 = .ok (.getfield 100, 3) := by decide +kernel
theorem dX10_number_32 : decode cX10_number 32 = .ok (.invokevirtual 103, 3) := by decide +kernel
theorem dX10_number_35 : decode cX10_number 35 = .ok (.iadd, 1) := by decide +kernel
theorem dX10_number_36 : decode cX10_number 36 = .ok (.bipush 48, 2) := by decide +kernel
theorem dX10_number_38 : decode cX10_number 38 = .ok (.isub, 1) := by decide +kernel
theorem dX10_number_39 : decode cX10_number 39 = .ok (.istore_n 1, 1) := by decide +kernel
theorem dX10_number_40 : decode cX10_number 40 = .ok (.aload_n 0, 1) := by decide +kernel
theorem dX10_number_41 : decode cX10_number 41 = .ok (.dup, 1) := by decide +kernel
theorem dX10_number_42 : decode cX10_number 42 = .ok (.getfield 100, 3) := by decide +kernel
theorem dX10_number_45 : decode cX10_number 45 = .ok (.iconst 1, 1) := by decide +kernel
theorem dX10_number_46 : decode cX10_number 46 = .ok (.iadd, 1) := by decide +kernel
theorem dX10_number_47 : decode cX10_number 47 = .ok (.putfield 100, 3) := by decide +kernel
theorem dX10_number_50 : decode cX10_number 50 = .ok (.iinc 2 1, 3) := by decide +kernel
theorem dX10_number_53 : decode cX10_number 53 = .ok (.goto (-49), 3) := by decide +kernel
theorem dX10_number_56 : decode cX10_number 56 = .ok (.iload_n 1, 1) := by decide +kernel
theorem dX10_number_57 : decode cX10_number 57 = .ok (.ireturn, 1) := by decide +kernel
theorem dX10_named_0 : decode cX10_named 0 = .ok (.iload_n 1, 1) := by decide +kernel
theorem dX10_named_1 : decode cX10_named 1 = .ok (.aload_n 0, 1) := by decide +kernel
theorem dX10_named_2 : decode cX10_named 2 = .ok (.getfield 93, 3) := by decide +kernel
theorem dX10_named_5 : decode cX10_named 5 = .ok (.ifCond .ne 8, 3) := by decide +kernel
theorem dX10_named_8 : decode cX10_named 8 = .ok (.bipush 119, 2) := by decide +kernel
theorem dX10_named_10 : decode cX10_named 10 = .ok (.goto 5, 3) := by decide +kernel
theorem dX10_named_13 : decode cX10_named 13 = .ok (.bipush 111, 2) := by decide +kernel
theorem dX10_named_15 : decode cX10_named 15 = .ok (.if_icmp .ne 7, 3) := by decide +kernel
theorem dX10_named_18 : decode cX10_named 18 = .ok (.iconst 1, 1) := by decide +kernel
theorem dX10_named_19 : decode cX10_named 19 = .ok (.goto 4, 3) := by decide +kernel
theorem dX10_named_22 : decode cX10_named 22 = .ok (.iconst 0, 1) := by decide +kernel
theorem dX10_named_23 : decode cX10_named 23 = .ok (.istore_n 2, 1) := by decide +kernel
theorem dX10_named_24 : decode cX10_named 24 = .ok (.iload_n 1, 1) := by decide +kernel
theorem dX10_named_25 : decode cX10_named 25 = .ok (.aload_n 0, 1) := by decide +kernel
theorem dX10_named_26 : decode cX10_named 26 = .ok (.getfield 93, 3) := by decide +kernel
theorem dX10_named_29 : decode cX10_named 29 = .ok (.ifCond .ne 8, 3) := by decide +kernel
theorem dX10_named_32 : decode cX10_named 32 = .ok (.bipush 104, 2) := by decide +kernel
theorem dX10_named_34 : decode cX10_named 34 = .ok (.goto 5, 3) := by decide +kernel
theorem dX10_named_37 : decode cX10_named 37 = .ok (.bipush 102, 2) := by decide +kernel
theorem dX10_named_39 : decode cX10_named 39 = .ok (.if_icmp .ne 7, 3) := by decide +kernel
theorem dX10_named_42 : decode cX10_named 42 = .ok (.iconst 1, 1) := by decide +kernel
theorem dX10_named_43 : decode cX10_named 43 = .ok (.goto 4, 3) := by decide +kernel
theorem dX10_named_46 : decode cX10_named 46 = .ok (.iconst 0, 1) := by decide +kernel
theorem dX10_named_47 : decode cX10_named 47 = .ok (.istore_n 3, 1) := by decide +kernel
theorem dX10_named_48 : decode cX10_named 48 = .ok (.iload_n 1, 1) := by decide +kernel
theorem dX10_named_49 : decode cX10_named 49 = .ok (.aload_n 0, 1) := by decide +kernel
theorem dX10_named_50 : decode cX10_named 50 = .ok (.getfield 93, 3) := by decide +kernel
theorem dX10_named_53 : decode cX10_named 53 = .ok (.ifCond .ne 8, 3) := by decide +kernel
theorem dX10_named_56 : decode cX10_named 56 = .ok (.bipush 98, 2) := by decide +kernel
theorem dX10_named_58 : decode cX10_named 58 = .ok (.goto 5, 3) := by decide +kernel
theorem dX10_named_61 : decode cX10_named 61 = .ok (.bipush 100, 2) := by decide +kernel
theorem dX10_named_63 : decode cX10_named 63 = .ok (.if_icmp .ne 7, 3) := by decide +kernel
theorem dX10_named_66 : decode cX10_named 66 = .ok (.iconst 1, 1) := by decide +kernel
theorem dX10_named_67 : decode cX10_named 67 = .ok (.goto 4, 3) := by decide +kernel
theorem dX10_named_70 : decode cX10_named 70 = .ok (.iconst 0, 1) := by decide +kernel
theorem dX10_named_71 : decode cX10_named 71 = .ok (.istore 4, 2) := by decide +kernel
theorem dX10_named_73 : decode cX10_named 73 = .ok (.iload_n 2, 1) := by decide +kernel
theorem dX10_named_74 : decode cX10_named 74 = .ok (.ifCond .ne 17, 3) := by decide +kernel
theorem dX10_named_77 : decode cX10_named 77 = .ok (.iload_n 3, 1) := by decide +kernel
theorem dX10_named_78 : decode cX10_named 78 = .ok (.ifCond .ne 13, 3) := by decide +kernel
theorem dX10_named_81 : decode cX10_named 81 = .ok (.iload 4, 2) := by decide +kernel
theorem dX10_named_83 : decode cX10_named 83 = .ok (.ifCond .ne 8, 3) := by decide +kernel
theorem dX10_named_86 : decode cX10_named 86 = .ok (.aload_n 0, 1) := by decide +kernel
theorem dX10_named_87 : decode cX10_named 87 = .ok (.invokevirtual 109, 3) := by decide +kernel
theorem dX10_named_90 : decode cX10_named 90 = .ok (.ireturn, 1) := by decide +kernel
theorem dX10_named_91 : decode cX10_named 91 = .ok (.aload_n 0, 1) := by decide +kernel
theorem dX10_named_92 : decode cX10_named 92 = .ok (.dup, 1) := by decide +kernel
theorem dX10_named_93 : decode cX10_named 93 = .ok (.getfield 100, 3) := by decide +kernel
theorem dX10_named_96 : decode cX10_named 96 = .ok (.iconst 1, 1) := by decide +kernel
theorem dX10_named_97 : decode cX10_named 97 = .ok (.iadd, 1) := by decide +kernel
theorem dX10_named_98 : decode cX10_named 98 = .ok (.putfield 100, 3) := by decide +kernel
theorem dX10_named_101 : decode cX10_named 101 = .ok (.iload_n 2, 1) := by decide +kernel
theorem dX10_named_102 : decode cX10_named 102 = .ok (.ifCond .eq 10, 3) := by decide +kernel
theorem dX10_named_105 : decode cX10_named 105 = .ok (.aload_n 0, 1) := by decide +kernel
theorem dX10_named_106 : decode cX10_named 106 = .ok (.getfield 113, 3) := by decide +kernel
theorem dX10_named_109 : decode cX10_named 109 = .ok (.goto 18, 3) := by decide +kernel
theorem dX10_named_112 : decode cX10_named 112 = .ok (.iload_n 3, 1) := by decide +kernel
theorem dX10_named_113 : decode cX10_named 113 = .ok (.ifCond .eq 10, 3) := by decide +kernel
theorem dX10_named_116 : decode cX10_named 116 = .ok (.aload_n 0, 1) := by decide +kernel
theorem dX10_named_117 : decode cX10_named 117 = .ok (.getfield 116, 3) := by decide +kernel
theorem dX10_named_120 : decode cX10_named 120 = .ok (.goto 7, 3) := by decide +kernel
theorem dX10_named_123 : decode cX10_named 123 = .ok (.aload_n 0, 1) := by decide +kernel
theorem dX10_named_124 : decode cX10_named 124 = .ok (.getfield 119, 3) := by decide +kernel
theorem dX10_named_127 : decode cX10_named 127 = .ok (.ireturn, 1) := by decide +kernel
theorem dX10_factor_0 : decode cX10_factor 0 = .ok (.aload_n 0, 1) := by decide +kernel
theorem dX10_factor_1 : decode cX10_factor 1 = .ok (.aload_n 0, 1) := by decide +kernel
theorem dX10_factor_2 : decode cX10_factor 2 = .ok (.getfield 100, 3) := by decide +kernel
theorem dX10_factor_5 : decode cX10_factor 5 = .ok (.invokevirtual 103, 3) := by decide +kernel
theorem dX10_factor_8 : decode cX10_factor 8 = .ok (.istore_n 1, 1) := by decide +kernel
theorem dX10_factor_9 : decode cX10_factor 9 = .ok (.iload_n 1, 1) := by decide +kernel
theorem dX10_factor_10 : decode cX10_factor 10 = .ok (.invokestatic 106, 3) := by decide +kernel
theorem dX10_factor_13 : decode cX10_factor 13 = .ok (.ifCond .eq 8, 3) := by decide +kernel
theorem dX10_factor_16 : decode cX10_factor 16 = .ok (.aload_n 0, 1) := by decide +kernel
theorem dX10_factor_17 : decode cX10_factor 17 = .ok (.invokevirtual 122, 3) := by decide +kernel
theorem dX10_factor_20 : decode cX10_factor 20 = .ok (.ireturn, 1) := by decide +kernel
theorem dX10_factor_21 : decode cX10_factor 21 = .ok (.iload_n 1, 1) := by decide +kernel
theorem dX10_factor_22 : decode cX10_factor 22 = .ok (.bipush 33, 2) := by decide +kernel
theorem dX10_factor_24 : decode cX10_factor 24 = .ok (.if_icmp .eq 15, 3) := by decide +kernel
theorem dX10_factor_27 : decode cX10_factor 27 = .ok (.iload_n 1, 1) := by decide +kernel
theorem dX10_factor_28 : decode cX10_factor 28 = .ok (.bipush 40, 2) := by decide +kernel
theorem dX10_factor_30 : decode cX10_factor 30 = .ok (.if_icmp .eq 9, 3) := by decide +kernel
theorem dX10_factor_33 : decode cX10_factor 33 = .ok (.aload_n 0, 1) := by decide +kernel
theorem dX10_factor_34 : decode cX10_factor 34 = .ok (.iload_n 1, 1) := by decide +kernel
theorem dX10_factor_35 : decode cX10_factor 35 = .ok (.invokevirtual 125, 3) := by decide +kernel
theorem dX10_factor_38 : decode cX10_factor 38 = .ok (.ireturn, 1) := by decide +kernel
theorem dX10_factor_39 : decode cX10_factor 39 = .ok (.aload_n 0, 1) := by decide +kernel
theorem dX10_factor_40 : decode cX10_factor 40 = .ok (.getfield 128, 3) := by decide +kernel
theorem dX10_factor_43 : decode cX10_factor 43 = .ok (.iconst 5, 1) := by decide +kernel
theorem dX10_factor_44 : decode cX10_factor 44 = .ok (.if_icmp .ne 8, 3) := by decide +kernel
theorem dX10_factor_47 : decode cX10_factor 47 = .ok (.aload_n 0, 1) := by decide +kernel
theorem dX10_factor_48 : decode cX10_factor 48 = .ok (.invokevirtual 109, 3) := by decide +kernel
theorem dX10_factor_51 : decode cX10_factor 51 = .ok (.ireturn, 1) := by decide +kernel
theorem dX10_factor_52 : decode cX10_factor 52 = .ok (.aload_n 0, 1) := by decide +kernel
theorem dX10_factor_53 : decode cX10_factor 53 = .ok (.dup, 1) := by decide +kernel
theorem dX10_factor_54 : decode cX10_factor 54 = .ok (.getfield 128, 3) := by decide +kernel
theorem dX10_factor_57 : decode cX10_factor 57 = .ok (.iconst 1, 1) := by decide +kernel
theorem dX10_factor_58 : decode cX10_factor 58 = .ok (.iadd, 1) := by decide +kernel
theorem dX10_factor_59 : decode cX10_factor 59 = .ok (.putfield 128, 3) := by decide +kernel
theorem dX10_factor_62 : decode cX10_factor 62 = .ok (.aload_n 0, 1) := by decide +kernel
theorem dX10_factor_63 : decode cX10_factor 63 = .ok (.dup, 1) := by decide +kernel
theorem dX10_factor_64 : decode cX10_factor 64 = .ok (.getfield 100, 3) := by decide +kernel
theorem dX10_factor_67 : decode cX10_factor 67 = .ok (.iconst 1, 1) := by decide +kernel
theorem dX10_factor_68 : decode cX10_factor 68 = .ok (.iadd, 1) := by decide +kernel
theorem dX10_factor_69 : decode cX10_factor 69 = .ok (.putfield 100, 3) := by decide +kernel
theorem dX10_factor_72 : decode cX10_factor 72 = .ok (.iload_n 1, 1) := by decide +kernel
theorem dX10_factor_73 : decode cX10_factor 73 = .ok (.bipush 33, 2) := by decide +kernel
theorem dX10_factor_75 : decode cX10_factor 75 = .ok (.if_icmp .ne 10, 3) := by decide +kernel
theorem dX10_factor_78 : decode cX10_factor 78 = .ok (.aload_n 0, 1) := by decide +kernel
theorem dX10_factor_79 : decode cX10_factor 79 = .ok (.invokevirtual 131, 3) := by decide +kernel
theorem dX10_factor_82 : decode cX10_factor 82 = .ok (.goto 7, 3) := by decide +kernel
theorem dX10_factor_85 : decode cX10_factor 85 = .ok (.aload_n 0, 1) := by decide +kernel
theorem dX10_factor_86 : decode cX10_factor 86 = .ok (.invokevirtual 134, 3) := by decide +kernel
theorem dX10_factor_89 : decode cX10_factor 89 = .ok (.istore_n 2, 1) := by decide +kernel
theorem dX10_factor_90 : decode cX10_factor 90 = .ok (.aload_n 0, 1) := by decide +kernel
theorem dX10_factor_91 : decode cX10_factor 91 = .ok (.dup, 1) := by decide +kernel
theorem dX10_factor_92 : decode cX10_factor 92 = .ok (.getfield 128, 3) := by decide +kernel
theorem dX10_factor_95 : decode cX10_factor 95 = .ok (.iconst 1, 1) := by decide +kernel
theorem dX10_factor_96 : decode cX10_factor 96 = .ok (.isub, 1) := by decide +kernel
theorem dX10_factor_97 : decode cX10_factor 97 = .ok (.putfield 128, 3) := by decide +kernel
theorem dX10_factor_100 : decode cX10_factor 100 = .ok (.iload_n 1, 1) := by decide +kernel
theorem dX10_factor_101 : decode cX10_factor 101 = .ok (.bipush 33, 2) := by decide +kernel
theorem dX10_factor_103 : decode cX10_factor 103 = .ok (.if_icmp .ne 13, 3) := by decide +kernel
theorem dX10_factor_106 : decode cX10_factor 106 = .ok (.iload_n 2, 1) := by decide +kernel
theorem dX10_factor_107 : decode cX10_factor 107 = .ok (.ifCond .ne 7, 3) := by decide +kernel
theorem dX10_factor_110 : decode cX10_factor 110 = .ok (.iconst 1, 1) := by decide +kernel
theorem dX10_factor_111 : decode cX10_factor 111 = .ok (.goto 4, 3) := by decide +kernel
theorem dX10_factor_114 : decode cX10_factor 114 = .ok (.iconst 0, 1) := by decide +kernel
theorem dX10_factor_115 : decode cX10_factor 115 = .ok (.ireturn, 1) := by decide +kernel
theorem dX10_factor_116 : decode cX10_factor 116 = .ok (.aload_n 0, 1) := by decide +kernel
theorem dX10_factor_117 : decode cX10_factor 117 = .ok (.getfield 96, 3) := by decide +kernel
theorem dX10_factor_120 : decode cX10_factor 120 = .ok (.ifCond .eq 28, 3) := by decide +kernel
theorem dX10_factor_123 : decode cX10_factor 123 = .ok (.aload_n 0, 1) := by decide +kernel
theorem dX10_factor_124 : decode cX10_factor 124 = .ok (.aload_n 0, 1) := by decide +kernel
theorem dX10_factor_125 : decode cX10_factor 125 = .ok (.getfield 100, 3) := by decide +kernel
theorem dX10_factor_128 : decode cX10_factor 128 = .ok (.invokevirtual 103, 3) := by decide +kernel
theorem dX10_factor_131 : decode cX10_factor 131 = .ok (.bipush 41, 2) := by decide +kernel
theorem dX10_factor_133 : decode cX10_factor 133 = .ok (.if_icmp .ne 15, 3) := by decide +kernel
theorem dX10_factor_136 : decode cX10_factor 136 = .ok (.aload_n 0, 1) := by decide +kernel
theorem dX10_factor_137 : decode cX10_factor 137 = .ok (.dup, 1) := by decide +kernel
theorem dX10_factor_138 : decode cX10_factor 138 = .ok (.getfield 100, 3) := by decide +kernel
theorem dX10_factor_141 : decode cX10_factor 141 = .ok (.iconst 1, 1) := by decide +kernel
theorem dX10_factor_142 : decode cX10_factor 142 = .ok (.iadd, 1) := by decide +kernel
theorem dX10_factor_143 : decode cX10_factor 143 = .ok (.putfield 100, 3) := by decide +kernel
theorem dX10_factor_146 : decode cX10_factor 146 = .ok (.iload_n 2, 1) := by decide +kernel
theorem dX10_factor_147 : decode cX10_factor 147 = .ok (.ireturn, 1) := by decide +kernel
theorem dX10_factor_148 : decode cX10_factor 148 = .ok (.aload_n 0, 1) := by decide +kernel
theorem dX10_factor_149 : decode cX10_factor 149 = .ok (.invokevirtual 109, 3) := by decide +kernel
theorem dX10_factor_152 : decode cX10_factor 152 = .ok (.ireturn, 1) := by decide +kernel
theorem dX10_product_0 : decode cX10_product 0 = .ok (.aload_n 0, 1) := by decide +kernel
theorem dX10_product_1 : decode cX10_product 1 = .ok (.invokevirtual 131, 3) := by decide +kernel
theorem dX10_product_4 : decode cX10_product 4 = .ok (.istore_n 1, 1) := by decide +kernel
theorem dX10_product_5 : decode cX10_product 5 = .ok (.aload_n 0, 1) := by decide +kernel
theorem dX10_product_6 : decode cX10_product 6 = .ok (.getfield 96, 3) := by decide +kernel
theorem dX10_product_9 : decode cX10_product 9 = .ok (.ifCond .eq 105, 3) := by decide +kernel
theorem dX10_product_12 : decode cX10_product 12 = .ok (.aload_n 0, 1) := by decide +kernel
theorem dX10_product_13 : decode cX10_product 13 = .ok (.aload_n 0, 1) := by decide +kernel
theorem dX10_product_14 : decode cX10_product 14 = .ok (.getfield 100, 3) := by decide +kernel
theorem dX10_product_17 : decode cX10_product 17 = .ok (.invokevirtual 103, 3) := by decide +kernel
theorem dX10_product_20 : decode cX10_product 20 = .ok (.bipush 42, 2) := by decide +kernel
theorem dX10_product_22 : decode cX10_product 22 = .ok (.if_icmp .eq 29, 3) := by decide +kernel
theorem dX10_product_25 : decode cX10_product 25 = .ok (.aload_n 0, 1) := by decide +kernel
theorem dX10_product_26 : decode cX10_product 26 = .ok (.aload_n 0, 1) := by decide +kernel
theorem dX10_product_27 : decode cX10_product 27 = .ok (.getfield 100, 3) := by decide +kernel
theorem dX10_product_30 : decode cX10_product 30 = .ok (.invokevirtual 103, 3) := by decide +kernel
theorem dX10_product_33 : decode cX10_product 33 = .ok (.bipush 47, 2) := by decide +kernel
theorem dX10_product_35 : decode cX10_product 35 = .ok (.if_icmp .eq 16, 3) := by decide +kernel
theorem dX10_product_38 : decode cX10_product 38 = .ok (.aload_n 0, 1) := by decide +kernel
theorem dX10_product_39 : decode cX10_product 39 = .ok (.aload_n 0, 1) := by decide +kernel
theorem dX10_product_40 : decode cX10_product 40 = .ok (.getfield 100, 3) := by decide +kernel
theorem dX10_product_43 : decode cX10_product 43 = .ok (.invokevirtual 103, 3) := by decide +kernel
theorem dX10_product_46 : decode cX10_product 46 = .ok (.bipush 37, 2) := by decide +kernel
theorem dX10_product_48 : decode cX10_product 48 = .ok (.if_icmp .ne 66, 3) := by decide +kernel
theorem dX10_product_51 : decode cX10_product 51 = .ok (.aload_n 0, 1) := by decide +kernel
theorem dX10_product_52 : decode cX10_product 52 = .ok (.aload_n 0, 1) := by decide +kernel
theorem dX10_product_53 : decode cX10_product 53 = .ok (.getfield 100, 3) := by decide +kernel
theorem dX10_product_56 : decode cX10_product 56 = .ok (.invokevirtual 103, 3) := by decide +kernel
theorem dX10_product_59 : decode cX10_product 59 = .ok (.istore_n 2, 1) := by decide +kernel
theorem dX10_product_60 : decode cX10_product 60 = .ok (.aload_n 0, 1) := by decide +kernel
theorem dX10_product_61 : decode cX10_product 61 = .ok (.dup, 1) := by decide +kernel
theorem dX10_product_62 : decode cX10_product 62 = .ok (.getfield 100, 3) := by decide +kernel
theorem dX10_product_65 : decode cX10_product 65 = .ok (.iconst 1, 1) := by decide +kernel
theorem dX10_product_66 : decode cX10_product 66 = .ok (.iadd, 1) := by decide +kernel
theorem dX10_product_67 : decode cX10_product 67 = .ok (.putfield 100, 3) := by decide +kernel
theorem dX10_product_70 : decode cX10_product 70 = .ok (.aload_n 0, 1) := by decide +kernel
theorem dX10_product_71 : decode cX10_product 71 = .ok (.invokevirtual 131, 3) := by decide +kernel
theorem dX10_product_74 : decode cX10_product 74 = .ok (.istore_n 3, 1) := by decide +kernel
theorem dX10_product_75 : decode cX10_product 75 = .ok (.iload_n 2, 1) := by decide +kernel
theorem dX10_product_76 : decode cX10_product 76 = .ok (.bipush 42, 2) := by decide +kernel
theorem dX10_product_78 : decode cX10_product 78 = .ok (.if_icmp .ne 9, 3) := by decide +kernel
theorem dX10_product_81 : decode cX10_product 81 = .ok (.iload_n 1, 1) := by decide +kernel
theorem dX10_product_82 : decode cX10_product 82 = .ok (.iload_n 3, 1) := by decide +kernel
theorem dX10_product_83 : decode cX10_product 83 = .ok (.imul, 1) := by decide +kernel
theorem dX10_product_84 : decode cX10_product 84 = .ok (.goto 26, 3) := by decide +kernel
theorem dX10_product_87 : decode cX10_product 87 = .ok (.iload_n 3, 1) := by decide +kernel
theorem dX10_product_88 : decode cX10_product 88 = .ok (.ifCond .ne 7, 3) := by decide +kernel
theorem dX10_product_91 : decode cX10_product 91 = .ok (.iconst 0, 1) := by decide +kernel
theorem dX10_product_92 : decode cX10_product 92 = .ok (.goto 18, 3) := by decide +kernel
theorem dX10_product_95 : decode cX10_product 95 = .ok (.iload_n 2, 1) := by decide +kernel
theorem dX10_product_96 : decode cX10_product 96 = .ok (.bipush 47, 2) := by decide +kernel
theorem dX10_product_98 : decode cX10_product 98 = .ok (.if_icmp .ne 9, 3) := by decide +kernel
theorem dX10_product_101 : decode cX10_product 101 = .ok (.iload_n 1, 1) := by decide +kernel
theorem dX10_product_102 : decode cX10_product 102 = .ok (.iload_n 3, 1) := by decide +kernel
theorem dX10_product_103 : decode cX10_product 103 = .ok (.idiv, 1) := by decide +kernel
theorem dX10_product_104 : decode cX10_product 104 = .ok (.goto 6, 3) := by decide +kernel
theorem dX10_product_107 : decode cX10_product 107 = .ok (.iload_n 1, 1) := by decide +kernel
theorem dX10_product_108 : decode cX10_product 108 = .ok (.iload_n 3, 1) := by decide +kernel
theorem dX10_product_109 : decode cX10_product 109 = .ok (.irem, 1) := by decide +kernel
theorem dX10_product_110 : decode cX10_product 110 = .ok (.istore_n 1, 1) := by decide +kernel
theorem dX10_product_111 : decode cX10_product 111 = .ok (.goto (-106), 3) := by decide +kernel
theorem dX10_product_114 : decode cX10_product 114 = .ok (.iload_n 1, 1) := by decide +kernel
theorem dX10_product_115 : decode cX10_product 115 = .ok (.ireturn, 1) := by decide +kernel
theorem dX10_sum_0 : decode cX10_sum 0 = .ok (.aload_n 0, 1) := by decide +kernel
theorem dX10_sum_1 : decode cX10_sum 1 = .ok (.invokevirtual 137, 3) := by decide +kernel
theorem dX10_sum_4 : decode cX10_sum 4 = .ok (.istore_n 1, 1) := by decide +kernel
theorem dX10_sum_5 : decode cX10_sum 5 = .ok (.aload_n 0, 1) := by decide +kernel
theorem dX10_sum_6 : decode cX10_sum 6 = .ok (.getfield 96, 3) := by decide +kernel
theorem dX10_sum_9 : decode cX10_sum 9 = .ok (.ifCond .eq 72, 3) := by decide +kernel
theorem dX10_sum_12 : decode cX10_sum 12 = .ok (.aload_n 0, 1) := by decide +kernel
theorem dX10_sum_13 : decode cX10_sum 13 = .ok (.aload_n 0, 1) := by decide +kernel
theorem dX10_sum_14 : decode cX10_sum 14 = .ok (.getfield 100, 3) := by decide +kernel
theorem dX10_sum_17 : decode cX10_sum 17 = .ok (.invokevirtual 103, 3) := by decide +kernel
theorem dX10_sum_20 : decode cX10_sum 20 = .ok (.bipush 43, 2) := by decide +kernel
theorem dX10_sum_22 : decode cX10_sum 22 = .ok (.if_icmp .eq 16, 3) := by decide +kernel
theorem dX10_sum_25 : decode cX10_sum 25 = .ok (.aload_n 0, 1) := by decide +kernel
theorem dX10_sum_26 : decode cX10_sum 26 = .ok (.aload_n 0, 1) := by decide +kernel
theorem dX10_sum_27 : decode cX10_sum 27 = .ok (.getfield 100, 3) := by decide +kernel
theorem dX10_sum_30 : decode cX10_sum 30 = .ok (.invokevirtual 103, 3) := by decide +kernel
theorem dX10_sum_33 : decode cX10_sum 33 = .ok (.bipush 45, 2) := by decide +kernel
theorem dX10_sum_35 : decode cX10_sum 35 = .ok (.if_icmp .ne 46, 3) := by decide +kernel
theorem dX10_sum_38 : decode cX10_sum 38 = .ok (.aload_n 0, 1) := by decide +kernel
theorem dX10_sum_39 : decode cX10_sum 39 = .ok (.aload_n 0, 1) := by decide +kernel
theorem dX10_sum_40 : decode cX10_sum 40 = .ok (.getfield 100, 3) := by decide +kernel
theorem dX10_sum_43 : decode cX10_sum 43 = .ok (.invokevirtual 103, 3) := by decide +kernel
theorem dX10_sum_46 : decode cX10_sum 46 = .ok (.istore_n 2, 1) := by decide +kernel
theorem dX10_sum_47 : decode cX10_sum 47 = .ok (.aload_n 0, 1) := by decide +kernel
theorem dX10_sum_48 : decode cX10_sum 48 = .ok (.dup, 1) := by decide +kernel
theorem dX10_sum_49 : decode cX10_sum 49 = .ok (.getfield 100, 3) := by decide +kernel
theorem dX10_sum_52 : decode cX10_sum 52 = .ok (.iconst 1, 1) := by decide +kernel
theorem dX10_sum_53 : decode cX10_sum 53 = .ok (.iadd, 1) := by decide +kernel
theorem dX10_sum_54 : decode cX10_sum 54 = .ok (.putfield 100, 3) := by decide +kernel
theorem dX10_sum_57 : decode cX10_sum 57 = .ok (.aload_n 0, 1) := by decide +kernel
theorem dX10_sum_58 : decode cX10_sum 58 = .ok (.invokevirtual 137, 3) := by decide +kernel
theorem dX10_sum_61 : decode cX10_sum 61 = .ok (.istore_n 3, 1) := by decide +kernel
theorem dX10_sum_62 : decode cX10_sum 62 = .ok (.iload_n 2, 1) := by decide +kernel
theorem dX10_sum_63 : decode cX10_sum 63 = .ok (.bipush 43, 2) := by decide +kernel
theorem dX10_sum_65 : decode cX10_sum 65 = .ok (.if_icmp .ne 9, 3) := by decide +kernel
theorem dX10_sum_68 : decode cX10_sum 68 = .ok (.iload_n 1, 1) := by decide +kernel
theorem dX10_sum_69 : decode cX10_sum 69 = .ok (.iload_n 3, 1) := by decide +kernel
theorem dX10_sum_70 : decode cX10_sum 70 = .ok (.iadd, 1) := by decide +kernel
theorem dX10_sum_71 : decode cX10_sum 71 = .ok (.goto 6, 3) := by decide +kernel
theorem dX10_sum_74 : decode cX10_sum 74 = .ok (.iload_n 1, 1) := by decide +kernel
theorem dX10_sum_75 : decode cX10_sum 75 = .ok (.iload_n 3, 1) := by decide +kernel
theorem dX10_sum_76 : decode cX10_sum 76 = .ok (.isub, 1) := by decide +kernel
theorem dX10_sum_77 : decode cX10_sum 77 = .ok (.istore_n 1, 1) := by decide +kernel
theorem dX10_sum_78 : decode cX10_sum 78 = .ok (.goto (-73), 3) := by decide +kernel
theorem dX10_sum_81 : decode cX10_sum 81 = .ok (.iload_n 1, 1) := by decide +kernel
theorem dX10_sum_82 : decode cX10_sum 82 = .ok (.ireturn, 1) := by decide +kernel
theorem dX10_compared_0 : decode cX10_compared 0 = .ok (.aload_n 0, 1) := by decide +kernel
theorem dX10_compared_1 : decode cX10_compared 1 = .ok (.invokevirtual 140, 3) := by decide +kernel
theorem dX10_compared_4 : decode cX10_compared 4 = .ok (.istore_n 1, 1) := by decide +kernel
theorem dX10_compared_5 : decode cX10_compared 5 = .ok (.aload_n 0, 1) := by decide +kernel
theorem dX10_compared_6 : decode cX10_compared 6 = .ok (.getfield 96, 3) := by decide +kernel
theorem dX10_compared_9 : decode cX10_compared 9 = .ok (.ifCond .eq 14, 3) := by decide +kernel
theorem dX10_compared_12 : decode cX10_compared 12 = .ok (.aload_n 0, 1) := by decide +kernel
theorem dX10_compared_13 : decode cX10_compared 13 = .ok (.aload_n 0, 1) := by decide +kernel
theorem dX10_compared_14 : decode cX10_compared 14 = .ok (.getfield 100, 3) := by decide +kernel
theorem dX10_compared_17 : decode cX10_compared 17 = .ok (.invokevirtual 103, 3) := by decide +kernel
theorem dX10_compared_20 : decode cX10_compared 20 = .ok (.goto 4, 3) := by decide +kernel
theorem dX10_compared_23 : decode cX10_compared 23 = .ok (.iconst (-1), 1) := by decide +kernel
theorem dX10_compared_24 : decode cX10_compared 24 = .ok (.istore_n 2, 1) := by decide +kernel
theorem dX10_compared_25 : decode cX10_compared 25 = .ok (.iload_n 2, 1) := by decide +kernel
theorem dX10_compared_26 : decode cX10_compared 26 = .ok (.bipush 60, 2) := by decide +kernel
theorem dX10_compared_28 : decode cX10_compared 28 = .ok (.if_icmp .eq 17, 3) := by decide +kernel
theorem dX10_compared_31 : decode cX10_compared 31 = .ok (.iload_n 2, 1) := by decide +kernel
theorem dX10_compared_32 : decode cX10_compared 32 = .ok (.bipush 61, 2) := by decide +kernel
theorem dX10_compared_34 : decode cX10_compared 34 = .ok (.if_icmp .eq 11, 3) := by decide +kernel
theorem dX10_compared_37 : decode cX10_compared 37 = .ok (.iload_n 2, 1) := by decide +kernel
theorem dX10_compared_38 : decode cX10_compared 38 = .ok (.bipush 62, 2) := by decide +kernel
theorem dX10_compared_40 : decode cX10_compared 40 = .ok (.if_icmp .eq 5, 3) := by decide +kernel
theorem dX10_compared_43 : decode cX10_compared 43 = .ok (.iload_n 1, 1) := by decide +kernel
theorem dX10_compared_44 : decode cX10_compared 44 = .ok (.ireturn, 1) := by decide +kernel
theorem dX10_compared_45 : decode cX10_compared 45 = .ok (.aload_n 0, 1) := by decide +kernel
theorem dX10_compared_46 : decode cX10_compared 46 = .ok (.dup, 1) := by decide +kernel
theorem dX10_compared_47 : decode cX10_compared 47 = .ok (.getfield 100, 3) := by decide +kernel
theorem dX10_compared_50 : decode cX10_compared 50 = .ok (.iconst 1, 1) := by decide +kernel
theorem dX10_compared_51 : decode cX10_compared 51 = .ok (.iadd, 1) := by decide +kernel
theorem dX10_compared_52 : decode cX10_compared 52 = .ok (.putfield 100, 3) := by decide +kernel
theorem dX10_compared_55 : decode cX10_compared 55 = .ok (.aload_n 0, 1) := by decide +kernel
theorem dX10_compared_56 : decode cX10_compared 56 = .ok (.invokevirtual 140, 3) := by decide +kernel
theorem dX10_compared_59 : decode cX10_compared 59 = .ok (.istore_n 3, 1) := by decide +kernel
theorem dX10_compared_60 : decode cX10_compared 60 = .ok (.iload_n 2, 1) := by decide +kernel
theorem dX10_compared_61 : decode cX10_compared 61 = .ok (.bipush 60, 2) := by decide +kernel
theorem dX10_compared_63 : decode cX10_compared 63 = .ok (.if_icmp .ne 16, 3) := by decide +kernel
theorem dX10_compared_66 : decode cX10_compared 66 = .ok (.iload_n 1, 1) := by decide +kernel
theorem dX10_compared_67 : decode cX10_compared 67 = .ok (.iload_n 3, 1) := by decide +kernel
theorem dX10_compared_68 : decode cX10_compared 68 = .ok (.if_icmp .ge 7, 3) := by decide +kernel
theorem dX10_compared_71 : decode cX10_compared 71 = .ok (.iconst 1, 1) := by decide +kernel
theorem dX10_compared_72 : decode cX10_compared 72 = .ok (.goto 36, 3) := by decide +kernel
theorem dX10_compared_75 : decode cX10_compared 75 = .ok (.iconst 0, 1) := by decide +kernel
theorem dX10_compared_76 : decode cX10_compared 76 = .ok (.goto 32, 3) := by decide +kernel
theorem dX10_compared_79 : decode cX10_compared 79 = .ok (.iload_n 2, 1) := by decide +kernel
theorem dX10_compared_80 : decode cX10_compared 80 = .ok (.bipush 61, 2) := by decide +kernel
theorem dX10_compared_82 : decode cX10_compared 82 = .ok (.if_icmp .ne 16, 3) := by decide +kernel
theorem dX10_compared_85 : decode cX10_compared 85 = .ok (.iload_n 1, 1) := by decide +kernel
theorem dX10_compared_86 : decode cX10_compared 86 = .ok (.iload_n 3, 1) := by decide +kernel
theorem dX10_compared_87 : decode cX10_compared 87 = .ok (.if_icmp .ne 7, 3) := by decide +kernel
theorem dX10_compared_90 : decode cX10_compared 90 = .ok (.iconst 1, 1) := by decide +kernel
theorem dX10_compared_91 : decode cX10_compared 91 = .ok (.goto 17, 3) := by decide +kernel
theorem dX10_compared_94 : decode cX10_compared 94 = .ok (.iconst 0, 1) := by decide +kernel
theorem dX10_compared_95 : decode cX10_compared 95 = .ok (.goto 13, 3) := by decide +kernel
theorem dX10_compared_98 : decode cX10_compared 98 = .ok (.iload_n 1, 1) := by decide +kernel
theorem dX10_compared_99 : decode cX10_compared 99 = .ok (.iload_n 3, 1) := by decide +kernel
theorem dX10_compared_100 : decode cX10_compared 100 = .ok (.if_icmp .le 7, 3) := by decide +kernel
theorem dX10_compared_103 : decode cX10_compared 103 = .ok (.iconst 1, 1) := by decide +kernel
theorem dX10_compared_104 : decode cX10_compared 104 = .ok (.goto 4, 3) := by decide +kernel
theorem dX10_compared_107 : decode cX10_compared 107 = .ok (.iconst 0, 1) := by decide +kernel
theorem dX10_compared_108 : decode cX10_compared 108 = .ok (.istore 4, 2) := by decide +kernel
theorem dX10_compared_110 : decode cX10_compared 110 = .ok (.iload 4, 2) := by decide +kernel
theorem dX10_compared_112 : decode cX10_compared 112 = .ok (.ifCond .eq 7, 3) := by decide +kernel
theorem dX10_compared_115 : decode cX10_compared 115 = .ok (.iconst 1, 1) := by decide +kernel
theorem dX10_compared_116 : decode cX10_compared 116 = .ok (.goto 4, 3) := by decide +kernel
theorem dX10_compared_119 : decode cX10_compared 119 = .ok (.iconst 0, 1) := by decide +kernel
theorem dX10_compared_120 : decode cX10_compared 120 = .ok (.ireturn, 1) := by decide +kernel
theorem dX10_both_0 : decode cX10_both 0 = .ok (.aload_n 0, 1) := by decide +kernel
theorem dX10_both_1 : decode cX10_both 1 = .ok (.invokevirtual 143, 3) := by decide +kernel
theorem dX10_both_4 : decode cX10_both 4 = .ok (.istore_n 1, 1) := by decide +kernel
theorem dX10_both_5 : decode cX10_both 5 = .ok (.aload_n 0, 1) := by decide +kernel
theorem dX10_both_6 : decode cX10_both 6 = .ok (.getfield 96, 3) := by decide +kernel
theorem dX10_both_9 : decode cX10_both 9 = .ok (.ifCond .eq 48, 3) := by decide +kernel
theorem dX10_both_12 : decode cX10_both 12 = .ok (.aload_n 0, 1) := by decide +kernel
theorem dX10_both_13 : decode cX10_both 13 = .ok (.aload_n 0, 1) := by decide +kernel
theorem dX10_both_14 : decode cX10_both 14 = .ok (.getfield 100, 3) := by decide +kernel
theorem dX10_both_17 : decode cX10_both 17 = .ok (.invokevirtual 103, 3) := by decide +kernel
theorem dX10_both_20 : decode cX10_both 20 = .ok (.bipush 38, 2) := by decide +kernel
theorem dX10_both_22 : decode cX10_both 22 = .ok (.if_icmp .ne 35, 3) := by decide +kernel
theorem dX10_both_25 : decode cX10_both 25 = .ok (.aload_n 0, 1) := by decide +kernel
theorem dX10_both_26 : decode cX10_both 26 = .ok (.dup, 1) := by decide +kernel
theorem dX10_both_27 : decode cX10_both 27 = .ok (.getfield 100, 3) := by decide +kernel
theorem dX10_both_30 : decode cX10_both 30 = .ok (.iconst 1, 1) := by decide +kernel
theorem dX10_both_31 : decode cX10_both 31 = .ok (.iadd, 1) := by decide +kernel
theorem dX10_both_32 : decode cX10_both 32 = .ok (.putfield 100, 3) := by decide +kernel
theorem dX10_both_35 : decode cX10_both 35 = .ok (.aload_n 0, 1) := by decide +kernel
theorem dX10_both_36 : decode cX10_both 36 = .ok (.invokevirtual 143, 3) := by decide +kernel
theorem dX10_both_39 : decode cX10_both 39 = .ok (.istore_n 2, 1) := by decide +kernel
theorem dX10_both_40 : decode cX10_both 40 = .ok (.iload_n 1, 1) := by decide +kernel
theorem dX10_both_41 : decode cX10_both 41 = .ok (.ifCond .eq 11, 3) := by decide +kernel
theorem dX10_both_44 : decode cX10_both 44 = .ok (.iload_n 2, 1) := by decide +kernel
theorem dX10_both_45 : decode cX10_both 45 = .ok (.ifCond .eq 7, 3) := by decide +kernel
theorem dX10_both_48 : decode cX10_both 48 = .ok (.iconst 1, 1) := by decide +kernel
theorem dX10_both_49 : decode cX10_both 49 = .ok (.goto 4, 3) := by decide +kernel
theorem dX10_both_52 : decode cX10_both 52 = .ok (.iconst 0, 1) := by decide +kernel
theorem dX10_both_53 : decode cX10_both 53 = .ok (.istore_n 1, 1) := by decide +kernel
theorem dX10_both_54 : decode cX10_both 54 = .ok (.goto (-49), 3) := by decide +kernel
theorem dX10_both_57 : decode cX10_both 57 = .ok (.iload_n 1, 1) := by decide +kernel
theorem dX10_both_58 : decode cX10_both 58 = .ok (.ireturn, 1) := by decide +kernel
theorem dX10_whole_0 : decode cX10_whole 0 = .ok (.aload_n 0, 1) := by decide +kernel
theorem dX10_whole_1 : decode cX10_whole 1 = .ok (.invokevirtual 146, 3) := by decide +kernel
theorem dX10_whole_4 : decode cX10_whole 4 = .ok (.istore_n 1, 1) := by decide +kernel
theorem dX10_whole_5 : decode cX10_whole 5 = .ok (.aload_n 0, 1) := by decide +kernel
theorem dX10_whole_6 : decode cX10_whole 6 = .ok (.getfield 96, 3) := by decide +kernel
theorem dX10_whole_9 : decode cX10_whole 9 = .ok (.ifCond .eq 48, 3) := by decide +kernel
theorem dX10_whole_12 : decode cX10_whole 12 = .ok (.aload_n 0, 1) := by decide +kernel
theorem dX10_whole_13 : decode cX10_whole 13 = .ok (.aload_n 0, 1) := by decide +kernel
theorem dX10_whole_14 : decode cX10_whole 14 = .ok (.getfield 100, 3) := by decide +kernel
theorem dX10_whole_17 : decode cX10_whole 17 = .ok (.invokevirtual 103, 3) := by decide +kernel
theorem dX10_whole_20 : decode cX10_whole 20 = .ok (.bipush 124, 2) := by decide +kernel
theorem dX10_whole_22 : decode cX10_whole 22 = .ok (.if_icmp .ne 35, 3) := by decide +kernel
theorem dX10_whole_25 : decode cX10_whole 25 = .ok (.aload_n 0, 1) := by decide +kernel
theorem dX10_whole_26 : decode cX10_whole 26 = .ok (.dup, 1) := by decide +kernel
theorem dX10_whole_27 : decode cX10_whole 27 = .ok (.getfield 100, 3) := by decide +kernel
theorem dX10_whole_30 : decode cX10_whole 30 = .ok (.iconst 1, 1) := by decide +kernel
theorem dX10_whole_31 : decode cX10_whole 31 = .ok (.iadd, 1) := by decide +kernel
theorem dX10_whole_32 : decode cX10_whole 32 = .ok (.putfield 100, 3) := by decide +kernel
theorem dX10_whole_35 : decode cX10_whole 35 = .ok (.aload_n 0, 1) := by decide +kernel
theorem dX10_whole_36 : decode cX10_whole 36 = .ok (.invokevirtual 146, 3) := by decide +kernel
theorem dX10_whole_39 : decode cX10_whole 39 = .ok (.istore_n 2, 1) := by decide +kernel
theorem dX10_whole_40 : decode cX10_whole 40 = .ok (.iload_n 1, 1) := by decide +kernel
theorem dX10_whole_41 : decode cX10_whole 41 = .ok (.ifCond .ne 7, 3) := by decide +kernel
theorem dX10_whole_44 : decode cX10_whole 44 = .ok (.iload_n 2, 1) := by decide +kernel
theorem dX10_whole_45 : decode cX10_whole 45 = .ok (.ifCond .eq 7, 3) := by decide +kernel
theorem dX10_whole_48 : decode cX10_whole 48 = .ok (.iconst 1, 1) := by decide +kernel
theorem dX10_whole_49 : decode cX10_whole 49 = .ok (.goto 4, 3) := by decide +kernel
theorem dX10_whole_52 : decode cX10_whole 52 = .ok (.iconst 0, 1) := by decide +kernel
theorem dX10_whole_53 : decode cX10_whole 53 = .ok (.istore_n 1, 1) := by decide +kernel
theorem dX10_whole_54 : decode cX10_whole 54 = .ok (.goto (-49), 3) := by decide +kernel
theorem dX10_whole_57 : decode cX10_whole 57 = .ok (.iload_n 1, 1) := by decide +kernel
theorem dX10_whole_58 : decode cX10_whole 58 = .ok (.ireturn, 1) := by decide +kernel
theorem dX10_walks_0 : decode cX10_walks 0 = .ok (.aload_n 0, 1) := by decide +kernel
theorem dX10_walks_1 : decode cX10_walks 1 = .ok (.iload_n 1, 1) := by decide +kernel
theorem dX10_walks_2 : decode cX10_walks 2 = .ok (.putfield 93, 3) := by decide +kernel
theorem dX10_walks_5 : decode cX10_walks 5 = .ok (.aload_n 0, 1) := by decide +kernel
theorem dX10_walks_6 : decode cX10_walks 6 = .ok (.iconst 0, 1) := by decide +kernel
theorem dX10_walks_7 : decode cX10_walks 7 = .ok (.putfield 100, 3) := by decide +kernel
theorem dX10_walks_10 : decode cX10_walks 10 = .ok (.aload_n 0, 1) := by decide +kernel
theorem dX10_walks_11 : decode cX10_walks 11 = .ok (.aload_n 0, 1) := by decide +kernel
theorem dX10_walks_12 : decode cX10_walks 12 = .ok (.getfield 7, 3) := by decide +kernel
theorem dX10_walks_15 : decode cX10_walks 15 = .ok (.iconst 5, 1) := by decide +kernel
theorem dX10_walks_16 : decode cX10_walks 16 = .ok (.iload_n 1, 1) := by decide +kernel
theorem dX10_walks_17 : decode cX10_walks 17 = .ok (.iadd, 1) := by decide +kernel
theorem dX10_walks_18 : decode cX10_walks 18 = .ok (.iaload, 1) := by decide +kernel
theorem dX10_walks_19 : decode cX10_walks 19 = .ok (.putfield 89, 3) := by decide +kernel
theorem dX10_walks_22 : decode cX10_walks 22 = .ok (.aload_n 0, 1) := by decide +kernel
theorem dX10_walks_23 : decode cX10_walks 23 = .ok (.iconst 0, 1) := by decide +kernel
theorem dX10_walks_24 : decode cX10_walks 24 = .ok (.putfield 128, 3) := by decide +kernel
theorem dX10_walks_27 : decode cX10_walks 27 = .ok (.aload_n 0, 1) := by decide +kernel
theorem dX10_walks_28 : decode cX10_walks 28 = .ok (.iconst 1, 1) := by decide +kernel
theorem dX10_walks_29 : decode cX10_walks 29 = .ok (.putfield 96, 3) := by decide +kernel
theorem dX10_walks_32 : decode cX10_walks 32 = .ok (.aload_n 0, 1) := by decide +kernel
theorem dX10_walks_33 : decode cX10_walks 33 = .ok (.iload_n 2, 1) := by decide +kernel
theorem dX10_walks_34 : decode cX10_walks 34 = .ok (.putfield 113, 3) := by decide +kernel
theorem dX10_walks_37 : decode cX10_walks 37 = .ok (.aload_n 0, 1) := by decide +kernel
theorem dX10_walks_38 : decode cX10_walks 38 = .ok (.iload_n 3, 1) := by decide +kernel
theorem dX10_walks_39 : decode cX10_walks 39 = .ok (.putfield 116, 3) := by decide +kernel
theorem dX10_walks_42 : decode cX10_walks 42 = .ok (.aload_n 0, 1) := by decide +kernel
theorem dX10_walks_43 : decode cX10_walks 43 = .ok (.iload 4, 2) := by decide +kernel
theorem dX10_walks_45 : decode cX10_walks 45 = .ok (.putfield 119, 3) := by decide +kernel
theorem dX10_walks_48 : decode cX10_walks 48 = .ok (.aload_n 0, 1) := by decide +kernel
theorem dX10_walks_49 : decode cX10_walks 49 = .ok (.invokevirtual 134, 3) := by decide +kernel
theorem dX10_walks_52 : decode cX10_walks 52 = .ok (.istore 5, 2) := by decide +kernel
theorem dX10_walks_54 : decode cX10_walks 54 = .ok (.aload_n 0, 1) := by decide +kernel
theorem dX10_walks_55 : decode cX10_walks 55 = .ok (.aload_n 0, 1) := by decide +kernel
theorem dX10_walks_56 : decode cX10_walks 56 = .ok (.getfield 96, 3) := by decide +kernel
theorem dX10_walks_59 : decode cX10_walks 59 = .ok (.ifCond .eq 18, 3) := by decide +kernel
theorem dX10_walks_62 : decode cX10_walks 62 = .ok (.aload_n 0, 1) := by decide +kernel
theorem dX10_walks_63 : decode cX10_walks 63 = .ok (.getfield 100, 3) := by decide +kernel
theorem dX10_walks_66 : decode cX10_walks 66 = .ok (.aload_n 0, 1) := by decide +kernel
theorem dX10_walks_67 : decode cX10_walks 67 = .ok (.getfield 89, 3) := by decide +kernel
theorem dX10_walks_70 : decode cX10_walks 70 = .ok (.if_icmp .ne 7, 3) := by decide +kernel
theorem dX10_walks_73 : decode cX10_walks 73 = .ok (.iconst 1, 1) := by decide +kernel
theorem dX10_walks_74 : decode cX10_walks 74 = .ok (.goto 4, 3) := by decide +kernel
theorem dX10_walks_77 : decode cX10_walks 77 = .ok (.iconst 0, 1) := by decide +kernel
theorem dX10_walks_78 : decode cX10_walks 78 = .ok (.putfield 96, 3) := by decide +kernel
theorem dX10_walks_81 : decode cX10_walks 81 = .ok (.iload 5, 2) := by decide +kernel
theorem dX10_walks_83 : decode cX10_walks 83 = .ok (.ireturn, 1) := by decide +kernel
theorem dX10_lawOf_0 : decode cX10_lawOf 0 = .ok (.iload_n 1, 1) := by decide +kernel
theorem dX10_lawOf_1 : decode cX10_lawOf 1 = .ok (.ifCond .ne 8, 3) := by decide +kernel
theorem dX10_lawOf_4 : decode cX10_lawOf 4 = .ok (.bipush 99, 2) := by decide +kernel
theorem dX10_lawOf_6 : decode cX10_lawOf 6 = .ok (.goto 6, 3) := by decide +kernel
theorem dX10_lawOf_9 : decode cX10_lawOf 9 = .ok (.sipush 999, 3) := by decide +kernel
theorem dX10_lawOf_12 : decode cX10_lawOf 12 = .ok (.istore 5, 2) := by decide +kernel
theorem dX10_lawOf_14 : decode cX10_lawOf 14 = .ok (.aload_n 0, 1) := by decide +kernel
theorem dX10_lawOf_15 : decode cX10_lawOf 15 = .ok (.getfield 7, 3) := by decide +kernel
theorem dX10_lawOf_18 : decode cX10_lawOf 18 = .ok (.iconst 5, 1) := by decide +kernel
theorem dX10_lawOf_19 : decode cX10_lawOf 19 = .ok (.iload_n 1, 1) := by decide +kernel
theorem dX10_lawOf_20 : decode cX10_lawOf 20 = .ok (.iadd, 1) := by decide +kernel
theorem dX10_lawOf_21 : decode cX10_lawOf 21 = .ok (.iaload, 1) := by decide +kernel
theorem dX10_lawOf_22 : decode cX10_lawOf 22 = .ok (.ifCond .lt 19, 3) := by decide +kernel
theorem dX10_lawOf_25 : decode cX10_lawOf 25 = .ok (.aload_n 0, 1) := by decide +kernel
theorem dX10_lawOf_26 : decode cX10_lawOf 26 = .ok (.iload_n 1, 1) := by decide +kernel
theorem dX10_lawOf_27 : decode cX10_lawOf 27 = .ok (.iload_n 2, 1) := by decide +kernel
theorem dX10_lawOf_28 : decode cX10_lawOf 28 = .ok (.iload_n 3, 1) := by decide +kernel
theorem dX10_lawOf_29 : decode cX10_lawOf 29 = .ok (.iload 4, 2) := by decide +kernel
theorem dX10_lawOf_31 : decode cX10_lawOf 31 = .ok (.invokevirtual 149, 3) := by decide +kernel
theorem dX10_lawOf_34 : decode cX10_lawOf 34 = .ok (.iconst 0, 1) := by decide +kernel
theorem dX10_lawOf_35 : decode cX10_lawOf 35 = .ok (.iload 5, 2) := by decide +kernel
theorem dX10_lawOf_37 : decode cX10_lawOf 37 = .ok (.invokestatic 153, 3) := by decide +kernel
theorem dX10_lawOf_40 : decode cX10_lawOf 40 = .ok (.ireturn, 1) := by decide +kernel
theorem dX10_lawOf_41 : decode cX10_lawOf 41 = .ok (.iload_n 1, 1) := by decide +kernel
theorem dX10_lawOf_42 : decode cX10_lawOf 42 = .ok (.ifCond .ne 13, 3) := by decide +kernel
theorem dX10_lawOf_45 : decode cX10_lawOf 45 = .ok (.bipush 9, 2) := by decide +kernel
theorem dX10_lawOf_47 : decode cX10_lawOf 47 = .ok (.iload_n 2, 1) := by decide +kernel
theorem dX10_lawOf_48 : decode cX10_lawOf 48 = .ok (.isub, 1) := by decide +kernel
theorem dX10_lawOf_49 : decode cX10_lawOf 49 = .ok (.iload 4, 2) := by decide +kernel
theorem dX10_lawOf_51 : decode cX10_lawOf 51 = .ok (.iadd, 1) := by decide +kernel
theorem dX10_lawOf_52 : decode cX10_lawOf 52 = .ok (.goto 7, 3) := by decide +kernel
theorem dX10_lawOf_55 : decode cX10_lawOf 55 = .ok (.iload_n 3, 1) := by decide +kernel
theorem dX10_lawOf_56 : decode cX10_lawOf 56 = .ok (.bipush 10, 2) := by decide +kernel
theorem dX10_lawOf_58 : decode cX10_lawOf 58 = .ok (.idiv, 1) := by decide +kernel
theorem dX10_lawOf_59 : decode cX10_lawOf 59 = .ok (.iconst 0, 1) := by decide +kernel
theorem dX10_lawOf_60 : decode cX10_lawOf 60 = .ok (.iload 5, 2) := by decide +kernel
theorem dX10_lawOf_62 : decode cX10_lawOf 62 = .ok (.invokestatic 153, 3) := by decide +kernel
theorem dX10_lawOf_65 : decode cX10_lawOf 65 = .ok (.ireturn, 1) := by decide +kernel
theorem dX10_law_0 : decode cX10_law 0 = .ok (.iload_n 1, 1) := by decide +kernel
theorem dX10_law_1 : decode cX10_law 1 = .ok (.iconst 0, 1) := by decide +kernel
theorem dX10_law_2 : decode cX10_law 2 = .ok (.iconst 1, 1) := by decide +kernel
theorem dX10_law_3 : decode cX10_law 3 = .ok (.invokestatic 47, 3) := by decide +kernel
theorem dX10_law_6 : decode cX10_law 6 = .ok (.ifCond .eq 15, 3) := by decide +kernel
theorem dX10_law_9 : decode cX10_law 9 = .ok (.aload_n 0, 1) := by decide +kernel
theorem dX10_law_10 : decode cX10_law 10 = .ok (.iload_n 1, 1) := by decide +kernel
theorem dX10_law_11 : decode cX10_law 11 = .ok (.iload_n 2, 1) := by decide +kernel
theorem dX10_law_12 : decode cX10_law 12 = .ok (.iload_n 3, 1) := by decide +kernel
theorem dX10_law_13 : decode cX10_law 13 = .ok (.iload 4, 2) := by decide +kernel
theorem dX10_law_15 : decode cX10_law 15 = .ok (.invokevirtual 157, 3) := by decide +kernel
theorem dX10_law_18 : decode cX10_law 18 = .ok (.goto 9, 3) := by decide +kernel
theorem dX10_law_21 : decode cX10_law 21 = .ok (.aload_n 0, 1) := by decide +kernel
theorem dX10_law_22 : decode cX10_law 22 = .ok (.ldc 51, 2) := by decide +kernel
theorem dX10_law_24 : decode cX10_law 24 = .ok (.invokevirtual 52, 3) := by decide +kernel
theorem dX10_law_27 : decode cX10_law 27 = .ok (.ireturn, 1) := by decide +kernel
theorem dX10_feed_0 : decode cX10_feed 0 = .ok (.iload_n 3, 1) := by decide +kernel
theorem dX10_feed_1 : decode cX10_feed 1 = .ok (.iconst 1, 1) := by decide +kernel
theorem dX10_feed_2 : decode cX10_feed 2 = .ok (.bipush 8, 2) := by decide +kernel
theorem dX10_feed_4 : decode cX10_feed 4 = .ok (.invokestatic 47, 3) := by decide +kernel
theorem dX10_feed_7 : decode cX10_feed 7 = .ok (.ifCond .ne 10, 3) := by decide +kernel
theorem dX10_feed_10 : decode cX10_feed 10 = .ok (.aload_n 0, 1) := by decide +kernel
theorem dX10_feed_11 : decode cX10_feed 11 = .ok (.ldc 51, 2) := by decide +kernel
theorem dX10_feed_13 : decode cX10_feed 13 = .ok (.invokevirtual 52, 3) := by decide +kernel
theorem dX10_feed_16 : decode cX10_feed 16 = .ok (.ireturn, 1) := by decide +kernel
theorem dX10_feed_17 : decode cX10_feed 17 = .ok (.aload_n 0, 1) := by decide +kernel
theorem dX10_feed_18 : decode cX10_feed 18 = .ok (.getfield 7, 3) := by decide +kernel
theorem dX10_feed_21 : decode cX10_feed 21 = .ok (.iconst 3, 1) := by decide +kernel
theorem dX10_feed_22 : decode cX10_feed 22 = .ok (.iaload, 1) := by decide +kernel
theorem dX10_feed_23 : decode cX10_feed 23 = .ok (.iload_n 3, 1) := by decide +kernel
theorem dX10_feed_24 : decode cX10_feed 24 = .ok (.iadd, 1) := by decide +kernel
theorem dX10_feed_25 : decode cX10_feed 25 = .ok (.bipush 50, 2) := by decide +kernel
theorem dX10_feed_27 : decode cX10_feed 27 = .ok (.if_icmp .le 10, 3) := by decide +kernel
theorem dX10_feed_30 : decode cX10_feed 30 = .ok (.aload_n 0, 1) := by decide +kernel
theorem dX10_feed_31 : decode cX10_feed 31 = .ok (.ldc 56, 2) := by decide +kernel
theorem dX10_feed_33 : decode cX10_feed 33 = .ok (.invokevirtual 52, 3) := by decide +kernel
theorem dX10_feed_36 : decode cX10_feed 36 = .ok (.ireturn, 1) := by decide +kernel
theorem dX10_feed_37 : decode cX10_feed 37 = .ok (.iconst 0, 1) := by decide +kernel
theorem dX10_feed_38 : decode cX10_feed 38 = .ok (.istore 4, 2) := by decide +kernel
theorem dX10_feed_40 : decode cX10_feed 40 = .ok (.iload 4, 2) := by decide +kernel
theorem dX10_feed_42 : decode cX10_feed 42 = .ok (.iload_n 3, 1) := by decide +kernel
theorem dX10_feed_43 : decode cX10_feed 43 = .ok (.if_icmp .ge 45, 3) := by decide +kernel
theorem dX10_feed_46 : decode cX10_feed 46 = .ok (.aload_n 0, 1) := by decide +kernel
theorem dX10_feed_47 : decode cX10_feed 47 = .ok (.getfield 7, 3) := by decide +kernel
theorem dX10_feed_50 : decode cX10_feed 50 = .ok (.bipush 56, 2) := by decide +kernel
theorem dX10_feed_52 : decode cX10_feed 52 = .ok (.aload_n 0, 1) := by decide +kernel
theorem dX10_feed_53 : decode cX10_feed 53 = .ok (.getfield 7, 3) := by decide +kernel
theorem dX10_feed_56 : decode cX10_feed 56 = .ok (.iconst 3, 1) := by decide +kernel
theorem dX10_feed_57 : decode cX10_feed 57 = .ok (.iaload, 1) := by decide +kernel
theorem dX10_feed_58 : decode cX10_feed 58 = .ok (.iadd, 1) := by decide +kernel
theorem dX10_feed_59 : decode cX10_feed 59 = .ok (.lload_n 1, 1) := by decide +kernel
theorem dX10_feed_60 : decode cX10_feed 60 = .ok (.bipush 8, 2) := by decide +kernel
theorem dX10_feed_62 : decode cX10_feed 62 = .ok (.iload 4, 2) := by decide +kernel
theorem dX10_feed_64 : decode cX10_feed 64 = .ok (.imul, 1) := by decide +kernel
theorem dX10_feed_65 : decode cX10_feed 65 = .ok (.lshr, 1) := by decide +kernel
theorem dX10_feed_66 : decode cX10_feed 66 = .ok (.ldc2_w 160, 3) := by decide +kernel
theorem dX10_feed_69 : decode cX10_feed 69 = .ok (.land, 1) := by decide +kernel
theorem dX10_feed_70 : decode cX10_feed 70 = .ok (.l2i, 1) := by decide +kernel
theorem dX10_feed_71 : decode cX10_feed 71 = .ok (.iastore, 1) := by decide +kernel
theorem dX10_feed_72 : decode cX10_feed 72 = .ok (.aload_n 0, 1) := by decide +kernel
theorem dX10_feed_73 : decode cX10_feed 73 = .ok (.getfield 7, 3) := by decide +kernel
theorem dX10_feed_76 : decode cX10_feed 76 = .ok (.iconst 3, 1) := by decide +kernel
theorem dX10_feed_77 : decode cX10_feed 77 = .ok (.dup2, 1) := by decide +kernel
theorem dX10_feed_78 : decode cX10_feed 78 = .ok (.iaload, 1) := by decide +kernel
theorem dX10_feed_79 : decode cX10_feed 79 = .ok (.iconst 1, 1) := by decide +kernel
theorem dX10_feed_80 : decode cX10_feed 80 = .ok (.iadd, 1) := by decide +kernel
theorem dX10_feed_81 : decode cX10_feed 81 = .ok (.iastore, 1) := by decide +kernel
theorem dX10_feed_82 : decode cX10_feed 82 = .ok (.iinc 4 1, 3) := by decide +kernel
theorem dX10_feed_85 : decode cX10_feed 85 = .ok (.goto (-45), 3) := by decide +kernel
theorem dX10_feed_88 : decode cX10_feed 88 = .ok (.aload_n 0, 1) := by decide +kernel
theorem dX10_feed_89 : decode cX10_feed 89 = .ok (.getfield 7, 3) := by decide +kernel
theorem dX10_feed_92 : decode cX10_feed 92 = .ok (.iconst 3, 1) := by decide +kernel
theorem dX10_feed_93 : decode cX10_feed 93 = .ok (.iaload, 1) := by decide +kernel
theorem dX10_feed_94 : decode cX10_feed 94 = .ok (.ireturn, 1) := by decide +kernel
theorem dX10_text_0 : decode cX10_text 0 = .ok (.iload_n 1, 1) := by decide +kernel
theorem dX10_text_1 : decode cX10_text 1 = .ok (.iconst 0, 1) := by decide +kernel
theorem dX10_text_2 : decode cX10_text 2 = .ok (.iconst 1, 1) := by decide +kernel
theorem dX10_text_3 : decode cX10_text 3 = .ok (.invokestatic 47, 3) := by decide +kernel
theorem dX10_text_6 : decode cX10_text 6 = .ok (.ifCond .ne 10, 3) := by decide +kernel
theorem dX10_text_9 : decode cX10_text 9 = .ok (.aload_n 0, 1) := by decide +kernel
theorem dX10_text_10 : decode cX10_text 10 = .ok (.ldc 51, 2) := by decide +kernel
theorem dX10_text_12 : decode cX10_text 12 = .ok (.invokevirtual 52, 3) := by decide +kernel
theorem dX10_text_15 : decode cX10_text 15 = .ok (.ireturn, 1) := by decide +kernel
theorem dX10_text_16 : decode cX10_text 16 = .ok (.aload_n 0, 1) := by decide +kernel
theorem dX10_text_17 : decode cX10_text 17 = .ok (.aload_n 0, 1) := by decide +kernel
theorem dX10_text_18 : decode cX10_text 18 = .ok (.getfield 7, 3) := by decide +kernel
theorem dX10_text_21 : decode cX10_text 21 = .ok (.aload_n 0, 1) := by decide +kernel
theorem dX10_text_22 : decode cX10_text 22 = .ok (.getfield 19, 3) := by decide +kernel
theorem dX10_text_25 : decode cX10_text 25 = .ok (.invokevirtual 162, 3) := by decide +kernel
theorem dX10_text_28 : decode cX10_text 28 = .ok (.iconst 0, 1) := by decide +kernel
theorem dX10_text_29 : decode cX10_text 29 = .ok (.istore_n 2, 1) := by decide +kernel
theorem dX10_text_30 : decode cX10_text 30 = .ok (.iload_n 2, 1) := by decide +kernel
theorem dX10_text_31 : decode cX10_text 31 = .ok (.bipush 50, 2) := by decide +kernel
theorem dX10_text_33 : decode cX10_text 33 = .ok (.if_icmp .ge 32, 3) := by decide +kernel
theorem dX10_text_36 : decode cX10_text 36 = .ok (.aload_n 0, 1) := by decide +kernel
theorem dX10_text_37 : decode cX10_text 37 = .ok (.getfield 7, 3) := by decide +kernel
theorem dX10_text_40 : decode cX10_text 40 = .ok (.bipush 126, 2) := by decide +kernel
theorem dX10_text_42 : decode cX10_text 42 = .ok (.bipush 50, 2) := by decide +kernel
theorem dX10_text_44 : decode cX10_text 44 = .ok (.iload_n 1, 1) := by decide +kernel
theorem dX10_text_45 : decode cX10_text 45 = .ok (.imul, 1) := by decide +kernel
theorem dX10_text_46 : decode cX10_text 46 = .ok (.iadd, 1) := by decide +kernel
theorem dX10_text_47 : decode cX10_text 47 = .ok (.iload_n 2, 1) := by decide +kernel
theorem dX10_text_48 : decode cX10_text 48 = .ok (.iadd, 1) := by decide +kernel
theorem dX10_text_49 : decode cX10_text 49 = .ok (.aload_n 0, 1) := by decide +kernel
theorem dX10_text_50 : decode cX10_text 50 = .ok (.getfield 7, 3) := by decide +kernel
theorem dX10_text_53 : decode cX10_text 53 = .ok (.bipush 56, 2) := by decide +kernel
theorem dX10_text_55 : decode cX10_text 55 = .ok (.iload_n 2, 1) := by decide +kernel
theorem dX10_text_56 : decode cX10_text 56 = .ok (.iadd, 1) := by decide +kernel
theorem dX10_text_57 : decode cX10_text 57 = .ok (.iaload, 1) := by decide +kernel
theorem dX10_text_58 : decode cX10_text 58 = .ok (.iastore, 1) := by decide +kernel
theorem dX10_text_59 : decode cX10_text 59 = .ok (.iinc 2 1, 3) := by decide +kernel
theorem dX10_text_62 : decode cX10_text 62 = .ok (.goto (-32), 3) := by decide +kernel
theorem dX10_text_65 : decode cX10_text 65 = .ok (.aload_n 0, 1) := by decide +kernel
theorem dX10_text_66 : decode cX10_text 66 = .ok (.getfield 7, 3) := by decide +kernel
theorem dX10_text_69 : decode cX10_text 69 = .ok (.iconst 5, 1) := by decide +kernel
theorem dX10_text_70 : decode cX10_text 70 = .ok (.iload_n 1, 1) := by decide +kernel
theorem dX10_text_71 : decode cX10_text 71 = .ok (.iadd, 1) := by decide +kernel
theorem dX10_text_72 : decode cX10_text 72 = .ok (.aload_n 0, 1) := by decide +kernel
theorem dX10_text_73 : decode cX10_text 73 = .ok (.getfield 7, 3) := by decide +kernel
theorem dX10_text_76 : decode cX10_text 76 = .ok (.iconst 3, 1) := by decide +kernel
theorem dX10_text_77 : decode cX10_text 77 = .ok (.iaload, 1) := by decide +kernel
theorem dX10_text_78 : decode cX10_text 78 = .ok (.iastore, 1) := by decide +kernel
theorem dX10_text_79 : decode cX10_text 79 = .ok (.aload_n 0, 1) := by decide +kernel
theorem dX10_text_80 : decode cX10_text 80 = .ok (.iload_n 1, 1) := by decide +kernel
theorem dX10_text_81 : decode cX10_text 81 = .ok (.iconst 1, 1) := by decide +kernel
theorem dX10_text_82 : decode cX10_text 82 = .ok (.iconst 1, 1) := by decide +kernel
theorem dX10_text_83 : decode cX10_text 83 = .ok (.iconst 1, 1) := by decide +kernel
theorem dX10_text_84 : decode cX10_text 84 = .ok (.invokevirtual 149, 3) := by decide +kernel
theorem dX10_text_87 : decode cX10_text 87 = .ok (.istore_n 2, 1) := by decide +kernel
theorem dX10_text_88 : decode cX10_text 88 = .ok (.aload_n 0, 1) := by decide +kernel
theorem dX10_text_89 : decode cX10_text 89 = .ok (.getfield 96, 3) := by decide +kernel
theorem dX10_text_92 : decode cX10_text 92 = .ok (.ifCond .eq 12, 3) := by decide +kernel
theorem dX10_text_95 : decode cX10_text 95 = .ok (.iload_n 2, 1) := by decide +kernel
theorem dX10_text_96 : decode cX10_text 96 = .ok (.iload_n 2, 1) := by decide +kernel
theorem dX10_text_97 : decode cX10_text 97 = .ok (.if_icmp .ne 7, 3) := by decide +kernel
theorem dX10_text_100 : decode cX10_text 100 = .ok (.iconst 1, 1) := by decide +kernel
theorem dX10_text_101 : decode cX10_text 101 = .ok (.goto 4, 3) := by decide +kernel
theorem dX10_text_104 : decode cX10_text 104 = .ok (.iconst 0, 1) := by decide +kernel
theorem dX10_text_105 : decode cX10_text 105 = .ok (.istore_n 3, 1) := by decide +kernel
theorem dX10_text_106 : decode cX10_text 106 = .ok (.aload_n 0, 1) := by decide +kernel
theorem dX10_text_107 : decode cX10_text 107 = .ok (.getfield 100, 3) := by decide +kernel
theorem dX10_text_110 : decode cX10_text 110 = .ok (.istore 4, 2) := by decide +kernel
theorem dX10_text_112 : decode cX10_text 112 = .ok (.iload_n 3, 1) := by decide +kernel
theorem dX10_text_113 : decode cX10_text 113 = .ok (.ifCond .ne 15, 3) := by decide +kernel
theorem dX10_text_116 : decode cX10_text 116 = .ok (.aload_n 0, 1) := by decide +kernel
theorem dX10_text_117 : decode cX10_text 117 = .ok (.aload_n 0, 1) := by decide +kernel
theorem dX10_text_118 : decode cX10_text 118 = .ok (.getfield 19, 3) := by decide +kernel
theorem dX10_text_121 : decode cX10_text 121 = .ok (.aload_n 0, 1) := by decide +kernel
theorem dX10_text_122 : decode cX10_text 122 = .ok (.getfield 7, 3) := by decide +kernel
theorem dX10_text_125 : decode cX10_text 125 = .ok (.invokevirtual 162, 3) := by decide +kernel
theorem dX10_text_128 : decode cX10_text 128 = .ok (.aload_n 0, 1) := by decide +kernel
theorem dX10_text_129 : decode cX10_text 129 = .ok (.getfield 7, 3) := by decide +kernel
theorem dX10_text_132 : decode cX10_text 132 = .ok (.iconst 3, 1) := by decide +kernel
theorem dX10_text_133 : decode cX10_text 133 = .ok (.iconst 0, 1) := by decide +kernel
theorem dX10_text_134 : decode cX10_text 134 = .ok (.iastore, 1) := by decide +kernel
theorem dX10_text_135 : decode cX10_text 135 = .ok (.iload_n 3, 1) := by decide +kernel
theorem dX10_text_136 : decode cX10_text 136 = .ok (.ifCond .eq 7, 3) := by decide +kernel
theorem dX10_text_139 : decode cX10_text 139 = .ok (.iconst 1, 1) := by decide +kernel
theorem dX10_text_140 : decode cX10_text 140 = .ok (.goto 8, 3) := by decide +kernel
theorem dX10_text_143 : decode cX10_text 143 = .ok (.bipush (-10), 2) := by decide +kernel
theorem dX10_text_145 : decode cX10_text 145 = .ok (.iload 4, 2) := by decide +kernel
theorem dX10_text_147 : decode cX10_text 147 = .ok (.isub, 1) := by decide +kernel
theorem dX10_text_148 : decode cX10_text 148 = .ok (.ireturn, 1) := by decide +kernel
theorem dX10_lies_0 : decode cX10_lies 0 = .ok (.iconst 0, 1) := by decide +kernel
theorem dX10_lies_1 : decode cX10_lies 1 = .ok (.istore_n 2, 1) := by decide +kernel
theorem dX10_lies_2 : decode cX10_lies 2 = .ok (.iload_n 2, 1) := by decide +kernel
theorem dX10_lies_3 : decode cX10_lies 3 = .ok (.bipush 16, 2) := by decide +kernel
theorem dX10_lies_5 : decode cX10_lies 5 = .ok (.if_icmp .ge 16, 3) := by decide +kernel
theorem dX10_lies_8 : decode cX10_lies 8 = .ok (.aload_n 0, 1) := by decide +kernel
theorem dX10_lies_9 : decode cX10_lies 9 = .ok (.getfield 25, 3) := by decide +kernel
theorem dX10_lies_12 : decode cX10_lies 12 = .ok (.iload_n 2, 1) := by decide +kernel
theorem dX10_lies_13 : decode cX10_lies 13 = .ok (.iconst 0, 1) := by decide +kernel
theorem dX10_lies_14 : decode cX10_lies 14 = .ok (.iastore, 1) := by decide +kernel
theorem dX10_lies_15 : decode cX10_lies 15 = .ok (.iinc 2 1, 3) := by decide +kernel
theorem dX10_lies_18 : decode cX10_lies 18 = .ok (.goto (-16), 3) := by decide +kernel
theorem dX10_lies_21 : decode cX10_lies 21 = .ok (.bipush 8, 2) := by decide +kernel
theorem dX10_lies_23 : decode cX10_lies 23 = .ok (.istore_n 2, 1) := by decide +kernel
theorem dX10_lies_24 : decode cX10_lies 24 = .ok (.iconst 1, 1) := by decide +kernel
theorem dX10_lies_25 : decode cX10_lies 25 = .ok (.istore_n 3, 1) := by decide +kernel
theorem dX10_lies_26 : decode cX10_lies 26 = .ok (.aload_n 0, 1) := by decide +kernel
theorem dX10_lies_27 : decode cX10_lies 27 = .ok (.getfield 25, 3) := by decide +kernel
theorem dX10_lies_30 : decode cX10_lies 30 = .ok (.iload_n 2, 1) := by decide +kernel
theorem dX10_lies_31 : decode cX10_lies 31 = .ok (.dup2, 1) := by decide +kernel
theorem dX10_lies_32 : decode cX10_lies 32 = .ok (.iaload, 1) := by decide +kernel
theorem dX10_lies_33 : decode cX10_lies 33 = .ok (.iconst 1, 1) := by decide +kernel
theorem dX10_lies_34 : decode cX10_lies 34 = .ok (.iadd, 1) := by decide +kernel
theorem dX10_lies_35 : decode cX10_lies 35 = .ok (.iastore, 1) := by decide +kernel
theorem dX10_lies_36 : decode cX10_lies 36 = .ok (.iconst 0, 1) := by decide +kernel
theorem dX10_lies_37 : decode cX10_lies 37 = .ok (.istore 4, 2) := by decide +kernel
theorem dX10_lies_39 : decode cX10_lies 39 = .ok (.iload 4, 2) := by decide +kernel
theorem dX10_lies_41 : decode cX10_lies 41 = .ok (.bipush 7, 2) := by decide +kernel
theorem dX10_lies_43 : decode cX10_lies 43 = .ok (.if_icmp .ge 61, 3) := by decide +kernel
theorem dX10_lies_46 : decode cX10_lies 46 = .ok (.iload_n 1, 1) := by decide +kernel
theorem dX10_lies_47 : decode cX10_lies 47 = .ok (.iload 4, 2) := by decide +kernel
theorem dX10_lies_49 : decode cX10_lies 49 = .ok (.ishr, 1) := by decide +kernel
theorem dX10_lies_50 : decode cX10_lies 50 = .ok (.iconst 1, 1) := by decide +kernel
theorem dX10_lies_51 : decode cX10_lies 51 = .ok (.iand, 1) := by decide +kernel
theorem dX10_lies_52 : decode cX10_lies 52 = .ok (.iconst 1, 1) := by decide +kernel
theorem dX10_lies_53 : decode cX10_lies 53 = .ok (.if_icmp .ne 7, 3) := by decide +kernel
theorem dX10_lies_56 : decode cX10_lies 56 = .ok (.iconst 1, 1) := by decide +kernel
theorem dX10_lies_57 : decode cX10_lies 57 = .ok (.goto 4, 3) := by decide +kernel
theorem dX10_lies_60 : decode cX10_lies 60 = .ok (.iconst 0, 1) := by decide +kernel
theorem dX10_lies_61 : decode cX10_lies 61 = .ok (.istore 5, 2) := by decide +kernel
theorem dX10_lies_63 : decode cX10_lies 63 = .ok (.iload_n 2, 1) := by decide +kernel
theorem dX10_lies_64 : decode cX10_lies 64 = .ok (.iload 5, 2) := by decide +kernel
theorem dX10_lies_66 : decode cX10_lies 66 = .ok (.ifCond .eq 7, 3) := by decide +kernel
theorem dX10_lies_69 : decode cX10_lies 69 = .ok (.iconst 0, 1) := by decide +kernel
theorem dX10_lies_70 : decode cX10_lies 70 = .ok (.goto 4, 3) := by decide +kernel
theorem dX10_lies_73 : decode cX10_lies 73 = .ok (.iload_n 3, 1) := by decide +kernel
theorem dX10_lies_74 : decode cX10_lies 74 = .ok (.iadd, 1) := by decide +kernel
theorem dX10_lies_75 : decode cX10_lies 75 = .ok (.istore_n 2, 1) := by decide +kernel
theorem dX10_lies_76 : decode cX10_lies 76 = .ok (.iload 5, 2) := by decide +kernel
theorem dX10_lies_78 : decode cX10_lies 78 = .ok (.ifCond .eq 8, 3) := by decide +kernel
theorem dX10_lies_81 : decode cX10_lies 81 = .ok (.iload_n 3, 1) := by decide +kernel
theorem dX10_lies_82 : decode cX10_lies 82 = .ok (.ineg, 1) := by decide +kernel
theorem dX10_lies_83 : decode cX10_lies 83 = .ok (.goto 4, 3) := by decide +kernel
theorem dX10_lies_86 : decode cX10_lies 86 = .ok (.iload_n 3, 1) := by decide +kernel
theorem dX10_lies_87 : decode cX10_lies 87 = .ok (.istore_n 3, 1) := by decide +kernel
theorem dX10_lies_88 : decode cX10_lies 88 = .ok (.aload_n 0, 1) := by decide +kernel
theorem dX10_lies_89 : decode cX10_lies 89 = .ok (.getfield 25, 3) := by decide +kernel
theorem dX10_lies_92 : decode cX10_lies 92 = .ok (.iload_n 2, 1) := by decide +kernel
theorem dX10_lies_93 : decode cX10_lies 93 = .ok (.dup2, 1) := by decide +kernel
theorem dX10_lies_94 : decode cX10_lies 94 = .ok (.iaload, 1) := by decide +kernel
theorem dX10_lies_95 : decode cX10_lies 95 = .ok (.iconst 1, 1) := by decide +kernel
theorem dX10_lies_96 : decode cX10_lies 96 = .ok (.iadd, 1) := by decide +kernel
theorem dX10_lies_97 : decode cX10_lies 97 = .ok (.iastore, 1) := by decide +kernel
theorem dX10_lies_98 : decode cX10_lies 98 = .ok (.iinc 4 1, 3) := by decide +kernel
theorem dX10_lies_101 : decode cX10_lies 101 = .ok (.goto (-62), 3) := by decide +kernel
theorem dX10_lies_104 : decode cX10_lies 104 = .ok (.return_, 1) := by decide +kernel
theorem dX10_wide_0 : decode cX10_wide 0 = .ok (.aload_n 0, 1) := by decide +kernel
theorem dX10_wide_1 : decode cX10_wide 1 = .ok (.iload_n 1, 1) := by decide +kernel
theorem dX10_wide_2 : decode cX10_wide 2 = .ok (.invokevirtual 166, 3) := by decide +kernel
theorem dX10_wide_5 : decode cX10_wide 5 = .ok (.iconst 0, 1) := by decide +kernel
theorem dX10_wide_6 : decode cX10_wide 6 = .ok (.istore_n 2, 1) := by decide +kernel
theorem dX10_wide_7 : decode cX10_wide 7 = .ok (.bipush 15, 2) := by decide +kernel
theorem dX10_wide_9 : decode cX10_wide 9 = .ok (.istore_n 3, 1) := by decide +kernel
theorem dX10_wide_10 : decode cX10_wide 10 = .ok (.aload_n 0, 1) := by decide +kernel
theorem dX10_wide_11 : decode cX10_wide 11 = .ok (.getfield 25, 3) := by decide +kernel
theorem dX10_wide_14 : decode cX10_wide 14 = .ok (.iload_n 2, 1) := by decide +kernel
theorem dX10_wide_15 : decode cX10_wide 15 = .ok (.iaload, 1) := by decide +kernel
theorem dX10_wide_16 : decode cX10_wide 16 = .ok (.ifCond .ne 9, 3) := by decide +kernel
theorem dX10_wide_19 : decode cX10_wide 19 = .ok (.iinc 2 1, 3) := by decide +kernel
theorem dX10_wide_22 : decode cX10_wide 22 = .ok (.goto (-12), 3) := by decide +kernel
theorem dX10_wide_25 : decode cX10_wide 25 = .ok (.aload_n 0, 1) := by decide +kernel
theorem dX10_wide_26 : decode cX10_wide 26 = .ok (.getfield 25, 3) := by decide +kernel
theorem dX10_wide_29 : decode cX10_wide 29 = .ok (.iload_n 3, 1) := by decide +kernel
theorem dX10_wide_30 : decode cX10_wide 30 = .ok (.iaload, 1) := by decide +kernel
theorem dX10_wide_31 : decode cX10_wide 31 = .ok (.ifCond .ne 9, 3) := by decide +kernel
theorem dX10_wide_34 : decode cX10_wide 34 = .ok (.iinc 3 (-1), 3) := by decide +kernel
theorem dX10_wide_37 : decode cX10_wide 37 = .ok (.goto (-12), 3) := by decide +kernel
theorem dX10_wide_40 : decode cX10_wide 40 = .ok (.iload_n 3, 1) := by decide +kernel
theorem dX10_wide_41 : decode cX10_wide 41 = .ok (.iload_n 2, 1) := by decide +kernel
theorem dX10_wide_42 : decode cX10_wide 42 = .ok (.isub, 1) := by decide +kernel
theorem dX10_wide_43 : decode cX10_wide 43 = .ok (.iconst 1, 1) := by decide +kernel
theorem dX10_wide_44 : decode cX10_wide 44 = .ok (.iadd, 1) := by decide +kernel
theorem dX10_wide_45 : decode cX10_wide 45 = .ok (.ireturn, 1) := by decide +kernel
theorem dX10_thick_0 : decode cX10_thick 0 = .ok (.aload_n 0, 1) := by decide +kernel
theorem dX10_thick_1 : decode cX10_thick 1 = .ok (.iload_n 1, 1) := by decide +kernel
theorem dX10_thick_2 : decode cX10_thick 2 = .ok (.invokevirtual 166, 3) := by decide +kernel
theorem dX10_thick_5 : decode cX10_thick 5 = .ok (.iconst 0, 1) := by decide +kernel
theorem dX10_thick_6 : decode cX10_thick 6 = .ok (.istore_n 2, 1) := by decide +kernel
theorem dX10_thick_7 : decode cX10_thick 7 = .ok (.iconst 0, 1) := by decide +kernel
theorem dX10_thick_8 : decode cX10_thick 8 = .ok (.istore_n 3, 1) := by decide +kernel
theorem dX10_thick_9 : decode cX10_thick 9 = .ok (.iload_n 3, 1) := by decide +kernel
theorem dX10_thick_10 : decode cX10_thick 10 = .ok (.bipush 16, 2) := by decide +kernel
theorem dX10_thick_12 : decode cX10_thick 12 = .ok (.if_icmp .ge 30, 3) := by decide +kernel
theorem dX10_thick_15 : decode cX10_thick 15 = .ok (.aload_n 0, 1) := by decide +kernel
theorem dX10_thick_16 : decode cX10_thick 16 = .ok (.getfield 25, 3) := by decide +kernel
theorem dX10_thick_19 : decode cX10_thick 19 = .ok (.iload_n 3, 1) := by decide +kernel
theorem dX10_thick_20 : decode cX10_thick 20 = .ok (.iaload, 1) := by decide +kernel
theorem dX10_thick_21 : decode cX10_thick 21 = .ok (.iload_n 2, 1) := by decide +kernel
theorem dX10_thick_22 : decode cX10_thick 22 = .ok (.if_icmp .le 12, 3) := by decide +kernel
theorem dX10_thick_25 : decode cX10_thick 25 = .ok (.aload_n 0, 1) := by decide +kernel
theorem dX10_thick_26 : decode cX10_thick 26 = .ok (.getfield 25, 3) := by decide +kernel
theorem dX10_thick_29 : decode cX10_thick 29 = .ok (.iload_n 3, 1) := by decide +kernel
theorem dX10_thick_30 : decode cX10_thick 30 = .ok (.iaload, 1) := by decide +kernel
theorem dX10_thick_31 : decode cX10_thick 31 = .ok (.goto 4, 3) := by decide +kernel
theorem dX10_thick_34 : decode cX10_thick 34 = .ok (.iload_n 2, 1) := by decide +kernel
theorem dX10_thick_35 : decode cX10_thick 35 = .ok (.istore_n 2, 1) := by decide +kernel
theorem dX10_thick_36 : decode cX10_thick 36 = .ok (.iinc 3 1, 3) := by decide +kernel
theorem dX10_thick_39 : decode cX10_thick 39 = .ok (.goto (-30), 3) := by decide +kernel
theorem dX10_thick_42 : decode cX10_thick 42 = .ok (.iload_n 2, 1) := by decide +kernel
theorem dX10_thick_43 : decode cX10_thick 43 = .ok (.ireturn, 1) := by decide +kernel
theorem dX10_stiff_0 : decode cX10_stiff 0 = .ok (.aload_n 0, 1) := by decide +kernel
theorem dX10_stiff_1 : decode cX10_stiff 1 = .ok (.iload_n 1, 1) := by decide +kernel
theorem dX10_stiff_2 : decode cX10_stiff 2 = .ok (.iconst 1, 1) := by decide +kernel
theorem dX10_stiff_3 : decode cX10_stiff 3 = .ok (.invokevirtual 65, 3) := by decide +kernel
theorem dX10_stiff_6 : decode cX10_stiff 6 = .ok (.istore_n 2, 1) := by decide +kernel
theorem dX10_stiff_7 : decode cX10_stiff 7 = .ok (.aload_n 0, 1) := by decide +kernel
theorem dX10_stiff_8 : decode cX10_stiff 8 = .ok (.iload_n 1, 1) := by decide +kernel
theorem dX10_stiff_9 : decode cX10_stiff 9 = .ok (.iconst 0, 1) := by decide +kernel
theorem dX10_stiff_10 : decode cX10_stiff 10 = .ok (.invokevirtual 65, 3) := by decide +kernel
theorem dX10_stiff_13 : decode cX10_stiff 13 = .ok (.tableswitch 66 1 6 #[39, 53, 61, 46, 55, 64], 39) := by decide +kernel
theorem dX10_stiff_52 : decode cX10_stiff 52 = .ok (.bipush 8, 2) := by decide +kernel
theorem dX10_stiff_54 : decode cX10_stiff 54 = .ok (.iload_n 2, 1) := by decide +kernel
theorem dX10_stiff_55 : decode cX10_stiff 55 = .ok (.iconst 4, 1) := by decide +kernel
theorem dX10_stiff_56 : decode cX10_stiff 56 = .ok (.irem, 1) := by decide +kernel
theorem dX10_stiff_57 : decode cX10_stiff 57 = .ok (.isub, 1) := by decide +kernel
theorem dX10_stiff_58 : decode cX10_stiff 58 = .ok (.ireturn, 1) := by decide +kernel
theorem dX10_stiff_59 : decode cX10_stiff 59 = .ok (.bipush 7, 2) := by decide +kernel
theorem dX10_stiff_61 : decode cX10_stiff 61 = .ok (.iload_n 2, 1) := by decide +kernel
theorem dX10_stiff_62 : decode cX10_stiff 62 = .ok (.iconst 4, 1) := by decide +kernel
theorem dX10_stiff_63 : decode cX10_stiff 63 = .ok (.irem, 1) := by decide +kernel
theorem dX10_stiff_64 : decode cX10_stiff 64 = .ok (.isub, 1) := by decide +kernel
theorem dX10_stiff_65 : decode cX10_stiff 65 = .ok (.ireturn, 1) := by decide +kernel
theorem dX10_stiff_66 : decode cX10_stiff 66 = .ok (.iconst 4, 1) := by decide +kernel
theorem dX10_stiff_67 : decode cX10_stiff 67 = .ok (.ireturn, 1) := by decide +kernel
theorem dX10_stiff_68 : decode cX10_stiff 68 = .ok (.iconst 4, 1) := by decide +kernel
theorem dX10_stiff_69 : decode cX10_stiff 69 = .ok (.iload_n 2, 1) := by decide +kernel
theorem dX10_stiff_70 : decode cX10_stiff 70 = .ok (.iconst 2, 1) := by decide +kernel
theorem dX10_stiff_71 : decode cX10_stiff 71 = .ok (.irem, 1) := by decide +kernel
theorem dX10_stiff_72 : decode cX10_stiff 72 = .ok (.iadd, 1) := by decide +kernel
theorem dX10_stiff_73 : decode cX10_stiff 73 = .ok (.ireturn, 1) := by decide +kernel
theorem dX10_stiff_74 : decode cX10_stiff 74 = .ok (.bipush 6, 2) := by decide +kernel
theorem dX10_stiff_76 : decode cX10_stiff 76 = .ok (.ireturn, 1) := by decide +kernel
theorem dX10_stiff_77 : decode cX10_stiff 77 = .ok (.iconst 3, 1) := by decide +kernel
theorem dX10_stiff_78 : decode cX10_stiff 78 = .ok (.ireturn, 1) := by decide +kernel
theorem dX10_stiff_79 : decode cX10_stiff 79 = .ok (.bipush 8, 2) := by decide +kernel
theorem dX10_stiff_81 : decode cX10_stiff 81 = .ok (.ireturn, 1) := by decide +kernel
theorem dX10_widest_0 : decode cX10_widest 0 = .ok (.aload_n 0, 1) := by decide +kernel
theorem dX10_widest_1 : decode cX10_widest 1 = .ok (.iload_n 1, 1) := by decide +kernel
theorem dX10_widest_2 : decode cX10_widest 2 = .ok (.iconst 0, 1) := by decide +kernel
theorem dX10_widest_3 : decode cX10_widest 3 = .ok (.invokevirtual 65, 3) := by decide +kernel
theorem dX10_widest_6 : decode cX10_widest 6 = .ok (.tableswitch 56 1 6 #[38, 49, 51, 38, 49, 53], 38) := by decide +kernel
theorem dX10_widest_44 : decode cX10_widest 44 = .ok (.iconst 4, 1) := by decide +kernel
theorem dX10_widest_45 : decode cX10_widest 45 = .ok (.aload_n 0, 1) := by decide +kernel
theorem dX10_widest_46 : decode cX10_widest 46 = .ok (.iload_n 1, 1) := by decide +kernel
theorem dX10_widest_47 : decode cX10_widest 47 = .ok (.iconst 1, 1) := by decide +kernel
theorem dX10_widest_48 : decode cX10_widest 48 = .ok (.invokevirtual 65, 3) := by decide +kernel
theorem dX10_widest_51 : decode cX10_widest 51 = .ok (.iconst 3, 1) := by decide +kernel
theorem dX10_widest_52 : decode cX10_widest 52 = .ok (.irem, 1) := by decide +kernel
theorem dX10_widest_53 : decode cX10_widest 53 = .ok (.iadd, 1) := by decide +kernel
theorem dX10_widest_54 : decode cX10_widest 54 = .ok (.ireturn, 1) := by decide +kernel
theorem dX10_widest_55 : decode cX10_widest 55 = .ok (.iconst 5, 1) := by decide +kernel
theorem dX10_widest_56 : decode cX10_widest 56 = .ok (.ireturn, 1) := by decide +kernel
theorem dX10_widest_57 : decode cX10_widest 57 = .ok (.iconst 3, 1) := by decide +kernel
theorem dX10_widest_58 : decode cX10_widest 58 = .ok (.ireturn, 1) := by decide +kernel
theorem dX10_widest_59 : decode cX10_widest 59 = .ok (.bipush 6, 2) := by decide +kernel
theorem dX10_widest_61 : decode cX10_widest 61 = .ok (.ireturn, 1) := by decide +kernel
theorem dX10_widest_62 : decode cX10_widest 62 = .ok (.iconst 4, 1) := by decide +kernel
theorem dX10_widest_63 : decode cX10_widest 63 = .ok (.ireturn, 1) := by decide +kernel
theorem dX10_isAlive_0 : decode cX10_isAlive 0 = .ok (.iload_n 2, 1) := by decide +kernel
theorem dX10_isAlive_1 : decode cX10_isAlive 1 = .ok (.ifCond .eq 20, 3) := by decide +kernel
theorem dX10_isAlive_4 : decode cX10_isAlive 4 = .ok (.aload_n 0, 1) := by decide +kernel
theorem dX10_isAlive_5 : decode cX10_isAlive 5 = .ok (.iload_n 2, 1) := by decide +kernel
theorem dX10_isAlive_6 : decode cX10_isAlive 6 = .ok (.invokevirtual 69, 3) := by decide +kernel
theorem dX10_isAlive_9 : decode cX10_isAlive 9 = .ok (.aload_n 0, 1) := by decide +kernel
theorem dX10_isAlive_10 : decode cX10_isAlive 10 = .ok (.iload_n 1, 1) := by decide +kernel
theorem dX10_isAlive_11 : decode cX10_isAlive 11 = .ok (.invokevirtual 170, 3) := by decide +kernel
theorem dX10_isAlive_14 : decode cX10_isAlive 14 = .ok (.if_icmp .gt 7, 3) := by decide +kernel
theorem dX10_isAlive_17 : decode cX10_isAlive 17 = .ok (.iconst 1, 1) := by decide +kernel
theorem dX10_isAlive_18 : decode cX10_isAlive 18 = .ok (.goto 4, 3) := by decide +kernel
theorem dX10_isAlive_21 : decode cX10_isAlive 21 = .ok (.iconst 0, 1) := by decide +kernel
theorem dX10_isAlive_22 : decode cX10_isAlive 22 = .ok (.ireturn, 1) := by decide +kernel
theorem dX10_goes_0 : decode cX10_goes 0 = .ok (.aload_n 0, 1) := by decide +kernel
theorem dX10_goes_1 : decode cX10_goes 1 = .ok (.aload_n 0, 1) := by decide +kernel
theorem dX10_goes_2 : decode cX10_goes 2 = .ok (.iload_n 1, 1) := by decide +kernel
theorem dX10_goes_3 : decode cX10_goes 3 = .ok (.iconst 3, 1) := by decide +kernel
theorem dX10_goes_4 : decode cX10_goes 4 = .ok (.invokevirtual 65, 3) := by decide +kernel
theorem dX10_goes_7 : decode cX10_goes 7 = .ok (.invokevirtual 69, 3) := by decide +kernel
theorem dX10_goes_10 : decode cX10_goes 10 = .ok (.istore_n 2, 1) := by decide +kernel
theorem dX10_goes_11 : decode cX10_goes 11 = .ok (.aload_n 0, 1) := by decide +kernel
theorem dX10_goes_12 : decode cX10_goes 12 = .ok (.aload_n 0, 1) := by decide +kernel
theorem dX10_goes_13 : decode cX10_goes 13 = .ok (.iload_n 1, 1) := by decide +kernel
theorem dX10_goes_14 : decode cX10_goes 14 = .ok (.iconst 3, 1) := by decide +kernel
theorem dX10_goes_15 : decode cX10_goes 15 = .ok (.invokevirtual 65, 3) := by decide +kernel
theorem dX10_goes_18 : decode cX10_goes 18 = .ok (.invokevirtual 72, 3) := by decide +kernel
theorem dX10_goes_21 : decode cX10_goes 21 = .ok (.istore_n 3, 1) := by decide +kernel
theorem dX10_goes_22 : decode cX10_goes 22 = .ok (.aload_n 0, 1) := by decide +kernel
theorem dX10_goes_23 : decode cX10_goes 23 = .ok (.iconst 0, 1) := by decide +kernel
theorem dX10_goes_24 : decode cX10_goes 24 = .ok (.iload_n 2, 1) := by decide +kernel
theorem dX10_goes_25 : decode cX10_goes 25 = .ok (.iload_n 3, 1) := by decide +kernel
theorem dX10_goes_26 : decode cX10_goes 26 = .ok (.aload_n 0, 1) := by decide +kernel
theorem dX10_goes_27 : decode cX10_goes 27 = .ok (.getfield 7, 3) := by decide +kernel
theorem dX10_goes_30 : decode cX10_goes 30 = .ok (.bipush 7, 2) := by decide +kernel
theorem dX10_goes_32 : decode cX10_goes 32 = .ok (.iaload, 1) := by decide +kernel
theorem dX10_goes_33 : decode cX10_goes 33 = .ok (.invokevirtual 157, 3) := by decide +kernel
theorem dX10_goes_36 : decode cX10_goes 36 = .ok (.istore 4, 2) := by decide +kernel
theorem dX10_goes_38 : decode cX10_goes 38 = .ok (.aload_n 0, 1) := by decide +kernel
theorem dX10_goes_39 : decode cX10_goes 39 = .ok (.iload_n 1, 1) := by decide +kernel
theorem dX10_goes_40 : decode cX10_goes 40 = .ok (.iconst 0, 1) := by decide +kernel
theorem dX10_goes_41 : decode cX10_goes 41 = .ok (.invokevirtual 65, 3) := by decide +kernel
theorem dX10_goes_44 : decode cX10_goes 44 = .ok (.tableswitch 90 1 6 #[40, 45, 70, 40, 50, 85], 40) := by decide +kernel
theorem dX10_goes_84 : decode cX10_goes 84 = .ok (.iconst 2, 1) := by decide +kernel
theorem dX10_goes_85 : decode cX10_goes 85 = .ok (.iload 4, 2) := by decide +kernel
theorem dX10_goes_87 : decode cX10_goes 87 = .ok (.imul, 1) := by decide +kernel
theorem dX10_goes_88 : decode cX10_goes 88 = .ok (.ireturn, 1) := by decide +kernel
theorem dX10_goes_89 : decode cX10_goes 89 = .ok (.iload 4, 2) := by decide +kernel
theorem dX10_goes_91 : decode cX10_goes 91 = .ok (.iload_n 2, 1) := by decide +kernel
theorem dX10_goes_92 : decode cX10_goes 92 = .ok (.iadd, 1) := by decide +kernel
theorem dX10_goes_93 : decode cX10_goes 93 = .ok (.ireturn, 1) := by decide +kernel
theorem dX10_goes_94 : decode cX10_goes 94 = .ok (.aload_n 0, 1) := by decide +kernel
theorem dX10_goes_95 : decode cX10_goes 95 = .ok (.getfield 7, 3) := by decide +kernel
theorem dX10_goes_98 : decode cX10_goes 98 = .ok (.iconst 0, 1) := by decide +kernel
theorem dX10_goes_99 : decode cX10_goes 99 = .ok (.iaload, 1) := by decide +kernel
theorem dX10_goes_100 : decode cX10_goes 100 = .ok (.iconst 5, 1) := by decide +kernel
theorem dX10_goes_101 : decode cX10_goes 101 = .ok (.irem, 1) := by decide +kernel
theorem dX10_goes_102 : decode cX10_goes 102 = .ok (.ifCond .ne 7, 3) := by decide +kernel
theorem dX10_goes_105 : decode cX10_goes 105 = .ok (.iconst 0, 1) := by decide +kernel
theorem dX10_goes_106 : decode cX10_goes 106 = .ok (.goto 7, 3) := by decide +kernel
theorem dX10_goes_109 : decode cX10_goes 109 = .ok (.iload 4, 2) := by decide +kernel
theorem dX10_goes_111 : decode cX10_goes 111 = .ok (.iload_n 2, 1) := by decide +kernel
theorem dX10_goes_112 : decode cX10_goes 112 = .ok (.iadd, 1) := by decide +kernel
theorem dX10_goes_113 : decode cX10_goes 113 = .ok (.ireturn, 1) := by decide +kernel
theorem dX10_goes_114 : decode cX10_goes 114 = .ok (.iload 4, 2) := by decide +kernel
theorem dX10_goes_116 : decode cX10_goes 116 = .ok (.iload_n 3, 1) := by decide +kernel
theorem dX10_goes_117 : decode cX10_goes 117 = .ok (.if_icmp .le 10, 3) := by decide +kernel
theorem dX10_goes_120 : decode cX10_goes 120 = .ok (.iload 4, 2) := by decide +kernel
theorem dX10_goes_122 : decode cX10_goes 122 = .ok (.iload_n 3, 1) := by decide +kernel
theorem dX10_goes_123 : decode cX10_goes 123 = .ok (.isub, 1) := by decide +kernel
theorem dX10_goes_124 : decode cX10_goes 124 = .ok (.goto 4, 3) := by decide +kernel
theorem dX10_goes_127 : decode cX10_goes 127 = .ok (.iconst 0, 1) := by decide +kernel
theorem dX10_goes_128 : decode cX10_goes 128 = .ok (.ireturn, 1) := by decide +kernel
theorem dX10_goes_129 : decode cX10_goes 129 = .ok (.iload 4, 2) := by decide +kernel
theorem dX10_goes_131 : decode cX10_goes 131 = .ok (.iconst 2, 1) := by decide +kernel
theorem dX10_goes_132 : decode cX10_goes 132 = .ok (.idiv, 1) := by decide +kernel
theorem dX10_goes_133 : decode cX10_goes 133 = .ok (.ireturn, 1) := by decide +kernel
theorem dX10_goes_134 : decode cX10_goes 134 = .ok (.iload 4, 2) := by decide +kernel
theorem dX10_goes_136 : decode cX10_goes 136 = .ok (.ireturn, 1) := by decide +kernel
theorem dX10_shape_0 : decode cX10_shape 0 = .ok (.iload_n 1, 1) := by decide +kernel
theorem dX10_shape_1 : decode cX10_shape 1 = .ok (.invokestatic 173, 3) := by decide +kernel
theorem dX10_shape_4 : decode cX10_shape 4 = .ok (.ifCond .eq 12, 3) := by decide +kernel
theorem dX10_shape_7 : decode cX10_shape 7 = .ok (.iload_n 2, 1) := by decide +kernel
theorem dX10_shape_8 : decode cX10_shape 8 = .ok (.iconst 0, 1) := by decide +kernel
theorem dX10_shape_9 : decode cX10_shape 9 = .ok (.iconst 1, 1) := by decide +kernel
theorem dX10_shape_10 : decode cX10_shape 10 = .ok (.invokestatic 47, 3) := by decide +kernel
theorem dX10_shape_13 : decode cX10_shape 13 = .ok (.ifCond .ne 10, 3) := by decide +kernel
theorem dX10_shape_16 : decode cX10_shape 16 = .ok (.aload_n 0, 1) := by decide +kernel
theorem dX10_shape_17 : decode cX10_shape 17 = .ok (.ldc 51, 2) := by decide +kernel
theorem dX10_shape_19 : decode cX10_shape 19 = .ok (.invokevirtual 52, 3) := by decide +kernel
theorem dX10_shape_22 : decode cX10_shape 22 = .ok (.ireturn, 1) := by decide +kernel
theorem dX10_shape_23 : decode cX10_shape 23 = .ok (.iload_n 2, 1) := by decide +kernel
theorem dX10_shape_24 : decode cX10_shape 24 = .ok (.ifCond .ne 11, 3) := by decide +kernel
theorem dX10_shape_27 : decode cX10_shape 27 = .ok (.aload_n 0, 1) := by decide +kernel
theorem dX10_shape_28 : decode cX10_shape 28 = .ok (.iload_n 1, 1) := by decide +kernel
theorem dX10_shape_29 : decode cX10_shape 29 = .ok (.invokevirtual 69, 3) := by decide +kernel
theorem dX10_shape_32 : decode cX10_shape 32 = .ok (.goto 8, 3) := by decide +kernel
theorem dX10_shape_35 : decode cX10_shape 35 = .ok (.aload_n 0, 1) := by decide +kernel
theorem dX10_shape_36 : decode cX10_shape 36 = .ok (.iload_n 1, 1) := by decide +kernel
theorem dX10_shape_37 : decode cX10_shape 37 = .ok (.invokevirtual 72, 3) := by decide +kernel
theorem dX10_shape_40 : decode cX10_shape 40 = .ok (.ireturn, 1) := by decide +kernel
theorem dX10_areSides_0 : decode cX10_areSides 0 = .ok (.iload_n 0, 1) := by decide +kernel
theorem dX10_areSides_1 : decode cX10_areSides 1 = .ok (.iconst 1, 1) := by decide +kernel
theorem dX10_areSides_2 : decode cX10_areSides 2 = .ok (.bipush 8, 2) := by decide +kernel
theorem dX10_areSides_4 : decode cX10_areSides 4 = .ok (.invokestatic 47, 3) := by decide +kernel
theorem dX10_areSides_7 : decode cX10_areSides 7 = .ok (.ifCond .eq 17, 3) := by decide +kernel
theorem dX10_areSides_10 : decode cX10_areSides 10 = .ok (.iload_n 1, 1) := by decide +kernel
theorem dX10_areSides_11 : decode cX10_areSides 11 = .ok (.iconst 1, 1) := by decide +kernel
theorem dX10_areSides_12 : decode cX10_areSides 12 = .ok (.bipush 8, 2) := by decide +kernel
theorem dX10_areSides_14 : decode cX10_areSides 14 = .ok (.invokestatic 47, 3) := by decide +kernel
theorem dX10_areSides_17 : decode cX10_areSides 17 = .ok (.ifCond .eq 7, 3) := by decide +kernel
theorem dX10_areSides_20 : decode cX10_areSides 20 = .ok (.iconst 1, 1) := by decide +kernel
theorem dX10_areSides_21 : decode cX10_areSides 21 = .ok (.goto 4, 3) := by decide +kernel
theorem dX10_areSides_24 : decode cX10_areSides 24 = .ok (.iconst 0, 1) := by decide +kernel
theorem dX10_areSides_25 : decode cX10_areSides 25 = .ok (.ireturn, 1) := by decide +kernel
theorem dX10_least_0 : decode cX10_least 0 = .ok (.iload_n 1, 1) := by decide +kernel
theorem dX10_least_1 : decode cX10_least 1 = .ok (.iload_n 2, 1) := by decide +kernel
theorem dX10_least_2 : decode cX10_least 2 = .ok (.invokestatic 176, 3) := by decide +kernel
theorem dX10_least_5 : decode cX10_least 5 = .ok (.ifCond .ne 10, 3) := by decide +kernel
theorem dX10_least_8 : decode cX10_least 8 = .ok (.aload_n 0, 1) := by decide +kernel
theorem dX10_least_9 : decode cX10_least 9 = .ok (.ldc 51, 2) := by decide +kernel
theorem dX10_least_11 : decode cX10_least 11 = .ok (.invokevirtual 52, 3) := by decide +kernel
theorem dX10_least_14 : decode cX10_least 14 = .ok (.ireturn, 1) := by decide +kernel
theorem dX10_least_15 : decode cX10_least 15 = .ok (.iconst (-1), 1) := by decide +kernel
theorem dX10_least_16 : decode cX10_least 16 = .ok (.istore_n 3, 1) := by decide +kernel
theorem dX10_least_17 : decode cX10_least 17 = .ok (.iconst 0, 1) := by decide +kernel
theorem dX10_least_18 : decode cX10_least 18 = .ok (.istore 4, 2) := by decide +kernel
theorem dX10_least_20 : decode cX10_least 20 = .ok (.iload 4, 2) := by decide +kernel
theorem dX10_least_22 : decode cX10_least 22 = .ok (.bipush 127, 2) := by decide +kernel
theorem dX10_least_24 : decode cX10_least 24 = .ok (.if_icmp .gt 48, 3) := by decide +kernel
theorem dX10_least_27 : decode cX10_least 27 = .ok (.iload_n 3, 1) := by decide +kernel
theorem dX10_least_28 : decode cX10_least 28 = .ok (.ifCond .lt 15, 3) := by decide +kernel
theorem dX10_least_31 : decode cX10_least 31 = .ok (.iload 4, 2) := by decide +kernel
theorem dX10_least_33 : decode cX10_least 33 = .ok (.invokestatic 179, 3) := by decide +kernel
theorem dX10_least_36 : decode cX10_least 36 = .ok (.iload_n 3, 1) := by decide +kernel
theorem dX10_least_37 : decode cX10_least 37 = .ok (.invokestatic 179, 3) := by decide +kernel
theorem dX10_least_40 : decode cX10_least 40 = .ok (.if_icmp .ge 26, 3) := by decide +kernel
theorem dX10_least_43 : decode cX10_least 43 = .ok (.aload_n 0, 1) := by decide +kernel
theorem dX10_least_44 : decode cX10_least 44 = .ok (.iload 4, 2) := by decide +kernel
theorem dX10_least_46 : decode cX10_least 46 = .ok (.invokevirtual 69, 3) := by decide +kernel
theorem dX10_least_49 : decode cX10_least 49 = .ok (.iload_n 1, 1) := by decide +kernel
theorem dX10_least_50 : decode cX10_least 50 = .ok (.if_icmp .gt 16, 3) := by decide +kernel
theorem dX10_least_53 : decode cX10_least 53 = .ok (.aload_n 0, 1) := by decide +kernel
theorem dX10_least_54 : decode cX10_least 54 = .ok (.iload 4, 2) := by decide +kernel
theorem dX10_least_56 : decode cX10_least 56 = .ok (.invokevirtual 72, 3) := by decide +kernel
theorem dX10_least_59 : decode cX10_least 59 = .ok (.iload_n 2, 1) := by decide +kernel
theorem dX10_least_60 : decode cX10_least 60 = .ok (.if_icmp .gt 6, 3) := by decide +kernel
theorem dX10_least_63 : decode cX10_least 63 = .ok (.iload 4, 2) := by decide +kernel
theorem dX10_least_65 : decode cX10_least 65 = .ok (.istore_n 3, 1) := by decide +kernel
theorem dX10_least_66 : decode cX10_least 66 = .ok (.iinc 4 1, 3) := by decide +kernel
theorem dX10_least_69 : decode cX10_least 69 = .ok (.goto (-49), 3) := by decide +kernel
theorem dX10_least_72 : decode cX10_least 72 = .ok (.iload_n 3, 1) := by decide +kernel
theorem dX10_least_73 : decode cX10_least 73 = .ok (.ifCond .ge 12, 3) := by decide +kernel
theorem dX10_least_76 : decode cX10_least 76 = .ok (.aload_n 0, 1) := by decide +kernel
theorem dX10_least_77 : decode cX10_least 77 = .ok (.ldc 182, 2) := by decide +kernel
theorem dX10_least_79 : decode cX10_least 79 = .ok (.invokevirtual 52, 3) := by decide +kernel
theorem dX10_least_82 : decode cX10_least 82 = .ok (.goto 4, 3) := by decide +kernel
theorem dX10_least_85 : decode cX10_least 85 = .ok (.iload_n 3, 1) := by decide +kernel
theorem dX10_least_86 : decode cX10_least 86 = .ok (.ireturn, 1) := by decide +kernel
theorem dX10_shapes_0 : decode cX10_shapes 0 = .ok (.iload_n 1, 1) := by decide +kernel
theorem dX10_shapes_1 : decode cX10_shapes 1 = .ok (.iload_n 2, 1) := by decide +kernel
theorem dX10_shapes_2 : decode cX10_shapes 2 = .ok (.invokestatic 176, 3) := by decide +kernel
theorem dX10_shapes_5 : decode cX10_shapes 5 = .ok (.ifCond .eq 12, 3) := by decide +kernel
theorem dX10_shapes_8 : decode cX10_shapes 8 = .ok (.iload_n 3, 1) := by decide +kernel
theorem dX10_shapes_9 : decode cX10_shapes 9 = .ok (.iconst 0, 1) := by decide +kernel
theorem dX10_shapes_10 : decode cX10_shapes 10 = .ok (.iconst 1, 1) := by decide +kernel
theorem dX10_shapes_11 : decode cX10_shapes 11 = .ok (.invokestatic 47, 3) := by decide +kernel
theorem dX10_shapes_14 : decode cX10_shapes 14 = .ok (.ifCond .ne 10, 3) := by decide +kernel
theorem dX10_shapes_17 : decode cX10_shapes 17 = .ok (.aload_n 0, 1) := by decide +kernel
theorem dX10_shapes_18 : decode cX10_shapes 18 = .ok (.ldc 51, 2) := by decide +kernel
theorem dX10_shapes_20 : decode cX10_shapes 20 = .ok (.invokevirtual 52, 3) := by decide +kernel
theorem dX10_shapes_23 : decode cX10_shapes 23 = .ok (.ireturn, 1) := by decide +kernel
theorem dX10_shapes_24 : decode cX10_shapes 24 = .ok (.iconst 0, 1) := by decide +kernel
theorem dX10_shapes_25 : decode cX10_shapes 25 = .ok (.istore 4, 2) := by decide +kernel
theorem dX10_shapes_27 : decode cX10_shapes 27 = .ok (.iconst 0, 1) := by decide +kernel
theorem dX10_shapes_28 : decode cX10_shapes 28 = .ok (.istore 5, 2) := by decide +kernel
theorem dX10_shapes_30 : decode cX10_shapes 30 = .ok (.bipush 127, 2) := by decide +kernel
theorem dX10_shapes_32 : decode cX10_shapes 32 = .ok (.istore 6, 2) := by decide +kernel
theorem dX10_shapes_34 : decode cX10_shapes 34 = .ok (.iload 6, 2) := by decide +kernel
theorem dX10_shapes_36 : decode cX10_shapes 36 = .ok (.ifCond .lt 65, 3) := by decide +kernel
theorem dX10_shapes_39 : decode cX10_shapes 39 = .ok (.aload_n 0, 1) := by decide +kernel
theorem dX10_shapes_40 : decode cX10_shapes 40 = .ok (.iload 6, 2) := by decide +kernel
theorem dX10_shapes_42 : decode cX10_shapes 42 = .ok (.invokevirtual 69, 3) := by decide +kernel
theorem dX10_shapes_45 : decode cX10_shapes 45 = .ok (.iload_n 1, 1) := by decide +kernel
theorem dX10_shapes_46 : decode cX10_shapes 46 = .ok (.if_icmp .ne 17, 3) := by decide +kernel
theorem dX10_shapes_49 : decode cX10_shapes 49 = .ok (.aload_n 0, 1) := by decide +kernel
theorem dX10_shapes_50 : decode cX10_shapes 50 = .ok (.iload 6, 2) := by decide +kernel
theorem dX10_shapes_52 : decode cX10_shapes 52 = .ok (.invokevirtual 72, 3) := by decide +kernel
theorem dX10_shapes_55 : decode cX10_shapes 55 = .ok (.iload_n 2, 1) := by decide +kernel
theorem dX10_shapes_56 : decode cX10_shapes 56 = .ok (.if_icmp .ne 7, 3) := by decide +kernel
theorem dX10_shapes_59 : decode cX10_shapes 59 = .ok (.iconst 1, 1) := by decide +kernel
theorem dX10_shapes_60 : decode cX10_shapes 60 = .ok (.goto 4, 3) := by decide +kernel
theorem dX10_shapes_63 : decode cX10_shapes 63 = .ok (.iconst 0, 1) := by decide +kernel
theorem dX10_shapes_64 : decode cX10_shapes 64 = .ok (.istore 7, 2) := by decide +kernel
theorem dX10_shapes_66 : decode cX10_shapes 66 = .ok (.iload 4, 2) := by decide +kernel
theorem dX10_shapes_68 : decode cX10_shapes 68 = .ok (.iload 7, 2) := by decide +kernel
theorem dX10_shapes_70 : decode cX10_shapes 70 = .ok (.ifCond .eq 7, 3) := by decide +kernel
theorem dX10_shapes_73 : decode cX10_shapes 73 = .ok (.iconst 1, 1) := by decide +kernel
theorem dX10_shapes_74 : decode cX10_shapes 74 = .ok (.goto 4, 3) := by decide +kernel
theorem dX10_shapes_77 : decode cX10_shapes 77 = .ok (.iconst 0, 1) := by decide +kernel
theorem dX10_shapes_78 : decode cX10_shapes 78 = .ok (.iadd, 1) := by decide +kernel
theorem dX10_shapes_79 : decode cX10_shapes 79 = .ok (.istore 4, 2) := by decide +kernel
theorem dX10_shapes_81 : decode cX10_shapes 81 = .ok (.iload 7, 2) := by decide +kernel
theorem dX10_shapes_83 : decode cX10_shapes 83 = .ok (.ifCond .eq 8, 3) := by decide +kernel
theorem dX10_shapes_86 : decode cX10_shapes 86 = .ok (.iload 6, 2) := by decide +kernel
theorem dX10_shapes_88 : decode cX10_shapes 88 = .ok (.goto 5, 3) := by decide +kernel
theorem dX10_shapes_91 : decode cX10_shapes 91 = .ok (.iload 5, 2) := by decide +kernel
theorem dX10_shapes_93 : decode cX10_shapes 93 = .ok (.istore 5, 2) := by decide +kernel
theorem dX10_shapes_95 : decode cX10_shapes 95 = .ok (.iinc 6 (-1), 3) := by decide +kernel
theorem dX10_shapes_98 : decode cX10_shapes 98 = .ok (.goto (-64), 3) := by decide +kernel
theorem dX10_shapes_101 : decode cX10_shapes 101 = .ok (.iload_n 3, 1) := by decide +kernel
theorem dX10_shapes_102 : decode cX10_shapes 102 = .ok (.iconst 1, 1) := by decide +kernel
theorem dX10_shapes_103 : decode cX10_shapes 103 = .ok (.if_icmp .ne 15, 3) := by decide +kernel
theorem dX10_shapes_106 : decode cX10_shapes 106 = .ok (.iload 4, 2) := by decide +kernel
theorem dX10_shapes_108 : decode cX10_shapes 108 = .ok (.ifCond .ne 10, 3) := by decide +kernel
theorem dX10_shapes_111 : decode cX10_shapes 111 = .ok (.aload_n 0, 1) := by decide +kernel
theorem dX10_shapes_112 : decode cX10_shapes 112 = .ok (.ldc 182, 2) := by decide +kernel
theorem dX10_shapes_114 : decode cX10_shapes 114 = .ok (.invokevirtual 52, 3) := by decide +kernel
theorem dX10_shapes_117 : decode cX10_shapes 117 = .ok (.ireturn, 1) := by decide +kernel
theorem dX10_shapes_118 : decode cX10_shapes 118 = .ok (.iload_n 3, 1) := by decide +kernel
theorem dX10_shapes_119 : decode cX10_shapes 119 = .ok (.ifCond .ne 8, 3) := by decide +kernel
theorem dX10_shapes_122 : decode cX10_shapes 122 = .ok (.iload 4, 2) := by decide +kernel
theorem dX10_shapes_124 : decode cX10_shapes 124 = .ok (.goto 5, 3) := by decide +kernel
theorem dX10_shapes_127 : decode cX10_shapes 127 = .ok (.iload 5, 2) := by decide +kernel
theorem dX10_shapes_129 : decode cX10_shapes 129 = .ok (.ireturn, 1) := by decide +kernel
theorem dX10_fold_0 : decode cX10_fold 0 = .ok (.aload_n 0, 1) := by decide +kernel
theorem dX10_fold_1 : decode cX10_fold 1 = .ok (.iload_n 1, 1) := by decide +kernel
theorem dX10_fold_2 : decode cX10_fold 2 = .ok (.invokevirtual 61, 3) := by decide +kernel
theorem dX10_fold_5 : decode cX10_fold 5 = .ok (.ifCond .eq 13, 3) := by decide +kernel
theorem dX10_fold_8 : decode cX10_fold 8 = .ok (.iload_n 2, 1) := by decide +kernel
theorem dX10_fold_9 : decode cX10_fold 9 = .ok (.iconst 0, 1) := by decide +kernel
theorem dX10_fold_10 : decode cX10_fold 10 = .ok (.bipush 6, 2) := by decide +kernel
theorem dX10_fold_12 : decode cX10_fold 12 = .ok (.invokestatic 47, 3) := by decide +kernel
theorem dX10_fold_15 : decode cX10_fold 15 = .ok (.ifCond .ne 10, 3) := by decide +kernel
theorem dX10_fold_18 : decode cX10_fold 18 = .ok (.aload_n 0, 1) := by decide +kernel
theorem dX10_fold_19 : decode cX10_fold 19 = .ok (.ldc 51, 2) := by decide +kernel
theorem dX10_fold_21 : decode cX10_fold 21 = .ok (.invokevirtual 52, 3) := by decide +kernel
theorem dX10_fold_24 : decode cX10_fold 24 = .ok (.ireturn, 1) := by decide +kernel
theorem dX10_fold_25 : decode cX10_fold 25 = .ok (.aload_n 0, 1) := by decide +kernel
theorem dX10_fold_26 : decode cX10_fold 26 = .ok (.iload_n 1, 1) := by decide +kernel
theorem dX10_fold_27 : decode cX10_fold 27 = .ok (.iconst 3, 1) := by decide +kernel
theorem dX10_fold_28 : decode cX10_fold 28 = .ok (.invokevirtual 65, 3) := by decide +kernel
theorem dX10_fold_31 : decode cX10_fold 31 = .ok (.iconst 1, 1) := by decide +kernel
theorem dX10_fold_32 : decode cX10_fold 32 = .ok (.iload_n 2, 1) := by decide +kernel
theorem dX10_fold_33 : decode cX10_fold 33 = .ok (.ishl, 1) := by decide +kernel
theorem dX10_fold_34 : decode cX10_fold 34 = .ok (.ixor, 1) := by decide +kernel
theorem dX10_fold_35 : decode cX10_fold 35 = .ok (.istore_n 3, 1) := by decide +kernel
theorem dX10_fold_36 : decode cX10_fold 36 = .ok (.aload_n 0, 1) := by decide +kernel
theorem dX10_fold_37 : decode cX10_fold 37 = .ok (.iload_n 1, 1) := by decide +kernel
theorem dX10_fold_38 : decode cX10_fold 38 = .ok (.iconst 4, 1) := by decide +kernel
theorem dX10_fold_39 : decode cX10_fold 39 = .ok (.invokevirtual 65, 3) := by decide +kernel
theorem dX10_fold_42 : decode cX10_fold 42 = .ok (.iconst 1, 1) := by decide +kernel
theorem dX10_fold_43 : decode cX10_fold 43 = .ok (.if_icmp .eq 16, 3) := by decide +kernel
theorem dX10_fold_46 : decode cX10_fold 46 = .ok (.aload_n 0, 1) := by decide +kernel
theorem dX10_fold_47 : decode cX10_fold 47 = .ok (.iload_n 3, 1) := by decide +kernel
theorem dX10_fold_48 : decode cX10_fold 48 = .ok (.invokevirtual 72, 3) := by decide +kernel
theorem dX10_fold_51 : decode cX10_fold 51 = .ok (.aload_n 0, 1) := by decide +kernel
theorem dX10_fold_52 : decode cX10_fold 52 = .ok (.iload_n 1, 1) := by decide +kernel
theorem dX10_fold_53 : decode cX10_fold 53 = .ok (.invokevirtual 75, 3) := by decide +kernel
theorem dX10_fold_56 : decode cX10_fold 56 = .ok (.if_icmp .le 10, 3) := by decide +kernel
theorem dX10_fold_59 : decode cX10_fold 59 = .ok (.aload_n 0, 1) := by decide +kernel
theorem dX10_fold_60 : decode cX10_fold 60 = .ok (.ldc 183, 2) := by decide +kernel
theorem dX10_fold_62 : decode cX10_fold 62 = .ok (.invokevirtual 52, 3) := by decide +kernel
theorem dX10_fold_65 : decode cX10_fold 65 = .ok (.ireturn, 1) := by decide +kernel
theorem dX10_fold_66 : decode cX10_fold 66 = .ok (.aload_n 0, 1) := by decide +kernel
theorem dX10_fold_67 : decode cX10_fold 67 = .ok (.iload_n 1, 1) := by decide +kernel
theorem dX10_fold_68 : decode cX10_fold 68 = .ok (.iconst 3, 1) := by decide +kernel
theorem dX10_fold_69 : decode cX10_fold 69 = .ok (.iload_n 3, 1) := by decide +kernel
theorem dX10_fold_70 : decode cX10_fold 70 = .ok (.invokevirtual 57, 3) := by decide +kernel
theorem dX10_fold_73 : decode cX10_fold 73 = .ok (.aload_n 0, 1) := by decide +kernel
theorem dX10_fold_74 : decode cX10_fold 74 = .ok (.iload_n 3, 1) := by decide +kernel
theorem dX10_fold_75 : decode cX10_fold 75 = .ok (.invokevirtual 69, 3) := by decide +kernel
theorem dX10_fold_78 : decode cX10_fold 78 = .ok (.ireturn, 1) := by decide +kernel
theorem dX10_release_0 : decode cX10_release 0 = .ok (.aload_n 0, 1) := by decide +kernel
theorem dX10_release_1 : decode cX10_release 1 = .ok (.iload_n 1, 1) := by decide +kernel
theorem dX10_release_2 : decode cX10_release 2 = .ok (.invokevirtual 61, 3) := by decide +kernel
theorem dX10_release_5 : decode cX10_release 5 = .ok (.ifCond .ne 10, 3) := by decide +kernel
theorem dX10_release_8 : decode cX10_release 8 = .ok (.aload_n 0, 1) := by decide +kernel
theorem dX10_release_9 : decode cX10_release 9 = .ok (.ldc 51, 2) := by decide +kernel
theorem dX10_release_11 : decode cX10_release 11 = .ok (.invokevirtual 52, 3) := by decide +kernel
theorem dX10_release_14 : decode cX10_release 14 = .ok (.ireturn, 1) := by decide +kernel
theorem dX10_release_15 : decode cX10_release 15 = .ok (.aload_n 0, 1) := by decide +kernel
theorem dX10_release_16 : decode cX10_release 16 = .ok (.iload_n 1, 1) := by decide +kernel
theorem dX10_release_17 : decode cX10_release 17 = .ok (.iconst 4, 1) := by decide +kernel
theorem dX10_release_18 : decode cX10_release 18 = .ok (.invokevirtual 65, 3) := by decide +kernel
theorem dX10_release_21 : decode cX10_release 21 = .ok (.iconst 1, 1) := by decide +kernel
theorem dX10_release_22 : decode cX10_release 22 = .ok (.if_icmp .eq 17, 3) := by decide +kernel
theorem dX10_release_25 : decode cX10_release 25 = .ok (.aload_n 0, 1) := by decide +kernel
theorem dX10_release_26 : decode cX10_release 26 = .ok (.iload_n 1, 1) := by decide +kernel
theorem dX10_release_27 : decode cX10_release 27 = .ok (.aload_n 0, 1) := by decide +kernel
theorem dX10_release_28 : decode cX10_release 28 = .ok (.iload_n 1, 1) := by decide +kernel
theorem dX10_release_29 : decode cX10_release 29 = .ok (.iconst 3, 1) := by decide +kernel
theorem dX10_release_30 : decode cX10_release 30 = .ok (.invokevirtual 65, 3) := by decide +kernel
theorem dX10_release_33 : decode cX10_release 33 = .ok (.invokevirtual 78, 3) := by decide +kernel
theorem dX10_release_36 : decode cX10_release 36 = .ok (.ifCond .ne 10, 3) := by decide +kernel
theorem dX10_release_39 : decode cX10_release 39 = .ok (.aload_n 0, 1) := by decide +kernel
theorem dX10_release_40 : decode cX10_release 40 = .ok (.ldc 183, 2) := by decide +kernel
theorem dX10_release_42 : decode cX10_release 42 = .ok (.invokevirtual 52, 3) := by decide +kernel
theorem dX10_release_45 : decode cX10_release 45 = .ok (.ireturn, 1) := by decide +kernel
theorem dX10_release_46 : decode cX10_release 46 = .ok (.aload_n 0, 1) := by decide +kernel
theorem dX10_release_47 : decode cX10_release 47 = .ok (.iload_n 1, 1) := by decide +kernel
theorem dX10_release_48 : decode cX10_release 48 = .ok (.iconst 4, 1) := by decide +kernel
theorem dX10_release_49 : decode cX10_release 49 = .ok (.iconst 1, 1) := by decide +kernel
theorem dX10_release_50 : decode cX10_release 50 = .ok (.invokevirtual 57, 3) := by decide +kernel
theorem dX10_release_53 : decode cX10_release 53 = .ok (.aload_n 0, 1) := by decide +kernel
theorem dX10_release_54 : decode cX10_release 54 = .ok (.iload_n 1, 1) := by decide +kernel
theorem dX10_release_55 : decode cX10_release 55 = .ok (.iconst 2, 1) := by decide +kernel
theorem dX10_release_56 : decode cX10_release 56 = .ok (.invokevirtual 65, 3) := by decide +kernel
theorem dX10_release_59 : decode cX10_release 59 = .ok (.ireturn, 1) := by decide +kernel
theorem dX10_way_0 : decode cX10_way 0 = .ok (.aload_n 0, 1) := by decide +kernel
theorem dX10_way_1 : decode cX10_way 1 = .ok (.iload_n 1, 1) := by decide +kernel
theorem dX10_way_2 : decode cX10_way 2 = .ok (.invokevirtual 61, 3) := by decide +kernel
theorem dX10_way_5 : decode cX10_way 5 = .ok (.ifCond .eq 10, 3) := by decide +kernel
theorem dX10_way_8 : decode cX10_way 8 = .ok (.iload_n 2, 1) := by decide +kernel
theorem dX10_way_9 : decode cX10_way 9 = .ok (.invokestatic 173, 3) := by decide +kernel
theorem dX10_way_12 : decode cX10_way 12 = .ok (.ifCond .ne 10, 3) := by decide +kernel
theorem dX10_way_15 : decode cX10_way 15 = .ok (.aload_n 0, 1) := by decide +kernel
theorem dX10_way_16 : decode cX10_way 16 = .ok (.ldc 51, 2) := by decide +kernel
theorem dX10_way_18 : decode cX10_way 18 = .ok (.invokevirtual 52, 3) := by decide +kernel
theorem dX10_way_21 : decode cX10_way 21 = .ok (.ireturn, 1) := by decide +kernel
theorem dX10_way_22 : decode cX10_way 22 = .ok (.iconst 0, 1) := by decide +kernel
theorem dX10_way_23 : decode cX10_way 23 = .ok (.istore_n 3, 1) := by decide +kernel
theorem dX10_way_24 : decode cX10_way 24 = .ok (.iload_n 3, 1) := by decide +kernel
theorem dX10_way_25 : decode cX10_way 25 = .ok (.bipush 127, 2) := by decide +kernel
theorem dX10_way_27 : decode cX10_way 27 = .ok (.if_icmp .gt 16, 3) := by decide +kernel
theorem dX10_way_30 : decode cX10_way 30 = .ok (.aload_n 0, 1) := by decide +kernel
theorem dX10_way_31 : decode cX10_way 31 = .ok (.getfield 28, 3) := by decide +kernel
theorem dX10_way_34 : decode cX10_way 34 = .ok (.iload_n 3, 1) := by decide +kernel
theorem dX10_way_35 : decode cX10_way 35 = .ok (.iconst (-1), 1) := by decide +kernel
theorem dX10_way_36 : decode cX10_way 36 = .ok (.iastore, 1) := by decide +kernel
theorem dX10_way_37 : decode cX10_way 37 = .ok (.iinc 3 1, 3) := by decide +kernel
theorem dX10_way_40 : decode cX10_way 40 = .ok (.goto (-16), 3) := by decide +kernel
theorem dX10_way_43 : decode cX10_way 43 = .ok (.aload_n 0, 1) := by decide +kernel
theorem dX10_way_44 : decode cX10_way 44 = .ok (.getfield 28, 3) := by decide +kernel
theorem dX10_way_47 : decode cX10_way 47 = .ok (.aload_n 0, 1) := by decide +kernel
theorem dX10_way_48 : decode cX10_way 48 = .ok (.iload_n 1, 1) := by decide +kernel
theorem dX10_way_49 : decode cX10_way 49 = .ok (.iconst 3, 1) := by decide +kernel
theorem dX10_way_50 : decode cX10_way 50 = .ok (.invokevirtual 65, 3) := by decide +kernel
theorem dX10_way_53 : decode cX10_way 53 = .ok (.iconst 0, 1) := by decide +kernel
theorem dX10_way_54 : decode cX10_way 54 = .ok (.iastore, 1) := by decide +kernel
theorem dX10_way_55 : decode cX10_way 55 = .ok (.iconst 0, 1) := by decide +kernel
theorem dX10_way_56 : decode cX10_way 56 = .ok (.istore_n 3, 1) := by decide +kernel
theorem dX10_way_57 : decode cX10_way 57 = .ok (.iload_n 3, 1) := by decide +kernel
theorem dX10_way_58 : decode cX10_way 58 = .ok (.sipush 128, 3) := by decide +kernel
theorem dX10_way_61 : decode cX10_way 61 = .ok (.if_icmp .ge 104, 3) := by decide +kernel
theorem dX10_way_64 : decode cX10_way 64 = .ok (.aload_n 0, 1) := by decide +kernel
theorem dX10_way_65 : decode cX10_way 65 = .ok (.getfield 28, 3) := by decide +kernel
theorem dX10_way_68 : decode cX10_way 68 = .ok (.iload_n 2, 1) := by decide +kernel
theorem dX10_way_69 : decode cX10_way 69 = .ok (.iaload, 1) := by decide +kernel
theorem dX10_way_70 : decode cX10_way 70 = .ok (.ifCond .ge 95, 3) := by decide +kernel
theorem dX10_way_73 : decode cX10_way 73 = .ok (.iconst 0, 1) := by decide +kernel
theorem dX10_way_74 : decode cX10_way 74 = .ok (.istore 4, 2) := by decide +kernel
theorem dX10_way_76 : decode cX10_way 76 = .ok (.iload 4, 2) := by decide +kernel
theorem dX10_way_78 : decode cX10_way 78 = .ok (.bipush 127, 2) := by decide +kernel
theorem dX10_way_80 : decode cX10_way 80 = .ok (.if_icmp .gt 79, 3) := by decide +kernel
theorem dX10_way_83 : decode cX10_way 83 = .ok (.iconst 0, 1) := by decide +kernel
theorem dX10_way_84 : decode cX10_way 84 = .ok (.istore 5, 2) := by decide +kernel
theorem dX10_way_86 : decode cX10_way 86 = .ok (.iload 5, 2) := by decide +kernel
theorem dX10_way_88 : decode cX10_way 88 = .ok (.bipush 7, 2) := by decide +kernel
theorem dX10_way_90 : decode cX10_way 90 = .ok (.if_icmp .ge 63, 3) := by decide +kernel
theorem dX10_way_93 : decode cX10_way 93 = .ok (.aload_n 0, 1) := by decide +kernel
theorem dX10_way_94 : decode cX10_way 94 = .ok (.getfield 28, 3) := by decide +kernel
theorem dX10_way_97 : decode cX10_way 97 = .ok (.iload 4, 2) := by decide +kernel
theorem dX10_way_99 : decode cX10_way 99 = .ok (.iaload, 1) := by decide +kernel
theorem dX10_way_100 : decode cX10_way 100 = .ok (.iload_n 3, 1) := by decide +kernel
theorem dX10_way_101 : decode cX10_way 101 = .ok (.if_icmp .ne 52, 3) := by decide +kernel
theorem dX10_way_104 : decode cX10_way 104 = .ok (.iload 4, 2) := by decide +kernel
theorem dX10_way_106 : decode cX10_way 106 = .ok (.iconst 1, 1) := by decide +kernel
theorem dX10_way_107 : decode cX10_way 107 = .ok (.iload 5, 2) := by decide +kernel
theorem dX10_way_109 : decode cX10_way 109 = .ok (.ishl, 1) := by decide +kernel
theorem dX10_way_110 : decode cX10_way 110 = .ok (.ixor, 1) := by decide +kernel
theorem dX10_way_111 : decode cX10_way 111 = .ok (.istore 6, 2) := by decide +kernel
theorem dX10_way_113 : decode cX10_way 113 = .ok (.aload_n 0, 1) := by decide +kernel
theorem dX10_way_114 : decode cX10_way 114 = .ok (.getfield 28, 3) := by decide +kernel
theorem dX10_way_117 : decode cX10_way 117 = .ok (.iload 6, 2) := by decide +kernel
theorem dX10_way_119 : decode cX10_way 119 = .ok (.iaload, 1) := by decide +kernel
theorem dX10_way_120 : decode cX10_way 120 = .ok (.ifCond .ge 27, 3) := by decide +kernel
theorem dX10_way_123 : decode cX10_way 123 = .ok (.aload_n 0, 1) := by decide +kernel
theorem dX10_way_124 : decode cX10_way 124 = .ok (.iload 6, 2) := by decide +kernel
theorem dX10_way_126 : decode cX10_way 126 = .ok (.invokevirtual 72, 3) := by decide +kernel
theorem dX10_way_129 : decode cX10_way 129 = .ok (.aload_n 0, 1) := by decide +kernel
theorem dX10_way_130 : decode cX10_way 130 = .ok (.iload_n 1, 1) := by decide +kernel
theorem dX10_way_131 : decode cX10_way 131 = .ok (.invokevirtual 75, 3) := by decide +kernel
theorem dX10_way_134 : decode cX10_way 134 = .ok (.if_icmp .gt 13, 3) := by decide +kernel
theorem dX10_way_137 : decode cX10_way 137 = .ok (.aload_n 0, 1) := by decide +kernel
theorem dX10_way_138 : decode cX10_way 138 = .ok (.getfield 28, 3) := by decide +kernel
theorem dX10_way_141 : decode cX10_way 141 = .ok (.iload 6, 2) := by decide +kernel
theorem dX10_way_143 : decode cX10_way 143 = .ok (.iload_n 3, 1) := by decide +kernel
theorem dX10_way_144 : decode cX10_way 144 = .ok (.iconst 1, 1) := by decide +kernel
theorem dX10_way_145 : decode cX10_way 145 = .ok (.iadd, 1) := by decide +kernel
theorem dX10_way_146 : decode cX10_way 146 = .ok (.iastore, 1) := by decide +kernel
theorem dX10_way_147 : decode cX10_way 147 = .ok (.iinc 5 1, 3) := by decide +kernel
theorem dX10_way_150 : decode cX10_way 150 = .ok (.goto (-64), 3) := by decide +kernel
theorem dX10_way_153 : decode cX10_way 153 = .ok (.iinc 4 1, 3) := by decide +kernel
theorem dX10_way_156 : decode cX10_way 156 = .ok (.goto (-80), 3) := by decide +kernel
theorem dX10_way_159 : decode cX10_way 159 = .ok (.iinc 3 1, 3) := by decide +kernel
theorem dX10_way_162 : decode cX10_way 162 = .ok (.goto (-105), 3) := by decide +kernel
theorem dX10_way_165 : decode cX10_way 165 = .ok (.aload_n 0, 1) := by decide +kernel
theorem dX10_way_166 : decode cX10_way 166 = .ok (.getfield 28, 3) := by decide +kernel
theorem dX10_way_169 : decode cX10_way 169 = .ok (.iload_n 2, 1) := by decide +kernel
theorem dX10_way_170 : decode cX10_way 170 = .ok (.iaload, 1) := by decide +kernel
theorem dX10_way_171 : decode cX10_way 171 = .ok (.ifCond .ge 12, 3) := by decide +kernel
theorem dX10_way_174 : decode cX10_way 174 = .ok (.aload_n 0, 1) := by decide +kernel
theorem dX10_way_175 : decode cX10_way 175 = .ok (.ldc 182, 2) := by decide +kernel
theorem dX10_way_177 : decode cX10_way 177 = .ok (.invokevirtual 52, 3) := by decide +kernel
theorem dX10_way_180 : decode cX10_way 180 = .ok (.goto 9, 3) := by decide +kernel
theorem dX10_way_183 : decode cX10_way 183 = .ok (.aload_n 0, 1) := by decide +kernel
theorem dX10_way_184 : decode cX10_way 184 = .ok (.getfield 28, 3) := by decide +kernel
theorem dX10_way_187 : decode cX10_way 187 = .ok (.iload_n 2, 1) := by decide +kernel
theorem dX10_way_188 : decode cX10_way 188 = .ok (.iaload, 1) := by decide +kernel
theorem dX10_way_189 : decode cX10_way 189 = .ok (.ireturn, 1) := by decide +kernel
theorem dX10_open_0 : decode cX10_open 0 = .ok (.aload_n 0, 1) := by decide +kernel
theorem dX10_open_1 : decode cX10_open 1 = .ok (.iload_n 1, 1) := by decide +kernel
theorem dX10_open_2 : decode cX10_open 2 = .ok (.invokevirtual 61, 3) := by decide +kernel
theorem dX10_open_5 : decode cX10_open 5 = .ok (.ifCond .eq 13, 3) := by decide +kernel
theorem dX10_open_8 : decode cX10_open 8 = .ok (.iload_n 2, 1) := by decide +kernel
theorem dX10_open_9 : decode cX10_open 9 = .ok (.iconst 1, 1) := by decide +kernel
theorem dX10_open_10 : decode cX10_open 10 = .ok (.bipush 8, 2) := by decide +kernel
theorem dX10_open_12 : decode cX10_open 12 = .ok (.invokestatic 47, 3) := by decide +kernel
theorem dX10_open_15 : decode cX10_open 15 = .ok (.ifCond .ne 10, 3) := by decide +kernel
theorem dX10_open_18 : decode cX10_open 18 = .ok (.aload_n 0, 1) := by decide +kernel
theorem dX10_open_19 : decode cX10_open 19 = .ok (.ldc 51, 2) := by decide +kernel
theorem dX10_open_21 : decode cX10_open 21 = .ok (.invokevirtual 52, 3) := by decide +kernel
theorem dX10_open_24 : decode cX10_open 24 = .ok (.ireturn, 1) := by decide +kernel
theorem dX10_open_25 : decode cX10_open 25 = .ok (.aload_n 0, 1) := by decide +kernel
theorem dX10_open_26 : decode cX10_open 26 = .ok (.iload_n 1, 1) := by decide +kernel
theorem dX10_open_27 : decode cX10_open 27 = .ok (.iconst 3, 1) := by decide +kernel
theorem dX10_open_28 : decode cX10_open 28 = .ok (.invokevirtual 65, 3) := by decide +kernel
theorem dX10_open_31 : decode cX10_open 31 = .ok (.istore_n 3, 1) := by decide +kernel
theorem dX10_open_32 : decode cX10_open 32 = .ok (.iconst (-1), 1) := by decide +kernel
theorem dX10_open_33 : decode cX10_open 33 = .ok (.istore 4, 2) := by decide +kernel
theorem dX10_open_35 : decode cX10_open 35 = .ok (.iconst 0, 1) := by decide +kernel
theorem dX10_open_36 : decode cX10_open 36 = .ok (.istore 5, 2) := by decide +kernel
theorem dX10_open_38 : decode cX10_open 38 = .ok (.iload 5, 2) := by decide +kernel
theorem dX10_open_40 : decode cX10_open 40 = .ok (.bipush 127, 2) := by decide +kernel
theorem dX10_open_42 : decode cX10_open 42 = .ok (.if_icmp .gt 54, 3) := by decide +kernel
theorem dX10_open_45 : decode cX10_open 45 = .ok (.iload 5, 2) := by decide +kernel
theorem dX10_open_47 : decode cX10_open 47 = .ok (.iload_n 3, 1) := by decide +kernel
theorem dX10_open_48 : decode cX10_open 48 = .ok (.iconst (-1), 1) := by decide +kernel
theorem dX10_open_49 : decode cX10_open 49 = .ok (.ixor, 1) := by decide +kernel
theorem dX10_open_50 : decode cX10_open 50 = .ok (.iand, 1) := by decide +kernel
theorem dX10_open_51 : decode cX10_open 51 = .ok (.ifCond .ne 39, 3) := by decide +kernel
theorem dX10_open_54 : decode cX10_open 54 = .ok (.iload 4, 2) := by decide +kernel
theorem dX10_open_56 : decode cX10_open 56 = .ok (.ifCond .lt 16, 3) := by decide +kernel
theorem dX10_open_59 : decode cX10_open 59 = .ok (.iload 5, 2) := by decide +kernel
theorem dX10_open_61 : decode cX10_open 61 = .ok (.invokestatic 179, 3) := by decide +kernel
theorem dX10_open_64 : decode cX10_open 64 = .ok (.iload 4, 2) := by decide +kernel
theorem dX10_open_66 : decode cX10_open 66 = .ok (.invokestatic 179, 3) := by decide +kernel
theorem dX10_open_69 : decode cX10_open 69 = .ok (.if_icmp .ge 21, 3) := by decide +kernel
theorem dX10_open_72 : decode cX10_open 72 = .ok (.aload_n 0, 1) := by decide +kernel
theorem dX10_open_73 : decode cX10_open 73 = .ok (.iload_n 3, 1) := by decide +kernel
theorem dX10_open_74 : decode cX10_open 74 = .ok (.iload 5, 2) := by decide +kernel
theorem dX10_open_76 : decode cX10_open 76 = .ok (.iconst (-1), 1) := by decide +kernel
theorem dX10_open_77 : decode cX10_open 77 = .ok (.ixor, 1) := by decide +kernel
theorem dX10_open_78 : decode cX10_open 78 = .ok (.iand, 1) := by decide +kernel
theorem dX10_open_79 : decode cX10_open 79 = .ok (.invokevirtual 69, 3) := by decide +kernel
theorem dX10_open_82 : decode cX10_open 82 = .ok (.iload_n 2, 1) := by decide +kernel
theorem dX10_open_83 : decode cX10_open 83 = .ok (.if_icmp .lt 7, 3) := by decide +kernel
theorem dX10_open_86 : decode cX10_open 86 = .ok (.iload 5, 2) := by decide +kernel
theorem dX10_open_88 : decode cX10_open 88 = .ok (.istore 4, 2) := by decide +kernel
theorem dX10_open_90 : decode cX10_open 90 = .ok (.iinc 5 1, 3) := by decide +kernel
theorem dX10_open_93 : decode cX10_open 93 = .ok (.goto (-55), 3) := by decide +kernel
theorem dX10_open_96 : decode cX10_open 96 = .ok (.iload 4, 2) := by decide +kernel
theorem dX10_open_98 : decode cX10_open 98 = .ok (.ifCond .ge 12, 3) := by decide +kernel
theorem dX10_open_101 : decode cX10_open 101 = .ok (.aload_n 0, 1) := by decide +kernel
theorem dX10_open_102 : decode cX10_open 102 = .ok (.ldc 182, 2) := by decide +kernel
theorem dX10_open_104 : decode cX10_open 104 = .ok (.invokevirtual 52, 3) := by decide +kernel
theorem dX10_open_107 : decode cX10_open 107 = .ok (.goto 5, 3) := by decide +kernel
theorem dX10_open_110 : decode cX10_open 110 = .ok (.iload 4, 2) := by decide +kernel
theorem dX10_open_112 : decode cX10_open 112 = .ok (.ireturn, 1) := by decide +kernel
theorem dX10_areAlike_0 : decode cX10_areAlike 0 = .ok (.aload_n 0, 1) := by decide +kernel
theorem dX10_areAlike_1 : decode cX10_areAlike 1 = .ok (.iload_n 1, 1) := by decide +kernel
theorem dX10_areAlike_2 : decode cX10_areAlike 2 = .ok (.iconst 3, 1) := by decide +kernel
theorem dX10_areAlike_3 : decode cX10_areAlike 3 = .ok (.invokevirtual 65, 3) := by decide +kernel
theorem dX10_areAlike_6 : decode cX10_areAlike 6 = .ok (.istore_n 3, 1) := by decide +kernel
theorem dX10_areAlike_7 : decode cX10_areAlike 7 = .ok (.aload_n 0, 1) := by decide +kernel
theorem dX10_areAlike_8 : decode cX10_areAlike 8 = .ok (.iload_n 2, 1) := by decide +kernel
theorem dX10_areAlike_9 : decode cX10_areAlike 9 = .ok (.iconst 3, 1) := by decide +kernel
theorem dX10_areAlike_10 : decode cX10_areAlike 10 = .ok (.invokevirtual 65, 3) := by decide +kernel
theorem dX10_areAlike_13 : decode cX10_areAlike 13 = .ok (.istore 4, 2) := by decide +kernel
theorem dX10_areAlike_15 : decode cX10_areAlike 15 = .ok (.iload_n 3, 1) := by decide +kernel
theorem dX10_areAlike_16 : decode cX10_areAlike 16 = .ok (.iload 4, 2) := by decide +kernel
theorem dX10_areAlike_18 : decode cX10_areAlike 18 = .ok (.if_icmp .eq 35, 3) := by decide +kernel
theorem dX10_areAlike_21 : decode cX10_areAlike 21 = .ok (.aload_n 0, 1) := by decide +kernel
theorem dX10_areAlike_22 : decode cX10_areAlike 22 = .ok (.iload_n 3, 1) := by decide +kernel
theorem dX10_areAlike_23 : decode cX10_areAlike 23 = .ok (.invokevirtual 69, 3) := by decide +kernel
theorem dX10_areAlike_26 : decode cX10_areAlike 26 = .ok (.aload_n 0, 1) := by decide +kernel
theorem dX10_areAlike_27 : decode cX10_areAlike 27 = .ok (.iload 4, 2) := by decide +kernel
theorem dX10_areAlike_29 : decode cX10_areAlike 29 = .ok (.invokevirtual 69, 3) := by decide +kernel
theorem dX10_areAlike_32 : decode cX10_areAlike 32 = .ok (.if_icmp .ne 21, 3) := by decide +kernel
theorem dX10_areAlike_35 : decode cX10_areAlike 35 = .ok (.aload_n 0, 1) := by decide +kernel
theorem dX10_areAlike_36 : decode cX10_areAlike 36 = .ok (.iload_n 3, 1) := by decide +kernel
theorem dX10_areAlike_37 : decode cX10_areAlike 37 = .ok (.invokevirtual 72, 3) := by decide +kernel
theorem dX10_areAlike_40 : decode cX10_areAlike 40 = .ok (.aload_n 0, 1) := by decide +kernel
theorem dX10_areAlike_41 : decode cX10_areAlike 41 = .ok (.iload 4, 2) := by decide +kernel
theorem dX10_areAlike_43 : decode cX10_areAlike 43 = .ok (.invokevirtual 72, 3) := by decide +kernel
theorem dX10_areAlike_46 : decode cX10_areAlike 46 = .ok (.if_icmp .ne 7, 3) := by decide +kernel
theorem dX10_areAlike_49 : decode cX10_areAlike 49 = .ok (.iconst 1, 1) := by decide +kernel
theorem dX10_areAlike_50 : decode cX10_areAlike 50 = .ok (.goto 4, 3) := by decide +kernel
theorem dX10_areAlike_53 : decode cX10_areAlike 53 = .ok (.iconst 0, 1) := by decide +kernel
theorem dX10_areAlike_54 : decode cX10_areAlike 54 = .ok (.ireturn, 1) := by decide +kernel
theorem dX10_alike_0 : decode cX10_alike 0 = .ok (.iload_n 1, 1) := by decide +kernel
theorem dX10_alike_1 : decode cX10_alike 1 = .ok (.iconst 0, 1) := by decide +kernel
theorem dX10_alike_2 : decode cX10_alike 2 = .ok (.iconst 1, 1) := by decide +kernel
theorem dX10_alike_3 : decode cX10_alike 3 = .ok (.invokestatic 47, 3) := by decide +kernel
theorem dX10_alike_6 : decode cX10_alike 6 = .ok (.ifCond .ne 10, 3) := by decide +kernel
theorem dX10_alike_9 : decode cX10_alike 9 = .ok (.aload_n 0, 1) := by decide +kernel
theorem dX10_alike_10 : decode cX10_alike 10 = .ok (.ldc 51, 2) := by decide +kernel
theorem dX10_alike_12 : decode cX10_alike 12 = .ok (.invokevirtual 52, 3) := by decide +kernel
theorem dX10_alike_15 : decode cX10_alike 15 = .ok (.ireturn, 1) := by decide +kernel
theorem dX10_alike_16 : decode cX10_alike 16 = .ok (.iconst 0, 1) := by decide +kernel
theorem dX10_alike_17 : decode cX10_alike 17 = .ok (.istore_n 2, 1) := by decide +kernel
theorem dX10_alike_18 : decode cX10_alike 18 = .ok (.iconst 0, 1) := by decide +kernel
theorem dX10_alike_19 : decode cX10_alike 19 = .ok (.istore_n 3, 1) := by decide +kernel
theorem dX10_alike_20 : decode cX10_alike 20 = .ok (.aload_n 0, 1) := by decide +kernel
theorem dX10_alike_21 : decode cX10_alike 21 = .ok (.getfield 7, 3) := by decide +kernel
theorem dX10_alike_24 : decode cX10_alike 24 = .ok (.iconst 2, 1) := by decide +kernel
theorem dX10_alike_25 : decode cX10_alike 25 = .ok (.iaload, 1) := by decide +kernel
theorem dX10_alike_26 : decode cX10_alike 26 = .ok (.iconst 1, 1) := by decide +kernel
theorem dX10_alike_27 : decode cX10_alike 27 = .ok (.isub, 1) := by decide +kernel
theorem dX10_alike_28 : decode cX10_alike 28 = .ok (.istore 4, 2) := by decide +kernel
theorem dX10_alike_30 : decode cX10_alike 30 = .ok (.iload 4, 2) := by decide +kernel
theorem dX10_alike_32 : decode cX10_alike 32 = .ok (.ifCond .lt 55, 3) := by decide +kernel
theorem dX10_alike_35 : decode cX10_alike 35 = .ok (.aload_n 0, 1) := by decide +kernel
theorem dX10_alike_36 : decode cX10_alike 36 = .ok (.getfield 7, 3) := by decide +kernel
theorem dX10_alike_39 : decode cX10_alike 39 = .ok (.iconst 2, 1) := by decide +kernel
theorem dX10_alike_40 : decode cX10_alike 40 = .ok (.iaload, 1) := by decide +kernel
theorem dX10_alike_41 : decode cX10_alike 41 = .ok (.iconst 1, 1) := by decide +kernel
theorem dX10_alike_42 : decode cX10_alike 42 = .ok (.isub, 1) := by decide +kernel
theorem dX10_alike_43 : decode cX10_alike 43 = .ok (.istore 5, 2) := by decide +kernel
theorem dX10_alike_45 : decode cX10_alike 45 = .ok (.iload 5, 2) := by decide +kernel
theorem dX10_alike_47 : decode cX10_alike 47 = .ok (.iload 4, 2) := by decide +kernel
theorem dX10_alike_49 : decode cX10_alike 49 = .ok (.if_icmp .le 32, 3) := by decide +kernel
theorem dX10_alike_52 : decode cX10_alike 52 = .ok (.aload_n 0, 1) := by decide +kernel
theorem dX10_alike_53 : decode cX10_alike 53 = .ok (.iload 4, 2) := by decide +kernel
theorem dX10_alike_55 : decode cX10_alike 55 = .ok (.iload 5, 2) := by decide +kernel
theorem dX10_alike_57 : decode cX10_alike 57 = .ok (.invokevirtual 184, 3) := by decide +kernel
theorem dX10_alike_60 : decode cX10_alike 60 = .ok (.ifCond .eq 15, 3) := by decide +kernel
theorem dX10_alike_63 : decode cX10_alike 63 = .ok (.iinc 2 1, 3) := by decide +kernel
theorem dX10_alike_66 : decode cX10_alike 66 = .ok (.bipush 10, 2) := by decide +kernel
theorem dX10_alike_68 : decode cX10_alike 68 = .ok (.iload 4, 2) := by decide +kernel
theorem dX10_alike_70 : decode cX10_alike 70 = .ok (.imul, 1) := by decide +kernel
theorem dX10_alike_71 : decode cX10_alike 71 = .ok (.iload 5, 2) := by decide +kernel
theorem dX10_alike_73 : decode cX10_alike 73 = .ok (.iadd, 1) := by decide +kernel
theorem dX10_alike_74 : decode cX10_alike 74 = .ok (.istore_n 3, 1) := by decide +kernel
theorem dX10_alike_75 : decode cX10_alike 75 = .ok (.iinc 5 (-1), 3) := by decide +kernel
theorem dX10_alike_78 : decode cX10_alike 78 = .ok (.goto (-33), 3) := by decide +kernel
theorem dX10_alike_81 : decode cX10_alike 81 = .ok (.iinc 4 (-1), 3) := by decide +kernel
theorem dX10_alike_84 : decode cX10_alike 84 = .ok (.goto (-54), 3) := by decide +kernel
theorem dX10_alike_87 : decode cX10_alike 87 = .ok (.iload_n 1, 1) := by decide +kernel
theorem dX10_alike_88 : decode cX10_alike 88 = .ok (.iconst 1, 1) := by decide +kernel
theorem dX10_alike_89 : decode cX10_alike 89 = .ok (.if_icmp .ne 14, 3) := by decide +kernel
theorem dX10_alike_92 : decode cX10_alike 92 = .ok (.iload_n 2, 1) := by decide +kernel
theorem dX10_alike_93 : decode cX10_alike 93 = .ok (.ifCond .ne 10, 3) := by decide +kernel
theorem dX10_alike_96 : decode cX10_alike 96 = .ok (.aload_n 0, 1) := by decide +kernel
theorem dX10_alike_97 : decode cX10_alike 97 = .ok (.ldc 182, 2) := by decide +kernel
theorem dX10_alike_99 : decode cX10_alike 99 = .ok (.invokevirtual 52, 3) := by decide +kernel
theorem dX10_alike_102 : decode cX10_alike 102 = .ok (.ireturn, 1) := by decide +kernel
theorem dX10_alike_103 : decode cX10_alike 103 = .ok (.iload_n 1, 1) := by decide +kernel
theorem dX10_alike_104 : decode cX10_alike 104 = .ok (.ifCond .ne 7, 3) := by decide +kernel
theorem dX10_alike_107 : decode cX10_alike 107 = .ok (.iload_n 2, 1) := by decide +kernel
theorem dX10_alike_108 : decode cX10_alike 108 = .ok (.goto 4, 3) := by decide +kernel
theorem dX10_alike_111 : decode cX10_alike 111 = .ok (.iload_n 3, 1) := by decide +kernel
theorem dX10_alike_112 : decode cX10_alike 112 = .ok (.ireturn, 1) := by decide +kernel
theorem dX10_oneDay_0 : decode cX10_oneDay 0 = .ok (.iconst 0, 1) := by decide +kernel
theorem dX10_oneDay_1 : decode cX10_oneDay 1 = .ok (.istore_n 1, 1) := by decide +kernel
theorem dX10_oneDay_2 : decode cX10_oneDay 2 = .ok (.iload_n 1, 1) := by decide +kernel
theorem dX10_oneDay_3 : decode cX10_oneDay 3 = .ok (.aload_n 0, 1) := by decide +kernel
theorem dX10_oneDay_4 : decode cX10_oneDay 4 = .ok (.getfield 7, 3) := by decide +kernel
theorem dX10_oneDay_7 : decode cX10_oneDay 7 = .ok (.iconst 2, 1) := by decide +kernel
theorem dX10_oneDay_8 : decode cX10_oneDay 8 = .ok (.iaload, 1) := by decide +kernel
theorem dX10_oneDay_9 : decode cX10_oneDay 9 = .ok (.if_icmp .ge 90, 3) := by decide +kernel
theorem dX10_oneDay_12 : decode cX10_oneDay 12 = .ok (.aload_n 0, 1) := by decide +kernel
theorem dX10_oneDay_13 : decode cX10_oneDay 13 = .ok (.iload_n 1, 1) := by decide +kernel
theorem dX10_oneDay_14 : decode cX10_oneDay 14 = .ok (.iconst 4, 1) := by decide +kernel
theorem dX10_oneDay_15 : decode cX10_oneDay 15 = .ok (.invokevirtual 65, 3) := by decide +kernel
theorem dX10_oneDay_18 : decode cX10_oneDay 18 = .ok (.iconst 1, 1) := by decide +kernel
theorem dX10_oneDay_19 : decode cX10_oneDay 19 = .ok (.if_icmp .ne 74, 3) := by decide +kernel
