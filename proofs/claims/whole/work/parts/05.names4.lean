theorem dX9_shapes_0 : decode cX9_shapes 0 = .ok (.iload_n 1, 1) := by decide +kernel
theorem dX9_shapes_1 : decode cX9_shapes 1 = .ok (.iconst 1, 1) := by decide +kernel
theorem dX9_shapes_2 : decode cX9_shapes 2 = .ok (.bipush 8, 2) := by decide +kernel
theorem dX9_shapes_4 : decode cX9_shapes 4 = .ok (.invokestatic 62, 3) := by decide +kernel
theorem dX9_shapes_7 : decode cX9_shapes 7 = .ok (.ifCond .eq 22, 3) := by decide +kernel
theorem dX9_shapes_10 : decode cX9_shapes 10 = .ok (.iload_n 2, 1) := by decide +kernel
theorem dX9_shapes_11 : decode cX9_shapes 11 = .ok (.iconst 1, 1) := by decide +kernel
theorem dX9_shapes_12 : decode cX9_shapes 12 = .ok (.bipush 8, 2) := by decide +kernel
theorem dX9_shapes_14 : decode cX9_shapes 14 = .ok (.invokestatic 62, 3) := by decide +kernel
theorem dX9_shapes_17 : decode cX9_shapes 17 = .ok (.ifCond .eq 12, 3) := by decide +kernel
theorem dX9_shapes_20 : decode cX9_shapes 20 = .ok (.iload_n 3, 1) := by decide +kernel
theorem dX9_shapes_21 : decode cX9_shapes 21 = .ok (.iconst 0, 1) := by decide +kernel
theorem dX9_shapes_22 : decode cX9_shapes 22 = .ok (.iconst 1, 1) := by decide +kernel
theorem dX9_shapes_23 : decode cX9_shapes 23 = .ok (.invokestatic 62, 3) := by decide +kernel
theorem dX9_shapes_26 : decode cX9_shapes 26 = .ok (.ifCond .ne 9, 3) := by decide +kernel
theorem dX9_shapes_29 : decode cX9_shapes 29 = .ok (.aload_n 0, 1) := by decide +kernel
theorem dX9_shapes_30 : decode cX9_shapes 30 = .ok (.iconst 1, 1) := by decide +kernel
theorem dX9_shapes_31 : decode cX9_shapes 31 = .ok (.invokevirtual 66, 3) := by decide +kernel
theorem dX9_shapes_34 : decode cX9_shapes 34 = .ok (.ireturn, 1) := by decide +kernel
theorem dX9_shapes_35 : decode cX9_shapes 35 = .ok (.iload_n 3, 1) := by decide +kernel
theorem dX9_shapes_36 : decode cX9_shapes 36 = .ok (.ifCond .ne 15, 3) := by decide +kernel
theorem dX9_shapes_39 : decode cX9_shapes 39 = .ok (.aload_n 0, 1) := by decide +kernel
theorem dX9_shapes_40 : decode cX9_shapes 40 = .ok (.getfield 23, 3) := by decide +kernel
theorem dX9_shapes_43 : decode cX9_shapes 43 = .ok (.iload_n 1, 1) := by decide +kernel
theorem dX9_shapes_44 : decode cX9_shapes 44 = .ok (.iload_n 2, 1) := by decide +kernel
theorem dX9_shapes_45 : decode cX9_shapes 45 = .ok (.invokevirtual 182, 3) := by decide +kernel
theorem dX9_shapes_48 : decode cX9_shapes 48 = .ok (.goto 16, 3) := by decide +kernel
theorem dX9_shapes_51 : decode cX9_shapes 51 = .ok (.aload_n 0, 1) := by decide +kernel
theorem dX9_shapes_52 : decode cX9_shapes 52 = .ok (.aload_n 0, 1) := by decide +kernel
theorem dX9_shapes_53 : decode cX9_shapes 53 = .ok (.getfield 23, 3) := by decide +kernel
theorem dX9_shapes_56 : decode cX9_shapes 56 = .ok (.iload_n 1, 1) := by decide +kernel
theorem dX9_shapes_57 : decode cX9_shapes 57 = .ok (.iload_n 2, 1) := by decide +kernel
theorem dX9_shapes_58 : decode cX9_shapes 58 = .ok (.invokevirtual 185, 3) := by decide +kernel
theorem dX9_shapes_61 : decode cX9_shapes 61 = .ok (.invokevirtual 179, 3) := by decide +kernel
theorem dX9_shapes_64 : decode cX9_shapes 64 = .ok (.ireturn, 1) := by decide +kernel
theorem dX9_way_0 : decode cX9_way 0 = .ok (.aload_n 0, 1) := by decide +kernel
theorem dX9_way_1 : decode cX9_way 1 = .ok (.getfield 30, 3) := by decide +kernel
theorem dX9_way_4 : decode cX9_way 4 = .ok (.iload_n 1, 1) := by decide +kernel
theorem dX9_way_5 : decode cX9_way 5 = .ok (.invokevirtual 77, 3) := by decide +kernel
theorem dX9_way_8 : decode cX9_way 8 = .ok (.ifCond .eq 13, 3) := by decide +kernel
theorem dX9_way_11 : decode cX9_way 11 = .ok (.iload_n 2, 1) := by decide +kernel
theorem dX9_way_12 : decode cX9_way 12 = .ok (.iconst 0, 1) := by decide +kernel
theorem dX9_way_13 : decode cX9_way 13 = .ok (.bipush 127, 2) := by decide +kernel
theorem dX9_way_15 : decode cX9_way 15 = .ok (.invokestatic 62, 3) := by decide +kernel
theorem dX9_way_18 : decode cX9_way 18 = .ok (.ifCond .ne 9, 3) := by decide +kernel
theorem dX9_way_21 : decode cX9_way 21 = .ok (.aload_n 0, 1) := by decide +kernel
theorem dX9_way_22 : decode cX9_way 22 = .ok (.iconst 1, 1) := by decide +kernel
theorem dX9_way_23 : decode cX9_way 23 = .ok (.invokevirtual 66, 3) := by decide +kernel
theorem dX9_way_26 : decode cX9_way 26 = .ok (.ireturn, 1) := by decide +kernel
theorem dX9_way_27 : decode cX9_way 27 = .ok (.aload_n 0, 1) := by decide +kernel
theorem dX9_way_28 : decode cX9_way 28 = .ok (.getfield 30, 3) := by decide +kernel
theorem dX9_way_31 : decode cX9_way 31 = .ok (.getfield 81, 3) := by decide +kernel
theorem dX9_way_34 : decode cX9_way 34 = .ok (.iload_n 1, 1) := by decide +kernel
theorem dX9_way_35 : decode cX9_way 35 = .ok (.aaload, 1) := by decide +kernel
theorem dX9_way_36 : decode cX9_way 36 = .ok (.astore_n 3, 1) := by decide +kernel
theorem dX9_way_37 : decode cX9_way 37 = .ok (.aload_n 0, 1) := by decide +kernel
theorem dX9_way_38 : decode cX9_way 38 = .ok (.aload_n 0, 1) := by decide +kernel
theorem dX9_way_39 : decode cX9_way 39 = .ok (.getfield 23, 3) := by decide +kernel
theorem dX9_way_42 : decode cX9_way 42 = .ok (.aload_n 3, 1) := by decide +kernel
theorem dX9_way_43 : decode cX9_way 43 = .ok (.getfield 96, 3) := by decide +kernel
theorem dX9_way_46 : decode cX9_way 46 = .ok (.iload_n 2, 1) := by decide +kernel
theorem dX9_way_47 : decode cX9_way 47 = .ok (.aload_n 3, 1) := by decide +kernel
theorem dX9_way_48 : decode cX9_way 48 = .ok (.invokevirtual 112, 3) := by decide +kernel
theorem dX9_way_51 : decode cX9_way 51 = .ok (.invokevirtual 188, 3) := by decide +kernel
theorem dX9_way_54 : decode cX9_way 54 = .ok (.invokevirtual 179, 3) := by decide +kernel
theorem dX9_way_57 : decode cX9_way 57 = .ok (.ireturn, 1) := by decide +kernel
theorem dX9_open_0 : decode cX9_open 0 = .ok (.aload_n 0, 1) := by decide +kernel
theorem dX9_open_1 : decode cX9_open 1 = .ok (.getfield 30, 3) := by decide +kernel
theorem dX9_open_4 : decode cX9_open 4 = .ok (.iload_n 1, 1) := by decide +kernel
theorem dX9_open_5 : decode cX9_open 5 = .ok (.invokevirtual 77, 3) := by decide +kernel
theorem dX9_open_8 : decode cX9_open 8 = .ok (.ifCond .eq 13, 3) := by decide +kernel
theorem dX9_open_11 : decode cX9_open 11 = .ok (.iload_n 2, 1) := by decide +kernel
theorem dX9_open_12 : decode cX9_open 12 = .ok (.iconst 1, 1) := by decide +kernel
theorem dX9_open_13 : decode cX9_open 13 = .ok (.bipush 8, 2) := by decide +kernel
theorem dX9_open_15 : decode cX9_open 15 = .ok (.invokestatic 62, 3) := by decide +kernel
theorem dX9_open_18 : decode cX9_open 18 = .ok (.ifCond .ne 9, 3) := by decide +kernel
theorem dX9_open_21 : decode cX9_open 21 = .ok (.aload_n 0, 1) := by decide +kernel
theorem dX9_open_22 : decode cX9_open 22 = .ok (.iconst 1, 1) := by decide +kernel
theorem dX9_open_23 : decode cX9_open 23 = .ok (.invokevirtual 66, 3) := by decide +kernel
theorem dX9_open_26 : decode cX9_open 26 = .ok (.ireturn, 1) := by decide +kernel
theorem dX9_open_27 : decode cX9_open 27 = .ok (.aload_n 0, 1) := by decide +kernel
theorem dX9_open_28 : decode cX9_open 28 = .ok (.getfield 23, 3) := by decide +kernel
theorem dX9_open_31 : decode cX9_open 31 = .ok (.aload_n 0, 1) := by decide +kernel
theorem dX9_open_32 : decode cX9_open 32 = .ok (.getfield 30, 3) := by decide +kernel
theorem dX9_open_35 : decode cX9_open 35 = .ok (.getfield 81, 3) := by decide +kernel
theorem dX9_open_38 : decode cX9_open 38 = .ok (.iload_n 1, 1) := by decide +kernel
theorem dX9_open_39 : decode cX9_open 39 = .ok (.aaload, 1) := by decide +kernel
theorem dX9_open_40 : decode cX9_open 40 = .ok (.getfield 96, 3) := by decide +kernel
theorem dX9_open_43 : decode cX9_open 43 = .ok (.iload_n 2, 1) := by decide +kernel
theorem dX9_open_44 : decode cX9_open 44 = .ok (.invokevirtual 192, 3) := by decide +kernel
theorem dX9_open_47 : decode cX9_open 47 = .ok (.ireturn, 1) := by decide +kernel
theorem dX9_alike_0 : decode cX9_alike 0 = .ok (.iload_n 1, 1) := by decide +kernel
theorem dX9_alike_1 : decode cX9_alike 1 = .ok (.iconst 0, 1) := by decide +kernel
theorem dX9_alike_2 : decode cX9_alike 2 = .ok (.iconst 1, 1) := by decide +kernel
theorem dX9_alike_3 : decode cX9_alike 3 = .ok (.invokestatic 62, 3) := by decide +kernel
theorem dX9_alike_6 : decode cX9_alike 6 = .ok (.ifCond .ne 9, 3) := by decide +kernel
theorem dX9_alike_9 : decode cX9_alike 9 = .ok (.aload_n 0, 1) := by decide +kernel
theorem dX9_alike_10 : decode cX9_alike 10 = .ok (.iconst 1, 1) := by decide +kernel
theorem dX9_alike_11 : decode cX9_alike 11 = .ok (.invokevirtual 66, 3) := by decide +kernel
theorem dX9_alike_14 : decode cX9_alike 14 = .ok (.ireturn, 1) := by decide +kernel
theorem dX9_alike_15 : decode cX9_alike 15 = .ok (.iconst 0, 1) := by decide +kernel
theorem dX9_alike_16 : decode cX9_alike 16 = .ok (.istore_n 2, 1) := by decide +kernel
theorem dX9_alike_17 : decode cX9_alike 17 = .ok (.iconst (-1), 1) := by decide +kernel
theorem dX9_alike_18 : decode cX9_alike 18 = .ok (.istore_n 3, 1) := by decide +kernel
theorem dX9_alike_19 : decode cX9_alike 19 = .ok (.iconst 0, 1) := by decide +kernel
theorem dX9_alike_20 : decode cX9_alike 20 = .ok (.istore 4, 2) := by decide +kernel
theorem dX9_alike_22 : decode cX9_alike 22 = .ok (.iload 4, 2) := by decide +kernel
theorem dX9_alike_24 : decode cX9_alike 24 = .ok (.aload_n 0, 1) := by decide +kernel
theorem dX9_alike_25 : decode cX9_alike 25 = .ok (.getfield 30, 3) := by decide +kernel
theorem dX9_alike_28 : decode cX9_alike 28 = .ok (.getfield 70, 3) := by decide +kernel
theorem dX9_alike_31 : decode cX9_alike 31 = .ok (.if_icmp .ge 89, 3) := by decide +kernel
theorem dX9_alike_34 : decode cX9_alike 34 = .ok (.iload 4, 2) := by decide +kernel
theorem dX9_alike_36 : decode cX9_alike 36 = .ok (.iconst 1, 1) := by decide +kernel
theorem dX9_alike_37 : decode cX9_alike 37 = .ok (.iadd, 1) := by decide +kernel
theorem dX9_alike_38 : decode cX9_alike 38 = .ok (.istore 5, 2) := by decide +kernel
theorem dX9_alike_40 : decode cX9_alike 40 = .ok (.iload 5, 2) := by decide +kernel
theorem dX9_alike_42 : decode cX9_alike 42 = .ok (.aload_n 0, 1) := by decide +kernel
theorem dX9_alike_43 : decode cX9_alike 43 = .ok (.getfield 30, 3) := by decide +kernel
theorem dX9_alike_46 : decode cX9_alike 46 = .ok (.getfield 70, 3) := by decide +kernel
theorem dX9_alike_49 : decode cX9_alike 49 = .ok (.if_icmp .ge 65, 3) := by decide +kernel
theorem dX9_alike_52 : decode cX9_alike 52 = .ok (.aload_n 0, 1) := by decide +kernel
theorem dX9_alike_53 : decode cX9_alike 53 = .ok (.getfield 23, 3) := by decide +kernel
theorem dX9_alike_56 : decode cX9_alike 56 = .ok (.aload_n 0, 1) := by decide +kernel
theorem dX9_alike_57 : decode cX9_alike 57 = .ok (.getfield 30, 3) := by decide +kernel
theorem dX9_alike_60 : decode cX9_alike 60 = .ok (.getfield 81, 3) := by decide +kernel
theorem dX9_alike_63 : decode cX9_alike 63 = .ok (.iload 4, 2) := by decide +kernel
theorem dX9_alike_65 : decode cX9_alike 65 = .ok (.aaload, 1) := by decide +kernel
theorem dX9_alike_66 : decode cX9_alike 66 = .ok (.getfield 96, 3) := by decide +kernel
theorem dX9_alike_69 : decode cX9_alike 69 = .ok (.aload_n 0, 1) := by decide +kernel
theorem dX9_alike_70 : decode cX9_alike 70 = .ok (.getfield 30, 3) := by decide +kernel
theorem dX9_alike_73 : decode cX9_alike 73 = .ok (.getfield 81, 3) := by decide +kernel
theorem dX9_alike_76 : decode cX9_alike 76 = .ok (.iload 5, 2) := by decide +kernel
theorem dX9_alike_78 : decode cX9_alike 78 = .ok (.aaload, 1) := by decide +kernel
theorem dX9_alike_79 : decode cX9_alike 79 = .ok (.getfield 96, 3) := by decide +kernel
theorem dX9_alike_82 : decode cX9_alike 82 = .ok (.invokevirtual 195, 3) := by decide +kernel
theorem dX9_alike_85 : decode cX9_alike 85 = .ok (.ifCond .eq 23, 3) := by decide +kernel
theorem dX9_alike_88 : decode cX9_alike 88 = .ok (.iinc 2 1, 3) := by decide +kernel
theorem dX9_alike_91 : decode cX9_alike 91 = .ok (.iload_n 3, 1) := by decide +kernel
theorem dX9_alike_92 : decode cX9_alike 92 = .ok (.ifCond .ge 14, 3) := by decide +kernel
theorem dX9_alike_95 : decode cX9_alike 95 = .ok (.bipush 10, 2) := by decide +kernel
theorem dX9_alike_97 : decode cX9_alike 97 = .ok (.iload 4, 2) := by decide +kernel
theorem dX9_alike_99 : decode cX9_alike 99 = .ok (.imul, 1) := by decide +kernel
theorem dX9_alike_100 : decode cX9_alike 100 = .ok (.iload 5, 2) := by decide +kernel
theorem dX9_alike_102 : decode cX9_alike 102 = .ok (.iadd, 1) := by decide +kernel
theorem dX9_alike_103 : decode cX9_alike 103 = .ok (.goto 4, 3) := by decide +kernel
theorem dX9_alike_106 : decode cX9_alike 106 = .ok (.iload_n 3, 1) := by decide +kernel
theorem dX9_alike_107 : decode cX9_alike 107 = .ok (.istore_n 3, 1) := by decide +kernel
theorem dX9_alike_108 : decode cX9_alike 108 = .ok (.iinc 5 1, 3) := by decide +kernel
theorem dX9_alike_111 : decode cX9_alike 111 = .ok (.goto (-71), 3) := by decide +kernel
theorem dX9_alike_114 : decode cX9_alike 114 = .ok (.iinc 4 1, 3) := by decide +kernel
theorem dX9_alike_117 : decode cX9_alike 117 = .ok (.goto (-95), 3) := by decide +kernel
theorem dX9_alike_120 : decode cX9_alike 120 = .ok (.iload_n 1, 1) := by decide +kernel
theorem dX9_alike_121 : decode cX9_alike 121 = .ok (.ifCond .ne 7, 3) := by decide +kernel
theorem dX9_alike_124 : decode cX9_alike 124 = .ok (.iload_n 2, 1) := by decide +kernel
theorem dX9_alike_125 : decode cX9_alike 125 = .ok (.goto 8, 3) := by decide +kernel
theorem dX9_alike_128 : decode cX9_alike 128 = .ok (.aload_n 0, 1) := by decide +kernel
theorem dX9_alike_129 : decode cX9_alike 129 = .ok (.iload_n 3, 1) := by decide +kernel
theorem dX9_alike_130 : decode cX9_alike 130 = .ok (.invokevirtual 179, 3) := by decide +kernel
theorem dX9_alike_133 : decode cX9_alike 133 = .ok (.ireturn, 1) := by decide +kernel
theorem dX9_then_0 : decode cX9_then 0 = .ok (.iload_n 1, 1) := by decide +kernel
theorem dX9_then_1 : decode cX9_then 1 = .ok (.iconst 0, 1) := by decide +kernel
theorem dX9_then_2 : decode cX9_then 2 = .ok (.bipush 60, 2) := by decide +kernel
theorem dX9_then_4 : decode cX9_then 4 = .ok (.invokestatic 62, 3) := by decide +kernel
theorem dX9_then_7 : decode cX9_then 7 = .ok (.ifCond .eq 23, 3) := by decide +kernel
theorem dX9_then_10 : decode cX9_then 10 = .ok (.aload_n 0, 1) := by decide +kernel
theorem dX9_then_11 : decode cX9_then 11 = .ok (.getfield 30, 3) := by decide +kernel
theorem dX9_then_14 : decode cX9_then 14 = .ok (.iload_n 2, 1) := by decide +kernel
theorem dX9_then_15 : decode cX9_then 15 = .ok (.invokevirtual 77, 3) := by decide +kernel
theorem dX9_then_18 : decode cX9_then 18 = .ok (.ifCond .eq 12, 3) := by decide +kernel
theorem dX9_then_21 : decode cX9_then 21 = .ok (.iload_n 3, 1) := by decide +kernel
theorem dX9_then_22 : decode cX9_then 22 = .ok (.iconst 0, 1) := by decide +kernel
theorem dX9_then_23 : decode cX9_then 23 = .ok (.iconst 1, 1) := by decide +kernel
theorem dX9_then_24 : decode cX9_then 24 = .ok (.invokestatic 62, 3) := by decide +kernel
theorem dX9_then_27 : decode cX9_then 27 = .ok (.ifCond .ne 9, 3) := by decide +kernel
theorem dX9_then_30 : decode cX9_then 30 = .ok (.aload_n 0, 1) := by decide +kernel
theorem dX9_then_31 : decode cX9_then 31 = .ok (.iconst 1, 1) := by decide +kernel
theorem dX9_then_32 : decode cX9_then 32 = .ok (.invokevirtual 66, 3) := by decide +kernel
theorem dX9_then_35 : decode cX9_then 35 = .ok (.ireturn, 1) := by decide +kernel
theorem dX9_then_36 : decode cX9_then 36 = .ok (.iload_n 3, 1) := by decide +kernel
theorem dX9_then_37 : decode cX9_then 37 = .ok (.ifCond .ne 28, 3) := by decide +kernel
theorem dX9_then_40 : decode cX9_then 40 = .ok (.aload_n 0, 1) := by decide +kernel
theorem dX9_then_41 : decode cX9_then 41 = .ok (.getfield 40, 3) := by decide +kernel
theorem dX9_then_44 : decode cX9_then 44 = .ok (.aload_n 0, 1) := by decide +kernel
theorem dX9_then_45 : decode cX9_then 45 = .ok (.getfield 30, 3) := by decide +kernel
theorem dX9_then_48 : decode cX9_then 48 = .ok (.aload_n 0, 1) := by decide +kernel
theorem dX9_then_49 : decode cX9_then 49 = .ok (.getfield 23, 3) := by decide +kernel
theorem dX9_then_52 : decode cX9_then 52 = .ok (.iload_n 2, 1) := by decide +kernel
theorem dX9_then_53 : decode cX9_then 53 = .ok (.aload_n 0, 1) := by decide +kernel
theorem dX9_then_54 : decode cX9_then 54 = .ok (.getfield 30, 3) := by decide +kernel
theorem dX9_then_57 : decode cX9_then 57 = .ok (.getfield 123, 3) := by decide +kernel
theorem dX9_then_60 : decode cX9_then 60 = .ok (.iload_n 1, 1) := by decide +kernel
theorem dX9_then_61 : decode cX9_then 61 = .ok (.invokevirtual 198, 3) := by decide +kernel
theorem dX9_then_64 : decode cX9_then 64 = .ok (.ireturn, 1) := by decide +kernel
theorem dX9_then_65 : decode cX9_then 65 = .ok (.aload_n 0, 1) := by decide +kernel
theorem dX9_then_66 : decode cX9_then 66 = .ok (.getfield 40, 3) := by decide +kernel
theorem dX9_then_69 : decode cX9_then 69 = .ok (.aload_n 0, 1) := by decide +kernel
theorem dX9_then_70 : decode cX9_then 70 = .ok (.getfield 30, 3) := by decide +kernel
theorem dX9_then_73 : decode cX9_then 73 = .ok (.aload_n 0, 1) := by decide +kernel
theorem dX9_then_74 : decode cX9_then 74 = .ok (.getfield 23, 3) := by decide +kernel
theorem dX9_then_77 : decode cX9_then 77 = .ok (.iload_n 2, 1) := by decide +kernel
theorem dX9_then_78 : decode cX9_then 78 = .ok (.aload_n 0, 1) := by decide +kernel
theorem dX9_then_79 : decode cX9_then 79 = .ok (.getfield 30, 3) := by decide +kernel
theorem dX9_then_82 : decode cX9_then 82 = .ok (.getfield 81, 3) := by decide +kernel
theorem dX9_then_85 : decode cX9_then 85 = .ok (.iload_n 2, 1) := by decide +kernel
theorem dX9_then_86 : decode cX9_then 86 = .ok (.aaload, 1) := by decide +kernel
theorem dX9_then_87 : decode cX9_then 87 = .ok (.getfield 99, 3) := by decide +kernel
theorem dX9_then_90 : decode cX9_then 90 = .ok (.iload_n 1, 1) := by decide +kernel
theorem dX9_then_91 : decode cX9_then 91 = .ok (.invokevirtual 202, 3) := by decide +kernel
theorem dX9_then_94 : decode cX9_then 94 = .ok (.ireturn, 1) := by decide +kernel
theorem dX9_first_0 : decode cX9_first 0 = .ok (.iload_n 1, 1) := by decide +kernel
theorem dX9_first_1 : decode cX9_first 1 = .ok (.iconst 0, 1) := by decide +kernel
theorem dX9_first_2 : decode cX9_first 2 = .ok (.iconst 1, 1) := by decide +kernel
theorem dX9_first_3 : decode cX9_first 3 = .ok (.invokestatic 62, 3) := by decide +kernel
theorem dX9_first_6 : decode cX9_first 6 = .ok (.ifCond .ne 9, 3) := by decide +kernel
theorem dX9_first_9 : decode cX9_first 9 = .ok (.aload_n 0, 1) := by decide +kernel
theorem dX9_first_10 : decode cX9_first 10 = .ok (.iconst 1, 1) := by decide +kernel
theorem dX9_first_11 : decode cX9_first 11 = .ok (.invokevirtual 66, 3) := by decide +kernel
theorem dX9_first_14 : decode cX9_first 14 = .ok (.ireturn, 1) := by decide +kernel
theorem dX9_first_15 : decode cX9_first 15 = .ok (.aload_n 0, 1) := by decide +kernel
theorem dX9_first_16 : decode cX9_first 16 = .ok (.getfield 40, 3) := by decide +kernel
theorem dX9_first_19 : decode cX9_first 19 = .ok (.aload_n 0, 1) := by decide +kernel
theorem dX9_first_20 : decode cX9_first 20 = .ok (.getfield 30, 3) := by decide +kernel
theorem dX9_first_23 : decode cX9_first 23 = .ok (.aload_n 0, 1) := by decide +kernel
theorem dX9_first_24 : decode cX9_first 24 = .ok (.getfield 23, 3) := by decide +kernel
theorem dX9_first_27 : decode cX9_first 27 = .ok (.invokevirtual 206, 3) := by decide +kernel
theorem dX9_first_30 : decode cX9_first 30 = .ok (.ifCond .ne 9, 3) := by decide +kernel
theorem dX9_first_33 : decode cX9_first 33 = .ok (.aload_n 0, 1) := by decide +kernel
theorem dX9_first_34 : decode cX9_first 34 = .ok (.iconst 2, 1) := by decide +kernel
theorem dX9_first_35 : decode cX9_first 35 = .ok (.invokevirtual 66, 3) := by decide +kernel
theorem dX9_first_38 : decode cX9_first 38 = .ok (.ireturn, 1) := by decide +kernel
theorem dX9_first_39 : decode cX9_first 39 = .ok (.iload_n 1, 1) := by decide +kernel
theorem dX9_first_40 : decode cX9_first 40 = .ok (.ifCond .ne 13, 3) := by decide +kernel
theorem dX9_first_43 : decode cX9_first 43 = .ok (.aload_n 0, 1) := by decide +kernel
theorem dX9_first_44 : decode cX9_first 44 = .ok (.getfield 40, 3) := by decide +kernel
theorem dX9_first_47 : decode cX9_first 47 = .ok (.getfield 210, 3) := by decide +kernel
theorem dX9_first_50 : decode cX9_first 50 = .ok (.goto 10, 3) := by decide +kernel
theorem dX9_first_53 : decode cX9_first 53 = .ok (.aload_n 0, 1) := by decide +kernel
theorem dX9_first_54 : decode cX9_first 54 = .ok (.getfield 40, 3) := by decide +kernel
theorem dX9_first_57 : decode cX9_first 57 = .ok (.getfield 213, 3) := by decide +kernel
theorem dX9_first_60 : decode cX9_first 60 = .ok (.ireturn, 1) := by decide +kernel
theorem dX9_best_0 : decode cX9_best 0 = .ok (.aload_n 0, 1) := by decide +kernel
theorem dX9_best_1 : decode cX9_best 1 = .ok (.getfield 30, 3) := by decide +kernel
theorem dX9_best_4 : decode cX9_best 4 = .ok (.iload_n 1, 1) := by decide +kernel
theorem dX9_best_5 : decode cX9_best 5 = .ok (.invokevirtual 77, 3) := by decide +kernel
theorem dX9_best_8 : decode cX9_best 8 = .ok (.ifCond .eq 22, 3) := by decide +kernel
theorem dX9_best_11 : decode cX9_best 11 = .ok (.iload_n 2, 1) := by decide +kernel
theorem dX9_best_12 : decode cX9_best 12 = .ok (.iconst 0, 1) := by decide +kernel
theorem dX9_best_13 : decode cX9_best 13 = .ok (.bipush 60, 2) := by decide +kernel
theorem dX9_best_15 : decode cX9_best 15 = .ok (.invokestatic 62, 3) := by decide +kernel
theorem dX9_best_18 : decode cX9_best 18 = .ok (.ifCond .eq 12, 3) := by decide +kernel
theorem dX9_best_21 : decode cX9_best 21 = .ok (.iload_n 3, 1) := by decide +kernel
theorem dX9_best_22 : decode cX9_best 22 = .ok (.iconst 0, 1) := by decide +kernel
theorem dX9_best_23 : decode cX9_best 23 = .ok (.iconst 1, 1) := by decide +kernel
theorem dX9_best_24 : decode cX9_best 24 = .ok (.invokestatic 62, 3) := by decide +kernel
theorem dX9_best_27 : decode cX9_best 27 = .ok (.ifCond .ne 9, 3) := by decide +kernel
theorem dX9_best_30 : decode cX9_best 30 = .ok (.aload_n 0, 1) := by decide +kernel
theorem dX9_best_31 : decode cX9_best 31 = .ok (.iconst 1, 1) := by decide +kernel
theorem dX9_best_32 : decode cX9_best 32 = .ok (.invokevirtual 66, 3) := by decide +kernel
theorem dX9_best_35 : decode cX9_best 35 = .ok (.ireturn, 1) := by decide +kernel
theorem dX9_best_36 : decode cX9_best 36 = .ok (.aload_n 0, 1) := by decide +kernel
theorem dX9_best_37 : decode cX9_best 37 = .ok (.getfield 40, 3) := by decide +kernel
theorem dX9_best_40 : decode cX9_best 40 = .ok (.aload_n 0, 1) := by decide +kernel
theorem dX9_best_41 : decode cX9_best 41 = .ok (.getfield 30, 3) := by decide +kernel
theorem dX9_best_44 : decode cX9_best 44 = .ok (.aload_n 0, 1) := by decide +kernel
theorem dX9_best_45 : decode cX9_best 45 = .ok (.getfield 23, 3) := by decide +kernel
theorem dX9_best_48 : decode cX9_best 48 = .ok (.iload_n 1, 1) := by decide +kernel
theorem dX9_best_49 : decode cX9_best 49 = .ok (.iload_n 2, 1) := by decide +kernel
theorem dX9_best_50 : decode cX9_best 50 = .ok (.invokevirtual 216, 3) := by decide +kernel
theorem dX9_best_53 : decode cX9_best 53 = .ok (.ifCond .ne 9, 3) := by decide +kernel
theorem dX9_best_56 : decode cX9_best 56 = .ok (.aload_n 0, 1) := by decide +kernel
theorem dX9_best_57 : decode cX9_best 57 = .ok (.iconst 2, 1) := by decide +kernel
theorem dX9_best_58 : decode cX9_best 58 = .ok (.invokevirtual 66, 3) := by decide +kernel
theorem dX9_best_61 : decode cX9_best 61 = .ok (.ireturn, 1) := by decide +kernel
theorem dX9_best_62 : decode cX9_best 62 = .ok (.iload_n 3, 1) := by decide +kernel
theorem dX9_best_63 : decode cX9_best 63 = .ok (.ifCond .ne 13, 3) := by decide +kernel
theorem dX9_best_66 : decode cX9_best 66 = .ok (.aload_n 0, 1) := by decide +kernel
theorem dX9_best_67 : decode cX9_best 67 = .ok (.getfield 40, 3) := by decide +kernel
theorem dX9_best_70 : decode cX9_best 70 = .ok (.getfield 220, 3) := by decide +kernel
theorem dX9_best_73 : decode cX9_best 73 = .ok (.goto 10, 3) := by decide +kernel
theorem dX9_best_76 : decode cX9_best 76 = .ok (.aload_n 0, 1) := by decide +kernel
theorem dX9_best_77 : decode cX9_best 77 = .ok (.getfield 40, 3) := by decide +kernel
theorem dX9_best_80 : decode cX9_best 80 = .ok (.getfield 223, 3) := by decide +kernel
theorem dX9_best_83 : decode cX9_best 83 = .ok (.ireturn, 1) := by decide +kernel
theorem dX9_fits_0 : decode cX9_fits 0 = .ok (.iload_n 1, 1) := by decide +kernel
theorem dX9_fits_1 : decode cX9_fits 1 = .ok (.iconst 0, 1) := by decide +kernel
theorem dX9_fits_2 : decode cX9_fits 2 = .ok (.iconst 3, 1) := by decide +kernel
theorem dX9_fits_3 : decode cX9_fits 3 = .ok (.invokestatic 62, 3) := by decide +kernel
theorem dX9_fits_6 : decode cX9_fits 6 = .ok (.ifCond .eq 12, 3) := by decide +kernel
theorem dX9_fits_9 : decode cX9_fits 9 = .ok (.iload_n 2, 1) := by decide +kernel
theorem dX9_fits_10 : decode cX9_fits 10 = .ok (.iconst 0, 1) := by decide +kernel
theorem dX9_fits_11 : decode cX9_fits 11 = .ok (.iconst 1, 1) := by decide +kernel
theorem dX9_fits_12 : decode cX9_fits 12 = .ok (.invokestatic 62, 3) := by decide +kernel
theorem dX9_fits_15 : decode cX9_fits 15 = .ok (.ifCond .ne 9, 3) := by decide +kernel
theorem dX9_fits_18 : decode cX9_fits 18 = .ok (.aload_n 0, 1) := by decide +kernel
theorem dX9_fits_19 : decode cX9_fits 19 = .ok (.iconst 1, 1) := by decide +kernel
theorem dX9_fits_20 : decode cX9_fits 20 = .ok (.invokevirtual 66, 3) := by decide +kernel
theorem dX9_fits_23 : decode cX9_fits 23 = .ok (.ireturn, 1) := by decide +kernel
theorem dX9_fits_24 : decode cX9_fits 24 = .ok (.aload_n 0, 1) := by decide +kernel
theorem dX9_fits_25 : decode cX9_fits 25 = .ok (.getfield 15, 3) := by decide +kernel
theorem dX9_fits_28 : decode cX9_fits 28 = .ok (.iload_n 1, 1) := by decide +kernel
theorem dX9_fits_29 : decode cX9_fits 29 = .ok (.aaload, 1) := by decide +kernel
theorem dX9_fits_30 : decode cX9_fits 30 = .ok (.astore_n 3, 1) := by decide +kernel
theorem dX9_fits_31 : decode cX9_fits 31 = .ok (.aload_n 3, 1) := by decide +kernel
theorem dX9_fits_32 : decode cX9_fits 32 = .ok (.invokevirtual 226, 3) := by decide +kernel
theorem dX9_fits_35 : decode cX9_fits 35 = .ok (.ifCond .ne 40, 3) := by decide +kernel
theorem dX9_fits_38 : decode cX9_fits 38 = .ok (.aload_n 3, 1) := by decide +kernel
theorem dX9_fits_39 : decode cX9_fits 39 = .ok (.getfield 230, 3) := by decide +kernel
theorem dX9_fits_42 : decode cX9_fits 42 = .ok (.aload_n 0, 1) := by decide +kernel
theorem dX9_fits_43 : decode cX9_fits 43 = .ok (.getfield 30, 3) := by decide +kernel
theorem dX9_fits_46 : decode cX9_fits 46 = .ok (.getfield 70, 3) := by decide +kernel
theorem dX9_fits_49 : decode cX9_fits 49 = .ok (.iconst 1, 1) := by decide +kernel
theorem dX9_fits_50 : decode cX9_fits 50 = .ok (.iadd, 1) := by decide +kernel
theorem dX9_fits_51 : decode cX9_fits 51 = .ok (.if_icmp .ne 24, 3) := by decide +kernel
theorem dX9_fits_54 : decode cX9_fits 54 = .ok (.aload_n 3, 1) := by decide +kernel
theorem dX9_fits_55 : decode cX9_fits 55 = .ok (.getfield 231, 3) := by decide +kernel
theorem dX9_fits_58 : decode cX9_fits 58 = .ok (.aload_n 0, 1) := by decide +kernel
theorem dX9_fits_59 : decode cX9_fits 59 = .ok (.getfield 30, 3) := by decide +kernel
theorem dX9_fits_62 : decode cX9_fits 62 = .ok (.getfield 70, 3) := by decide +kernel
theorem dX9_fits_65 : decode cX9_fits 65 = .ok (.iaload, 1) := by decide +kernel
theorem dX9_fits_66 : decode cX9_fits 66 = .ok (.iconst 0, 1) := by decide +kernel
theorem dX9_fits_67 : decode cX9_fits 67 = .ok (.bipush 60, 2) := by decide +kernel
theorem dX9_fits_69 : decode cX9_fits 69 = .ok (.invokestatic 62, 3) := by decide +kernel
theorem dX9_fits_72 : decode cX9_fits 72 = .ok (.ifCond .ne 9, 3) := by decide +kernel
theorem dX9_fits_75 : decode cX9_fits 75 = .ok (.aload_n 0, 1) := by decide +kernel
theorem dX9_fits_76 : decode cX9_fits 76 = .ok (.iconst 2, 1) := by decide +kernel
theorem dX9_fits_77 : decode cX9_fits 77 = .ok (.invokevirtual 66, 3) := by decide +kernel
theorem dX9_fits_80 : decode cX9_fits 80 = .ok (.ireturn, 1) := by decide +kernel
theorem dX9_fits_81 : decode cX9_fits 81 = .ok (.aload_n 0, 1) := by decide +kernel
theorem dX9_fits_82 : decode cX9_fits 82 = .ok (.getfield 40, 3) := by decide +kernel
theorem dX9_fits_85 : decode cX9_fits 85 = .ok (.aload_n 0, 1) := by decide +kernel
theorem dX9_fits_86 : decode cX9_fits 86 = .ok (.getfield 30, 3) := by decide +kernel
theorem dX9_fits_89 : decode cX9_fits 89 = .ok (.aload_n 0, 1) := by decide +kernel
theorem dX9_fits_90 : decode cX9_fits 90 = .ok (.getfield 23, 3) := by decide +kernel
theorem dX9_fits_93 : decode cX9_fits 93 = .ok (.aload_n 3, 1) := by decide +kernel
theorem dX9_fits_94 : decode cX9_fits 94 = .ok (.getfield 231, 3) := by decide +kernel
theorem dX9_fits_97 : decode cX9_fits 97 = .ok (.aload_n 3, 1) := by decide +kernel
theorem dX9_fits_98 : decode cX9_fits 98 = .ok (.getfield 231, 3) := by decide +kernel
theorem dX9_fits_101 : decode cX9_fits 101 = .ok (.aload_n 0, 1) := by decide +kernel
theorem dX9_fits_102 : decode cX9_fits 102 = .ok (.getfield 30, 3) := by decide +kernel
theorem dX9_fits_105 : decode cX9_fits 105 = .ok (.getfield 70, 3) := by decide +kernel
theorem dX9_fits_108 : decode cX9_fits 108 = .ok (.iaload, 1) := by decide +kernel
theorem dX9_fits_109 : decode cX9_fits 109 = .ok (.invokevirtual 234, 3) := by decide +kernel
theorem dX9_fits_112 : decode cX9_fits 112 = .ok (.istore 4, 2) := by decide +kernel
theorem dX9_fits_114 : decode cX9_fits 114 = .ok (.iload_n 2, 1) := by decide +kernel
theorem dX9_fits_115 : decode cX9_fits 115 = .ok (.ifCond .ne 8, 3) := by decide +kernel
theorem dX9_fits_118 : decode cX9_fits 118 = .ok (.iload 4, 2) := by decide +kernel
theorem dX9_fits_120 : decode cX9_fits 120 = .ok (.goto 8, 3) := by decide +kernel
theorem dX9_fits_123 : decode cX9_fits 123 = .ok (.iload 4, 2) := by decide +kernel
theorem dX9_fits_125 : decode cX9_fits 125 = .ok (.invokestatic 238, 3) := by decide +kernel
theorem dX9_fits_128 : decode cX9_fits 128 = .ok (.ireturn, 1) := by decide +kernel
theorem dX9_owed_0 : decode cX9_owed 0 = .ok (.iload_n 1, 1) := by decide +kernel
theorem dX9_owed_1 : decode cX9_owed 1 = .ok (.iconst 0, 1) := by decide +kernel
theorem dX9_owed_2 : decode cX9_owed 2 = .ok (.bipush 60, 2) := by decide +kernel
theorem dX9_owed_4 : decode cX9_owed 4 = .ok (.invokestatic 62, 3) := by decide +kernel
theorem dX9_owed_7 : decode cX9_owed 7 = .ok (.ifCond .ne 9, 3) := by decide +kernel
theorem dX9_owed_10 : decode cX9_owed 10 = .ok (.aload_n 0, 1) := by decide +kernel
theorem dX9_owed_11 : decode cX9_owed 11 = .ok (.iconst 1, 1) := by decide +kernel
theorem dX9_owed_12 : decode cX9_owed 12 = .ok (.invokevirtual 66, 3) := by decide +kernel
theorem dX9_owed_15 : decode cX9_owed 15 = .ok (.ireturn, 1) := by decide +kernel
theorem dX9_owed_16 : decode cX9_owed 16 = .ok (.aload_n 0, 1) := by decide +kernel
theorem dX9_owed_17 : decode cX9_owed 17 = .ok (.getfield 40, 3) := by decide +kernel
theorem dX9_owed_20 : decode cX9_owed 20 = .ok (.aload_n 0, 1) := by decide +kernel
theorem dX9_owed_21 : decode cX9_owed 21 = .ok (.getfield 30, 3) := by decide +kernel
theorem dX9_owed_24 : decode cX9_owed 24 = .ok (.aload_n 0, 1) := by decide +kernel
theorem dX9_owed_25 : decode cX9_owed 25 = .ok (.getfield 23, 3) := by decide +kernel
theorem dX9_owed_28 : decode cX9_owed 28 = .ok (.iload_n 1, 1) := by decide +kernel
theorem dX9_owed_29 : decode cX9_owed 29 = .ok (.invokevirtual 243, 3) := by decide +kernel
theorem dX9_owed_32 : decode cX9_owed 32 = .ok (.ireturn, 1) := by decide +kernel
theorem dX9_debtor_0 : decode cX9_debtor 0 = .ok (.iload_n 1, 1) := by decide +kernel
theorem dX9_debtor_1 : decode cX9_debtor 1 = .ok (.iconst 0, 1) := by decide +kernel
theorem dX9_debtor_2 : decode cX9_debtor 2 = .ok (.bipush 30, 2) := by decide +kernel
theorem dX9_debtor_4 : decode cX9_debtor 4 = .ok (.invokestatic 62, 3) := by decide +kernel
theorem dX9_debtor_7 : decode cX9_debtor 7 = .ok (.ifCond .ne 9, 3) := by decide +kernel
theorem dX9_debtor_10 : decode cX9_debtor 10 = .ok (.aload_n 0, 1) := by decide +kernel
theorem dX9_debtor_11 : decode cX9_debtor 11 = .ok (.iconst 1, 1) := by decide +kernel
theorem dX9_debtor_12 : decode cX9_debtor 12 = .ok (.invokevirtual 66, 3) := by decide +kernel
theorem dX9_debtor_15 : decode cX9_debtor 15 = .ok (.ireturn, 1) := by decide +kernel
theorem dX9_debtor_16 : decode cX9_debtor 16 = .ok (.aload_n 0, 1) := by decide +kernel
theorem dX9_debtor_17 : decode cX9_debtor 17 = .ok (.aload_n 0, 1) := by decide +kernel
theorem dX9_debtor_18 : decode cX9_debtor 18 = .ok (.getfield 40, 3) := by decide +kernel
theorem dX9_debtor_21 : decode cX9_debtor 21 = .ok (.aload_n 0, 1) := by decide +kernel
theorem dX9_debtor_22 : decode cX9_debtor 22 = .ok (.getfield 30, 3) := by decide +kernel
theorem dX9_debtor_25 : decode cX9_debtor 25 = .ok (.aload_n 0, 1) := by decide +kernel
theorem dX9_debtor_26 : decode cX9_debtor 26 = .ok (.getfield 23, 3) := by decide +kernel
theorem dX9_debtor_29 : decode cX9_debtor 29 = .ok (.iload_n 1, 1) := by decide +kernel
theorem dX9_debtor_30 : decode cX9_debtor 30 = .ok (.invokevirtual 247, 3) := by decide +kernel
theorem dX9_debtor_33 : decode cX9_debtor 33 = .ok (.invokevirtual 179, 3) := by decide +kernel
theorem dX9_debtor_36 : decode cX9_debtor 36 = .ok (.ireturn, 1) := by decide +kernel
theorem dX9_odds_0 : decode cX9_odds 0 = .ok (.aload_n 0, 1) := by decide +kernel
theorem dX9_odds_1 : decode cX9_odds 1 = .ok (.getfield 30, 3) := by decide +kernel
theorem dX9_odds_4 : decode cX9_odds 4 = .ok (.iload_n 1, 1) := by decide +kernel
theorem dX9_odds_5 : decode cX9_odds 5 = .ok (.invokevirtual 77, 3) := by decide +kernel
theorem dX9_odds_8 : decode cX9_odds 8 = .ok (.ifCond .eq 12, 3) := by decide +kernel
theorem dX9_odds_11 : decode cX9_odds 11 = .ok (.iload_n 2, 1) := by decide +kernel
theorem dX9_odds_12 : decode cX9_odds 12 = .ok (.iconst 0, 1) := by decide +kernel
theorem dX9_odds_13 : decode cX9_odds 13 = .ok (.iconst 1, 1) := by decide +kernel
theorem dX9_odds_14 : decode cX9_odds 14 = .ok (.invokestatic 62, 3) := by decide +kernel
theorem dX9_odds_17 : decode cX9_odds 17 = .ok (.ifCond .ne 9, 3) := by decide +kernel
theorem dX9_odds_20 : decode cX9_odds 20 = .ok (.aload_n 0, 1) := by decide +kernel
theorem dX9_odds_21 : decode cX9_odds 21 = .ok (.iconst 1, 1) := by decide +kernel
theorem dX9_odds_22 : decode cX9_odds 22 = .ok (.invokevirtual 66, 3) := by decide +kernel
theorem dX9_odds_25 : decode cX9_odds 25 = .ok (.ireturn, 1) := by decide +kernel
theorem dX9_odds_26 : decode cX9_odds 26 = .ok (.aload_n 0, 1) := by decide +kernel
theorem dX9_odds_27 : decode cX9_odds 27 = .ok (.getfield 30, 3) := by decide +kernel
theorem dX9_odds_30 : decode cX9_odds 30 = .ok (.getfield 81, 3) := by decide +kernel
theorem dX9_odds_33 : decode cX9_odds 33 = .ok (.iload_n 1, 1) := by decide +kernel
theorem dX9_odds_34 : decode cX9_odds 34 = .ok (.aaload, 1) := by decide +kernel
theorem dX9_odds_35 : decode cX9_odds 35 = .ok (.astore_n 3, 1) := by decide +kernel
theorem dX9_odds_36 : decode cX9_odds 36 = .ok (.aload_n 0, 1) := by decide +kernel
theorem dX9_odds_37 : decode cX9_odds 37 = .ok (.getfield 23, 3) := by decide +kernel
theorem dX9_odds_40 : decode cX9_odds 40 = .ok (.aload_n 3, 1) := by decide +kernel
theorem dX9_odds_41 : decode cX9_odds 41 = .ok (.invokevirtual 250, 3) := by decide +kernel
theorem dX9_odds_44 : decode cX9_odds 44 = .ok (.istore 4, 2) := by decide +kernel
theorem dX9_odds_46 : decode cX9_odds 46 = .ok (.aload_n 0, 1) := by decide +kernel
theorem dX9_odds_47 : decode cX9_odds 47 = .ok (.getfield 23, 3) := by decide +kernel
theorem dX9_odds_50 : decode cX9_odds 50 = .ok (.aload_n 3, 1) := by decide +kernel
theorem dX9_odds_51 : decode cX9_odds 51 = .ok (.invokevirtual 254, 3) := by decide +kernel
theorem dX9_odds_54 : decode cX9_odds 54 = .ok (.istore 5, 2) := by decide +kernel
theorem dX9_odds_56 : decode cX9_odds 56 = .ok (.iload 4, 2) := by decide +kernel
theorem dX9_odds_58 : decode cX9_odds 58 = .ok (.iload 5, 2) := by decide +kernel
theorem dX9_odds_60 : decode cX9_odds 60 = .ok (.invokestatic 257, 3) := by decide +kernel
theorem dX9_odds_63 : decode cX9_odds 63 = .ok (.istore 6, 2) := by decide +kernel
theorem dX9_odds_65 : decode cX9_odds 65 = .ok (.iload 6, 2) := by decide +kernel
theorem dX9_odds_67 : decode cX9_odds 67 = .ok (.ifCond .ne 5, 3) := by decide +kernel
theorem dX9_odds_70 : decode cX9_odds 70 = .ok (.iload_n 2, 1) := by decide +kernel
theorem dX9_odds_71 : decode cX9_odds 71 = .ok (.ireturn, 1) := by decide +kernel
theorem dX9_odds_72 : decode cX9_odds 72 = .ok (.iload_n 2, 1) := by decide +kernel
theorem dX9_odds_73 : decode cX9_odds 73 = .ok (.ifCond .ne 11, 3) := by decide +kernel
theorem dX9_odds_76 : decode cX9_odds 76 = .ok (.iload 4, 2) := by decide +kernel
theorem dX9_odds_78 : decode cX9_odds 78 = .ok (.iload 6, 2) := by decide +kernel
theorem dX9_odds_80 : decode cX9_odds 80 = .ok (.idiv, 1) := by decide +kernel
theorem dX9_odds_81 : decode cX9_odds 81 = .ok (.goto 8, 3) := by decide +kernel
theorem dX9_odds_84 : decode cX9_odds 84 = .ok (.iload 5, 2) := by decide +kernel
theorem dX9_odds_86 : decode cX9_odds 86 = .ok (.iload 6, 2) := by decide +kernel
theorem dX9_odds_88 : decode cX9_odds 88 = .ok (.idiv, 1) := by decide +kernel
theorem dX9_odds_89 : decode cX9_odds 89 = .ok (.ireturn, 1) := by decide +kernel
theorem dX9_seed_0 : decode cX9_seed 0 = .ok (.aload_n 0, 1) := by decide +kernel
theorem dX9_seed_1 : decode cX9_seed 1 = .ok (.getfield 30, 3) := by decide +kernel
theorem dX9_seed_4 : decode cX9_seed 4 = .ok (.getfield 260, 3) := by decide +kernel
theorem dX9_seed_7 : decode cX9_seed 7 = .ok (.istore_n 2, 1) := by decide +kernel
theorem dX9_seed_8 : decode cX9_seed 8 = .ok (.aload_n 0, 1) := by decide +kernel
theorem dX9_seed_9 : decode cX9_seed 9 = .ok (.getfield 30, 3) := by decide +kernel
theorem dX9_seed_12 : decode cX9_seed 12 = .ok (.iload_n 1, 1) := by decide +kernel
theorem dX9_seed_13 : decode cX9_seed 13 = .ok (.putfield 260, 3) := by decide +kernel
theorem dX9_seed_16 : decode cX9_seed 16 = .ok (.iload_n 2, 1) := by decide +kernel
theorem dX9_seed_17 : decode cX9_seed 17 = .ok (.ireturn, 1) := by decide +kernel
theorem dX9_voice_0 : decode cX9_voice 0 = .ok (.aload_n 0, 1) := by decide +kernel
theorem dX9_voice_1 : decode cX9_voice 1 = .ok (.getfield 30, 3) := by decide +kernel
theorem dX9_voice_4 : decode cX9_voice 4 = .ok (.iload_n 1, 1) := by decide +kernel
theorem dX9_voice_5 : decode cX9_voice 5 = .ok (.invokevirtual 77, 3) := by decide +kernel
theorem dX9_voice_8 : decode cX9_voice 8 = .ok (.ifCond .eq 12, 3) := by decide +kernel
theorem dX9_voice_11 : decode cX9_voice 11 = .ok (.iload_n 2, 1) := by decide +kernel
theorem dX9_voice_12 : decode cX9_voice 12 = .ok (.iconst 0, 1) := by decide +kernel
theorem dX9_voice_13 : decode cX9_voice 13 = .ok (.iconst 3, 1) := by decide +kernel
theorem dX9_voice_14 : decode cX9_voice 14 = .ok (.invokestatic 62, 3) := by decide +kernel
theorem dX9_voice_17 : decode cX9_voice 17 = .ok (.ifCond .ne 9, 3) := by decide +kernel
theorem dX9_voice_20 : decode cX9_voice 20 = .ok (.aload_n 0, 1) := by decide +kernel
theorem dX9_voice_21 : decode cX9_voice 21 = .ok (.iconst 1, 1) := by decide +kernel
theorem dX9_voice_22 : decode cX9_voice 22 = .ok (.invokevirtual 66, 3) := by decide +kernel
theorem dX9_voice_25 : decode cX9_voice 25 = .ok (.ireturn, 1) := by decide +kernel
theorem dX9_voice_26 : decode cX9_voice 26 = .ok (.aload_n 0, 1) := by decide +kernel
theorem dX9_voice_27 : decode cX9_voice 27 = .ok (.getfield 54, 3) := by decide +kernel
theorem dX9_voice_30 : decode cX9_voice 30 = .ok (.aload_n 0, 1) := by decide +kernel
theorem dX9_voice_31 : decode cX9_voice 31 = .ok (.getfield 30, 3) := by decide +kernel
theorem dX9_voice_34 : decode cX9_voice 34 = .ok (.getfield 81, 3) := by decide +kernel
theorem dX9_voice_37 : decode cX9_voice 37 = .ok (.iload_n 1, 1) := by decide +kernel
theorem dX9_voice_38 : decode cX9_voice 38 = .ok (.aaload, 1) := by decide +kernel
theorem dX9_voice_39 : decode cX9_voice 39 = .ok (.iload_n 1, 1) := by decide +kernel
theorem dX9_voice_40 : decode cX9_voice 40 = .ok (.iload_n 2, 1) := by decide +kernel
theorem dX9_voice_41 : decode cX9_voice 41 = .ok (.iload_n 3, 1) := by decide +kernel
theorem dX9_voice_42 : decode cX9_voice 42 = .ok (.invokevirtual 263, 3) := by decide +kernel
theorem dX9_voice_45 : decode cX9_voice 45 = .ok (.ireturn, 1) := by decide +kernel
theorem dX9_trace_0 : decode cX9_trace 0 = .ok (.iload_n 1, 1) := by decide +kernel
theorem dX9_trace_1 : decode cX9_trace 1 = .ok (.iconst 0, 1) := by decide +kernel
theorem dX9_trace_2 : decode cX9_trace 2 = .ok (.aload_n 0, 1) := by decide +kernel
theorem dX9_trace_3 : decode cX9_trace 3 = .ok (.getfield 54, 3) := by decide +kernel
theorem dX9_trace_6 : decode cX9_trace 6 = .ok (.getfield 267, 3) := by decide +kernel
theorem dX9_trace_9 : decode cX9_trace 9 = .ok (.iconst 1, 1) := by decide +kernel
theorem dX9_trace_10 : decode cX9_trace 10 = .ok (.isub, 1) := by decide +kernel
theorem dX9_trace_11 : decode cX9_trace 11 = .ok (.invokestatic 62, 3) := by decide +kernel
theorem dX9_trace_14 : decode cX9_trace 14 = .ok (.ifCond .ne 9, 3) := by decide +kernel
theorem dX9_trace_17 : decode cX9_trace 17 = .ok (.aload_n 0, 1) := by decide +kernel
theorem dX9_trace_18 : decode cX9_trace 18 = .ok (.iconst 2, 1) := by decide +kernel
theorem dX9_trace_19 : decode cX9_trace 19 = .ok (.invokevirtual 66, 3) := by decide +kernel
theorem dX9_trace_22 : decode cX9_trace 22 = .ok (.ireturn, 1) := by decide +kernel
theorem dX9_trace_23 : decode cX9_trace 23 = .ok (.aload_n 0, 1) := by decide +kernel
theorem dX9_trace_24 : decode cX9_trace 24 = .ok (.getfield 54, 3) := by decide +kernel
theorem dX9_trace_27 : decode cX9_trace 27 = .ok (.getfield 270, 3) := by decide +kernel
theorem dX9_trace_30 : decode cX9_trace 30 = .ok (.iload_n 1, 1) := by decide +kernel
theorem dX9_trace_31 : decode cX9_trace 31 = .ok (.iaload, 1) := by decide +kernel
theorem dX9_trace_32 : decode cX9_trace 32 = .ok (.ireturn, 1) := by decide +kernel
theorem dX9_sheet_0 : decode cX9_sheet 0 = .ok (.iload_n 1, 1) := by decide +kernel
theorem dX9_sheet_1 : decode cX9_sheet 1 = .ok (.iconst 0, 1) := by decide +kernel
theorem dX9_sheet_2 : decode cX9_sheet 2 = .ok (.iconst 3, 1) := by decide +kernel
theorem dX9_sheet_3 : decode cX9_sheet 3 = .ok (.invokestatic 62, 3) := by decide +kernel
theorem dX9_sheet_6 : decode cX9_sheet 6 = .ok (.ifCond .eq 25, 3) := by decide +kernel
theorem dX9_sheet_9 : decode cX9_sheet 9 = .ok (.iload_n 2, 1) := by decide +kernel
theorem dX9_sheet_10 : decode cX9_sheet 10 = .ok (.ifCond .eq 27, 3) := by decide +kernel
theorem dX9_sheet_13 : decode cX9_sheet 13 = .ok (.iload_n 2, 1) := by decide +kernel
theorem dX9_sheet_14 : decode cX9_sheet 14 = .ok (.bipush 8, 2) := by decide +kernel
theorem dX9_sheet_16 : decode cX9_sheet 16 = .ok (.if_icmp .eq 21, 3) := by decide +kernel
theorem dX9_sheet_19 : decode cX9_sheet 19 = .ok (.iload_n 2, 1) := by decide +kernel
theorem dX9_sheet_20 : decode cX9_sheet 20 = .ok (.bipush 16, 2) := by decide +kernel
theorem dX9_sheet_22 : decode cX9_sheet 22 = .ok (.if_icmp .eq 15, 3) := by decide +kernel
theorem dX9_sheet_25 : decode cX9_sheet 25 = .ok (.iload_n 2, 1) := by decide +kernel
theorem dX9_sheet_26 : decode cX9_sheet 26 = .ok (.bipush 32, 2) := by decide +kernel
theorem dX9_sheet_28 : decode cX9_sheet 28 = .ok (.if_icmp .eq 9, 3) := by decide +kernel
theorem dX9_sheet_31 : decode cX9_sheet 31 = .ok (.aload_n 0, 1) := by decide +kernel
theorem dX9_sheet_32 : decode cX9_sheet 32 = .ok (.iconst 1, 1) := by decide +kernel
theorem dX9_sheet_33 : decode cX9_sheet 33 = .ok (.invokevirtual 66, 3) := by decide +kernel
theorem dX9_sheet_36 : decode cX9_sheet 36 = .ok (.ireturn, 1) := by decide +kernel
theorem dX9_sheet_37 : decode cX9_sheet 37 = .ok (.iload_n 2, 1) := by decide +kernel
theorem dX9_sheet_38 : decode cX9_sheet 38 = .ok (.ifCond .eq 13, 3) := by decide +kernel
theorem dX9_sheet_41 : decode cX9_sheet 41 = .ok (.iload_n 3, 1) := by decide +kernel
theorem dX9_sheet_42 : decode cX9_sheet 42 = .ok (.ifCond .ge 9, 3) := by decide +kernel
theorem dX9_sheet_45 : decode cX9_sheet 45 = .ok (.aload_n 0, 1) := by decide +kernel
theorem dX9_sheet_46 : decode cX9_sheet 46 = .ok (.iconst 3, 1) := by decide +kernel
theorem dX9_sheet_47 : decode cX9_sheet 47 = .ok (.invokevirtual 66, 3) := by decide +kernel
theorem dX9_sheet_50 : decode cX9_sheet 50 = .ok (.ireturn, 1) := by decide +kernel
theorem dX9_sheet_51 : decode cX9_sheet 51 = .ok (.iload_n 2, 1) := by decide +kernel
theorem dX9_sheet_52 : decode cX9_sheet 52 = .ok (.ifCond .eq 15, 3) := by decide +kernel
theorem dX9_sheet_55 : decode cX9_sheet 55 = .ok (.iload_n 3, 1) := by decide +kernel
theorem dX9_sheet_56 : decode cX9_sheet 56 = .ok (.bipush 40, 2) := by decide +kernel
theorem dX9_sheet_58 : decode cX9_sheet 58 = .ok (.if_icmp .le 9, 3) := by decide +kernel
theorem dX9_sheet_61 : decode cX9_sheet 61 = .ok (.aload_n 0, 1) := by decide +kernel
theorem dX9_sheet_62 : decode cX9_sheet 62 = .ok (.iconst 1, 1) := by decide +kernel
theorem dX9_sheet_63 : decode cX9_sheet 63 = .ok (.invokevirtual 66, 3) := by decide +kernel
theorem dX9_sheet_66 : decode cX9_sheet 66 = .ok (.ireturn, 1) := by decide +kernel
theorem dX9_sheet_67 : decode cX9_sheet 67 = .ok (.aload_n 0, 1) := by decide +kernel
theorem dX9_sheet_68 : decode cX9_sheet 68 = .ok (.getfield 15, 3) := by decide +kernel
theorem dX9_sheet_71 : decode cX9_sheet 71 = .ok (.iload_n 1, 1) := by decide +kernel
theorem dX9_sheet_72 : decode cX9_sheet 72 = .ok (.aaload, 1) := by decide +kernel
theorem dX9_sheet_73 : decode cX9_sheet 73 = .ok (.iload_n 2, 1) := by decide +kernel
theorem dX9_sheet_74 : decode cX9_sheet 74 = .ok (.iload_n 2, 1) := by decide +kernel
theorem dX9_sheet_75 : decode cX9_sheet 75 = .ok (.ifCond .ne 7, 3) := by decide +kernel
theorem dX9_sheet_78 : decode cX9_sheet 78 = .ok (.iconst 0, 1) := by decide +kernel
theorem dX9_sheet_79 : decode cX9_sheet 79 = .ok (.goto 4, 3) := by decide +kernel
theorem dX9_sheet_82 : decode cX9_sheet 82 = .ok (.iload_n 3, 1) := by decide +kernel
theorem dX9_sheet_83 : decode cX9_sheet 83 = .ok (.invokevirtual 273, 3) := by decide +kernel
theorem dX9_sheet_86 : decode cX9_sheet 86 = .ok (.iconst 1, 1) := by decide +kernel
theorem dX9_sheet_87 : decode cX9_sheet 87 = .ok (.ireturn, 1) := by decide +kernel
theorem dX9_put_0 : decode cX9_put 0 = .ok (.iload_n 1, 1) := by decide +kernel
theorem dX9_put_1 : decode cX9_put 1 = .ok (.iconst 0, 1) := by decide +kernel
theorem dX9_put_2 : decode cX9_put 2 = .ok (.iconst 3, 1) := by decide +kernel
theorem dX9_put_3 : decode cX9_put 3 = .ok (.invokestatic 62, 3) := by decide +kernel
theorem dX9_put_6 : decode cX9_put 6 = .ok (.ifCond .ne 9, 3) := by decide +kernel
theorem dX9_put_9 : decode cX9_put 9 = .ok (.aload_n 0, 1) := by decide +kernel
theorem dX9_put_10 : decode cX9_put 10 = .ok (.iconst 1, 1) := by decide +kernel
theorem dX9_put_11 : decode cX9_put 11 = .ok (.invokevirtual 66, 3) := by decide +kernel
theorem dX9_put_14 : decode cX9_put 14 = .ok (.ireturn, 1) := by decide +kernel
theorem dX9_put_15 : decode cX9_put 15 = .ok (.aload_n 0, 1) := by decide +kernel
theorem dX9_put_16 : decode cX9_put 16 = .ok (.getfield 15, 3) := by decide +kernel
theorem dX9_put_19 : decode cX9_put 19 = .ok (.iload_n 1, 1) := by decide +kernel
theorem dX9_put_20 : decode cX9_put 20 = .ok (.aaload, 1) := by decide +kernel
theorem dX9_put_21 : decode cX9_put 21 = .ok (.astore 4, 2) := by decide +kernel
theorem dX9_put_23 : decode cX9_put 23 = .ok (.aload 4, 2) := by decide +kernel
theorem dX9_put_25 : decode cX9_put 25 = .ok (.invokevirtual 226, 3) := by decide +kernel
theorem dX9_put_28 : decode cX9_put 28 = .ok (.ifCond .eq 9, 3) := by decide +kernel
theorem dX9_put_31 : decode cX9_put 31 = .ok (.aload_n 0, 1) := by decide +kernel
theorem dX9_put_32 : decode cX9_put 32 = .ok (.iconst 2, 1) := by decide +kernel
theorem dX9_put_33 : decode cX9_put 33 = .ok (.invokevirtual 66, 3) := by decide +kernel
theorem dX9_put_36 : decode cX9_put 36 = .ok (.ireturn, 1) := by decide +kernel
theorem dX9_put_37 : decode cX9_put 37 = .ok (.iload_n 2, 1) := by decide +kernel
theorem dX9_put_38 : decode cX9_put 38 = .ok (.iconst 0, 1) := by decide +kernel
theorem dX9_put_39 : decode cX9_put 39 = .ok (.aload 4, 2) := by decide +kernel
theorem dX9_put_41 : decode cX9_put 41 = .ok (.getfield 230, 3) := by decide +kernel
theorem dX9_put_44 : decode cX9_put 44 = .ok (.iconst 1, 1) := by decide +kernel
theorem dX9_put_45 : decode cX9_put 45 = .ok (.isub, 1) := by decide +kernel
theorem dX9_put_46 : decode cX9_put 46 = .ok (.invokestatic 62, 3) := by decide +kernel
theorem dX9_put_49 : decode cX9_put 49 = .ok (.ifCond .ne 9, 3) := by decide +kernel
theorem dX9_put_52 : decode cX9_put 52 = .ok (.aload_n 0, 1) := by decide +kernel
theorem dX9_put_53 : decode cX9_put 53 = .ok (.iconst 1, 1) := by decide +kernel
theorem dX9_put_54 : decode cX9_put 54 = .ok (.invokevirtual 66, 3) := by decide +kernel
theorem dX9_put_57 : decode cX9_put 57 = .ok (.ireturn, 1) := by decide +kernel
theorem dX9_put_58 : decode cX9_put 58 = .ok (.aload 4, 2) := by decide +kernel
theorem dX9_put_60 : decode cX9_put 60 = .ok (.getfield 231, 3) := by decide +kernel
theorem dX9_put_63 : decode cX9_put 63 = .ok (.iload_n 2, 1) := by decide +kernel
theorem dX9_put_64 : decode cX9_put 64 = .ok (.aload 4, 2) := by decide +kernel
theorem dX9_put_66 : decode cX9_put 66 = .ok (.iload_n 3, 1) := by decide +kernel
theorem dX9_put_67 : decode cX9_put 67 = .ok (.invokevirtual 277, 3) := by decide +kernel
theorem dX9_put_70 : decode cX9_put 70 = .ok (.iastore, 1) := by decide +kernel
theorem dX9_put_71 : decode cX9_put 71 = .ok (.iconst 1, 1) := by decide +kernel
theorem dX9_put_72 : decode cX9_put 72 = .ok (.ireturn, 1) := by decide +kernel
theorem dX9_move_0 : decode cX9_move 0 = .ok (.iload_n 1, 1) := by decide +kernel
theorem dX9_move_1 : decode cX9_move 1 = .ok (.iconst 0, 1) := by decide +kernel
theorem dX9_move_2 : decode cX9_move 2 = .ok (.iconst 3, 1) := by decide +kernel
theorem dX9_move_3 : decode cX9_move 3 = .ok (.invokestatic 62, 3) := by decide +kernel
theorem dX9_move_6 : decode cX9_move 6 = .ok (.ifCond .eq 12, 3) := by decide +kernel
theorem dX9_move_9 : decode cX9_move 9 = .ok (.iload_n 3, 1) := by decide +kernel
theorem dX9_move_10 : decode cX9_move 10 = .ok (.iconst 0, 1) := by decide +kernel
theorem dX9_move_11 : decode cX9_move 11 = .ok (.iconst 3, 1) := by decide +kernel
theorem dX9_move_12 : decode cX9_move 12 = .ok (.invokestatic 62, 3) := by decide +kernel
theorem dX9_move_15 : decode cX9_move 15 = .ok (.ifCond .ne 9, 3) := by decide +kernel
theorem dX9_move_18 : decode cX9_move 18 = .ok (.aload_n 0, 1) := by decide +kernel
theorem dX9_move_19 : decode cX9_move 19 = .ok (.iconst 1, 1) := by decide +kernel
theorem dX9_move_20 : decode cX9_move 20 = .ok (.invokevirtual 66, 3) := by decide +kernel
theorem dX9_move_23 : decode cX9_move 23 = .ok (.ireturn, 1) := by decide +kernel
theorem dX9_move_24 : decode cX9_move 24 = .ok (.aload_n 0, 1) := by decide +kernel
theorem dX9_move_25 : decode cX9_move 25 = .ok (.getfield 15, 3) := by decide +kernel
theorem dX9_move_28 : decode cX9_move 28 = .ok (.iload_n 1, 1) := by decide +kernel
theorem dX9_move_29 : decode cX9_move 29 = .ok (.aaload, 1) := by decide +kernel
theorem dX9_move_30 : decode cX9_move 30 = .ok (.astore 6, 2) := by decide +kernel
theorem dX9_move_32 : decode cX9_move 32 = .ok (.aload_n 0, 1) := by decide +kernel
theorem dX9_move_33 : decode cX9_move 33 = .ok (.getfield 15, 3) := by decide +kernel
theorem dX9_move_36 : decode cX9_move 36 = .ok (.iload_n 3, 1) := by decide +kernel
theorem dX9_move_37 : decode cX9_move 37 = .ok (.aaload, 1) := by decide +kernel
theorem dX9_move_38 : decode cX9_move 38 = .ok (.astore 7, 2) := by decide +kernel
theorem dX9_move_40 : decode cX9_move 40 = .ok (.aload 6, 2) := by decide +kernel
theorem dX9_move_42 : decode cX9_move 42 = .ok (.invokevirtual 226, 3) := by decide +kernel
theorem dX9_move_45 : decode cX9_move 45 = .ok (.ifCond .ne 11, 3) := by decide +kernel
theorem dX9_move_48 : decode cX9_move 48 = .ok (.aload 7, 2) := by decide +kernel
theorem dX9_move_50 : decode cX9_move 50 = .ok (.invokevirtual 226, 3) := by decide +kernel
theorem dX9_move_53 : decode cX9_move 53 = .ok (.ifCond .eq 9, 3) := by decide +kernel
theorem dX9_move_56 : decode cX9_move 56 = .ok (.aload_n 0, 1) := by decide +kernel
theorem dX9_move_57 : decode cX9_move 57 = .ok (.iconst 2, 1) := by decide +kernel
theorem dX9_move_58 : decode cX9_move 58 = .ok (.invokevirtual 66, 3) := by decide +kernel
theorem dX9_move_61 : decode cX9_move 61 = .ok (.ireturn, 1) := by decide +kernel
theorem dX9_move_62 : decode cX9_move 62 = .ok (.aload 6, 2) := by decide +kernel
theorem dX9_move_64 : decode cX9_move 64 = .ok (.getfield 280, 3) := by decide +kernel
theorem dX9_move_67 : decode cX9_move 67 = .ok (.aload 7, 2) := by decide +kernel
theorem dX9_move_69 : decode cX9_move 69 = .ok (.getfield 280, 3) := by decide +kernel
theorem dX9_move_72 : decode cX9_move 72 = .ok (.if_icmp .eq 9, 3) := by decide +kernel
theorem dX9_move_75 : decode cX9_move 75 = .ok (.aload_n 0, 1) := by decide +kernel
theorem dX9_move_76 : decode cX9_move 76 = .ok (.iconst 5, 1) := by decide +kernel
theorem dX9_move_77 : decode cX9_move 77 = .ok (.invokevirtual 66, 3) := by decide +kernel
theorem dX9_move_80 : decode cX9_move 80 = .ok (.ireturn, 1) := by decide +kernel
theorem dX9_move_81 : decode cX9_move 81 = .ok (.aload 6, 2) := by decide +kernel
theorem dX9_move_83 : decode cX9_move 83 = .ok (.iload_n 2, 1) := by decide +kernel
theorem dX9_move_84 : decode cX9_move 84 = .ok (.iload 5, 2) := by decide +kernel
theorem dX9_move_86 : decode cX9_move 86 = .ok (.invokevirtual 283, 3) := by decide +kernel
theorem dX9_move_89 : decode cX9_move 89 = .ok (.ifCond .eq 15, 3) := by decide +kernel
theorem dX9_move_92 : decode cX9_move 92 = .ok (.aload 7, 2) := by decide +kernel
theorem dX9_move_94 : decode cX9_move 94 = .ok (.iload 4, 2) := by decide +kernel
theorem dX9_move_96 : decode cX9_move 96 = .ok (.iload 5, 2) := by decide +kernel
theorem dX9_move_98 : decode cX9_move 98 = .ok (.invokevirtual 283, 3) := by decide +kernel
theorem dX9_move_101 : decode cX9_move 101 = .ok (.ifCond .ne 9, 3) := by decide +kernel
theorem dX9_move_104 : decode cX9_move 104 = .ok (.aload_n 0, 1) := by decide +kernel
theorem dX9_move_105 : decode cX9_move 105 = .ok (.iconst 1, 1) := by decide +kernel
theorem dX9_move_106 : decode cX9_move 106 = .ok (.invokevirtual 66, 3) := by decide +kernel
theorem dX9_move_109 : decode cX9_move 109 = .ok (.ireturn, 1) := by decide +kernel
theorem dX9_move_110 : decode cX9_move 110 = .ok (.aload 6, 2) := by decide +kernel
theorem dX9_move_112 : decode cX9_move 112 = .ok (.getfield 231, 3) := by decide +kernel
theorem dX9_move_115 : decode cX9_move 115 = .ok (.iload_n 2, 1) := by decide +kernel
theorem dX9_move_116 : decode cX9_move 116 = .ok (.aload 7, 2) := by decide +kernel
theorem dX9_move_118 : decode cX9_move 118 = .ok (.getfield 231, 3) := by decide +kernel
theorem dX9_move_121 : decode cX9_move 121 = .ok (.iload 4, 2) := by decide +kernel
theorem dX9_move_123 : decode cX9_move 123 = .ok (.iload 5, 2) := by decide +kernel
theorem dX9_move_125 : decode cX9_move 125 = .ok (.invokestatic 286, 3) := by decide +kernel
theorem dX9_move_128 : decode cX9_move 128 = .ok (.iload 5, 2) := by decide +kernel
theorem dX9_move_130 : decode cX9_move 130 = .ok (.ireturn, 1) := by decide +kernel
theorem dX9_debts_0 : decode cX9_debts 0 = .ok (.iload_n 1, 1) := by decide +kernel
theorem dX9_debts_1 : decode cX9_debts 1 = .ok (.iconst 0, 1) := by decide +kernel
theorem dX9_debts_2 : decode cX9_debts 2 = .ok (.iconst 3, 1) := by decide +kernel
theorem dX9_debts_3 : decode cX9_debts 3 = .ok (.invokestatic 62, 3) := by decide +kernel
theorem dX9_debts_6 : decode cX9_debts 6 = .ok (.ifCond .ne 9, 3) := by decide +kernel
theorem dX9_debts_9 : decode cX9_debts 9 = .ok (.aload_n 0, 1) := by decide +kernel
theorem dX9_debts_10 : decode cX9_debts 10 = .ok (.iconst 1, 1) := by decide +kernel
theorem dX9_debts_11 : decode cX9_debts 11 = .ok (.invokevirtual 66, 3) := by decide +kernel
theorem dX9_debts_14 : decode cX9_debts 14 = .ok (.ireturn, 1) := by decide +kernel
theorem dX9_debts_15 : decode cX9_debts 15 = .ok (.aload_n 0, 1) := by decide +kernel
theorem dX9_debts_16 : decode cX9_debts 16 = .ok (.getfield 15, 3) := by decide +kernel
theorem dX9_debts_19 : decode cX9_debts 19 = .ok (.iload_n 1, 1) := by decide +kernel
theorem dX9_debts_20 : decode cX9_debts 20 = .ok (.aaload, 1) := by decide +kernel
theorem dX9_debts_21 : decode cX9_debts 21 = .ok (.astore_n 2, 1) := by decide +kernel
theorem dX9_debts_22 : decode cX9_debts 22 = .ok (.aload_n 2, 1) := by decide +kernel
theorem dX9_debts_23 : decode cX9_debts 23 = .ok (.invokevirtual 226, 3) := by decide +kernel
theorem dX9_debts_26 : decode cX9_debts 26 = .ok (.ifCond .eq 9, 3) := by decide +kernel
theorem dX9_debts_29 : decode cX9_debts 29 = .ok (.aload_n 0, 1) := by decide +kernel
theorem dX9_debts_30 : decode cX9_debts 30 = .ok (.iconst 2, 1) := by decide +kernel
theorem dX9_debts_31 : decode cX9_debts 31 = .ok (.invokevirtual 66, 3) := by decide +kernel
theorem dX9_debts_34 : decode cX9_debts 34 = .ok (.ireturn, 1) := by decide +kernel
theorem dX9_debts_35 : decode cX9_debts 35 = .ok (.iconst 0, 1) := by decide +kernel
theorem dX9_debts_36 : decode cX9_debts 36 = .ok (.istore_n 3, 1) := by decide +kernel
theorem dX9_debts_37 : decode cX9_debts 37 = .ok (.iload_n 3, 1) := by decide +kernel
theorem dX9_debts_38 : decode cX9_debts 38 = .ok (.aload_n 2, 1) := by decide +kernel
theorem dX9_debts_39 : decode cX9_debts 39 = .ok (.getfield 230, 3) := by decide +kernel
theorem dX9_debts_42 : decode cX9_debts 42 = .ok (.if_icmp .ge 54, 3) := by decide +kernel
theorem dX9_debts_45 : decode cX9_debts 45 = .ok (.iload_n 3, 1) := by decide +kernel
theorem dX9_debts_46 : decode cX9_debts 46 = .ok (.aload_n 0, 1) := by decide +kernel
theorem dX9_debts_47 : decode cX9_debts 47 = .ok (.getfield 30, 3) := by decide +kernel
theorem dX9_debts_50 : decode cX9_debts 50 = .ok (.getfield 70, 3) := by decide +kernel
theorem dX9_debts_53 : decode cX9_debts 53 = .ok (.if_icmp .ge 43, 3) := by decide +kernel
theorem dX9_debts_56 : decode cX9_debts 56 = .ok (.aload_n 2, 1) := by decide +kernel
theorem dX9_debts_57 : decode cX9_debts 57 = .ok (.getfield 231, 3) := by decide +kernel
theorem dX9_debts_60 : decode cX9_debts 60 = .ok (.iload_n 3, 1) := by decide +kernel
theorem dX9_debts_61 : decode cX9_debts 61 = .ok (.iaload, 1) := by decide +kernel
theorem dX9_debts_62 : decode cX9_debts 62 = .ok (.iconst 0, 1) := by decide +kernel
theorem dX9_debts_63 : decode cX9_debts 63 = .ok (.sipush 9999, 3) := by decide +kernel
theorem dX9_debts_66 : decode cX9_debts 66 = .ok (.invokestatic 62, 3) := by decide +kernel
theorem dX9_debts_69 : decode cX9_debts 69 = .ok (.ifCond .eq 27, 3) := by decide +kernel
theorem dX9_debts_72 : decode cX9_debts 72 = .ok (.aload_n 0, 1) := by decide +kernel
theorem dX9_debts_73 : decode cX9_debts 73 = .ok (.getfield 30, 3) := by decide +kernel
theorem dX9_debts_76 : decode cX9_debts 76 = .ok (.getfield 81, 3) := by decide +kernel
theorem dX9_debts_79 : decode cX9_debts 79 = .ok (.iload_n 3, 1) := by decide +kernel
theorem dX9_debts_80 : decode cX9_debts 80 = .ok (.aaload, 1) := by decide +kernel
theorem dX9_debts_81 : decode cX9_debts 81 = .ok (.aload_n 2, 1) := by decide +kernel
theorem dX9_debts_82 : decode cX9_debts 82 = .ok (.getfield 231, 3) := by decide +kernel
theorem dX9_debts_85 : decode cX9_debts 85 = .ok (.iload_n 3, 1) := by decide +kernel
theorem dX9_debts_86 : decode cX9_debts 86 = .ok (.iaload, 1) := by decide +kernel
theorem dX9_debts_87 : decode cX9_debts 87 = .ok (.putfield 93, 3) := by decide +kernel
theorem dX9_debts_90 : decode cX9_debts 90 = .ok (.iinc 3 1, 3) := by decide +kernel
theorem dX9_debts_93 : decode cX9_debts 93 = .ok (.goto (-56), 3) := by decide +kernel
theorem dX9_debts_96 : decode cX9_debts 96 = .ok (.iload_n 3, 1) := by decide +kernel
theorem dX9_debts_97 : decode cX9_debts 97 = .ok (.ireturn, 1) := by decide +kernel
theorem dX9_judge_0 : decode cX9_judge 0 = .ok (.iload_n 1, 1) := by decide +kernel
theorem dX9_judge_1 : decode cX9_judge 1 = .ok (.iconst 0, 1) := by decide +kernel
theorem dX9_judge_2 : decode cX9_judge 2 = .ok (.iconst 3, 1) := by decide +kernel
theorem dX9_judge_3 : decode cX9_judge 3 = .ok (.invokestatic 62, 3) := by decide +kernel
theorem dX9_judge_6 : decode cX9_judge 6 = .ok (.ifCond .ne 9, 3) := by decide +kernel
theorem dX9_judge_9 : decode cX9_judge 9 = .ok (.aload_n 0, 1) := by decide +kernel
theorem dX9_judge_10 : decode cX9_judge 10 = .ok (.iconst 1, 1) := by decide +kernel
theorem dX9_judge_11 : decode cX9_judge 11 = .ok (.invokevirtual 66, 3) := by decide +kernel
theorem dX9_judge_14 : decode cX9_judge 14 = .ok (.ireturn, 1) := by decide +kernel
theorem dX9_judge_15 : decode cX9_judge 15 = .ok (.aload_n 0, 1) := by decide +kernel
theorem dX9_judge_16 : decode cX9_judge 16 = .ok (.getfield 15, 3) := by decide +kernel
theorem dX9_judge_19 : decode cX9_judge 19 = .ok (.iload_n 1, 1) := by decide +kernel
theorem dX9_judge_20 : decode cX9_judge 20 = .ok (.aaload, 1) := by decide +kernel
theorem dX9_judge_21 : decode cX9_judge 21 = .ok (.astore_n 2, 1) := by decide +kernel
theorem dX9_judge_22 : decode cX9_judge 22 = .ok (.aload_n 2, 1) := by decide +kernel
theorem dX9_judge_23 : decode cX9_judge 23 = .ok (.invokevirtual 226, 3) := by decide +kernel
theorem dX9_judge_26 : decode cX9_judge 26 = .ok (.ifCond .eq 9, 3) := by decide +kernel
theorem dX9_judge_29 : decode cX9_judge 29 = .ok (.aload_n 0, 1) := by decide +kernel
theorem dX9_judge_30 : decode cX9_judge 30 = .ok (.iconst 2, 1) := by decide +kernel
theorem dX9_judge_31 : decode cX9_judge 31 = .ok (.invokevirtual 66, 3) := by decide +kernel
theorem dX9_judge_34 : decode cX9_judge 34 = .ok (.ireturn, 1) := by decide +kernel
theorem dX9_judge_35 : decode cX9_judge 35 = .ok (.aload_n 2, 1) := by decide +kernel
theorem dX9_judge_36 : decode cX9_judge 36 = .ok (.getfield 230, 3) := by decide +kernel
theorem dX9_judge_39 : decode cX9_judge 39 = .ok (.aload_n 0, 1) := by decide +kernel
theorem dX9_judge_40 : decode cX9_judge 40 = .ok (.getfield 30, 3) := by decide +kernel
theorem dX9_judge_43 : decode cX9_judge 43 = .ok (.getfield 70, 3) := by decide +kernel
theorem dX9_judge_46 : decode cX9_judge 46 = .ok (.invokestatic 292, 3) := by decide +kernel
theorem dX9_judge_49 : decode cX9_judge 49 = .ok (.istore_n 3, 1) := by decide +kernel
theorem dX9_judge_50 : decode cX9_judge 50 = .ok (.iconst 0, 1) := by decide +kernel
theorem dX9_judge_51 : decode cX9_judge 51 = .ok (.istore 4, 2) := by decide +kernel
theorem dX9_judge_53 : decode cX9_judge 53 = .ok (.iload 4, 2) := by decide +kernel
theorem dX9_judge_55 : decode cX9_judge 55 = .ok (.iload_n 3, 1) := by decide +kernel
theorem dX9_judge_56 : decode cX9_judge 56 = .ok (.if_icmp .ge 35, 3) := by decide +kernel
theorem dX9_judge_59 : decode cX9_judge 59 = .ok (.aload_n 2, 1) := by decide +kernel
theorem dX9_judge_60 : decode cX9_judge 60 = .ok (.getfield 231, 3) := by decide +kernel
theorem dX9_judge_63 : decode cX9_judge 63 = .ok (.iload 4, 2) := by decide +kernel
theorem dX9_judge_65 : decode cX9_judge 65 = .ok (.iaload, 1) := by decide +kernel
theorem dX9_judge_66 : decode cX9_judge 66 = .ok (.aload_n 0, 1) := by decide +kernel
theorem dX9_judge_67 : decode cX9_judge 67 = .ok (.getfield 30, 3) := by decide +kernel
theorem dX9_judge_70 : decode cX9_judge 70 = .ok (.getfield 81, 3) := by decide +kernel
theorem dX9_judge_73 : decode cX9_judge 73 = .ok (.iload 4, 2) := by decide +kernel
theorem dX9_judge_75 : decode cX9_judge 75 = .ok (.aaload, 1) := by decide +kernel
theorem dX9_judge_76 : decode cX9_judge 76 = .ok (.getfield 96, 3) := by decide +kernel
theorem dX9_judge_79 : decode cX9_judge 79 = .ok (.if_icmp .eq 6, 3) := by decide +kernel
theorem dX9_judge_82 : decode cX9_judge 82 = .ok (.iload 4, 2) := by decide +kernel
theorem dX9_judge_84 : decode cX9_judge 84 = .ok (.ireturn, 1) := by decide +kernel
theorem dX9_judge_85 : decode cX9_judge 85 = .ok (.iinc 4 1, 3) := by decide +kernel
theorem dX9_judge_88 : decode cX9_judge 88 = .ok (.goto (-35), 3) := by decide +kernel
theorem dX9_judge_91 : decode cX9_judge 91 = .ok (.aload_n 2, 1) := by decide +kernel
theorem dX9_judge_92 : decode cX9_judge 92 = .ok (.getfield 230, 3) := by decide +kernel
theorem dX9_judge_95 : decode cX9_judge 95 = .ok (.aload_n 0, 1) := by decide +kernel
theorem dX9_judge_96 : decode cX9_judge 96 = .ok (.getfield 30, 3) := by decide +kernel
theorem dX9_judge_99 : decode cX9_judge 99 = .ok (.getfield 70, 3) := by decide +kernel
theorem dX9_judge_102 : decode cX9_judge 102 = .ok (.if_icmp .ne 7, 3) := by decide +kernel
theorem dX9_judge_105 : decode cX9_judge 105 = .ok (.iconst (-1), 1) := by decide +kernel
theorem dX9_judge_106 : decode cX9_judge 106 = .ok (.goto 4, 3) := by decide +kernel
theorem dX9_judge_109 : decode cX9_judge 109 = .ok (.iload_n 3, 1) := by decide +kernel
theorem dX9_judge_110 : decode cX9_judge 110 = .ok (.ireturn, 1) := by decide +kernel
theorem dX9_image_0 : decode cX9_image 0 = .ok (.aload_n 0, 1) := by decide +kernel
theorem dX9_image_1 : decode cX9_image 1 = .ok (.getfield 34, 3) := by decide +kernel
theorem dX9_image_4 : decode cX9_image 4 = .ok (.aload_n 0, 1) := by decide +kernel
theorem dX9_image_5 : decode cX9_image 5 = .ok (.getfield 30, 3) := by decide +kernel
theorem dX9_image_8 : decode cX9_image 8 = .ok (.invokevirtual 297, 3) := by decide +kernel
theorem dX9_image_11 : decode cX9_image 11 = .ok (.aload_n 0, 1) := by decide +kernel
theorem dX9_image_12 : decode cX9_image 12 = .ok (.dup, 1) := by decide +kernel
theorem dX9_image_13 : decode cX9_image 13 = .ok (.getfield 58, 3) := by decide +kernel
theorem dX9_image_16 : decode cX9_image 16 = .ok (.iconst 1, 1) := by decide +kernel
theorem dX9_image_17 : decode cX9_image 17 = .ok (.iadd, 1) := by decide +kernel
theorem dX9_image_18 : decode cX9_image 18 = .ok (.putfield 58, 3) := by decide +kernel
theorem dX9_image_21 : decode cX9_image 21 = .ok (.aload_n 0, 1) := by decide +kernel
theorem dX9_image_22 : decode cX9_image 22 = .ok (.getfield 58, 3) := by decide +kernel
theorem dX9_image_25 : decode cX9_image 25 = .ok (.ireturn, 1) := by decide +kernel
theorem dX9_restore_0 : decode cX9_restore 0 = .ok (.aload_n 0, 1) := by decide +kernel
theorem dX9_restore_1 : decode cX9_restore 1 = .ok (.getfield 58, 3) := by decide +kernel
theorem dX9_restore_4 : decode cX9_restore 4 = .ok (.ifCond .ne 9, 3) := by decide +kernel
theorem dX9_restore_7 : decode cX9_restore 7 = .ok (.aload_n 0, 1) := by decide +kernel
theorem dX9_restore_8 : decode cX9_restore 8 = .ok (.iconst 2, 1) := by decide +kernel
theorem dX9_restore_9 : decode cX9_restore 9 = .ok (.invokevirtual 66, 3) := by decide +kernel
theorem dX9_restore_12 : decode cX9_restore 12 = .ok (.ireturn, 1) := by decide +kernel
theorem dX9_restore_13 : decode cX9_restore 13 = .ok (.aload_n 0, 1) := by decide +kernel
theorem dX9_restore_14 : decode cX9_restore 14 = .ok (.getfield 30, 3) := by decide +kernel
theorem dX9_restore_17 : decode cX9_restore 17 = .ok (.aload_n 0, 1) := by decide +kernel
theorem dX9_restore_18 : decode cX9_restore 18 = .ok (.getfield 34, 3) := by decide +kernel
theorem dX9_restore_21 : decode cX9_restore 21 = .ok (.invokevirtual 297, 3) := by decide +kernel
theorem dX9_restore_24 : decode cX9_restore 24 = .ok (.aload_n 0, 1) := by decide +kernel
theorem dX9_restore_25 : decode cX9_restore 25 = .ok (.getfield 30, 3) := by decide +kernel
theorem dX9_restore_28 : decode cX9_restore 28 = .ok (.getfield 163, 3) := by decide +kernel
theorem dX9_restore_31 : decode cX9_restore 31 = .ok (.ireturn, 1) := by decide +kernel
theorem dX9_tell_0 : decode cX9_tell 0 = .ok (.aload_n 0, 1) := by decide +kernel
theorem dX9_tell_1 : decode cX9_tell 1 = .ok (.getfield 30, 3) := by decide +kernel
theorem dX9_tell_4 : decode cX9_tell 4 = .ok (.getfield 300, 3) := by decide +kernel
theorem dX9_tell_7 : decode cX9_tell 7 = .ok (.bipush 20, 2) := by decide +kernel
theorem dX9_tell_9 : decode cX9_tell 9 = .ok (.if_icmp .lt 9, 3) := by decide +kernel
theorem dX9_tell_12 : decode cX9_tell 12 = .ok (.aload_n 0, 1) := by decide +kernel
theorem dX9_tell_13 : decode cX9_tell 13 = .ok (.iconst 4, 1) := by decide +kernel
theorem dX9_tell_14 : decode cX9_tell 14 = .ok (.invokevirtual 66, 3) := by decide +kernel
theorem dX9_tell_17 : decode cX9_tell 17 = .ok (.ireturn, 1) := by decide +kernel
theorem dX9_tell_18 : decode cX9_tell 18 = .ok (.aload_n 0, 1) := by decide +kernel
theorem dX9_tell_19 : decode cX9_tell 19 = .ok (.getfield 30, 3) := by decide +kernel
theorem dX9_tell_22 : decode cX9_tell 22 = .ok (.getfield 303, 3) := by decide +kernel
theorem dX9_tell_25 : decode cX9_tell 25 = .ok (.aload_n 0, 1) := by decide +kernel
theorem dX9_tell_26 : decode cX9_tell 26 = .ok (.getfield 30, 3) := by decide +kernel
theorem dX9_tell_29 : decode cX9_tell 29 = .ok (.getfield 300, 3) := by decide +kernel
theorem dX9_tell_32 : decode cX9_tell 32 = .ok (.iload_n 1, 1) := by decide +kernel
theorem dX9_tell_33 : decode cX9_tell 33 = .ok (.iastore, 1) := by decide +kernel
theorem dX9_tell_34 : decode cX9_tell 34 = .ok (.aload_n 0, 1) := by decide +kernel
theorem dX9_tell_35 : decode cX9_tell 35 = .ok (.getfield 30, 3) := by decide +kernel
theorem dX9_tell_38 : decode cX9_tell 38 = .ok (.dup, 1) := by decide +kernel
theorem dX9_tell_39 : decode cX9_tell 39 = .ok (.getfield 300, 3) := by decide +kernel
theorem dX9_tell_42 : decode cX9_tell 42 = .ok (.iconst 1, 1) := by decide +kernel
theorem dX9_tell_43 : decode cX9_tell 43 = .ok (.iadd, 1) := by decide +kernel
theorem dX9_tell_44 : decode cX9_tell 44 = .ok (.putfield 300, 3) := by decide +kernel
theorem dX9_tell_47 : decode cX9_tell 47 = .ok (.aload_n 0, 1) := by decide +kernel
theorem dX9_tell_48 : decode cX9_tell 48 = .ok (.getfield 30, 3) := by decide +kernel
theorem dX9_tell_51 : decode cX9_tell 51 = .ok (.getfield 300, 3) := by decide +kernel
theorem dX9_tell_54 : decode cX9_tell 54 = .ok (.ireturn, 1) := by decide +kernel
theorem dX9_check_0 : decode cX9_check 0 = .ok (.aload_n 0, 1) := by decide +kernel
theorem dX9_check_1 : decode cX9_check 1 = .ok (.getfield 40, 3) := by decide +kernel
theorem dX9_check_4 : decode cX9_check 4 = .ok (.aload_n 0, 1) := by decide +kernel
theorem dX9_check_5 : decode cX9_check 5 = .ok (.getfield 30, 3) := by decide +kernel
theorem dX9_check_8 : decode cX9_check 8 = .ok (.aload_n 0, 1) := by decide +kernel
theorem dX9_check_9 : decode cX9_check 9 = .ok (.getfield 23, 3) := by decide +kernel
theorem dX9_check_12 : decode cX9_check 12 = .ok (.invokevirtual 306, 3) := by decide +kernel
theorem dX9_check_15 : decode cX9_check 15 = .ok (.istore_n 1, 1) := by decide +kernel
theorem dX9_check_16 : decode cX9_check 16 = .ok (.aload_n 0, 1) := by decide +kernel
theorem dX9_check_17 : decode cX9_check 17 = .ok (.getfield 30, 3) := by decide +kernel
theorem dX9_check_20 : decode cX9_check 20 = .ok (.iconst 0, 1) := by decide +kernel
theorem dX9_check_21 : decode cX9_check 21 = .ok (.putfield 300, 3) := by decide +kernel
theorem dX9_check_24 : decode cX9_check 24 = .ok (.iload_n 1, 1) := by decide +kernel
theorem dX9_check_25 : decode cX9_check 25 = .ok (.iconst 1, 1) := by decide +kernel
theorem dX9_check_26 : decode cX9_check 26 = .ok (.iadd, 1) := by decide +kernel
theorem dX9_check_27 : decode cX9_check 27 = .ok (.ireturn, 1) := by decide +kernel
theorem dX9_count_0 : decode cX9_count 0 = .ok (.iload_n 1, 1) := by decide +kernel
theorem dX9_count_1 : decode cX9_count 1 = .ok (.tableswitch 138 0 9 #[55, 63, 71, 79, 87, 96, 106, 114, 122, 130], 55) := by decide +kernel
theorem dX9_count_56 : decode cX9_count 56 = .ok (.aload_n 0, 1) := by decide +kernel
theorem dX9_count_57 : decode cX9_count 57 = .ok (.getfield 30, 3) := by decide +kernel
theorem dX9_count_60 : decode cX9_count 60 = .ok (.getfield 70, 3) := by decide +kernel
theorem dX9_count_63 : decode cX9_count 63 = .ok (.ireturn, 1) := by decide +kernel
theorem dX9_count_64 : decode cX9_count 64 = .ok (.aload_n 0, 1) := by decide +kernel
theorem dX9_count_65 : decode cX9_count 65 = .ok (.getfield 30, 3) := by decide +kernel
theorem dX9_count_68 : decode cX9_count 68 = .ok (.getfield 163, 3) := by decide +kernel
theorem dX9_count_71 : decode cX9_count 71 = .ok (.ireturn, 1) := by decide +kernel
theorem dX9_count_72 : decode cX9_count 72 = .ok (.aload_n 0, 1) := by decide +kernel
theorem dX9_count_73 : decode cX9_count 73 = .ok (.getfield 30, 3) := by decide +kernel
theorem dX9_count_76 : decode cX9_count 76 = .ok (.getfield 123, 3) := by decide +kernel
theorem dX9_count_79 : decode cX9_count 79 = .ok (.ireturn, 1) := by decide +kernel
theorem dX9_count_80 : decode cX9_count 80 = .ok (.aload_n 0, 1) := by decide +kernel
theorem dX9_count_81 : decode cX9_count 81 = .ok (.getfield 30, 3) := by decide +kernel
theorem dX9_count_84 : decode cX9_count 84 = .ok (.invokevirtual 170, 3) := by decide +kernel
theorem dX9_count_87 : decode cX9_count 87 = .ok (.ireturn, 1) := by decide +kernel
theorem dX9_count_88 : decode cX9_count 88 = .ok (.aload_n 0, 1) := by decide +kernel
theorem dX9_count_89 : decode cX9_count 89 = .ok (.getfield 30, 3) := by decide +kernel
theorem dX9_count_92 : decode cX9_count 92 = .ok (.iconst 0, 1) := by decide +kernel
theorem dX9_count_93 : decode cX9_count 93 = .ok (.invokevirtual 310, 3) := by decide +kernel
theorem dX9_count_96 : decode cX9_count 96 = .ok (.ireturn, 1) := by decide +kernel
theorem dX9_count_97 : decode cX9_count 97 = .ok (.aload_n 0, 1) := by decide +kernel
theorem dX9_count_98 : decode cX9_count 98 = .ok (.getfield 30, 3) := by decide +kernel
theorem dX9_count_101 : decode cX9_count 101 = .ok (.bipush 100, 2) := by decide +kernel
theorem dX9_count_103 : decode cX9_count 103 = .ok (.invokevirtual 310, 3) := by decide +kernel
theorem dX9_count_106 : decode cX9_count 106 = .ok (.ireturn, 1) := by decide +kernel
theorem dX9_count_107 : decode cX9_count 107 = .ok (.aload_n 0, 1) := by decide +kernel
theorem dX9_count_108 : decode cX9_count 108 = .ok (.getfield 30, 3) := by decide +kernel
theorem dX9_count_111 : decode cX9_count 111 = .ok (.getfield 130, 3) := by decide +kernel
theorem dX9_count_114 : decode cX9_count 114 = .ok (.ireturn, 1) := by decide +kernel
theorem dX9_count_115 : decode cX9_count 115 = .ok (.aload_n 0, 1) := by decide +kernel
theorem dX9_count_116 : decode cX9_count 116 = .ok (.getfield 30, 3) := by decide +kernel
theorem dX9_count_119 : decode cX9_count 119 = .ok (.getfield 300, 3) := by decide +kernel
theorem dX9_count_122 : decode cX9_count 122 = .ok (.ireturn, 1) := by decide +kernel
theorem dX9_count_123 : decode cX9_count 123 = .ok (.aload_n 0, 1) := by decide +kernel
theorem dX9_count_124 : decode cX9_count 124 = .ok (.getfield 54, 3) := by decide +kernel
theorem dX9_count_127 : decode cX9_count 127 = .ok (.getfield 267, 3) := by decide +kernel
theorem dX9_count_130 : decode cX9_count 130 = .ok (.ireturn, 1) := by decide +kernel
theorem dX9_count_131 : decode cX9_count 131 = .ok (.aload_n 0, 1) := by decide +kernel
theorem dX9_count_132 : decode cX9_count 132 = .ok (.getfield 30, 3) := by decide +kernel
theorem dX9_count_135 : decode cX9_count 135 = .ok (.getfield 260, 3) := by decide +kernel
theorem dX9_count_138 : decode cX9_count 138 = .ok (.ireturn, 1) := by decide +kernel
theorem dX9_count_139 : decode cX9_count 139 = .ok (.aload_n 0, 1) := by decide +kernel
theorem dX9_count_140 : decode cX9_count 140 = .ok (.iconst 1, 1) := by decide +kernel
theorem dX9_count_141 : decode cX9_count 141 = .ok (.invokevirtual 66, 3) := by decide +kernel
theorem dX9_count_144 : decode cX9_count 144 = .ok (.ireturn, 1) := by decide +kernel
theorem dX9_told_0 : decode cX9_told 0 = .ok (.iload_n 1, 1) := by decide +kernel
theorem dX9_told_1 : decode cX9_told 1 = .ok (.iconst 1, 1) := by decide +kernel
theorem dX9_told_2 : decode cX9_told 2 = .ok (.iconst 5, 1) := by decide +kernel
theorem dX9_told_3 : decode cX9_told 3 = .ok (.invokestatic 62, 3) := by decide +kernel
theorem dX9_told_6 : decode cX9_told 6 = .ok (.ifCond .ne 9, 3) := by decide +kernel
theorem dX9_told_9 : decode cX9_told 9 = .ok (.aload_n 0, 1) := by decide +kernel
theorem dX9_told_10 : decode cX9_told 10 = .ok (.iconst 1, 1) := by decide +kernel
theorem dX9_told_11 : decode cX9_told 11 = .ok (.invokevirtual 66, 3) := by decide +kernel
theorem dX9_told_14 : decode cX9_told 14 = .ok (.ireturn, 1) := by decide +kernel
theorem dX9_told_15 : decode cX9_told 15 = .ok (.aload_n 0, 1) := by decide +kernel
theorem dX9_told_16 : decode cX9_told 16 = .ok (.getfield 9, 3) := by decide +kernel
theorem dX9_told_19 : decode cX9_told 19 = .ok (.iload_n 1, 1) := by decide +kernel
theorem dX9_told_20 : decode cX9_told 20 = .ok (.iaload, 1) := by decide +kernel
theorem dX9_told_21 : decode cX9_told 21 = .ok (.ireturn, 1) := by decide +kernel
theorem dX9_fail_0 : decode cX9_fail 0 = .ok (.iload_n 1, 1) := by decide +kernel
theorem dX9_fail_1 : decode cX9_fail 1 = .ok (.iconst 1, 1) := by decide +kernel
theorem dX9_fail_2 : decode cX9_fail 2 = .ok (.iconst 5, 1) := by decide +kernel
theorem dX9_fail_3 : decode cX9_fail 3 = .ok (.invokestatic 62, 3) := by decide +kernel
theorem dX9_fail_6 : decode cX9_fail 6 = .ok (.ifCond .eq 13, 3) := by decide +kernel
theorem dX9_fail_9 : decode cX9_fail 9 = .ok (.aload_n 0, 1) := by decide +kernel
theorem dX9_fail_10 : decode cX9_fail 10 = .ok (.getfield 9, 3) := by decide +kernel
theorem dX9_fail_13 : decode cX9_fail 13 = .ok (.iload_n 1, 1) := by decide +kernel
theorem dX9_fail_14 : decode cX9_fail 14 = .ok (.dup2, 1) := by decide +kernel
theorem dX9_fail_15 : decode cX9_fail 15 = .ok (.iaload, 1) := by decide +kernel
theorem dX9_fail_16 : decode cX9_fail 16 = .ok (.iconst 1, 1) := by decide +kernel
theorem dX9_fail_17 : decode cX9_fail 17 = .ok (.iadd, 1) := by decide +kernel
theorem dX9_fail_18 : decode cX9_fail 18 = .ok (.iastore, 1) := by decide +kernel
theorem dX9_fail_19 : decode cX9_fail 19 = .ok (.ldc_w 313, 3) := by decide +kernel
theorem dX9_fail_22 : decode cX9_fail 22 = .ok (.iload_n 1, 1) := by decide +kernel
theorem dX9_fail_23 : decode cX9_fail 23 = .ok (.isub, 1) := by decide +kernel
theorem dX9_fail_24 : decode cX9_fail 24 = .ok (.ireturn, 1) := by decide +kernel
theorem dX9_orNone_0 : decode cX9_orNone 0 = .ok (.iload_n 1, 1) := by decide +kernel
theorem dX9_orNone_1 : decode cX9_orNone 1 = .ok (.ifCond .ge 11, 3) := by decide +kernel
theorem dX9_orNone_4 : decode cX9_orNone 4 = .ok (.aload_n 0, 1) := by decide +kernel
theorem dX9_orNone_5 : decode cX9_orNone 5 = .ok (.iconst 2, 1) := by decide +kernel
theorem dX9_orNone_6 : decode cX9_orNone 6 = .ok (.invokevirtual 66, 3) := by decide +kernel
theorem dX9_orNone_9 : decode cX9_orNone 9 = .ok (.goto 4, 3) := by decide +kernel
theorem dX9_orNone_12 : decode cX9_orNone 12 = .ok (.iload_n 1, 1) := by decide +kernel
theorem dX9_orNone_13 : decode cX9_orNone 13 = .ok (.ireturn, 1) := by decide +kernel
theorem dX9_within_0 : decode cX9_within 0 = .ok (.iload_n 0, 1) := by decide +kernel
theorem dX9_within_1 : decode cX9_within 1 = .ok (.iload_n 1, 1) := by decide +kernel
theorem dX9_within_2 : decode cX9_within 2 = .ok (.if_icmp .lt 12, 3) := by decide +kernel
theorem dX9_within_5 : decode cX9_within 5 = .ok (.iload_n 0, 1) := by decide +kernel
theorem dX9_within_6 : decode cX9_within 6 = .ok (.iload_n 2, 1) := by decide +kernel
theorem dX9_within_7 : decode cX9_within 7 = .ok (.if_icmp .gt 7, 3) := by decide +kernel
theorem dX9_within_10 : decode cX9_within 10 = .ok (.iconst 1, 1) := by decide +kernel
theorem dX9_within_11 : decode cX9_within 11 = .ok (.goto 4, 3) := by decide +kernel
theorem dX9_within_14 : decode cX9_within 14 = .ok (.iconst 0, 1) := by decide +kernel
theorem dX9_within_15 : decode cX9_within 15 = .ok (.ireturn, 1) := by decide +kernel
theorem dX9_mostOf_0 : decode cX9_mostOf 0 = .ok (.iload_n 0, 1) := by decide +kernel
theorem dX9_mostOf_1 : decode cX9_mostOf 1 = .ok (.ifCond .ne 7, 3) := by decide +kernel
theorem dX9_mostOf_4 : decode cX9_mostOf 4 = .ok (.sipush 9999, 3) := by decide +kernel
theorem dX9_mostOf_7 : decode cX9_mostOf 7 = .ok (.ireturn, 1) := by decide +kernel
theorem dX9_mostOf_8 : decode cX9_mostOf 8 = .ok (.iload_n 0, 1) := by decide +kernel
theorem dX9_mostOf_9 : decode cX9_mostOf 9 = .ok (.iconst 1, 1) := by decide +kernel
theorem dX9_mostOf_10 : decode cX9_mostOf 10 = .ok (.if_icmp .ne 7, 3) := by decide +kernel
theorem dX9_mostOf_13 : decode cX9_mostOf 13 = .ok (.iconst 1, 1) := by decide +kernel
theorem dX9_mostOf_14 : decode cX9_mostOf 14 = .ok (.goto 6, 3) := by decide +kernel
theorem dX9_mostOf_17 : decode cX9_mostOf 17 = .ok (.sipush 999, 3) := by decide +kernel
theorem dX9_mostOf_20 : decode cX9_mostOf 20 = .ok (.ireturn, 1) := by decide +kernel
theorem dX9_isOfKind_0 : decode cX9_isOfKind 0 = .ok (.iload_n 0, 1) := by decide +kernel
theorem dX9_isOfKind_1 : decode cX9_isOfKind 1 = .ok (.istore_n 2, 1) := by decide +kernel
theorem dX9_isOfKind_2 : decode cX9_isOfKind 2 = .ok (.iconst 0, 1) := by decide +kernel
theorem dX9_isOfKind_3 : decode cX9_isOfKind 3 = .ok (.istore_n 3, 1) := by decide +kernel
theorem dX9_isOfKind_4 : decode cX9_isOfKind 4 = .ok (.iload_n 3, 1) := by decide +kernel
theorem dX9_isOfKind_5 : decode cX9_isOfKind 5 = .ok (.bipush 7, 2) := by decide +kernel
theorem dX9_isOfKind_7 : decode cX9_isOfKind 7 = .ok (.if_icmp .ge 32, 3) := by decide +kernel
theorem dX9_isOfKind_10 : decode cX9_isOfKind 10 = .ok (.iload_n 2, 1) := by decide +kernel
theorem dX9_isOfKind_11 : decode cX9_isOfKind 11 = .ok (.ifCond .lt 28, 3) := by decide +kernel
theorem dX9_isOfKind_14 : decode cX9_isOfKind 14 = .ok (.iload_n 2, 1) := by decide +kernel
theorem dX9_isOfKind_15 : decode cX9_isOfKind 15 = .ok (.bipush 7, 2) := by decide +kernel
theorem dX9_isOfKind_17 : decode cX9_isOfKind 17 = .ok (.if_icmp .ge 22, 3) := by decide +kernel
theorem dX9_isOfKind_20 : decode cX9_isOfKind 20 = .ok (.iload_n 2, 1) := by decide +kernel
theorem dX9_isOfKind_21 : decode cX9_isOfKind 21 = .ok (.iload_n 1, 1) := by decide +kernel
theorem dX9_isOfKind_22 : decode cX9_isOfKind 22 = .ok (.if_icmp .ne 5, 3) := by decide +kernel
theorem dX9_isOfKind_25 : decode cX9_isOfKind 25 = .ok (.iconst 1, 1) := by decide +kernel
theorem dX9_isOfKind_26 : decode cX9_isOfKind 26 = .ok (.ireturn, 1) := by decide +kernel
theorem dX9_isOfKind_27 : decode cX9_isOfKind 27 = .ok (.getstatic 314, 3) := by decide +kernel
theorem dX9_isOfKind_30 : decode cX9_isOfKind 30 = .ok (.iload_n 2, 1) := by decide +kernel
theorem dX9_isOfKind_31 : decode cX9_isOfKind 31 = .ok (.iaload, 1) := by decide +kernel
theorem dX9_isOfKind_32 : decode cX9_isOfKind 32 = .ok (.istore_n 2, 1) := by decide +kernel
theorem dX9_isOfKind_33 : decode cX9_isOfKind 33 = .ok (.iinc 3 1, 3) := by decide +kernel
theorem dX9_isOfKind_36 : decode cX9_isOfKind 36 = .ok (.goto (-32), 3) := by decide +kernel
theorem dX9_isOfKind_39 : decode cX9_isOfKind 39 = .ok (.iconst 0, 1) := by decide +kernel
theorem dX9_isOfKind_40 : decode cX9_isOfKind 40 = .ok (.ireturn, 1) := by decide +kernel
theorem dX9_commonDivisor_0 : decode cX9_commonDivisor 0 = .ok (.iload_n 0, 1) := by decide +kernel
theorem dX9_commonDivisor_1 : decode cX9_commonDivisor 1 = .ok (.istore_n 2, 1) := by decide +kernel
theorem dX9_commonDivisor_2 : decode cX9_commonDivisor 2 = .ok (.iload_n 1, 1) := by decide +kernel
theorem dX9_commonDivisor_3 : decode cX9_commonDivisor 3 = .ok (.istore_n 3, 1) := by decide +kernel
theorem dX9_commonDivisor_4 : decode cX9_commonDivisor 4 = .ok (.iconst 0, 1) := by decide +kernel
theorem dX9_commonDivisor_5 : decode cX9_commonDivisor 5 = .ok (.istore 4, 2) := by decide +kernel
theorem dX9_commonDivisor_7 : decode cX9_commonDivisor 7 = .ok (.iload 4, 2) := by decide +kernel
theorem dX9_commonDivisor_9 : decode cX9_commonDivisor 9 = .ok (.sipush 128, 3) := by decide +kernel
theorem dX9_commonDivisor_12 : decode cX9_commonDivisor 12 = .ok (.if_icmp .ge 23, 3) := by decide +kernel
theorem dX9_commonDivisor_15 : decode cX9_commonDivisor 15 = .ok (.iload_n 3, 1) := by decide +kernel
theorem dX9_commonDivisor_16 : decode cX9_commonDivisor 16 = .ok (.ifCond .eq 19, 3) := by decide +kernel
theorem dX9_commonDivisor_19 : decode cX9_commonDivisor 19 = .ok (.iload_n 2, 1) := by decide +kernel
theorem dX9_commonDivisor_20 : decode cX9_commonDivisor 20 = .ok (.iload_n 3, 1) := by decide +kernel
theorem dX9_commonDivisor_21 : decode cX9_commonDivisor 21 = .ok (.irem, 1) := by decide +kernel
theorem dX9_commonDivisor_22 : decode cX9_commonDivisor 22 = .ok (.istore 5, 2) := by decide +kernel
theorem dX9_commonDivisor_24 : decode cX9_commonDivisor 24 = .ok (.iload_n 3, 1) := by decide +kernel
theorem dX9_commonDivisor_25 : decode cX9_commonDivisor 25 = .ok (.istore_n 2, 1) := by decide +kernel
theorem dX9_commonDivisor_26 : decode cX9_commonDivisor 26 = .ok (.iload 5, 2) := by decide +kernel
theorem dX9_commonDivisor_28 : decode cX9_commonDivisor 28 = .ok (.istore_n 3, 1) := by decide +kernel
theorem dX9_commonDivisor_29 : decode cX9_commonDivisor 29 = .ok (.iinc 4 1, 3) := by decide +kernel
theorem dX9_commonDivisor_32 : decode cX9_commonDivisor 32 = .ok (.goto (-25), 3) := by decide +kernel
theorem dX9_commonDivisor_35 : decode cX9_commonDivisor 35 = .ok (.iload_n 2, 1) := by decide +kernel
theorem dX9_commonDivisor_36 : decode cX9_commonDivisor 36 = .ok (.ireturn, 1) := by decide +kernel
theorem dX10_init_0 : decode cX10_init 0 = .ok (.aload_n 0, 1) := by decide +kernel
theorem dX10_init_1 : decode cX10_init 1 = .ok (.invokespecial 1, 3) := by decide +kernel
theorem dX10_init_4 : decode cX10_init 4 = .ok (.aload_n 0, 1) := by decide +kernel
theorem dX10_init_5 : decode cX10_init 5 = .ok (.sipush 226, 3) := by decide +kernel
theorem dX10_init_8 : decode cX10_init 8 = .ok (.newarray .int, 2) := by decide +kernel
theorem dX10_init_10 : decode cX10_init 10 = .ok (.putfield 7, 3) := by decide +kernel
theorem dX10_init_13 : decode cX10_init 13 = .ok (.aload_n 0, 1) := by decide +kernel
theorem dX10_init_14 : decode cX10_init 14 = .ok (.sipush 226, 3) := by decide +kernel
theorem dX10_init_17 : decode cX10_init 17 = .ok (.newarray .int, 2) := by decide +kernel
theorem dX10_init_19 : decode cX10_init 19 = .ok (.putfield 13, 3) := by decide +kernel
theorem dX10_init_22 : decode cX10_init 22 = .ok (.aload_n 0, 1) := by decide +kernel
theorem dX10_init_23 : decode cX10_init 23 = .ok (.sipush 226, 3) := by decide +kernel
theorem dX10_init_26 : decode cX10_init 26 = .ok (.newarray .int, 2) := by decide +kernel
theorem dX10_init_28 : decode cX10_init 28 = .ok (.putfield 16, 3) := by decide +kernel
theorem dX10_init_31 : decode cX10_init 31 = .ok (.aload_n 0, 1) := by decide +kernel
theorem dX10_init_32 : decode cX10_init 32 = .ok (.sipush 226, 3) := by decide +kernel
theorem dX10_init_35 : decode cX10_init 35 = .ok (.newarray .int, 2) := by decide +kernel
theorem dX10_init_37 : decode cX10_init 37 = .ok (.putfield 19, 3) := by decide +kernel
theorem dX10_init_40 : decode cX10_init 40 = .ok (.aload_n 0, 1) := by decide +kernel
theorem dX10_init_41 : decode cX10_init 41 = .ok (.bipush 6, 2) := by decide +kernel
theorem dX10_init_43 : decode cX10_init 43 = .ok (.newarray .int, 2) := by decide +kernel
theorem dX10_init_45 : decode cX10_init 45 = .ok (.putfield 22, 3) := by decide +kernel
theorem dX10_init_48 : decode cX10_init 48 = .ok (.aload_n 0, 1) := by decide +kernel
theorem dX10_init_49 : decode cX10_init 49 = .ok (.bipush 16, 2) := by decide +kernel
theorem dX10_init_51 : decode cX10_init 51 = .ok (.newarray .int, 2) := by decide +kernel
theorem dX10_init_53 : decode cX10_init 53 = .ok (.putfield 25, 3) := by decide +kernel
theorem dX10_init_56 : decode cX10_init 56 = .ok (.aload_n 0, 1) := by decide +kernel
theorem dX10_init_57 : decode cX10_init 57 = .ok (.sipush 128, 3) := by decide +kernel
theorem dX10_init_60 : decode cX10_init 60 = .ok (.newarray .int, 2) := by decide +kernel
theorem dX10_init_62 : decode cX10_init 62 = .ok (.putfield 28, 3) := by decide +kernel
theorem dX10_init_65 : decode cX10_init 65 = .ok (.aload_n 0, 1) := by decide +kernel
theorem dX10_init_66 : decode cX10_init 66 = .ok (.iconst 4, 1) := by decide +kernel
theorem dX10_init_67 : decode cX10_init 67 = .ok (.newarray .int, 2) := by decide +kernel
theorem dX10_init_69 : decode cX10_init 69 = .ok (.putfield 31, 3) := by decide +kernel
theorem dX10_init_72 : decode cX10_init 72 = .ok (.aload_n 0, 1) := by decide +kernel
theorem dX10_init_73 : decode cX10_init 73 = .ok (.iconst 4, 1) := by decide +kernel
theorem dX10_init_74 : decode cX10_init 74 = .ok (.newarray .int, 2) := by decide +kernel
theorem dX10_init_76 : decode cX10_init 76 = .ok (.putfield 34, 3) := by decide +kernel
theorem dX10_init_79 : decode cX10_init 79 = .ok (.aload_n 0, 1) := by decide +kernel
theorem dX10_init_80 : decode cX10_init 80 = .ok (.sipush 160, 3) := by decide +kernel
theorem dX10_init_83 : decode cX10_init 83 = .ok (.newarray .int, 2) := by decide +kernel
theorem dX10_init_85 : decode cX10_init 85 = .ok (.putfield 37, 3) := by decide +kernel
theorem dX10_init_88 : decode cX10_init 88 = .ok (.aload_n 0, 1) := by decide +kernel
theorem dX10_init_89 : decode cX10_init 89 = .ok (.bipush 40, 2) := by decide +kernel
theorem dX10_init_91 : decode cX10_init 91 = .ok (.newarray .int, 2) := by decide +kernel
theorem dX10_init_93 : decode cX10_init 93 = .ok (.putfield 40, 3) := by decide +kernel
theorem dX10_init_96 : decode cX10_init 96 = .ok (.aload_n 0, 1) := by decide +kernel
theorem dX10_init_97 : decode cX10_init 97 = .ok (.bipush 40, 2) := by decide +kernel
theorem dX10_init_99 : decode cX10_init 99 = .ok (.newarray .int, 2) := by decide +kernel
theorem dX10_init_101 : decode cX10_init 101 = .ok (.putfield 43, 3) := by decide +kernel
theorem dX10_init_104 : decode cX10_init 104 = .ok (.aload_n 0, 1) := by decide +kernel
theorem dX10_init_105 : decode cX10_init 105 = .ok (.getfield 7, 3) := by decide +kernel
theorem dX10_init_108 : decode cX10_init 108 = .ok (.iconst 1, 1) := by decide +kernel
theorem dX10_init_109 : decode cX10_init 109 = .ok (.iconst 1, 1) := by decide +kernel
theorem dX10_init_110 : decode cX10_init 110 = .ok (.iastore, 1) := by decide +kernel
theorem dX10_init_111 : decode cX10_init 111 = .ok (.aload_n 0, 1) := by decide +kernel
theorem dX10_init_112 : decode cX10_init 112 = .ok (.getfield 7, 3) := by decide +kernel
theorem dX10_init_115 : decode cX10_init 115 = .ok (.iconst 5, 1) := by decide +kernel
theorem dX10_init_116 : decode cX10_init 116 = .ok (.iconst (-1), 1) := by decide +kernel
theorem dX10_init_117 : decode cX10_init 117 = .ok (.iastore, 1) := by decide +kernel
theorem dX10_init_118 : decode cX10_init 118 = .ok (.aload_n 0, 1) := by decide +kernel
theorem dX10_init_119 : decode cX10_init 119 = .ok (.getfield 7, 3) := by decide +kernel
theorem dX10_init_122 : decode cX10_init 122 = .ok (.bipush 6, 2) := by decide +kernel
theorem dX10_init_124 : decode cX10_init 124 = .ok (.iconst (-1), 1) := by decide +kernel
theorem dX10_init_125 : decode cX10_init 125 = .ok (.iastore, 1) := by decide +kernel
theorem dX10_init_126 : decode cX10_init 126 = .ok (.return_, 1) := by decide +kernel
theorem dX10_in_0 : decode cX10_in 0 = .ok (.iload_n 0, 1) := by decide +kernel
theorem dX10_in_1 : decode cX10_in 1 = .ok (.iload_n 1, 1) := by decide +kernel
theorem dX10_in_2 : decode cX10_in 2 = .ok (.if_icmp .lt 12, 3) := by decide +kernel
theorem dX10_in_5 : decode cX10_in 5 = .ok (.iload_n 0, 1) := by decide +kernel
theorem dX10_in_6 : decode cX10_in 6 = .ok (.iload_n 2, 1) := by decide +kernel
theorem dX10_in_7 : decode cX10_in 7 = .ok (.if_icmp .gt 7, 3) := by decide +kernel
theorem dX10_in_10 : decode cX10_in 10 = .ok (.iconst 1, 1) := by decide +kernel
theorem dX10_in_11 : decode cX10_in 11 = .ok (.goto 4, 3) := by decide +kernel
theorem dX10_in_14 : decode cX10_in 14 = .ok (.iconst 0, 1) := by decide +kernel
theorem dX10_in_15 : decode cX10_in 15 = .ok (.ireturn, 1) := by decide +kernel
theorem dX10_errs_0 : decode cX10_errs 0 = .ok (.aload_n 0, 1) := by decide +kernel
theorem dX10_errs_1 : decode cX10_errs 1 = .ok (.getfield 22, 3) := by decide +kernel
theorem dX10_errs_4 : decode cX10_errs 4 = .ok (.ldc 46, 2) := by decide +kernel
theorem dX10_errs_6 : decode cX10_errs 6 = .ok (.iload_n 1, 1) := by decide +kernel
theorem dX10_errs_7 : decode cX10_errs 7 = .ok (.isub, 1) := by decide +kernel
theorem dX10_errs_8 : decode cX10_errs 8 = .ok (.dup2, 1) := by decide +kernel
theorem dX10_errs_9 : decode cX10_errs 9 = .ok (.iaload, 1) := by decide +kernel
theorem dX10_errs_10 : decode cX10_errs 10 = .ok (.iconst 1, 1) := by decide +kernel
theorem dX10_errs_11 : decode cX10_errs 11 = .ok (.iadd, 1) := by decide +kernel
theorem dX10_errs_12 : decode cX10_errs 12 = .ok (.iastore, 1) := by decide +kernel
theorem dX10_errs_13 : decode cX10_errs 13 = .ok (.iload_n 1, 1) := by decide +kernel
theorem dX10_errs_14 : decode cX10_errs 14 = .ok (.ireturn, 1) := by decide +kernel
theorem dX10_held_0 : decode cX10_held 0 = .ok (.iload_n 0, 1) := by decide +kernel
theorem dX10_held_1 : decode cX10_held 1 = .ok (.iload_n 1, 1) := by decide +kernel
theorem dX10_held_2 : decode cX10_held 2 = .ok (.if_icmp .ge 7, 3) := by decide +kernel
theorem dX10_held_5 : decode cX10_held 5 = .ok (.iload_n 1, 1) := by decide +kernel
theorem dX10_held_6 : decode cX10_held 6 = .ok (.goto 13, 3) := by decide +kernel
theorem dX10_held_9 : decode cX10_held 9 = .ok (.iload_n 0, 1) := by decide +kernel
theorem dX10_held_10 : decode cX10_held 10 = .ok (.iload_n 2, 1) := by decide +kernel
theorem dX10_held_11 : decode cX10_held 11 = .ok (.if_icmp .le 7, 3) := by decide +kernel
theorem dX10_held_14 : decode cX10_held 14 = .ok (.iload_n 2, 1) := by decide +kernel
theorem dX10_held_15 : decode cX10_held 15 = .ok (.goto 4, 3) := by decide +kernel
theorem dX10_held_18 : decode cX10_held 18 = .ok (.iload_n 0, 1) := by decide +kernel
theorem dX10_held_19 : decode cX10_held 19 = .ok (.ireturn, 1) := by decide +kernel
theorem dX10_moveAll_0 : decode cX10_moveAll 0 = .ok (.iconst 0, 1) := by decide +kernel
theorem dX10_moveAll_1 : decode cX10_moveAll 1 = .ok (.istore_n 3, 1) := by decide +kernel
theorem dX10_moveAll_2 : decode cX10_moveAll 2 = .ok (.iload_n 3, 1) := by decide +kernel
theorem dX10_moveAll_3 : decode cX10_moveAll 3 = .ok (.sipush 226, 3) := by decide +kernel
theorem dX10_moveAll_6 : decode cX10_moveAll 6 = .ok (.if_icmp .ge 15, 3) := by decide +kernel
theorem dX10_moveAll_9 : decode cX10_moveAll 9 = .ok (.aload_n 2, 1) := by decide +kernel
theorem dX10_moveAll_10 : decode cX10_moveAll 10 = .ok (.iload_n 3, 1) := by decide +kernel
theorem dX10_moveAll_11 : decode cX10_moveAll 11 = .ok (.aload_n 1, 1) := by decide +kernel
theorem dX10_moveAll_12 : decode cX10_moveAll 12 = .ok (.iload_n 3, 1) := by decide +kernel
theorem dX10_moveAll_13 : decode cX10_moveAll 13 = .ok (.iaload, 1) := by decide +kernel
theorem dX10_moveAll_14 : decode cX10_moveAll 14 = .ok (.iastore, 1) := by decide +kernel
theorem dX10_moveAll_15 : decode cX10_moveAll 15 = .ok (.iinc 3 1, 3) := by decide +kernel
theorem dX10_moveAll_18 : decode cX10_moveAll 18 = .ok (.goto (-16), 3) := by decide +kernel
theorem dX10_moveAll_21 : decode cX10_moveAll 21 = .ok (.return_, 1) := by decide +kernel
theorem dX10_bits_0 : decode cX10_bits 0 = .ok (.iconst 0, 1) := by decide +kernel
theorem dX10_bits_1 : decode cX10_bits 1 = .ok (.istore_n 1, 1) := by decide +kernel
theorem dX10_bits_2 : decode cX10_bits 2 = .ok (.iload_n 0, 1) := by decide +kernel
theorem dX10_bits_3 : decode cX10_bits 3 = .ok (.istore_n 2, 1) := by decide +kernel
theorem dX10_bits_4 : decode cX10_bits 4 = .ok (.iload_n 2, 1) := by decide +kernel
theorem dX10_bits_5 : decode cX10_bits 5 = .ok (.ifCond .eq 15, 3) := by decide +kernel
theorem dX10_bits_8 : decode cX10_bits 8 = .ok (.iinc 1 1, 3) := by decide +kernel
theorem dX10_bits_11 : decode cX10_bits 11 = .ok (.iload_n 2, 1) := by decide +kernel
theorem dX10_bits_12 : decode cX10_bits 12 = .ok (.iload_n 2, 1) := by decide +kernel
theorem dX10_bits_13 : decode cX10_bits 13 = .ok (.iconst 1, 1) := by decide +kernel
theorem dX10_bits_14 : decode cX10_bits 14 = .ok (.isub, 1) := by decide +kernel
theorem dX10_bits_15 : decode cX10_bits 15 = .ok (.iand, 1) := by decide +kernel
theorem dX10_bits_16 : decode cX10_bits 16 = .ok (.istore_n 2, 1) := by decide +kernel
theorem dX10_bits_17 : decode cX10_bits 17 = .ok (.goto (-13), 3) := by decide +kernel
theorem dX10_bits_20 : decode cX10_bits 20 = .ok (.iload_n 1, 1) := by decide +kernel
theorem dX10_bits_21 : decode cX10_bits 21 = .ok (.ireturn, 1) := by decide +kernel
theorem dX10_its_0 : decode cX10_its 0 = .ok (.aload_n 0, 1) := by decide +kernel
theorem dX10_its_1 : decode cX10_its 1 = .ok (.getfield 7, 3) := by decide +kernel
theorem dX10_its_4 : decode cX10_its 4 = .ok (.bipush 8, 2) := by decide +kernel
theorem dX10_its_6 : decode cX10_its 6 = .ok (.bipush 6, 2) := by decide +kernel
theorem dX10_its_8 : decode cX10_its 8 = .ok (.iload_n 1, 1) := by decide +kernel
theorem dX10_its_9 : decode cX10_its 9 = .ok (.imul, 1) := by decide +kernel
theorem dX10_its_10 : decode cX10_its 10 = .ok (.iadd, 1) := by decide +kernel
theorem dX10_its_11 : decode cX10_its 11 = .ok (.iload_n 2, 1) := by decide +kernel
theorem dX10_its_12 : decode cX10_its 12 = .ok (.iadd, 1) := by decide +kernel
theorem dX10_its_13 : decode cX10_its 13 = .ok (.iaload, 1) := by decide +kernel
theorem dX10_its_14 : decode cX10_its 14 = .ok (.ireturn, 1) := by decide +kernel
theorem dX10_gets_0 : decode cX10_gets 0 = .ok (.aload_n 0, 1) := by decide +kernel
theorem dX10_gets_1 : decode cX10_gets 1 = .ok (.getfield 7, 3) := by decide +kernel
theorem dX10_gets_4 : decode cX10_gets 4 = .ok (.bipush 8, 2) := by decide +kernel
theorem dX10_gets_6 : decode cX10_gets 6 = .ok (.bipush 6, 2) := by decide +kernel
theorem dX10_gets_8 : decode cX10_gets 8 = .ok (.iload_n 1, 1) := by decide +kernel
theorem dX10_gets_9 : decode cX10_gets 9 = .ok (.imul, 1) := by decide +kernel
theorem dX10_gets_10 : decode cX10_gets 10 = .ok (.iadd, 1) := by decide +kernel
theorem dX10_gets_11 : decode cX10_gets 11 = .ok (.iload_n 2, 1) := by decide +kernel
theorem dX10_gets_12 : decode cX10_gets 12 = .ok (.iadd, 1) := by decide +kernel
theorem dX10_gets_13 : decode cX10_gets 13 = .ok (.iload_n 3, 1) := by decide +kernel
theorem dX10_gets_14 : decode cX10_gets 14 = .ok (.iastore, 1) := by decide +kernel
theorem dX10_gets_15 : decode cX10_gets 15 = .ok (.return_, 1) := by decide +kernel
theorem dX10_isPaper_0 : decode cX10_isPaper 0 = .ok (.iload_n 1, 1) := by decide +kernel
theorem dX10_isPaper_1 : decode cX10_isPaper 1 = .ok (.iconst 0, 1) := by decide +kernel
theorem dX10_isPaper_2 : decode cX10_isPaper 2 = .ok (.aload_n 0, 1) := by decide +kernel
theorem dX10_isPaper_3 : decode cX10_isPaper 3 = .ok (.getfield 7, 3) := by decide +kernel
theorem dX10_isPaper_6 : decode cX10_isPaper 6 = .ok (.iconst 2, 1) := by decide +kernel
theorem dX10_isPaper_7 : decode cX10_isPaper 7 = .ok (.iaload, 1) := by decide +kernel
theorem dX10_isPaper_8 : decode cX10_isPaper 8 = .ok (.iconst 1, 1) := by decide +kernel
theorem dX10_isPaper_9 : decode cX10_isPaper 9 = .ok (.isub, 1) := by decide +kernel
theorem dX10_isPaper_10 : decode cX10_isPaper 10 = .ok (.invokestatic 47, 3) := by decide +kernel
theorem dX10_isPaper_13 : decode cX10_isPaper 13 = .ok (.ireturn, 1) := by decide +kernel
theorem dX10_isSet_0 : decode cX10_isSet 0 = .ok (.iload_n 0, 1) := by decide +kernel
theorem dX10_isSet_1 : decode cX10_isSet 1 = .ok (.iconst 0, 1) := by decide +kernel
theorem dX10_isSet_2 : decode cX10_isSet 2 = .ok (.bipush 127, 2) := by decide +kernel
theorem dX10_isSet_4 : decode cX10_isSet 4 = .ok (.invokestatic 47, 3) := by decide +kernel
theorem dX10_isSet_7 : decode cX10_isSet 7 = .ok (.ireturn, 1) := by decide +kernel
theorem dX10_becomes_0 : decode cX10_becomes 0 = .ok (.aload_n 0, 1) := by decide +kernel
theorem dX10_becomes_1 : decode cX10_becomes 1 = .ok (.getfield 7, 3) := by decide +kernel
theorem dX10_becomes_4 : decode cX10_becomes 4 = .ok (.iload_n 1, 1) := by decide +kernel
theorem dX10_becomes_5 : decode cX10_becomes 5 = .ok (.iaload, 1) := by decide +kernel
theorem dX10_becomes_6 : decode cX10_becomes 6 = .ok (.istore_n 3, 1) := by decide +kernel
theorem dX10_becomes_7 : decode cX10_becomes 7 = .ok (.aload_n 0, 1) := by decide +kernel
theorem dX10_becomes_8 : decode cX10_becomes 8 = .ok (.getfield 7, 3) := by decide +kernel
theorem dX10_becomes_11 : decode cX10_becomes 11 = .ok (.iload_n 1, 1) := by decide +kernel
theorem dX10_becomes_12 : decode cX10_becomes 12 = .ok (.iload_n 2, 1) := by decide +kernel
theorem dX10_becomes_13 : decode cX10_becomes 13 = .ok (.iastore, 1) := by decide +kernel
theorem dX10_becomes_14 : decode cX10_becomes 14 = .ok (.iload_n 3, 1) := by decide +kernel
theorem dX10_becomes_15 : decode cX10_becomes 15 = .ok (.ireturn, 1) := by decide +kernel
theorem dX10_paper_0 : decode cX10_paper 0 = .ok (.iload_n 1, 1) := by decide +kernel
theorem dX10_paper_1 : decode cX10_paper 1 = .ok (.iconst 0, 1) := by decide +kernel
theorem dX10_paper_2 : decode cX10_paper 2 = .ok (.bipush 69, 2) := by decide +kernel
theorem dX10_paper_4 : decode cX10_paper 4 = .ok (.invokestatic 47, 3) := by decide +kernel
theorem dX10_paper_7 : decode cX10_paper 7 = .ok (.ifCond .eq 14, 3) := by decide +kernel
theorem dX10_paper_10 : decode cX10_paper 10 = .ok (.iload_n 2, 1) := by decide +kernel
theorem dX10_paper_11 : decode cX10_paper 11 = .ok (.iconst 0, 1) := by decide +kernel
theorem dX10_paper_12 : decode cX10_paper 12 = .ok (.sipush 9999, 3) := by decide +kernel
theorem dX10_paper_15 : decode cX10_paper 15 = .ok (.invokestatic 47, 3) := by decide +kernel
theorem dX10_paper_18 : decode cX10_paper 18 = .ok (.ifCond .ne 10, 3) := by decide +kernel
theorem dX10_paper_21 : decode cX10_paper 21 = .ok (.aload_n 0, 1) := by decide +kernel
theorem dX10_paper_22 : decode cX10_paper 22 = .ok (.ldc 51, 2) := by decide +kernel
theorem dX10_paper_24 : decode cX10_paper 24 = .ok (.invokevirtual 52, 3) := by decide +kernel
theorem dX10_paper_27 : decode cX10_paper 27 = .ok (.ireturn, 1) := by decide +kernel
theorem dX10_paper_28 : decode cX10_paper 28 = .ok (.aload_n 0, 1) := by decide +kernel
theorem dX10_paper_29 : decode cX10_paper 29 = .ok (.getfield 7, 3) := by decide +kernel
theorem dX10_paper_32 : decode cX10_paper 32 = .ok (.iconst 2, 1) := by decide +kernel
theorem dX10_paper_33 : decode cX10_paper 33 = .ok (.iaload, 1) := by decide +kernel
theorem dX10_paper_34 : decode cX10_paper 34 = .ok (.bipush 8, 2) := by decide +kernel
theorem dX10_paper_36 : decode cX10_paper 36 = .ok (.if_icmp .ne 10, 3) := by decide +kernel
theorem dX10_paper_39 : decode cX10_paper 39 = .ok (.aload_n 0, 1) := by decide +kernel
theorem dX10_paper_40 : decode cX10_paper 40 = .ok (.ldc 56, 2) := by decide +kernel
theorem dX10_paper_42 : decode cX10_paper 42 = .ok (.invokevirtual 52, 3) := by decide +kernel
theorem dX10_paper_45 : decode cX10_paper 45 = .ok (.ireturn, 1) := by decide +kernel
theorem dX10_paper_46 : decode cX10_paper 46 = .ok (.aload_n 0, 1) := by decide +kernel
theorem dX10_paper_47 : decode cX10_paper 47 = .ok (.getfield 7, 3) := by decide +kernel
theorem dX10_paper_50 : decode cX10_paper 50 = .ok (.iconst 2, 1) := by decide +kernel
theorem dX10_paper_51 : decode cX10_paper 51 = .ok (.iaload, 1) := by decide +kernel
theorem dX10_paper_52 : decode cX10_paper 52 = .ok (.istore_n 3, 1) := by decide +kernel
theorem dX10_paper_53 : decode cX10_paper 53 = .ok (.aload_n 0, 1) := by decide +kernel
theorem dX10_paper_54 : decode cX10_paper 54 = .ok (.iload_n 3, 1) := by decide +kernel
theorem dX10_paper_55 : decode cX10_paper 55 = .ok (.iconst 0, 1) := by decide +kernel
theorem dX10_paper_56 : decode cX10_paper 56 = .ok (.iload_n 1, 1) := by decide +kernel
theorem dX10_paper_57 : decode cX10_paper 57 = .ok (.bipush 10, 2) := by decide +kernel
theorem dX10_paper_59 : decode cX10_paper 59 = .ok (.idiv, 1) := by decide +kernel
theorem dX10_paper_60 : decode cX10_paper 60 = .ok (.invokevirtual 57, 3) := by decide +kernel
theorem dX10_paper_63 : decode cX10_paper 63 = .ok (.aload_n 0, 1) := by decide +kernel
theorem dX10_paper_64 : decode cX10_paper 64 = .ok (.iload_n 3, 1) := by decide +kernel
theorem dX10_paper_65 : decode cX10_paper 65 = .ok (.iconst 1, 1) := by decide +kernel
theorem dX10_paper_66 : decode cX10_paper 66 = .ok (.iload_n 1, 1) := by decide +kernel
theorem dX10_paper_67 : decode cX10_paper 67 = .ok (.bipush 10, 2) := by decide +kernel
theorem dX10_paper_69 : decode cX10_paper 69 = .ok (.irem, 1) := by decide +kernel
theorem dX10_paper_70 : decode cX10_paper 70 = .ok (.invokevirtual 57, 3) := by decide +kernel
theorem dX10_paper_73 : decode cX10_paper 73 = .ok (.aload_n 0, 1) := by decide +kernel
theorem dX10_paper_74 : decode cX10_paper 74 = .ok (.iload_n 3, 1) := by decide +kernel
theorem dX10_paper_75 : decode cX10_paper 75 = .ok (.iconst 2, 1) := by decide +kernel
theorem dX10_paper_76 : decode cX10_paper 76 = .ok (.iload_n 2, 1) := by decide +kernel
theorem dX10_paper_77 : decode cX10_paper 77 = .ok (.invokevirtual 57, 3) := by decide +kernel
theorem dX10_paper_80 : decode cX10_paper 80 = .ok (.aload_n 0, 1) := by decide +kernel
theorem dX10_paper_81 : decode cX10_paper 81 = .ok (.iload_n 3, 1) := by decide +kernel
theorem dX10_paper_82 : decode cX10_paper 82 = .ok (.iconst 3, 1) := by decide +kernel
theorem dX10_paper_83 : decode cX10_paper 83 = .ok (.iconst 0, 1) := by decide +kernel
theorem dX10_paper_84 : decode cX10_paper 84 = .ok (.invokevirtual 57, 3) := by decide +kernel
theorem dX10_paper_87 : decode cX10_paper 87 = .ok (.aload_n 0, 1) := by decide +kernel
theorem dX10_paper_88 : decode cX10_paper 88 = .ok (.iload_n 3, 1) := by decide +kernel
theorem dX10_paper_89 : decode cX10_paper 89 = .ok (.iconst 4, 1) := by decide +kernel
theorem dX10_paper_90 : decode cX10_paper 90 = .ok (.iconst 0, 1) := by decide +kernel
theorem dX10_paper_91 : decode cX10_paper 91 = .ok (.invokevirtual 57, 3) := by decide +kernel
theorem dX10_paper_94 : decode cX10_paper 94 = .ok (.aload_n 0, 1) := by decide +kernel
theorem dX10_paper_95 : decode cX10_paper 95 = .ok (.iload_n 3, 1) := by decide +kernel
theorem dX10_paper_96 : decode cX10_paper 96 = .ok (.iconst 5, 1) := by decide +kernel
theorem dX10_paper_97 : decode cX10_paper 97 = .ok (.iconst 0, 1) := by decide +kernel
theorem dX10_paper_98 : decode cX10_paper 98 = .ok (.invokevirtual 57, 3) := by decide +kernel
theorem dX10_paper_101 : decode cX10_paper 101 = .ok (.aload_n 0, 1) := by decide +kernel
theorem dX10_paper_102 : decode cX10_paper 102 = .ok (.getfield 7, 3) := by decide +kernel
theorem dX10_paper_105 : decode cX10_paper 105 = .ok (.iconst 2, 1) := by decide +kernel
theorem dX10_paper_106 : decode cX10_paper 106 = .ok (.dup2, 1) := by decide +kernel
theorem dX10_paper_107 : decode cX10_paper 107 = .ok (.iaload, 1) := by decide +kernel
theorem dX10_paper_108 : decode cX10_paper 108 = .ok (.iconst 1, 1) := by decide +kernel
theorem dX10_paper_109 : decode cX10_paper 109 = .ok (.iadd, 1) := by decide +kernel
theorem dX10_paper_110 : decode cX10_paper 110 = .ok (.iastore, 1) := by decide +kernel
theorem dX10_paper_111 : decode cX10_paper 111 = .ok (.iload_n 3, 1) := by decide +kernel
theorem dX10_paper_112 : decode cX10_paper 112 = .ok (.ireturn, 1) := by decide +kernel
theorem dX10_ofPaper_0 : decode cX10_ofPaper 0 = .ok (.aload_n 0, 1) := by decide +kernel
theorem dX10_ofPaper_1 : decode cX10_ofPaper 1 = .ok (.iload_n 1, 1) := by decide +kernel
theorem dX10_ofPaper_2 : decode cX10_ofPaper 2 = .ok (.invokevirtual 61, 3) := by decide +kernel
theorem dX10_ofPaper_5 : decode cX10_ofPaper 5 = .ok (.ifCond .eq 13, 3) := by decide +kernel
theorem dX10_ofPaper_8 : decode cX10_ofPaper 8 = .ok (.iload_n 2, 1) := by decide +kernel
theorem dX10_ofPaper_9 : decode cX10_ofPaper 9 = .ok (.iconst 0, 1) := by decide +kernel
theorem dX10_ofPaper_10 : decode cX10_ofPaper 10 = .ok (.bipush 9, 2) := by decide +kernel
theorem dX10_ofPaper_12 : decode cX10_ofPaper 12 = .ok (.invokestatic 47, 3) := by decide +kernel
theorem dX10_ofPaper_15 : decode cX10_ofPaper 15 = .ok (.ifCond .ne 10, 3) := by decide +kernel
theorem dX10_ofPaper_18 : decode cX10_ofPaper 18 = .ok (.aload_n 0, 1) := by decide +kernel
theorem dX10_ofPaper_19 : decode cX10_ofPaper 19 = .ok (.ldc 51, 2) := by decide +kernel
theorem dX10_ofPaper_21 : decode cX10_ofPaper 21 = .ok (.invokevirtual 52, 3) := by decide +kernel
theorem dX10_ofPaper_24 : decode cX10_ofPaper 24 = .ok (.ireturn, 1) := by decide +kernel
theorem dX10_ofPaper_25 : decode cX10_ofPaper 25 = .ok (.iload_n 2, 1) := by decide +kernel
theorem dX10_ofPaper_26 : decode cX10_ofPaper 26 = .ok (.tableswitch 78 6 9 #[30, 41, 52, 58], 30) := by decide +kernel
theorem dX10_ofPaper_56 : decode cX10_ofPaper 56 = .ok (.aload_n 0, 1) := by decide +kernel
theorem dX10_ofPaper_57 : decode cX10_ofPaper 57 = .ok (.aload_n 0, 1) := by decide +kernel
theorem dX10_ofPaper_58 : decode cX10_ofPaper 58 = .ok (.iload_n 1, 1) := by decide +kernel
theorem dX10_ofPaper_59 : decode cX10_ofPaper 59 = .ok (.iconst 3, 1) := by decide +kernel
theorem dX10_ofPaper_60 : decode cX10_ofPaper 60 = .ok (.invokevirtual 65, 3) := by decide +kernel
theorem dX10_ofPaper_63 : decode cX10_ofPaper 63 = .ok (.invokevirtual 69, 3) := by decide +kernel
theorem dX10_ofPaper_66 : decode cX10_ofPaper 66 = .ok (.ireturn, 1) := by decide +kernel
theorem dX10_ofPaper_67 : decode cX10_ofPaper 67 = .ok (.aload_n 0, 1) := by decide +kernel
theorem dX10_ofPaper_68 : decode cX10_ofPaper 68 = .ok (.aload_n 0, 1) := by decide +kernel
theorem dX10_ofPaper_69 : decode cX10_ofPaper 69 = .ok (.iload_n 1, 1) := by decide +kernel
theorem dX10_ofPaper_70 : decode cX10_ofPaper 70 = .ok (.iconst 3, 1) := by decide +kernel
theorem dX10_ofPaper_71 : decode cX10_ofPaper 71 = .ok (.invokevirtual 65, 3) := by decide +kernel
theorem dX10_ofPaper_74 : decode cX10_ofPaper 74 = .ok (.invokevirtual 72, 3) := by decide +kernel
theorem dX10_ofPaper_77 : decode cX10_ofPaper 77 = .ok (.ireturn, 1) := by decide +kernel
theorem dX10_ofPaper_78 : decode cX10_ofPaper 78 = .ok (.aload_n 0, 1) := by decide +kernel
theorem dX10_ofPaper_79 : decode cX10_ofPaper 79 = .ok (.iload_n 1, 1) := by decide +kernel
theorem dX10_ofPaper_80 : decode cX10_ofPaper 80 = .ok (.invokevirtual 75, 3) := by decide +kernel
theorem dX10_ofPaper_83 : decode cX10_ofPaper 83 = .ok (.ireturn, 1) := by decide +kernel
theorem dX10_ofPaper_84 : decode cX10_ofPaper 84 = .ok (.aload_n 0, 1) := by decide +kernel
theorem dX10_ofPaper_85 : decode cX10_ofPaper 85 = .ok (.iload_n 1, 1) := by decide +kernel
theorem dX10_ofPaper_86 : decode cX10_ofPaper 86 = .ok (.aload_n 0, 1) := by decide +kernel
theorem dX10_ofPaper_87 : decode cX10_ofPaper 87 = .ok (.iload_n 1, 1) := by decide +kernel
theorem dX10_ofPaper_88 : decode cX10_ofPaper 88 = .ok (.iconst 3, 1) := by decide +kernel
theorem dX10_ofPaper_89 : decode cX10_ofPaper 89 = .ok (.invokevirtual 65, 3) := by decide +kernel
theorem dX10_ofPaper_92 : decode cX10_ofPaper 92 = .ok (.invokevirtual 78, 3) := by decide +kernel
theorem dX10_ofPaper_95 : decode cX10_ofPaper 95 = .ok (.ifCond .eq 7, 3) := by decide +kernel
theorem dX10_ofPaper_98 : decode cX10_ofPaper 98 = .ok (.iconst 1, 1) := by decide +kernel
theorem dX10_ofPaper_99 : decode cX10_ofPaper 99 = .ok (.goto 4, 3) := by decide +kernel
theorem dX10_ofPaper_102 : decode cX10_ofPaper 102 = .ok (.iconst 0, 1) := by decide +kernel
theorem dX10_ofPaper_103 : decode cX10_ofPaper 103 = .ok (.ireturn, 1) := by decide +kernel
theorem dX10_ofPaper_104 : decode cX10_ofPaper 104 = .ok (.aload_n 0, 1) := by decide +kernel
theorem dX10_ofPaper_105 : decode cX10_ofPaper 105 = .ok (.iload_n 1, 1) := by decide +kernel
theorem dX10_ofPaper_106 : decode cX10_ofPaper 106 = .ok (.iload_n 2, 1) := by decide +kernel
theorem dX10_ofPaper_107 : decode cX10_ofPaper 107 = .ok (.invokevirtual 65, 3) := by decide +kernel
theorem dX10_ofPaper_110 : decode cX10_ofPaper 110 = .ok (.ireturn, 1) := by decide +kernel
theorem dX10_change_0 : decode cX10_change 0 = .ok (.iload_n 2, 1) := by decide +kernel
theorem dX10_change_1 : decode cX10_change 1 = .ok (.ifCond .ne 14, 3) := by decide +kernel
theorem dX10_change_4 : decode cX10_change 4 = .ok (.iload_n 3, 1) := by decide +kernel
theorem dX10_change_5 : decode cX10_change 5 = .ok (.iconst 0, 1) := by decide +kernel
theorem dX10_change_6 : decode cX10_change 6 = .ok (.sipush 9999, 3) := by decide +kernel
theorem dX10_change_9 : decode cX10_change 9 = .ok (.invokestatic 47, 3) := by decide +kernel
theorem dX10_change_12 : decode cX10_change 12 = .ok (.goto 38, 3) := by decide +kernel
theorem dX10_change_15 : decode cX10_change 15 = .ok (.iload_n 2, 1) := by decide +kernel
theorem dX10_change_16 : decode cX10_change 16 = .ok (.iconst 1, 1) := by decide +kernel
theorem dX10_change_17 : decode cX10_change 17 = .ok (.if_icmp .ne 12, 3) := by decide +kernel
theorem dX10_change_20 : decode cX10_change 20 = .ok (.iload_n 3, 1) := by decide +kernel
theorem dX10_change_21 : decode cX10_change 21 = .ok (.iconst 0, 1) := by decide +kernel
theorem dX10_change_22 : decode cX10_change 22 = .ok (.iconst 1, 1) := by decide +kernel
theorem dX10_change_23 : decode cX10_change 23 = .ok (.invokestatic 47, 3) := by decide +kernel
theorem dX10_change_26 : decode cX10_change 26 = .ok (.goto 24, 3) := by decide +kernel
theorem dX10_change_29 : decode cX10_change 29 = .ok (.iload_n 2, 1) := by decide +kernel
theorem dX10_change_30 : decode cX10_change 30 = .ok (.iconst 2, 1) := by decide +kernel
theorem dX10_change_31 : decode cX10_change 31 = .ok (.if_icmp .ne 18, 3) := by decide +kernel
theorem dX10_change_34 : decode cX10_change 34 = .ok (.iload_n 3, 1) := by decide +kernel
theorem dX10_change_35 : decode cX10_change 35 = .ok (.iconst 0, 1) := by decide +kernel
theorem dX10_change_36 : decode cX10_change 36 = .ok (.sipush 999, 3) := by decide +kernel
theorem dX10_change_39 : decode cX10_change 39 = .ok (.invokestatic 47, 3) := by decide +kernel
theorem dX10_change_42 : decode cX10_change 42 = .ok (.ifCond .eq 7, 3) := by decide +kernel
theorem dX10_change_45 : decode cX10_change 45 = .ok (.iconst 1, 1) := by decide +kernel
theorem dX10_change_46 : decode cX10_change 46 = .ok (.goto 4, 3) := by decide +kernel
theorem dX10_change_49 : decode cX10_change 49 = .ok (.iconst 0, 1) := by decide +kernel
theorem dX10_change_50 : decode cX10_change 50 = .ok (.istore 4, 2) := by decide +kernel
theorem dX10_change_52 : decode cX10_change 52 = .ok (.aload_n 0, 1) := by decide +kernel
theorem dX10_change_53 : decode cX10_change 53 = .ok (.iload_n 1, 1) := by decide +kernel
theorem dX10_change_54 : decode cX10_change 54 = .ok (.invokevirtual 61, 3) := by decide +kernel
theorem dX10_change_57 : decode cX10_change 57 = .ok (.ifCond .eq 8, 3) := by decide +kernel
theorem dX10_change_60 : decode cX10_change 60 = .ok (.iload 4, 2) := by decide +kernel
theorem dX10_change_62 : decode cX10_change 62 = .ok (.ifCond .ne 10, 3) := by decide +kernel
theorem dX10_change_65 : decode cX10_change 65 = .ok (.aload_n 0, 1) := by decide +kernel
theorem dX10_change_66 : decode cX10_change 66 = .ok (.ldc 51, 2) := by decide +kernel
theorem dX10_change_68 : decode cX10_change 68 = .ok (.invokevirtual 52, 3) := by decide +kernel
theorem dX10_change_71 : decode cX10_change 71 = .ok (.ireturn, 1) := by decide +kernel
theorem dX10_change_72 : decode cX10_change 72 = .ok (.aload_n 0, 1) := by decide +kernel
theorem dX10_change_73 : decode cX10_change 73 = .ok (.bipush 8, 2) := by decide +kernel
theorem dX10_change_75 : decode cX10_change 75 = .ok (.bipush 6, 2) := by decide +kernel
theorem dX10_change_77 : decode cX10_change 77 = .ok (.iload_n 1, 1) := by decide +kernel
theorem dX10_change_78 : decode cX10_change 78 = .ok (.imul, 1) := by decide +kernel
theorem dX10_change_79 : decode cX10_change 79 = .ok (.iadd, 1) := by decide +kernel
theorem dX10_change_80 : decode cX10_change 80 = .ok (.iload_n 2, 1) := by decide +kernel
theorem dX10_change_81 : decode cX10_change 81 = .ok (.ifCond .ne 7, 3) := by decide +kernel
theorem dX10_change_84 : decode cX10_change 84 = .ok (.iconst 2, 1) := by decide +kernel
theorem dX10_change_85 : decode cX10_change 85 = .ok (.goto 13, 3) := by decide +kernel
theorem dX10_change_88 : decode cX10_change 88 = .ok (.iload_n 2, 1) := by decide +kernel
theorem dX10_change_89 : decode cX10_change 89 = .ok (.iconst 1, 1) := by decide +kernel
theorem dX10_change_90 : decode cX10_change 90 = .ok (.if_icmp .ne 7, 3) := by decide +kernel
theorem dX10_change_93 : decode cX10_change 93 = .ok (.iconst 4, 1) := by decide +kernel
theorem dX10_change_94 : decode cX10_change 94 = .ok (.goto 4, 3) := by decide +kernel
theorem dX10_change_97 : decode cX10_change 97 = .ok (.iconst 5, 1) := by decide +kernel
theorem dX10_change_98 : decode cX10_change 98 = .ok (.iadd, 1) := by decide +kernel
theorem dX10_change_99 : decode cX10_change 99 = .ok (.iload_n 3, 1) := by decide +kernel
theorem dX10_change_100 : decode cX10_change 100 = .ok (.invokevirtual 82, 3) := by decide +kernel
theorem dX10_change_103 : decode cX10_change 103 = .ok (.ireturn, 1) := by decide +kernel
theorem dX10_wind_0 : decode cX10_wind 0 = .ok (.iload_n 1, 1) := by decide +kernel
theorem dX10_wind_1 : decode cX10_wind 1 = .ok (.iconst 0, 1) := by decide +kernel
theorem dX10_wind_2 : decode cX10_wind 2 = .ok (.bipush 9, 2) := by decide +kernel
theorem dX10_wind_4 : decode cX10_wind 4 = .ok (.invokestatic 47, 3) := by decide +kernel
theorem dX10_wind_7 : decode cX10_wind 7 = .ok (.ifCond .eq 13, 3) := by decide +kernel
theorem dX10_wind_10 : decode cX10_wind 10 = .ok (.aload_n 0, 1) := by decide +kernel
theorem dX10_wind_11 : decode cX10_wind 11 = .ok (.bipush 7, 2) := by decide +kernel
theorem dX10_wind_13 : decode cX10_wind 13 = .ok (.iload_n 1, 1) := by decide +kernel
theorem dX10_wind_14 : decode cX10_wind 14 = .ok (.invokevirtual 82, 3) := by decide +kernel
theorem dX10_wind_17 : decode cX10_wind 17 = .ok (.goto 9, 3) := by decide +kernel
theorem dX10_wind_20 : decode cX10_wind 20 = .ok (.aload_n 0, 1) := by decide +kernel
theorem dX10_wind_21 : decode cX10_wind 21 = .ok (.ldc 51, 2) := by decide +kernel
theorem dX10_wind_23 : decode cX10_wind 23 = .ok (.invokevirtual 52, 3) := by decide +kernel
theorem dX10_wind_26 : decode cX10_wind 26 = .ok (.ireturn, 1) := by decide +kernel
theorem dX10_become_0 : decode cX10_become 0 = .ok (.aload_n 0, 1) := by decide +kernel
theorem dX10_become_1 : decode cX10_become 1 = .ok (.iload_n 1, 1) := by decide +kernel
theorem dX10_become_2 : decode cX10_become 2 = .ok (.invokevirtual 61, 3) := by decide +kernel
theorem dX10_become_5 : decode cX10_become 5 = .ok (.ifCond .eq 13, 3) := by decide +kernel
theorem dX10_become_8 : decode cX10_become 8 = .ok (.iload_n 2, 1) := by decide +kernel
theorem dX10_become_9 : decode cX10_become 9 = .ok (.iconst 0, 1) := by decide +kernel
theorem dX10_become_10 : decode cX10_become 10 = .ok (.bipush 69, 2) := by decide +kernel
theorem dX10_become_12 : decode cX10_become 12 = .ok (.invokestatic 47, 3) := by decide +kernel
theorem dX10_become_15 : decode cX10_become 15 = .ok (.ifCond .ne 10, 3) := by decide +kernel
theorem dX10_become_18 : decode cX10_become 18 = .ok (.aload_n 0, 1) := by decide +kernel
theorem dX10_become_19 : decode cX10_become 19 = .ok (.ldc 51, 2) := by decide +kernel
theorem dX10_become_21 : decode cX10_become 21 = .ok (.invokevirtual 52, 3) := by decide +kernel
theorem dX10_become_24 : decode cX10_become 24 = .ok (.ireturn, 1) := by decide +kernel
theorem dX10_become_25 : decode cX10_become 25 = .ok (.aload_n 0, 1) := by decide +kernel
theorem dX10_become_26 : decode cX10_become 26 = .ok (.iload_n 1, 1) := by decide +kernel
theorem dX10_become_27 : decode cX10_become 27 = .ok (.iconst 1, 1) := by decide +kernel
theorem dX10_become_28 : decode cX10_become 28 = .ok (.iload_n 2, 1) := by decide +kernel
theorem dX10_become_29 : decode cX10_become 29 = .ok (.bipush 10, 2) := by decide +kernel
theorem dX10_become_31 : decode cX10_become 31 = .ok (.irem, 1) := by decide +kernel
theorem dX10_become_32 : decode cX10_become 32 = .ok (.invokevirtual 57, 3) := by decide +kernel
theorem dX10_become_35 : decode cX10_become 35 = .ok (.aload_n 0, 1) := by decide +kernel
theorem dX10_become_36 : decode cX10_become 36 = .ok (.bipush 8, 2) := by decide +kernel
theorem dX10_become_38 : decode cX10_become 38 = .ok (.bipush 6, 2) := by decide +kernel
theorem dX10_become_40 : decode cX10_become 40 = .ok (.iload_n 1, 1) := by decide +kernel
theorem dX10_become_41 : decode cX10_become 41 = .ok (.imul, 1) := by decide +kernel
theorem dX10_become_42 : decode cX10_become 42 = .ok (.iadd, 1) := by decide +kernel
theorem dX10_become_43 : decode cX10_become 43 = .ok (.iload_n 2, 1) := by decide +kernel
theorem dX10_become_44 : decode cX10_become 44 = .ok (.bipush 10, 2) := by decide +kernel
theorem dX10_become_46 : decode cX10_become 46 = .ok (.idiv, 1) := by decide +kernel
theorem dX10_become_47 : decode cX10_become 47 = .ok (.invokevirtual 82, 3) := by decide +kernel
theorem dX10_become_50 : decode cX10_become 50 = .ok (.ireturn, 1) := by decide +kernel
theorem dX10_above_0 : decode cX10_above 0 = .ok (.iload_n 0, 1) := by decide +kernel
theorem dX10_above_1 : decode cX10_above 1 = .ok (.ifCond .ne 7, 3) := by decide +kernel
theorem dX10_above_4 : decode cX10_above 4 = .ok (.iconst (-1), 1) := by decide +kernel
theorem dX10_above_5 : decode cX10_above 5 = .ok (.goto 15, 3) := by decide +kernel
theorem dX10_above_8 : decode cX10_above 8 = .ok (.iload_n 0, 1) := by decide +kernel
theorem dX10_above_9 : decode cX10_above 9 = .ok (.iconst 3, 1) := by decide +kernel
theorem dX10_above_10 : decode cX10_above 10 = .ok (.if_icmp .le 9, 3) := by decide +kernel
theorem dX10_above_13 : decode cX10_above 13 = .ok (.iload_n 0, 1) := by decide +kernel
theorem dX10_above_14 : decode cX10_above 14 = .ok (.iconst 3, 1) := by decide +kernel
theorem dX10_above_15 : decode cX10_above 15 = .ok (.isub, 1) := by decide +kernel
theorem dX10_above_16 : decode cX10_above 16 = .ok (.goto 4, 3) := by decide +kernel
theorem dX10_above_19 : decode cX10_above 19 = .ok (.iconst 0, 1) := by decide +kernel
theorem dX10_above_20 : decode cX10_above 20 = .ok (.ireturn, 1) := by decide +kernel
theorem dX10_as_0 : decode cX10_as 0 = .ok (.aload_n 0, 1) := by decide +kernel
theorem dX10_as_1 : decode cX10_as 1 = .ok (.iload_n 1, 1) := by decide +kernel
theorem dX10_as_2 : decode cX10_as 2 = .ok (.invokevirtual 61, 3) := by decide +kernel
theorem dX10_as_5 : decode cX10_as 5 = .ok (.ifCond .eq 13, 3) := by decide +kernel
theorem dX10_as_8 : decode cX10_as 8 = .ok (.iload_n 2, 1) := by decide +kernel
theorem dX10_as_9 : decode cX10_as 9 = .ok (.iconst 0, 1) := by decide +kernel
theorem dX10_as_10 : decode cX10_as 10 = .ok (.bipush 6, 2) := by decide +kernel
theorem dX10_as_12 : decode cX10_as 12 = .ok (.invokestatic 47, 3) := by decide +kernel
theorem dX10_as_15 : decode cX10_as 15 = .ok (.ifCond .ne 10, 3) := by decide +kernel
theorem dX10_as_18 : decode cX10_as 18 = .ok (.aload_n 0, 1) := by decide +kernel
theorem dX10_as_19 : decode cX10_as 19 = .ok (.ldc 51, 2) := by decide +kernel
theorem dX10_as_21 : decode cX10_as 21 = .ok (.invokevirtual 52, 3) := by decide +kernel
theorem dX10_as_24 : decode cX10_as 24 = .ok (.ireturn, 1) := by decide +kernel
theorem dX10_as_25 : decode cX10_as 25 = .ok (.aload_n 0, 1) := by decide +kernel
theorem dX10_as_26 : decode cX10_as 26 = .ok (.iload_n 1, 1) := by decide +kernel
theorem dX10_as_27 : decode cX10_as 27 = .ok (.iconst 0, 1) := by decide +kernel
theorem dX10_as_28 : decode cX10_as 28 = .ok (.invokevirtual 65, 3) := by decide +kernel
theorem dX10_as_31 : decode cX10_as 31 = .ok (.istore_n 3, 1) := by decide +kernel
theorem dX10_as_32 : decode cX10_as 32 = .ok (.iload_n 3, 1) := by decide +kernel
theorem dX10_as_33 : decode cX10_as 33 = .ok (.ifCond .lt 16, 3) := by decide +kernel
theorem dX10_as_36 : decode cX10_as 36 = .ok (.iload_n 3, 1) := by decide +kernel
theorem dX10_as_37 : decode cX10_as 37 = .ok (.iload_n 2, 1) := by decide +kernel
theorem dX10_as_38 : decode cX10_as 38 = .ok (.if_icmp .eq 11, 3) := by decide +kernel
theorem dX10_as_41 : decode cX10_as 41 = .ok (.iload_n 3, 1) := by decide +kernel
theorem dX10_as_42 : decode cX10_as 42 = .ok (.invokestatic 85, 3) := by decide +kernel
theorem dX10_as_45 : decode cX10_as 45 = .ok (.istore_n 3, 1) := by decide +kernel
theorem dX10_as_46 : decode cX10_as 46 = .ok (.goto (-14), 3) := by decide +kernel
theorem dX10_as_49 : decode cX10_as 49 = .ok (.iload_n 3, 1) := by decide +kernel
theorem dX10_as_50 : decode cX10_as 50 = .ok (.ifCond .ge 12, 3) := by decide +kernel
theorem dX10_as_53 : decode cX10_as 53 = .ok (.aload_n 0, 1) := by decide +kernel
theorem dX10_as_54 : decode cX10_as 54 = .ok (.ldc 88, 2) := by decide +kernel
theorem dX10_as_56 : decode cX10_as 56 = .ok (.invokevirtual 52, 3) := by decide +kernel
theorem dX10_as_59 : decode cX10_as 59 = .ok (.goto 9, 3) := by decide +kernel
theorem dX10_as_62 : decode cX10_as 62 = .ok (.aload_n 0, 1) := by decide +kernel
theorem dX10_as_63 : decode cX10_as 63 = .ok (.iload_n 1, 1) := by decide +kernel
theorem dX10_as_64 : decode cX10_as 64 = .ok (.iconst 1, 1) := by decide +kernel
theorem dX10_as_65 : decode cX10_as 65 = .ok (.invokevirtual 65, 3) := by decide +kernel
theorem dX10_as_68 : decode cX10_as 68 = .ok (.ireturn, 1) := by decide +kernel
theorem dX10_byteAt_0 : decode cX10_byteAt 0 = .ok (.iload_n 1, 1) := by decide +kernel
theorem dX10_byteAt_1 : decode cX10_byteAt 1 = .ok (.aload_n 0, 1) := by decide +kernel
